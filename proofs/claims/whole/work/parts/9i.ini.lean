/-! ===== both objects are made ===== -/
section
variable {R : Room} {B : zBt} {Y : zMD} {pc pc' : Nat} {L : List (Option Value)} {st : List Value} {cu su n : Nat} {S : List zSh} {V : Nat → Int → Int} {F : Nat → Nat → Option Nat}
/-- from n on nothing is there yet -/
def Zb (n : Nat) (V : Nat → Int → Int) (F : Nat → Nat → Option Nat) : Prop := ∀ p : Nat, n ≤ p → V p = (fun _ => 0) ∧ F p = (fun _ => none)
/-- one reference is written -/
def fu (F : Nat → Nat → Option Nat) (a k q : Nat) : Nat → Nat → Option Nat := zup F a (va_up (F a) k (some q))
theorem fu_o {a k q p : Nat} (h : p ≠ a) : fu F a k q p = F p := zup_n _ _ h
theorem Zb_v {a : Nat} {j x : Int} (h : Zb n V F) (ha : a < n) : Zb n (vst V a j x) F := fun p hp => by rw [vst_o (by omega)]; exact h p hp
theorem Zb_f {a k q : Nat} (h : Zb n V F) (ha : a < n) : Zb n V (fu F a k q) := fun p hp => by rw [fu_o (by omega)]; exact h p hp
theorem Zb_u {m : Nat} (h : Zb n V F) (hm : n ≤ m) : Zb m V F := fun p hp => h p (by omega)
theorem lnA {x : zSh} {m : Nat} (h : S.length = n) (hm : n + 1 = m) : (S ++ [x]).length = m := by rw [List.length_append, h, ← hm]; rfl
theorem apA {x y : zSh} {a : Nat} (h : S[a]? = some x) : (S ++ [y])[a]? = some x := by
  have hl : a < S.length := by
    by_cases hh : a < S.length
    · exact hh
    · rw [List.getElem?_eq_none (by omega)] at h; cases h
  rw [List.getElem?_append_left hl]
  exact h
theorem apZ {x : zSh} (h : S.length = n) : (S ++ [x])[n]? = some x := by
  rw [← h, List.getElem?_append_right (Nat.le_refl _), Nat.sub_self]
  rfl
theorem ltS {x : zSh} {a : Nat} (h : S[a]? = some x) (hl : S.length = n) : a < n := by
  by_cases hh : a < S.length
  · omega
  · rw [List.getElem?_eq_none (by omega)] at h; cases h
theorem iI0 : iI 0 = (0 : Int32) := iI_z.symm
theorem jJ0 : jJ 0 = (0 : Int64) := by decide +kernel
theorem y_new {index ci N : Nat} (hd : zN Y pc (.new index) 3 pc') (hcl : zCl Y.1.cls index ci) (hN : (tcl.getD ci []).length = N) (hl : S.length = n) (hz : Zb n V F) (hc : cu + 1 ≤ R.cells) (hs : su + N ≤ R.slots) (kk : zE R B Y pc' L (.ref n :: st) (cu + 1) (su + N) (mk (S ++ [Sum.inl ci]) V F)) : zE R B Y pc L st cu su (mk S V F) := by
  obtain ⟨h0, h2⟩ := hz n (Nat.le_refl n)
  refine z_new hd hcl hN ?_ ?_ ?_ hc hs ?_
  · rw [hl]
    funext k
    show iI (V n k) = 0
    rw [h0]
    exact iI0
  · rw [hl]
    funext k
    show jJ (V n k) = 0
    rw [h0]
    exact jJ0
  · rw [hl]; exact h2
  · rw [hl]; exact kk
theorem y_newi {x : Int} {N : Nat} (hd : zN Y pc (.newarray .int) 2 pc') (hx : x = (N : Int)) (hb : N ≤ 5000) (hl : S.length = n) (hz : Zb n V F) (hc : cu + 1 ≤ R.cells) (hs : su + N ≤ R.slots) (kk : zE R B Y pc' L (.ref n :: st) (cu + 1) (su + N) (mk (S ++ [Sum.inr (0, N)]) V F)) : zE R B Y pc L (.int (iI x) :: st) cu su (mk S V F) := by
  obtain ⟨h0, h2⟩ := hz n (Nat.le_refl n)
  refine z_newi hd wArrI ?_ ?_ (by omega) ?_ hc hs ?_
  · rw [iI_z, iI_lt ⟨by omega, by omega⟩ ⟨by omega, by omega⟩]; omega
  · rw [iI_clamp ⟨by omega, by omega⟩]; omega
  · rw [hl]
    funext k
    show iI (V n k) = 0
    rw [h0]
    exact iI0
  · rw [hl]; exact kk
theorem y_newz {x : Int} {N : Nat} (hd : zN Y pc (.newarray .boolean) 2 pc') (hx : x = (N : Int)) (hb : N ≤ 5000) (hl : S.length = n) (hz : Zb n V F) (hc : cu + 1 ≤ R.cells) (hs : su + N ≤ R.slots) (kk : zE R B Y pc' L (.ref n :: st) (cu + 1) (su + N) (mk (S ++ [Sum.inr (1, N)]) V F)) : zE R B Y pc L (.int (iI x) :: st) cu su (mk S V F) := by
  obtain ⟨h0, h2⟩ := hz n (Nat.le_refl n)
  refine z_newz hd wArrZ ?_ ?_ (by omega) ?_ hc hs ?_
  · rw [iI_z, iI_lt ⟨by omega, by omega⟩ ⟨by omega, by omega⟩]; omega
  · rw [iI_clamp ⟨by omega, by omega⟩]; omega
  · rw [hl]
    funext k
    show iI (V n k) = 0
    rw [h0]
    exact iI0
  · rw [hl]; exact kk
theorem y_newq {x : Int} {N index : Nat} (hd : zN Y pc (.anewarray index) 3 pc') (hw : Cond.classLink Y.1.cls index "GrudgeYard$Stand" ∈ lw_good) (hx : x = (N : Int)) (hb : N ≤ 5000) (hl : S.length = n) (hz : Zb n V F) (hc : cu + 1 ≤ R.cells) (hs : su + N ≤ R.slots) (kk : zE R B Y pc' L (.ref n :: st) (cu + 1) (su + N) (mk (S ++ [Sum.inr (2, N)]) V F)) : zE R B Y pc L (.int (iI x) :: st) cu su (mk S V F) := by
  obtain ⟨h0, h2⟩ := hz n (Nat.le_refl n)
  refine z_newq hd hw ?_ ?_ (by omega) ?_ hc hs ?_
  · rw [iI_z, iI_lt ⟨by omega, by omega⟩ ⟨by omega, by omega⟩]; omega
  · rw [iI_clamp ⟨by omega, by omega⟩]; omega
  · rw [hl]; exact h2
  · rw [hl]; exact kk
theorem y_putRF {a q ci k index : Nat} {fty : FieldType} (f : zFl Y.1.cls index ci k 2 true fty) (hin : Y.1.name = "<init>" ∧ ∀ q, classes[ci]? = some q → q.1 = Y.1.cls ∧ Cond.fieldLink Y.1.cls index q.1 (q.2.1 k).2.1 (q.2.1 k).2.2.1 ∈ lw_good) (hd : zN Y pc (.putfield index) 3 pc') (hs : S[a]? = some (Sum.inl ci)) (hn : ∀ q, narrow fty (.ref q) = .ref q) (hf : ∀ q, fits fty (.ref q) = true) (kk : zE R B Y pc' L st cu su (mk S V (fu F a k q))) : zE R B Y pc L (.ref q :: .ref a :: st) cu su (mk S V F) := z_putRF f hin hd hs hn hf kk
theorem y_putR {a q ci k index : Nat} {fty : FieldType} (f : zFl Y.1.cls index ci k 2 false fty) (hd : zN Y pc (.putfield index) 3 pc') (hs : S[a]? = some (Sum.inl ci)) (hn : ∀ q, narrow fty (.ref q) = .ref q) (hf : ∀ q, fits fty (.ref q) = true) (kk : zE R B Y pc' L st cu su (mk S V (fu F a k q))) : zE R B Y pc L (.ref q :: .ref a :: st) cu su (mk S V F) := z_putR f hd hs hn hf kk
theorem y_aast {a N q : Nat} {i : Int} (hd : zN Y pc .aastore 1 pc') (hs : S[a]? = some (Sum.inr (2, N))) (hb : S[q]? = some (Sum.inl 8)) (hN : N ≤ 5000) (hi : 0 ≤ i ∧ i < (N : Int)) (kk : zE R B Y pc' L st cu su (mk S V (fu F a i.toNat q))) : zE R B Y pc L (.ref q :: .int (iI i) :: .ref a :: st) cu su (mk S V F) := by
  refine z_aast hd hs hb (iI_in hi (by omega)) ?_
  · rw [iI_clamp ⟨by omega, by omega⟩]; exact kk
end
def iV8 (V : Nat → Int → Int) (a : Nat) : Nat → Int → Int := (vst (vst (vst V a 3 0) a 4 0) a 5 (-1))
def iF8 (F : Nat → Nat → Option Nat) (a n : Nat) : Nat → Nat → Option Nat := (fu (fu (fu F a 0 (n)) a 1 (n + 1)) a 2 (n + 2))
theorem Zb_X8 {n a : Nat} {V : Nat → Int → Int} {F : Nat → Nat → Option Nat} (h : Zb n V F) (ha : a < n) : Zb (n + 3) (iV8 V a) (iF8 F a n) := fun p hp => by
  unfold iV8 iF8
  rw [vst_o (by omega), vst_o (by omega), vst_o (by omega), fu_o (by omega), fu_o (by omega), fu_o (by omega)]
  exact h p (by omega)
theorem ct_X8_init {n a : Nat} {S : List zSh} {V : Nat → Int → Int} {F : Nat → Nat → Option Nat} (hn : S.length = n) (ha : S[a]? = some (Sum.inl 8)) (hz : Zb n V F) : zC 1 3 45 mX8_init [.ref a] (mk S V F) (fun v M => v = none ∧ M = mk (((S ++ [Sum.inr (0, 35)]) ++ [Sum.inr (0, 5)]) ++ [Sum.inr (0, 5)]) (iV8 V a) (iF8 F a n)) := by
  have han := ltS ha hn
  refine zC_of (by decide +kernel) (Nat.le_of_ble_eq_true rfl) rfl ?_
  refine z_aload_n dX8_init_0 rfl ?_
  refine z_objI dX8_init_1 kX8_3 wObjM wObjC (Nat.le_of_ble_eq_true rfl) (Nat.le_of_ble_eq_true rfl) ?_
  refine z_aload_n dX8_init_4 rfl ?_
  refine y_bipush dX8_init_5 (by decide +kernel) ?_
  refine y_newi (N := 35) dX8_init_7 rfl (by omega) hn hz (Nat.le_of_ble_eq_true rfl) (Nat.le_of_ble_eq_true rfl) ?_
  have l1 : (S ++ [Sum.inr (0, 35)]).length = n + 1 := lnA hn (by omega)
  have a1 : (S ++ [Sum.inr (0, 35)])[a]? = some (Sum.inl 8) := apA ha
  have z1 : Zb (n + 1) V F := Zb_u hz (by omega)
  refine y_putRF fX8_11 ⟨rfl, ffX8_11⟩ dX8_init_9 a1 (fun _ => rfl) (fun _ => rfl) ?_
  have z2 : Zb (n + 1) V (fu F a 0 (n)) := Zb_f z1 (by omega)
  refine z_aload_n dX8_init_12 rfl ?_
  refine y_iconst dX8_init_13 ?_
  refine y_newi (N := 5) dX8_init_14 rfl (by omega) l1 z2 (Nat.le_of_ble_eq_true rfl) (Nat.le_of_ble_eq_true rfl) ?_
  have l3 : ((S ++ [Sum.inr (0, 35)]) ++ [Sum.inr (0, 5)]).length = n + 2 := lnA l1 (by omega)
  have a3 : ((S ++ [Sum.inr (0, 35)]) ++ [Sum.inr (0, 5)])[a]? = some (Sum.inl 8) := apA a1
  have z3 : Zb (n + 2) V (fu F a 0 (n)) := Zb_u z2 (by omega)
  refine y_putRF fX8_15 ⟨rfl, ffX8_15⟩ dX8_init_16 a3 (fun _ => rfl) (fun _ => rfl) ?_
  have z4 : Zb (n + 2) V (fu (fu F a 0 (n)) a 1 (n + 1)) := Zb_f z3 (by omega)
  refine z_aload_n dX8_init_19 rfl ?_
  refine y_iconst dX8_init_20 ?_
  refine y_newi (N := 5) dX8_init_21 rfl (by omega) l3 z4 (Nat.le_of_ble_eq_true rfl) (Nat.le_of_ble_eq_true rfl) ?_
  have l5 : (((S ++ [Sum.inr (0, 35)]) ++ [Sum.inr (0, 5)]) ++ [Sum.inr (0, 5)]).length = n + 3 := lnA l3 (by omega)
  have a5 : (((S ++ [Sum.inr (0, 35)]) ++ [Sum.inr (0, 5)]) ++ [Sum.inr (0, 5)])[a]? = some (Sum.inl 8) := apA a3
  have z5 : Zb (n + 3) V (fu (fu F a 0 (n)) a 1 (n + 1)) := Zb_u z4 (by omega)
  refine y_putRF fX8_18 ⟨rfl, ffX8_18⟩ dX8_init_23 a5 (fun _ => rfl) (fun _ => rfl) ?_
  have z6 : Zb (n + 3) V (fu (fu (fu F a 0 (n)) a 1 (n + 1)) a 2 (n + 2)) := Zb_f z5 (by omega)
  refine z_aload_n dX8_init_26 rfl ?_
  refine y_iconst dX8_init_27 ?_
  refine y_putI (j := 3) fX8_21 dX8_init_28 rfl a5 ?_
  have z7 : Zb (n + 3) (vst V a 3 0) (fu (fu (fu F a 0 (n)) a 1 (n + 1)) a 2 (n + 2)) := Zb_v z6 (by omega)
  refine z_aload_n dX8_init_31 rfl ?_
  refine y_iconst dX8_init_32 ?_
  refine y_putI (j := 4) fX8_25 dX8_init_33 rfl a5 ?_
  have z8 : Zb (n + 3) (vst (vst V a 3 0) a 4 0) (fu (fu (fu F a 0 (n)) a 1 (n + 1)) a 2 (n + 2)) := Zb_v z7 (by omega)
  refine z_aload_n dX8_init_36 rfl ?_
  refine y_iconst dX8_init_37 ?_
  refine y_putI (j := 5) fX8_28 dX8_init_38 rfl a5 ?_
  have z9 : Zb (n + 3) (vst (vst (vst V a 3 0) a 4 0) a 5 (-1)) (fu (fu (fu F a 0 (n)) a 1 (n + 1)) a 2 (n + 2)) := Zb_v z8 (by omega)
  exact z_vret dX8_init_41 rfl (Nat.le_of_ble_eq_true rfl) (Nat.le_of_ble_eq_true rfl) ⟨rfl, rfl⟩
def iV7 (V : Nat → Int → Int) (a : Nat) : Nat → Int → Int := (vst (vst (vst (vst (vst V a 1 0) a 2 0) a 3 0) a 4 0) a 5 (-1))
def iF7 (F : Nat → Nat → Option Nat) (a n : Nat) : Nat → Nat → Option Nat := (fu F a 0 (n))
theorem Zb_X7 {n a : Nat} {V : Nat → Int → Int} {F : Nat → Nat → Option Nat} (h : Zb n V F) (ha : a < n) : Zb (n + 1) (iV7 V a) (iF7 F a n) := fun p hp => by
  unfold iV7 iF7
  rw [vst_o (by omega), vst_o (by omega), vst_o (by omega), vst_o (by omega), vst_o (by omega), fu_o (by omega)]
  exact h p (by omega)
theorem ct_X7_init {n a : Nat} {S : List zSh} {V : Nat → Int → Int} {F : Nat → Nat → Option Nat} (hn : S.length = n) (ha : S[a]? = some (Sum.inl 7)) (hz : Zb n V F) : zC 1 1 230 mX7_init [.ref a] (mk S V F) (fun v M => v = none ∧ M = mk (S ++ [Sum.inr (0, 230)]) (iV7 V a) (iF7 F a n)) := by
  have han := ltS ha hn
  refine zC_of (by decide +kernel) (Nat.le_of_ble_eq_true rfl) rfl ?_
  refine z_aload_n dX7_init_0 rfl ?_
  refine z_objI dX7_init_1 kX7_3 wObjM wObjC (Nat.le_of_ble_eq_true rfl) (Nat.le_of_ble_eq_true rfl) ?_
  refine z_aload_n dX7_init_4 rfl ?_
  refine y_sipush dX7_init_5 (by decide +kernel) ?_
  refine y_newi (N := 230) dX7_init_8 rfl (by omega) hn hz (Nat.le_of_ble_eq_true rfl) (Nat.le_of_ble_eq_true rfl) ?_
  have l1 : (S ++ [Sum.inr (0, 230)]).length = n + 1 := lnA hn (by omega)
  have a1 : (S ++ [Sum.inr (0, 230)])[a]? = some (Sum.inl 7) := apA ha
  have z1 : Zb (n + 1) V F := Zb_u hz (by omega)
  refine y_putRF fX7_9 ⟨rfl, ffX7_9⟩ dX7_init_10 a1 (fun _ => rfl) (fun _ => rfl) ?_
  have z2 : Zb (n + 1) V (fu F a 0 (n)) := Zb_f z1 (by omega)
  refine z_aload_n dX7_init_13 rfl ?_
  refine y_iconst dX7_init_14 ?_
  refine y_putI (j := 1) fX7_15 dX7_init_15 rfl a1 ?_
  have z3 : Zb (n + 1) (vst V a 1 0) (fu F a 0 (n)) := Zb_v z2 (by omega)
  refine z_aload_n dX7_init_18 rfl ?_
  refine y_iconst dX7_init_19 ?_
  refine y_putI (j := 2) fX7_19 dX7_init_20 rfl a1 ?_
  have z4 : Zb (n + 1) (vst (vst V a 1 0) a 2 0) (fu F a 0 (n)) := Zb_v z3 (by omega)
  refine z_aload_n dX7_init_23 rfl ?_
  refine y_iconst dX7_init_24 ?_
  refine y_putI (j := 3) fX7_22 dX7_init_25 rfl a1 ?_
  have z5 : Zb (n + 1) (vst (vst (vst V a 1 0) a 2 0) a 3 0) (fu F a 0 (n)) := Zb_v z4 (by omega)
  refine z_aload_n dX7_init_28 rfl ?_
  refine y_iconst dX7_init_29 ?_
  refine y_putI (j := 4) fX7_25 dX7_init_30 rfl a1 ?_
  have z6 : Zb (n + 1) (vst (vst (vst (vst V a 1 0) a 2 0) a 3 0) a 4 0) (fu F a 0 (n)) := Zb_v z5 (by omega)
  refine z_aload_n dX7_init_33 rfl ?_
  refine y_iconst dX7_init_34 ?_
  refine y_putI (j := 5) fX7_28 dX7_init_35 rfl a1 ?_
  have z7 : Zb (n + 1) (vst (vst (vst (vst (vst V a 1 0) a 2 0) a 3 0) a 4 0) a 5 (-1)) (fu F a 0 (n)) := Zb_v z6 (by omega)
  exact z_vret dX7_init_38 rfl (Nat.le_of_ble_eq_true rfl) (Nat.le_of_ble_eq_true rfl) ⟨rfl, rfl⟩
def iV1 (V : Nat → Int → Int) (a : Nat) : Nat → Int → Int := (vst (vst (vst V a 0 0) a 1 0) a 2 0)
def iF1 (F : Nat → Nat → Option Nat) (a n : Nat) : Nat → Nat → Option Nat := F
theorem Zb_X1 {n a : Nat} {V : Nat → Int → Int} {F : Nat → Nat → Option Nat} (h : Zb n V F) (ha : a < n) : Zb (n + 0) (iV1 V a) (iF1 F a n) := fun p hp => by
  unfold iV1 iF1
  rw [vst_o (by omega), vst_o (by omega), vst_o (by omega)]
  exact h p (by omega)
theorem ct_X1_init {n a : Nat} {S : List zSh} {V : Nat → Int → Int} {F : Nat → Nat → Option Nat} (hn : S.length = n) (ha : S[a]? = some (Sum.inl 1)) (hz : Zb n V F) : zC 1 0 0 mX1_init [.ref a] (mk S V F) (fun v M => v = none ∧ M = mk S (iV1 V a) (iF1 F a n)) := by
  have han := ltS ha hn
  refine zC_of (by decide +kernel) (Nat.le_of_ble_eq_true rfl) rfl ?_
  refine z_aload_n dX1_init_0 rfl ?_
  refine z_objI dX1_init_1 kX1_3 wObjM wObjC (Nat.le_of_ble_eq_true rfl) (Nat.le_of_ble_eq_true rfl) ?_
  refine z_aload_n dX1_init_4 rfl ?_
  refine y_iconst dX1_init_5 ?_
  refine y_putI (j := 0) fX1_9 dX1_init_6 rfl ha ?_
  have z1 : Zb (n) (vst V a 0 0) F := Zb_v hz (by omega)
  refine z_aload_n dX1_init_9 rfl ?_
  refine y_iconst dX1_init_10 ?_
  refine y_putI (j := 1) fX1_15 dX1_init_11 rfl ha ?_
  have z2 : Zb (n) (vst (vst V a 0 0) a 1 0) F := Zb_v z1 (by omega)
  refine z_aload_n dX1_init_14 rfl ?_
  refine y_iconst dX1_init_15 ?_
  refine y_putI (j := 2) fX1_18 dX1_init_16 rfl ha ?_
  have z3 : Zb (n) (vst (vst (vst V a 0 0) a 1 0) a 2 0) F := Zb_v z2 (by omega)
  exact z_vret dX1_init_19 rfl (Nat.le_of_ble_eq_true rfl) (Nat.le_of_ble_eq_true rfl) ⟨rfl, rfl⟩
def iV0 (V : Nat → Int → Int) (a : Nat) : Nat → Int → Int := (vst (vst (vst V a 4 0) a 5 0) a 6 0)
def iF0 (F : Nat → Nat → Option Nat) (a n : Nat) : Nat → Nat → Option Nat := (fu (fu (fu (fu F a 0 (n)) a 1 (n + 1)) a 2 (n + 2)) a 3 (n + 3))
theorem Zb_X0 {n a : Nat} {V : Nat → Int → Int} {F : Nat → Nat → Option Nat} (h : Zb n V F) (ha : a < n) : Zb (n + 4) (iV0 V a) (iF0 F a n) := fun p hp => by
  unfold iV0 iF0
  rw [vst_o (by omega), vst_o (by omega), vst_o (by omega), fu_o (by omega), fu_o (by omega), fu_o (by omega), fu_o (by omega)]
  exact h p (by omega)
theorem ct_X0_init {n a : Nat} {S : List zSh} {V : Nat → Int → Int} {F : Nat → Nat → Option Nat} (hn : S.length = n) (ha : S[a]? = some (Sum.inl 0)) (hz : Zb n V F) : zC 1 4 19 mX0_init [.ref a] (mk S V F) (fun v M => v = none ∧ M = mk ((((S ++ [Sum.inr (0, 7)]) ++ [Sum.inr (0, 4)]) ++ [Sum.inr (0, 4)]) ++ [Sum.inr (0, 4)]) (iV0 V a) (iF0 F a n)) := by
  have han := ltS ha hn
  refine zC_of (by decide +kernel) (Nat.le_of_ble_eq_true rfl) rfl ?_
  refine z_aload_n dX0_init_0 rfl ?_
  refine z_objI dX0_init_1 kX0_3 wObjM wObjC (Nat.le_of_ble_eq_true rfl) (Nat.le_of_ble_eq_true rfl) ?_
  refine z_aload_n dX0_init_4 rfl ?_
  refine y_bipush dX0_init_5 (by decide +kernel) ?_
  refine y_newi (N := 7) dX0_init_7 rfl (by omega) hn hz (Nat.le_of_ble_eq_true rfl) (Nat.le_of_ble_eq_true rfl) ?_
  have l1 : (S ++ [Sum.inr (0, 7)]).length = n + 1 := lnA hn (by omega)
  have a1 : (S ++ [Sum.inr (0, 7)])[a]? = some (Sum.inl 0) := apA ha
  have z1 : Zb (n + 1) V F := Zb_u hz (by omega)
  refine y_putRF fX0_9 ⟨rfl, ffX0_9⟩ dX0_init_9 a1 (fun _ => rfl) (fun _ => rfl) ?_
  have z2 : Zb (n + 1) V (fu F a 0 (n)) := Zb_f z1 (by omega)
  refine z_aload_n dX0_init_12 rfl ?_
  refine y_iconst dX0_init_13 ?_
  refine y_newi (N := 4) dX0_init_14 rfl (by omega) l1 z2 (Nat.le_of_ble_eq_true rfl) (Nat.le_of_ble_eq_true rfl) ?_
  have l3 : ((S ++ [Sum.inr (0, 7)]) ++ [Sum.inr (0, 4)]).length = n + 2 := lnA l1 (by omega)
  have a3 : ((S ++ [Sum.inr (0, 7)]) ++ [Sum.inr (0, 4)])[a]? = some (Sum.inl 0) := apA a1
  have z3 : Zb (n + 2) V (fu F a 0 (n)) := Zb_u z2 (by omega)
  refine y_putRF fX0_15 ⟨rfl, ffX0_15⟩ dX0_init_16 a3 (fun _ => rfl) (fun _ => rfl) ?_
  have z4 : Zb (n + 2) V (fu (fu F a 0 (n)) a 1 (n + 1)) := Zb_f z3 (by omega)
  refine z_aload_n dX0_init_19 rfl ?_
  refine y_iconst dX0_init_20 ?_
  refine y_newi (N := 4) dX0_init_21 rfl (by omega) l3 z4 (Nat.le_of_ble_eq_true rfl) (Nat.le_of_ble_eq_true rfl) ?_
  have l5 : (((S ++ [Sum.inr (0, 7)]) ++ [Sum.inr (0, 4)]) ++ [Sum.inr (0, 4)]).length = n + 3 := lnA l3 (by omega)
  have a5 : (((S ++ [Sum.inr (0, 7)]) ++ [Sum.inr (0, 4)]) ++ [Sum.inr (0, 4)])[a]? = some (Sum.inl 0) := apA a3
  have z5 : Zb (n + 3) V (fu (fu F a 0 (n)) a 1 (n + 1)) := Zb_u z4 (by omega)
  refine y_putRF fX0_18 ⟨rfl, ffX0_18⟩ dX0_init_23 a5 (fun _ => rfl) (fun _ => rfl) ?_
  have z6 : Zb (n + 3) V (fu (fu (fu F a 0 (n)) a 1 (n + 1)) a 2 (n + 2)) := Zb_f z5 (by omega)
  refine z_aload_n dX0_init_26 rfl ?_
  refine y_iconst dX0_init_27 ?_
  refine y_newi (N := 4) dX0_init_28 rfl (by omega) l5 z6 (Nat.le_of_ble_eq_true rfl) (Nat.le_of_ble_eq_true rfl) ?_
  have l7 : ((((S ++ [Sum.inr (0, 7)]) ++ [Sum.inr (0, 4)]) ++ [Sum.inr (0, 4)]) ++ [Sum.inr (0, 4)]).length = n + 4 := lnA l5 (by omega)
  have a7 : ((((S ++ [Sum.inr (0, 7)]) ++ [Sum.inr (0, 4)]) ++ [Sum.inr (0, 4)]) ++ [Sum.inr (0, 4)])[a]? = some (Sum.inl 0) := apA a5
  have z7 : Zb (n + 4) V (fu (fu (fu F a 0 (n)) a 1 (n + 1)) a 2 (n + 2)) := Zb_u z6 (by omega)
  refine y_putRF fX0_21 ⟨rfl, ffX0_21⟩ dX0_init_30 a7 (fun _ => rfl) (fun _ => rfl) ?_
  have z8 : Zb (n + 4) V (fu (fu (fu (fu F a 0 (n)) a 1 (n + 1)) a 2 (n + 2)) a 3 (n + 3)) := Zb_f z7 (by omega)
  refine z_aload_n dX0_init_33 rfl ?_
  refine y_iconst dX0_init_34 ?_
  refine y_putI (j := 4) fX0_24 dX0_init_35 rfl a7 ?_
  have z9 : Zb (n + 4) (vst V a 4 0) (fu (fu (fu (fu F a 0 (n)) a 1 (n + 1)) a 2 (n + 2)) a 3 (n + 3)) := Zb_v z8 (by omega)
  refine z_aload_n dX0_init_38 rfl ?_
  refine y_iconst dX0_init_39 ?_
  refine y_putI (j := 5) fX0_28 dX0_init_40 rfl a7 ?_
  have z10 : Zb (n + 4) (vst (vst V a 4 0) a 5 0) (fu (fu (fu (fu F a 0 (n)) a 1 (n + 1)) a 2 (n + 2)) a 3 (n + 3)) := Zb_v z9 (by omega)
  refine z_aload_n dX0_init_43 rfl ?_
  refine y_iconst dX0_init_44 ?_
  refine y_putI (j := 6) fX0_31 dX0_init_45 rfl a7 ?_
  have z11 : Zb (n + 4) (vst (vst (vst V a 4 0) a 5 0) a 6 0) (fu (fu (fu (fu F a 0 (n)) a 1 (n + 1)) a 2 (n + 2)) a 3 (n + 3)) := Zb_v z10 (by omega)
  exact z_vret dX0_init_48 rfl (Nat.le_of_ble_eq_true rfl) (Nat.le_of_ble_eq_true rfl) ⟨rfl, rfl⟩
def iV6 (V : Nat → Int → Int) (a : Nat) : Nat → Int → Int := (vst (vst V a 2 8) a 3 0)
def iF6 (F : Nat → Nat → Option Nat) (a n : Nat) : Nat → Nat → Option Nat := (fu (fu F a 0 (n)) a 1 (n + 1))
theorem Zb_X6 {n a : Nat} {V : Nat → Int → Int} {F : Nat → Nat → Option Nat} (h : Zb n V F) (ha : a < n) : Zb (n + 2) (iV6 V a) (iF6 F a n) := fun p hp => by
  unfold iV6 iF6
  rw [vst_o (by omega), vst_o (by omega), fu_o (by omega), fu_o (by omega)]
  exact h p (by omega)
theorem ct_X6_init {n a : Nat} {S : List zSh} {V : Nat → Int → Int} {F : Nat → Nat → Option Nat} (hn : S.length = n) (ha : S[a]? = some (Sum.inl 6)) (hz : Zb n V F) : zC 1 2 14 mX6_init [.ref a] (mk S V F) (fun v M => v = none ∧ M = mk ((S ++ [Sum.inr (0, 7)]) ++ [Sum.inr (0, 7)]) (iV6 V a) (iF6 F a n)) := by
  have han := ltS ha hn
  refine zC_of (by decide +kernel) (Nat.le_of_ble_eq_true rfl) rfl ?_
  refine z_aload_n dX6_init_0 rfl ?_
  refine z_objI dX6_init_1 kX6_3 wObjM wObjC (Nat.le_of_ble_eq_true rfl) (Nat.le_of_ble_eq_true rfl) ?_
  refine z_aload_n dX6_init_4 rfl ?_
  refine y_bipush dX6_init_5 (by decide +kernel) ?_
  refine y_newi (N := 7) dX6_init_7 rfl (by omega) hn hz (Nat.le_of_ble_eq_true rfl) (Nat.le_of_ble_eq_true rfl) ?_
  have l1 : (S ++ [Sum.inr (0, 7)]).length = n + 1 := lnA hn (by omega)
  have a1 : (S ++ [Sum.inr (0, 7)])[a]? = some (Sum.inl 6) := apA ha
  have z1 : Zb (n + 1) V F := Zb_u hz (by omega)
  refine y_putRF fX6_9 ⟨rfl, ffX6_9⟩ dX6_init_9 a1 (fun _ => rfl) (fun _ => rfl) ?_
  have z2 : Zb (n + 1) V (fu F a 0 (n)) := Zb_f z1 (by omega)
  refine z_aload_n dX6_init_12 rfl ?_
  refine y_bipush dX6_init_13 (by decide +kernel) ?_
  refine y_newi (N := 7) dX6_init_15 rfl (by omega) l1 z2 (Nat.le_of_ble_eq_true rfl) (Nat.le_of_ble_eq_true rfl) ?_
  have l3 : ((S ++ [Sum.inr (0, 7)]) ++ [Sum.inr (0, 7)]).length = n + 2 := lnA l1 (by omega)
  have a3 : ((S ++ [Sum.inr (0, 7)]) ++ [Sum.inr (0, 7)])[a]? = some (Sum.inl 6) := apA a1
  have z3 : Zb (n + 2) V (fu F a 0 (n)) := Zb_u z2 (by omega)
  refine y_putRF fX6_15 ⟨rfl, ffX6_15⟩ dX6_init_17 a3 (fun _ => rfl) (fun _ => rfl) ?_
  have z4 : Zb (n + 2) V (fu (fu F a 0 (n)) a 1 (n + 1)) := Zb_f z3 (by omega)
  refine z_aload_n dX6_init_20 rfl ?_
  refine y_bipush dX6_init_21 (by decide +kernel) ?_
  refine y_putI (j := 2) fX6_18 dX6_init_23 rfl a3 ?_
  have z5 : Zb (n + 2) (vst V a 2 8) (fu (fu F a 0 (n)) a 1 (n + 1)) := Zb_v z4 (by omega)
  refine z_aload_n dX6_init_26 rfl ?_
  refine y_iconst dX6_init_27 ?_
  refine y_putI (j := 3) fX6_22 dX6_init_28 rfl a3 ?_
  have z6 : Zb (n + 2) (vst (vst V a 2 8) a 3 0) (fu (fu F a 0 (n)) a 1 (n + 1)) := Zb_v z5 (by omega)
  exact z_vret dX6_init_31 rfl (Nat.le_of_ble_eq_true rfl) (Nat.le_of_ble_eq_true rfl) ⟨rfl, rfl⟩
def iV2 (V : Nat → Int → Int) (a : Nat) : Nat → Int → Int := V
def iF2 (F : Nat → Nat → Option Nat) (a n : Nat) : Nat → Nat → Option Nat := (fu (fu (fu F a 0 (n)) a 1 (n + 1)) a 2 (n + 2))
theorem Zb_X2 {n a : Nat} {V : Nat → Int → Int} {F : Nat → Nat → Option Nat} (h : Zb n V F) (ha : a < n) : Zb (n + 3) (iV2 V a) (iF2 F a n) := fun p hp => by
  unfold iV2 iF2
  rw [fu_o (by omega), fu_o (by omega), fu_o (by omega)]
  exact h p (by omega)
theorem ct_X2_init {n a : Nat} {S : List zSh} {V : Nat → Int → Int} {F : Nat → Nat → Option Nat} (hn : S.length = n) (ha : S[a]? = some (Sum.inl 2)) (hz : Zb n V F) : zC 1 3 4131 mX2_init [.ref a] (mk S V F) (fun v M => v = none ∧ M = mk (((S ++ [Sum.inr (0, 4096)]) ++ [Sum.inr (0, 28)]) ++ [Sum.inr (0, 7)]) (iV2 V a) (iF2 F a n)) := by
  have han := ltS ha hn
  refine zC_of (by decide +kernel) (Nat.le_of_ble_eq_true rfl) rfl ?_
  refine z_aload_n dX2_init_0 rfl ?_
  refine z_objI dX2_init_1 kX2_5 wObjM wObjC (Nat.le_of_ble_eq_true rfl) (Nat.le_of_ble_eq_true rfl) ?_
  refine z_aload_n dX2_init_4 rfl ?_
  refine y_sipush dX2_init_5 (by decide +kernel) ?_
  refine y_newi (N := 4096) dX2_init_8 rfl (by omega) hn hz (Nat.le_of_ble_eq_true rfl) (Nat.le_of_ble_eq_true rfl) ?_
  have l1 : (S ++ [Sum.inr (0, 4096)]).length = n + 1 := lnA hn (by omega)
  have a1 : (S ++ [Sum.inr (0, 4096)])[a]? = some (Sum.inl 2) := apA ha
  have z1 : Zb (n + 1) V F := Zb_u hz (by omega)
  refine y_putRF fX2_11 ⟨rfl, ffX2_11⟩ dX2_init_10 a1 (fun _ => rfl) (fun _ => rfl) ?_
  have z2 : Zb (n + 1) V (fu F a 0 (n)) := Zb_f z1 (by omega)
  refine z_aload_n dX2_init_13 rfl ?_
  refine y_bipush dX2_init_14 (by decide +kernel) ?_
  refine y_newi (N := 28) dX2_init_16 rfl (by omega) l1 z2 (Nat.le_of_ble_eq_true rfl) (Nat.le_of_ble_eq_true rfl) ?_
  have l3 : ((S ++ [Sum.inr (0, 4096)]) ++ [Sum.inr (0, 28)]).length = n + 2 := lnA l1 (by omega)
  have a3 : ((S ++ [Sum.inr (0, 4096)]) ++ [Sum.inr (0, 28)])[a]? = some (Sum.inl 2) := apA a1
  have z3 : Zb (n + 2) V (fu F a 0 (n)) := Zb_u z2 (by omega)
  refine y_putRF fX2_15 ⟨rfl, ffX2_15⟩ dX2_init_18 a3 (fun _ => rfl) (fun _ => rfl) ?_
  have z4 : Zb (n + 2) V (fu (fu F a 0 (n)) a 1 (n + 1)) := Zb_f z3 (by omega)
  refine z_aload_n dX2_init_21 rfl ?_
  refine y_bipush dX2_init_22 (by decide +kernel) ?_
  refine y_newi (N := 7) dX2_init_24 rfl (by omega) l3 z4 (Nat.le_of_ble_eq_true rfl) (Nat.le_of_ble_eq_true rfl) ?_
  have l5 : (((S ++ [Sum.inr (0, 4096)]) ++ [Sum.inr (0, 28)]) ++ [Sum.inr (0, 7)]).length = n + 3 := lnA l3 (by omega)
  have a5 : (((S ++ [Sum.inr (0, 4096)]) ++ [Sum.inr (0, 28)]) ++ [Sum.inr (0, 7)])[a]? = some (Sum.inl 2) := apA a3
  have z5 : Zb (n + 3) V (fu (fu F a 0 (n)) a 1 (n + 1)) := Zb_u z4 (by omega)
  refine y_putRF fX2_18 ⟨rfl, ffX2_18⟩ dX2_init_26 a5 (fun _ => rfl) (fun _ => rfl) ?_
  have z6 : Zb (n + 3) V (fu (fu (fu F a 0 (n)) a 1 (n + 1)) a 2 (n + 2)) := Zb_f z5 (by omega)
  exact z_vret dX2_init_29 rfl (Nat.le_of_ble_eq_true rfl) (Nat.le_of_ble_eq_true rfl) ⟨rfl, rfl⟩
def iV9 (V : Nat → Int → Int) (a : Nat) : Nat → Int → Int := (vst (vst (vst (vst V a 6 0) a 7 0) a 8 0) a 9 0)
def iF9 (F : Nat → Nat → Option Nat) (a n : Nat) : Nat → Nat → Option Nat := (fu (fu (fu (fu (fu (fu F a 0 (n)) a 1 (n + 1)) a 2 (n + 2)) a 3 (n + 3)) a 4 (n + 4)) a 5 (n + 5))
theorem Zb_X9 {n a : Nat} {V : Nat → Int → Int} {F : Nat → Nat → Option Nat} (h : Zb n V F) (ha : a < n) : Zb (n + 6) (iV9 V a) (iF9 F a n) := fun p hp => by
  unfold iV9 iF9
  rw [vst_o (by omega), vst_o (by omega), vst_o (by omega), vst_o (by omega), fu_o (by omega), fu_o (by omega), fu_o (by omega), fu_o (by omega), fu_o (by omega), fu_o (by omega)]
  exact h p (by omega)
theorem ct_X9_init {n a : Nat} {S : List zSh} {V : Nat → Int → Int} {F : Nat → Nat → Option Nat} (hn : S.length = n) (ha : S[a]? = some (Sum.inl 9)) (hz : Zb n V F) : zC 1 6 39 mX9_init [.ref a] (mk S V F) (fun v M => v = none ∧ M = mk ((((((S ++ [Sum.inr (0, 4)]) ++ [Sum.inr (0, 7)]) ++ [Sum.inr (0, 7)]) ++ [Sum.inr (0, 7)]) ++ [Sum.inr (0, 7)]) ++ [Sum.inr (0, 7)]) (iV9 V a) (iF9 F a n)) := by
  have han := ltS ha hn
  refine zC_of (by decide +kernel) (Nat.le_of_ble_eq_true rfl) rfl ?_
  refine z_aload_n dX9_init_0 rfl ?_
  refine z_objI dX9_init_1 kX9_3 wObjM wObjC (Nat.le_of_ble_eq_true rfl) (Nat.le_of_ble_eq_true rfl) ?_
  refine z_aload_n dX9_init_4 rfl ?_
  refine y_iconst dX9_init_5 ?_
  refine y_newi (N := 4) dX9_init_6 rfl (by omega) hn hz (Nat.le_of_ble_eq_true rfl) (Nat.le_of_ble_eq_true rfl) ?_
  have l1 : (S ++ [Sum.inr (0, 4)]).length = n + 1 := lnA hn (by omega)
  have a1 : (S ++ [Sum.inr (0, 4)])[a]? = some (Sum.inl 9) := apA ha
  have z1 : Zb (n + 1) V F := Zb_u hz (by omega)
  refine y_putRF fX9_9 ⟨rfl, ffX9_9⟩ dX9_init_8 a1 (fun _ => rfl) (fun _ => rfl) ?_
  have z2 : Zb (n + 1) V (fu F a 0 (n)) := Zb_f z1 (by omega)
  refine z_aload_n dX9_init_11 rfl ?_
  refine y_bipush dX9_init_12 (by decide +kernel) ?_
  refine y_newi (N := 7) dX9_init_14 rfl (by omega) l1 z2 (Nat.le_of_ble_eq_true rfl) (Nat.le_of_ble_eq_true rfl) ?_
  have l3 : ((S ++ [Sum.inr (0, 4)]) ++ [Sum.inr (0, 7)]).length = n + 2 := lnA l1 (by omega)
  have a3 : ((S ++ [Sum.inr (0, 4)]) ++ [Sum.inr (0, 7)])[a]? = some (Sum.inl 9) := apA a1
  have z3 : Zb (n + 2) V (fu F a 0 (n)) := Zb_u z2 (by omega)
  refine y_putRF fX9_15 ⟨rfl, ffX9_15⟩ dX9_init_16 a3 (fun _ => rfl) (fun _ => rfl) ?_
  have z4 : Zb (n + 2) V (fu (fu F a 0 (n)) a 1 (n + 1)) := Zb_f z3 (by omega)
  refine z_aload_n dX9_init_19 rfl ?_
  refine y_bipush dX9_init_20 (by decide +kernel) ?_
  refine y_newi (N := 7) dX9_init_22 rfl (by omega) l3 z4 (Nat.le_of_ble_eq_true rfl) (Nat.le_of_ble_eq_true rfl) ?_
  have l5 : (((S ++ [Sum.inr (0, 4)]) ++ [Sum.inr (0, 7)]) ++ [Sum.inr (0, 7)]).length = n + 3 := lnA l3 (by omega)
  have a5 : (((S ++ [Sum.inr (0, 4)]) ++ [Sum.inr (0, 7)]) ++ [Sum.inr (0, 7)])[a]? = some (Sum.inl 9) := apA a3
  have z5 : Zb (n + 3) V (fu (fu F a 0 (n)) a 1 (n + 1)) := Zb_u z4 (by omega)
  refine y_putRF fX9_18 ⟨rfl, ffX9_18⟩ dX9_init_24 a5 (fun _ => rfl) (fun _ => rfl) ?_
  have z6 : Zb (n + 3) V (fu (fu (fu F a 0 (n)) a 1 (n + 1)) a 2 (n + 2)) := Zb_f z5 (by omega)
  refine z_aload_n dX9_init_27 rfl ?_
  refine y_bipush dX9_init_28 (by decide +kernel) ?_
  refine y_newi (N := 7) dX9_init_30 rfl (by omega) l5 z6 (Nat.le_of_ble_eq_true rfl) (Nat.le_of_ble_eq_true rfl) ?_
  have l7 : ((((S ++ [Sum.inr (0, 4)]) ++ [Sum.inr (0, 7)]) ++ [Sum.inr (0, 7)]) ++ [Sum.inr (0, 7)]).length = n + 4 := lnA l5 (by omega)
  have a7 : ((((S ++ [Sum.inr (0, 4)]) ++ [Sum.inr (0, 7)]) ++ [Sum.inr (0, 7)]) ++ [Sum.inr (0, 7)])[a]? = some (Sum.inl 9) := apA a5
  have z7 : Zb (n + 4) V (fu (fu (fu F a 0 (n)) a 1 (n + 1)) a 2 (n + 2)) := Zb_u z6 (by omega)
  refine y_putRF fX9_21 ⟨rfl, ffX9_21⟩ dX9_init_32 a7 (fun _ => rfl) (fun _ => rfl) ?_
  have z8 : Zb (n + 4) V (fu (fu (fu (fu F a 0 (n)) a 1 (n + 1)) a 2 (n + 2)) a 3 (n + 3)) := Zb_f z7 (by omega)
  refine z_aload_n dX9_init_35 rfl ?_
  refine y_bipush dX9_init_36 (by decide +kernel) ?_
  refine y_newi (N := 7) dX9_init_38 rfl (by omega) l7 z8 (Nat.le_of_ble_eq_true rfl) (Nat.le_of_ble_eq_true rfl) ?_
  have l9 : (((((S ++ [Sum.inr (0, 4)]) ++ [Sum.inr (0, 7)]) ++ [Sum.inr (0, 7)]) ++ [Sum.inr (0, 7)]) ++ [Sum.inr (0, 7)]).length = n + 5 := lnA l7 (by omega)
  have a9 : (((((S ++ [Sum.inr (0, 4)]) ++ [Sum.inr (0, 7)]) ++ [Sum.inr (0, 7)]) ++ [Sum.inr (0, 7)]) ++ [Sum.inr (0, 7)])[a]? = some (Sum.inl 9) := apA a7
  have z9 : Zb (n + 5) V (fu (fu (fu (fu F a 0 (n)) a 1 (n + 1)) a 2 (n + 2)) a 3 (n + 3)) := Zb_u z8 (by omega)
  refine y_putRF fX9_24 ⟨rfl, ffX9_24⟩ dX9_init_40 a9 (fun _ => rfl) (fun _ => rfl) ?_
  have z10 : Zb (n + 5) V (fu (fu (fu (fu (fu F a 0 (n)) a 1 (n + 1)) a 2 (n + 2)) a 3 (n + 3)) a 4 (n + 4)) := Zb_f z9 (by omega)
  refine z_aload_n dX9_init_43 rfl ?_
  refine y_bipush dX9_init_44 (by decide +kernel) ?_
  refine y_newi (N := 7) dX9_init_46 rfl (by omega) l9 z10 (Nat.le_of_ble_eq_true rfl) (Nat.le_of_ble_eq_true rfl) ?_
  have l11 : ((((((S ++ [Sum.inr (0, 4)]) ++ [Sum.inr (0, 7)]) ++ [Sum.inr (0, 7)]) ++ [Sum.inr (0, 7)]) ++ [Sum.inr (0, 7)]) ++ [Sum.inr (0, 7)]).length = n + 6 := lnA l9 (by omega)
  have a11 : ((((((S ++ [Sum.inr (0, 4)]) ++ [Sum.inr (0, 7)]) ++ [Sum.inr (0, 7)]) ++ [Sum.inr (0, 7)]) ++ [Sum.inr (0, 7)]) ++ [Sum.inr (0, 7)])[a]? = some (Sum.inl 9) := apA a9
  have z11 : Zb (n + 6) V (fu (fu (fu (fu (fu F a 0 (n)) a 1 (n + 1)) a 2 (n + 2)) a 3 (n + 3)) a 4 (n + 4)) := Zb_u z10 (by omega)
  refine y_putRF fX9_27 ⟨rfl, ffX9_27⟩ dX9_init_48 a11 (fun _ => rfl) (fun _ => rfl) ?_
  have z12 : Zb (n + 6) V (fu (fu (fu (fu (fu (fu F a 0 (n)) a 1 (n + 1)) a 2 (n + 2)) a 3 (n + 3)) a 4 (n + 4)) a 5 (n + 5)) := Zb_f z11 (by omega)
  refine z_aload_n dX9_init_51 rfl ?_
  refine y_iconst dX9_init_52 ?_
  refine y_putI (j := 6) fX9_30 dX9_init_53 rfl a11 ?_
  have z13 : Zb (n + 6) (vst V a 6 0) (fu (fu (fu (fu (fu (fu F a 0 (n)) a 1 (n + 1)) a 2 (n + 2)) a 3 (n + 3)) a 4 (n + 4)) a 5 (n + 5)) := Zb_v z12 (by omega)
  refine z_aload_n dX9_init_56 rfl ?_
  refine y_iconst dX9_init_57 ?_
  refine y_putI (j := 7) fX9_34 dX9_init_58 rfl a11 ?_
  have z14 : Zb (n + 6) (vst (vst V a 6 0) a 7 0) (fu (fu (fu (fu (fu (fu F a 0 (n)) a 1 (n + 1)) a 2 (n + 2)) a 3 (n + 3)) a 4 (n + 4)) a 5 (n + 5)) := Zb_v z13 (by omega)
  refine z_aload_n dX9_init_61 rfl ?_
  refine y_iconst dX9_init_62 ?_
  refine y_putI (j := 8) fX9_37 dX9_init_63 rfl a11 ?_
  have z15 : Zb (n + 6) (vst (vst (vst V a 6 0) a 7 0) a 8 0) (fu (fu (fu (fu (fu (fu F a 0 (n)) a 1 (n + 1)) a 2 (n + 2)) a 3 (n + 3)) a 4 (n + 4)) a 5 (n + 5)) := Zb_v z14 (by omega)
  refine z_aload_n dX9_init_66 rfl ?_
  refine y_iconst dX9_init_67 ?_
  refine y_putI (j := 9) fX9_40 dX9_init_68 rfl a11 ?_
  have z16 : Zb (n + 6) (vst (vst (vst (vst V a 6 0) a 7 0) a 8 0) a 9 0) (fu (fu (fu (fu (fu (fu F a 0 (n)) a 1 (n + 1)) a 2 (n + 2)) a 3 (n + 3)) a 4 (n + 4)) a 5 (n + 5)) := Zb_v z15 (by omega)
  exact z_vret dX9_init_71 rfl (Nat.le_of_ble_eq_true rfl) (Nat.le_of_ble_eq_true rfl) ⟨rfl, rfl⟩
def iV3 (V : Nat → Int → Int) (a n : Nat) : Nat → Int → Int := (vst (vst (iV8 V (n)) a 1 0) a 2 0)
def iF3 (F : Nat → Nat → Option Nat) (a n : Nat) : Nat → Nat → Option Nat := (fu (iF8 F (n) (n + 1)) a 0 (n))
theorem ct_X3_init {n a : Nat} {S : List zSh} {V : Nat → Int → Int} {F : Nat → Nat → Option Nat} (hn : S.length = n) (ha : S[a]? = some (Sum.inl 3)) (hz : Zb n V F) : zC 2 4 51 mX3_init [.ref a] (mk S V F) (fun v M => v = none ∧ M = mk ((((S ++ [Sum.inl 8]) ++ [Sum.inr (0, 35)]) ++ [Sum.inr (0, 5)]) ++ [Sum.inr (0, 5)]) (iV3 V a n) (iF3 F a n) ∧ Zb (n + 4) (iV3 V a n) (iF3 F a n)) := by
  have han := ltS ha hn
  refine zC_of (by decide +kernel) (Nat.le_of_ble_eq_true rfl) rfl ?_
  refine z_aload_n dX3_init_0 rfl ?_
  refine z_objI dX3_init_1 kX3_1 wObjM wObjC (Nat.le_of_ble_eq_true rfl) (Nat.le_of_ble_eq_true rfl) ?_
  refine z_aload_n dX3_init_4 rfl ?_
  refine y_new (N := 6) dX3_init_5 nX3_7 rfl hn hz (Nat.le_of_ble_eq_true rfl) (Nat.le_of_ble_eq_true rfl) ?_
  have l1 : (S ++ [Sum.inl 8]).length = n + 1 := lnA hn (by omega)
  have a1 : (S ++ [Sum.inl 8])[a]? = some (Sum.inl 3) := apA ha
  have z1 : Zb (n + 1) V F := Zb_u hz (by omega)
  have o1 : (S ++ [Sum.inl 8])[n]? = some (Sum.inl 8) := apZ hn
  refine z_dup dX3_init_8 rfl ?_
  refine z_callI (ct_X8_init l1 o1 z1) kX3_9 dX3_init_9 rfl rfl ⟨Nat.le_of_ble_eq_true rfl, Nat.le_of_ble_eq_true rfl⟩ (Nat.le_of_ble_eq_true rfl) (Nat.le_of_ble_eq_true rfl) (Nat.le_of_ble_eq_true rfl) (fun v M h9 => ?_)
  obtain ⟨rfl, rfl⟩ := h9
  have l3 : ((S ++ [Sum.inl 8]) ++ [Sum.inr (0, 35)]).length = n + 2 := lnA l1 (by omega)
  have a3 : ((S ++ [Sum.inl 8]) ++ [Sum.inr (0, 35)])[a]? = some (Sum.inl 3) := apA a1
  have l4 : (((S ++ [Sum.inl 8]) ++ [Sum.inr (0, 35)]) ++ [Sum.inr (0, 5)]).length = n + 3 := lnA l3 (by omega)
  have a4 : (((S ++ [Sum.inl 8]) ++ [Sum.inr (0, 35)]) ++ [Sum.inr (0, 5)])[a]? = some (Sum.inl 3) := apA a3
  have l5 : ((((S ++ [Sum.inl 8]) ++ [Sum.inr (0, 35)]) ++ [Sum.inr (0, 5)]) ++ [Sum.inr (0, 5)]).length = n + 4 := lnA l4 (by omega)
  have a5 : ((((S ++ [Sum.inl 8]) ++ [Sum.inr (0, 35)]) ++ [Sum.inr (0, 5)]) ++ [Sum.inr (0, 5)])[a]? = some (Sum.inl 3) := apA a4
  have z6 : Zb (n + 4) (iV8 V (n)) (iF8 F (n) (n + 1)) := Zb_X8 z1 (by omega)
  refine y_putRF fX3_10 ⟨rfl, ffX3_10⟩ dX3_init_12 a5 (fun _ => rfl) (fun _ => rfl) ?_
  have z7 : Zb (n + 4) (iV8 V (n)) (fu (iF8 F (n) (n + 1)) a 0 (n)) := Zb_f z6 (by omega)
  refine z_aload_n dX3_init_15 rfl ?_
  refine y_iconst dX3_init_16 ?_
  refine y_putI (j := 1) fX3_16 dX3_init_17 rfl a5 ?_
  have z8 : Zb (n + 4) (vst (iV8 V (n)) a 1 0) (fu (iF8 F (n) (n + 1)) a 0 (n)) := Zb_v z7 (by omega)
  refine z_aload_n dX3_init_20 rfl ?_
  refine y_iconst dX3_init_21 ?_
  refine y_putZ (j := 2) fX3_20 dX3_init_22 rfl a5 (by omega) ?_
  have z9 : Zb (n + 4) (vst (vst (iV8 V (n)) a 1 0) a 2 0) (fu (iF8 F (n) (n + 1)) a 0 (n)) := Zb_v z8 (by omega)
  exact z_vret dX3_init_25 rfl (Nat.le_of_ble_eq_true rfl) (Nat.le_of_ble_eq_true rfl) ⟨rfl, rfl, z9⟩
def iV4 (V : Nat → Int → Int) (a : Nat) : Nat → Int → Int := vst V a 3 0
def iF4 (F : Nat → Nat → Option Nat) (a n : Nat) : Nat → Nat → Option Nat := fu (fu (fu F a 0 n) a 1 (n + 1)) a 2 (n + 2)
theorem Zb_X4 {n a : Nat} {V : Nat → Int → Int} {F : Nat → Nat → Option Nat} (h : Zb n V F) (ha : a < n) : Zb (n + 3) (iV4 V a) (iF4 F a n) := fun p hp => by
  unfold iV4 iF4
  rw [vst_o (by omega), fu_o (by omega), fu_o (by omega), fu_o (by omega)]
  exact h p (by omega)
theorem ct_X4_init {n a m : Nat} {S : List zSh} {V : Nat → Int → Int} {F : Nat → Nat → Option Nat} (hm : m ≤ 20) (hn : S.length = n) (ha : S[a]? = some (Sum.inl 4)) (hz : Zb n V F) : zC 1 3 (m + m + m) mX4_init [.ref a, .int (iI m)] (mk S V F) (fun v M => v = none ∧ M = mk (((S ++ [Sum.inr (0, m)]) ++ [Sum.inr (0, m)]) ++ [Sum.inr (0, m)]) (iV4 V a) (iF4 F a n)) := by
  have han := ltS ha hn
  refine zC_of (by decide +kernel) (Nat.le_of_ble_eq_true rfl) rfl ?_
  refine z_aload_n dX4_init_0 rfl ?_
  refine z_objI dX4_init_1 kX4_3 wObjM wObjC (Nat.le_of_ble_eq_true rfl) (Nat.le_of_ble_eq_true rfl) ?_
  refine z_aload_n dX4_init_4 rfl ?_
  refine y_iconst dX4_init_5 ?_
  refine y_putI (j := 3) fX4_9 dX4_init_6 rfl ha ?_
  have z0 : Zb n (vst V a 3 0) F := Zb_v hz han
  refine z_iload_n dX4_init_9 rfl ?_
  refine y_iconst dX4_init_10 ?_
  refine z_max dX4_init_11 kX4_15 wMaxS wMathI wMaxC (Nat.le_of_ble_eq_true rfl) (Nat.le_of_ble_eq_true rfl) (Nat.zero_le _) (Nat.zero_le _) ?_
  rw [if_neg (by rw [iI_lt ⟨by omega, by omega⟩ ⟨by omega, by omega⟩]; omega)]
  refine z_istore_n dX4_init_14 (by decide) rfl rfl ?_
  refine z_aload_n dX4_init_15 rfl ?_
  refine z_iload_n dX4_init_16 rfl ?_
  refine y_newi (N := m) dX4_init_17 rfl (by omega) hn z0 (Nat.le_of_ble_eq_true rfl) (by show 0 + m ≤ m + m + m; omega) ?_
  have l1 : (S ++ [Sum.inr (0, m)]).length = n + 1 := lnA hn rfl
  have a1 : (S ++ [Sum.inr (0, m)])[a]? = some (Sum.inl 4) := apA ha
  refine y_putRF fX4_21 ⟨rfl, ffX4_21⟩ dX4_init_19 a1 (fun _ => rfl) (fun _ => rfl) ?_
  have z1 : Zb (n + 1) (vst V a 3 0) (fu F a 0 n) := Zb_f (Zb_u z0 (by omega)) (by omega)
  refine z_aload_n dX4_init_22 rfl ?_
  refine z_iload_n dX4_init_23 rfl ?_
  refine y_newi (N := m) dX4_init_24 rfl (by omega) l1 z1 (Nat.le_of_ble_eq_true rfl) (by show 0 + m + m ≤ m + m + m; omega) ?_
  have l2 : ((S ++ [Sum.inr (0, m)]) ++ [Sum.inr (0, m)]).length = n + 2 := lnA l1 rfl
  have a2 : ((S ++ [Sum.inr (0, m)]) ++ [Sum.inr (0, m)])[a]? = some (Sum.inl 4) := apA a1
  refine y_putRF fX4_25 ⟨rfl, ffX4_25⟩ dX4_init_26 a2 (fun _ => rfl) (fun _ => rfl) ?_
  have z2 : Zb (n + 2) (vst V a 3 0) (fu (fu F a 0 n) a 1 (n + 1)) := Zb_f (Zb_u z1 (by omega)) (by omega)
  refine z_aload_n dX4_init_29 rfl ?_
  refine z_iload_n dX4_init_30 rfl ?_
  refine y_newi (N := m) dX4_init_31 rfl (by omega) l2 z2 (Nat.le_of_ble_eq_true rfl) (by show 0 + m + m + m ≤ m + m + m; omega) ?_
  have a3 : (((S ++ [Sum.inr (0, m)]) ++ [Sum.inr (0, m)]) ++ [Sum.inr (0, m)])[a]? = some (Sum.inl 4) := apA a2
  refine y_putRF fX4_28 ⟨rfl, ffX4_28⟩ dX4_init_33 a3 (fun _ => rfl) (fun _ => rfl) ?_
  exact z_vret dX4_init_36 rfl (Nat.le_of_ble_eq_true rfl) (by show 0 + m + m + m ≤ m + m + m; omega) ⟨rfl, rfl⟩
def rpS (S : List zSh) : Nat → List zSh
  | 0 => S
  | i + 1 => (((rpS S i ++ [Sum.inl 8]) ++ [Sum.inr (0, 35)]) ++ [Sum.inr (0, 5)]) ++ [Sum.inr (0, 5)]
theorem rpS_len {S : List zSh} {m : Nat} (h : S.length = m) : ∀ i : Nat, (rpS S i).length = m + 4 * i
  | 0 => h
  | i + 1 => by
    have ih := rpS_len h i
    exact lnA (lnA (lnA (lnA ih rfl) rfl) rfl) (by omega)
theorem rpS_a {S : List zSh} {a : Nat} {x : zSh} (h : S[a]? = some x) : ∀ i : Nat, (rpS S i)[a]? = some x
  | 0 => h
  | i + 1 => apA (apA (apA (apA (rpS_a h i))))
/-- the ring at p, its stands behind it -/
def pV5 (V : Nat → Int → Int) (p : Nat) : Nat → Nat → Int → Int
  | 0 => V
  | i + 1 => iV8 (pV5 V p i) (p + 1 + 4 * i)
def pF5 (F : Nat → Nat → Option Nat) (p : Nat) : Nat → Nat → Nat → Option Nat
  | 0 => F
  | i + 1 => fu (iF8 (pF5 F p i) (p + 1 + 4 * i) (p + 2 + 4 * i)) p i (p + 1 + 4 * i)
def iV5 (V : Nat → Int → Int) (a n : Nat) : Nat → Int → Int := pV5 (vst (vst V a 1 0) a 2 0) n 20
def iF5 (F : Nat → Nat → Option Nat) (a n : Nat) : Nat → Nat → Option Nat := pF5 (fu F a 0 n) n 20
theorem Zb_p5 {p : Nat} {V : Nat → Int → Int} {F : Nat → Nat → Option Nat} (h : Zb (p + 1) V F) : ∀ i : Nat, Zb (p + 1 + 4 * i) (pV5 V p i) (pF5 F p i)
  | 0 => h
  | i + 1 => by
    have ih := Zb_p5 h i
    have h1 := Zb_X8 (n := p + 2 + 4 * i) (a := p + 1 + 4 * i) (Zb_u ih (by omega)) (by omega)
    have h2 := Zb_f (a := p) (k := i) (q := p + 1 + 4 * i) h1 (by omega)
    exact Zb_u h2 (by omega)
theorem ct_X5_init {n a : Nat} {S : List zSh} {V : Nat → Int → Int} {F : Nat → Nat → Option Nat} (hn : S.length = n) (ha : S[a]? = some (Sum.inl 5)) (hz : Zb n V F) : zC 3 81 1040 mX5_init [.ref a] (mk S V F) (fun v M => v = none ∧ M = mk (rpS (S ++ [Sum.inr (2, 20)]) 20) (iV5 V a n) (iF5 F a n) ∧ Zb (n + 81) (iV5 V a n) (iF5 F a n)) := by
  have han := ltS ha hn
  have l1 : (S ++ [Sum.inr (2, 20)]).length = n + 1 := lnA hn rfl
  have a1 : (S ++ [Sum.inr (2, 20)])[a]? = some (Sum.inl 5) := apA ha
  have r1 : (S ++ [Sum.inr (2, 20)])[n]? = some (Sum.inr (2, 20)) := apZ hn
  obtain ⟨V', hV'⟩ : ∃ V', V' = vst (vst V a 1 0) a 2 0 := ⟨_, rfl⟩
  obtain ⟨F', hF'⟩ : ∃ F', F' = fu F a 0 n := ⟨_, rfl⟩
  have z1 : Zb (n + 1) V' F' := by rw [hV', hF']; exact Zb_f (Zb_v (Zb_v (Zb_u hz (by omega)) (by omega)) (by omega)) (by omega)
  have zp := fun i => Zb_p5 z1 i
  have hFa : ∀ i : Nat, pF5 F' n i a 0 = some n := by
    intro i
    induction i with
    | zero =>
      show F' a 0 = some n
      rw [hF']
      unfold fu
      rw [zup_s]
      simp [va_up]
    | succ i ih =>
      show fu (iF8 (pF5 F' n i) (n + 1 + 4 * i) (n + 2 + 4 * i)) n i (n + 1 + 4 * i) a 0 = some n
      rw [fu_o (by omega)]
      unfold iF8
      rw [fu_o (by omega), fu_o (by omega), fu_o (by omega)]
      exact ih
  have loop : ∀ (k i : Nat), i + k = 20 → zE (zrm 3 81 1040) (zb 81 1040 (fun v M => v = none ∧ M = mk (rpS (S ++ [Sum.inr (2, 20)]) 20) (iV5 V a n) (iF5 F a n) ∧ Zb (n + 81) (iV5 V a n) (iF5 F a n))) mX5_init 25 [some (.ref a), some (.int (iI i))] [] (1 + 4 * i) (20 + 51 * i) (mk (rpS (S ++ [Sum.inr (2, 20)]) i) (pV5 V' n i) (pF5 F' n i)) := by
    intro k
    induction k with
    | zero =>
      intro i hi
      have hi' : i = 20 := by omega
      rw [hi']
      refine z_iload_n dX5_init_25 rfl ?_
      refine y_bipush dX5_init_26 (by decide +kernel) ?_
      refine y_icmp_ge dX5_init_28 (by omega) (by omega) (fun _ => ?_) (fun c => by omega)
      refine z_vret dX5_init_50 rfl (Nat.le_of_ble_eq_true rfl) (Nat.le_of_ble_eq_true rfl) ⟨rfl, ?_, ?_⟩
      · unfold iV5 iF5; rw [← hV', ← hF']
      · unfold iV5 iF5; rw [← hV', ← hF']; exact zp 20
    | succ k ih =>
      intro i hi
      have li := rpS_len l1 i
      have ai := rpS_a a1 i
      have ri := rpS_a r1 i
      have zi := zp i
      have hfi := hFa i
      obtain ⟨T, hT⟩ : ∃ T, T = rpS (S ++ [Sum.inr (2, 20)]) i := ⟨_, rfl⟩
      have hh := ih (i + 1) (by omega)
      have eT : rpS (S ++ [Sum.inr (2, 20)]) (i + 1) = (((T ++ [Sum.inl 8]) ++ [Sum.inr (0, 35)]) ++ [Sum.inr (0, 5)]) ++ [Sum.inr (0, 5)] := by rw [hT]; rfl
      have eV : pV5 V' n (i + 1) = iV8 (pV5 V' n i) (n + 1 + 4 * i) := rfl
      have eF : pF5 F' n (i + 1) = fu (iF8 (pF5 F' n i) (n + 1 + 4 * i) (n + 2 + 4 * i)) n i (n + 1 + 4 * i) := rfl
      rw [eT, eV, eF, show ((i + 1 : Nat) : Int) = (i : Int) + 1 by omega] at hh
      rw [← hT] at li ai ri ⊢
      have lo : (T ++ [Sum.inl 8]).length = n + 2 + 4 * i := lnA li (by omega)
      have oo : (T ++ [Sum.inl 8])[n + 1 + 4 * i]? = some (Sum.inl 8) := apZ li
      have zo : Zb (n + 2 + 4 * i) (pV5 V' n i) (pF5 F' n i) := Zb_u zi (by omega)
      refine z_iload_n dX5_init_25 rfl ?_
      refine y_bipush dX5_init_26 (by decide +kernel) ?_
      refine y_icmp_ge dX5_init_28 (by omega) (by omega) (fun c => by omega) (fun _ => ?_)
      refine z_aload_n dX5_init_31 rfl ?_
      refine y_getR fX5_11 dX5_init_32 ai hfi ?_
      refine z_iload_n dX5_init_35 rfl ?_
      refine y_new (N := 6) dX5_init_36 nX5_9 rfl li zi (by show 1 + 4 * i + 1 ≤ 81; omega) (by show 20 + 51 * i + 6 ≤ 1040; omega) ?_
      refine z_dup dX5_init_39 rfl ?_
      refine z_callI (ct_X8_init lo oo zo) kX5_24 dX5_init_40 rfl rfl ⟨Nat.le_of_ble_eq_true rfl, Nat.le_of_ble_eq_true rfl⟩ (Nat.le_of_ble_eq_true rfl) (by show 1 + 4 * i + 1 + 3 ≤ 81; omega) (by show 20 + 51 * i + 6 + 45 ≤ 1040; omega) (fun v M h40 => ?_)
      obtain ⟨h401, h402⟩ := h40
      rw [h401, h402]
      refine y_aast dX5_init_43 (apA (apA (apA (apA ri)))) (apA (apA (apA oo))) (by omega) (by omega) ?_
      refine y_iinc dX5_init_44 rfl (by decide) rfl rfl ?_
      refine z_goto dX5_init_47 ?_
      have hh2 := z_wide (k := 1 + 4 * (i + 1)) (n := 20 + 51 * (i + 1)) (cu := 1 + 4 * i + 1 + 3) (su := 20 + 51 * i + 6 + 45) (by omega) (by omega) hh
      exact hh2
  have h0 := loop 20 0 (by omega)
  refine zC_of (by decide +kernel) (Nat.le_of_ble_eq_true rfl) rfl ?_
  refine z_aload_n dX5_init_0 rfl ?_
  refine z_objI dX5_init_1 kX5_3 wObjM wObjC (Nat.le_of_ble_eq_true rfl) (Nat.le_of_ble_eq_true rfl) ?_
  refine z_aload_n dX5_init_4 rfl ?_
  refine y_bipush dX5_init_5 (by decide +kernel) ?_
  refine y_newq (N := 20) dX5_init_7 clX5_9 rfl (by omega) hn hz (Nat.le_of_ble_eq_true rfl) (Nat.le_of_ble_eq_true rfl) ?_
  refine y_putRF fX5_11 ⟨rfl, ffX5_11⟩ dX5_init_10 a1 (fun _ => rfl) (fun _ => rfl) ?_
  refine z_aload_n dX5_init_13 rfl ?_
  refine y_iconst dX5_init_14 ?_
  refine y_putI (j := 1) fX5_17 dX5_init_15 rfl a1 ?_
  refine z_aload_n dX5_init_18 rfl ?_
  refine y_iconst dX5_init_19 ?_
  refine y_putI (j := 2) fX5_21 dX5_init_20 rfl a1 ?_
  refine y_iconst dX5_init_23 ?_
  refine z_istore_n dX5_init_24 (by decide) rfl rfl ?_
  rw [hV', hF'] at h0
  exact h0

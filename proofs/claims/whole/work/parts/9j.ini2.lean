/-! ===== GrudgeYard is made ===== -/
def sS7 (S : List zSh) : List zSh := ((S ++ [Sum.inl 7]) ++ [Sum.inr (0, 230)])
theorem sS7_l {S : List zSh} {n : Nat} (h : S.length = n) : (sS7 S).length = n + 2 := lnA (lnA (h) rfl) rfl
theorem sS7_a {S : List zSh} {a : Nat} {x : zSh} (h : S[a]? = some x) : (sS7 S)[a]? = some x := apA (apA (h))
theorem sg_4 {B : zBt} {n a cu su m : Nat} {S : List zSh} {V : Nat → Int → Int} {F : Nat → Nat → Option Nat} (hn : S.length = n) (ha : S[a]? = some (Sum.inl 10)) (hz : Zb n V F) (hm : n + 2 = m) (hc : cu + 1 + 1 ≤ 133) (hs : su + 6 + 230 ≤ 5788) (kk : (sS7 S).length = m → (sS7 S)[a]? = some (Sum.inl 10) → Zb m (iV7 V n) (fu (iF7 F n (n + 1)) a 0 n) → zE (zrm 4 133 5788) B mX10_init 15 [some (.ref a)] [] (cu + 1 + 1) (su + 6 + 230) (mk (sS7 S) (iV7 V n) (fu (iF7 F n (n + 1)) a 0 n))) : zE (zrm 4 133 5788) B mX10_init 4 [some (.ref a)] [] cu su (mk S V F) := by
  have han := ltS ha hn
  have lo : (S ++ [Sum.inl 7]).length = n + 1 := lnA hn rfl
  have oo : (S ++ [Sum.inl 7])[n]? = some (Sum.inl 7) := apZ hn
  have zo : Zb (n + 1) V F := Zb_u hz (by omega)
  have l1 := sS7_l hn
  have a1 : (sS7 S)[a]? = some (Sum.inl 10) := sS7_a ha
  refine z_aload_n dX10_init_4 rfl ?_
  refine y_new (N := 6) dX10_init_5 nX10_7 rfl hn hz (Nat.le_trans (Nat.le_add_right _ _) hc) (Nat.le_trans (Nat.le_add_right _ _) hs) ?_
  refine z_dup dX10_init_8 rfl ?_
  refine z_callI (ct_X7_init lo oo zo) kX10_9 dX10_init_9 rfl rfl ⟨Nat.le_of_ble_eq_true rfl, Nat.le_of_ble_eq_true rfl⟩ (Nat.le_of_ble_eq_true rfl) hc hs (fun v M h => ?_)
  obtain ⟨h1, h2⟩ := h
  rw [h1, h2]
  refine y_putRF fX10_10 ⟨rfl, ffX10_10⟩ dX10_init_12 a1 (fun _ => rfl) (fun _ => rfl) ?_
  exact kk (by omega) a1 (Zb_f (Zb_u (Zb_X7 zo (by omega)) (by omega)) (by omega))
def sS8 (S : List zSh) : List zSh := ((((S ++ [Sum.inl 8]) ++ [Sum.inr (0, 35)]) ++ [Sum.inr (0, 5)]) ++ [Sum.inr (0, 5)])
theorem sS8_l {S : List zSh} {n : Nat} (h : S.length = n) : (sS8 S).length = n + 4 := lnA (lnA (lnA (lnA (h) rfl) rfl) rfl) rfl
theorem sS8_a {S : List zSh} {a : Nat} {x : zSh} (h : S[a]? = some x) : (sS8 S)[a]? = some x := apA (apA (apA (apA (h))))
theorem sg_15 {B : zBt} {n a cu su m : Nat} {S : List zSh} {V : Nat → Int → Int} {F : Nat → Nat → Option Nat} (hn : S.length = n) (ha : S[a]? = some (Sum.inl 10)) (hz : Zb n V F) (hm : n + 4 = m) (hc : cu + 1 + 3 ≤ 133) (hs : su + 6 + 45 ≤ 5788) (kk : (sS8 S).length = m → (sS8 S)[a]? = some (Sum.inl 10) → Zb m (iV8 V n) (fu (iF8 F n (n + 1)) a 1 n) → zE (zrm 4 133 5788) B mX10_init 26 [some (.ref a)] [] (cu + 1 + 3) (su + 6 + 45) (mk (sS8 S) (iV8 V n) (fu (iF8 F n (n + 1)) a 1 n))) : zE (zrm 4 133 5788) B mX10_init 15 [some (.ref a)] [] cu su (mk S V F) := by
  have han := ltS ha hn
  have lo : (S ++ [Sum.inl 8]).length = n + 1 := lnA hn rfl
  have oo : (S ++ [Sum.inl 8])[n]? = some (Sum.inl 8) := apZ hn
  have zo : Zb (n + 1) V F := Zb_u hz (by omega)
  have l1 := sS8_l hn
  have a1 : (sS8 S)[a]? = some (Sum.inl 10) := sS8_a ha
  refine z_aload_n dX10_init_15 rfl ?_
  refine y_new (N := 6) dX10_init_16 nX10_16 rfl hn hz (Nat.le_trans (Nat.le_add_right _ _) hc) (Nat.le_trans (Nat.le_add_right _ _) hs) ?_
  refine z_dup dX10_init_19 rfl ?_
  refine z_callI (ct_X8_init lo oo zo) kX10_18 dX10_init_20 rfl rfl ⟨Nat.le_of_ble_eq_true rfl, Nat.le_of_ble_eq_true rfl⟩ (Nat.le_of_ble_eq_true rfl) hc hs (fun v M h => ?_)
  obtain ⟨h1, h2⟩ := h
  rw [h1, h2]
  refine y_putRF fX10_19 ⟨rfl, ffX10_19⟩ dX10_init_23 a1 (fun _ => rfl) (fun _ => rfl) ?_
  exact kk (by omega) a1 (Zb_f (Zb_u (Zb_X8 zo (by omega)) (by omega)) (by omega))
def sS5 (S : List zSh) : List zSh := rpS ((S ++ [Sum.inl 5]) ++ [Sum.inr (2, 20)]) 20
theorem sS5_l {S : List zSh} {n : Nat} (h : S.length = n) : (sS5 S).length = n + 82 := by
  have := rpS_len (lnA (x := Sum.inr (2, 20)) (lnA (x := Sum.inl 5) h rfl) rfl) 20
  exact this
theorem sS5_a {S : List zSh} {a : Nat} {x : zSh} (h : S[a]? = some x) : (sS5 S)[a]? = some x := rpS_a (apA (apA h)) 20
theorem sg_26 {B : zBt} {n a cu su m : Nat} {S : List zSh} {V : Nat → Int → Int} {F : Nat → Nat → Option Nat} (hn : S.length = n) (ha : S[a]? = some (Sum.inl 10)) (hz : Zb n V F) (hm : n + 82 = m) (hc : cu + 1 + 81 ≤ 133) (hs : su + 3 + 1040 ≤ 5788) (kk : (sS5 S).length = m → (sS5 S)[a]? = some (Sum.inl 10) → Zb m (iV5 V n (n + 1)) (fu (iF5 F n (n + 1)) a 2 n) → zE (zrm 4 133 5788) B mX10_init 37 [some (.ref a)] [] (cu + 1 + 81) (su + 3 + 1040) (mk (sS5 S) (iV5 V n (n + 1)) (fu (iF5 F n (n + 1)) a 2 n))) : zE (zrm 4 133 5788) B mX10_init 26 [some (.ref a)] [] cu su (mk S V F) := by
  have han := ltS ha hn
  have lo : (S ++ [Sum.inl 5]).length = n + 1 := lnA hn rfl
  have oo : (S ++ [Sum.inl 5])[n]? = some (Sum.inl 5) := apZ hn
  have zo : Zb (n + 1) V F := Zb_u hz (by omega)
  have l1 := sS5_l hn
  have a1 : (sS5 S)[a]? = some (Sum.inl 10) := sS5_a ha
  refine z_aload_n dX10_init_26 rfl ?_
  refine y_new (N := 3) dX10_init_27 nX10_23 rfl hn hz (Nat.le_trans (Nat.le_add_right _ _) hc) (Nat.le_trans (Nat.le_add_right _ _) hs) ?_
  refine z_dup dX10_init_30 rfl ?_
  refine z_callI (ct_X5_init lo oo zo) kX10_25 dX10_init_31 rfl rfl ⟨Nat.le_of_ble_eq_true rfl, Nat.le_of_ble_eq_true rfl⟩ (Nat.le_of_ble_eq_true rfl) hc hs (fun v M h => ?_)
  obtain ⟨h1, h2, h3⟩ := h
  rw [h1, h2]
  refine y_putRF fX10_26 ⟨rfl, ffX10_26⟩ dX10_init_34 a1 (fun _ => rfl) (fun _ => rfl) ?_
  exact kk (by omega) a1 (Zb_f (Zb_u h3 (by omega)) (by omega))
def sS3 (S : List zSh) : List zSh := (((((S ++ [Sum.inl 3]) ++ [Sum.inl 8]) ++ [Sum.inr (0, 35)]) ++ [Sum.inr (0, 5)]) ++ [Sum.inr (0, 5)])
theorem sS3_l {S : List zSh} {n : Nat} (h : S.length = n) : (sS3 S).length = n + 5 := lnA (lnA (lnA (lnA (lnA (h) rfl) rfl) rfl) rfl) rfl
theorem sS3_a {S : List zSh} {a : Nat} {x : zSh} (h : S[a]? = some x) : (sS3 S)[a]? = some x := apA (apA (apA (apA (apA (h)))))
theorem sg_37 {B : zBt} {n a cu su m : Nat} {S : List zSh} {V : Nat → Int → Int} {F : Nat → Nat → Option Nat} (hn : S.length = n) (ha : S[a]? = some (Sum.inl 10)) (hz : Zb n V F) (hm : n + 5 = m) (hc : cu + 1 + 4 ≤ 133) (hs : su + 3 + 51 ≤ 5788) (kk : (sS3 S).length = m → (sS3 S)[a]? = some (Sum.inl 10) → Zb m (iV3 V n (n + 1)) (fu (iF3 F n (n + 1)) a 3 n) → zE (zrm 4 133 5788) B mX10_init 48 [some (.ref a)] [] (cu + 1 + 4) (su + 3 + 51) (mk (sS3 S) (iV3 V n (n + 1)) (fu (iF3 F n (n + 1)) a 3 n))) : zE (zrm 4 133 5788) B mX10_init 37 [some (.ref a)] [] cu su (mk S V F) := by
  have han := ltS ha hn
  have lo : (S ++ [Sum.inl 3]).length = n + 1 := lnA hn rfl
  have oo : (S ++ [Sum.inl 3])[n]? = some (Sum.inl 3) := apZ hn
  have zo : Zb (n + 1) V F := Zb_u hz (by omega)
  have l1 := sS3_l hn
  have a1 : (sS3 S)[a]? = some (Sum.inl 10) := sS3_a ha
  refine z_aload_n dX10_init_37 rfl ?_
  refine y_new (N := 3) dX10_init_38 nX10_30 rfl hn hz (Nat.le_trans (Nat.le_add_right _ _) hc) (Nat.le_trans (Nat.le_add_right _ _) hs) ?_
  refine z_dup dX10_init_41 rfl ?_
  refine z_callI (ct_X3_init lo oo zo) kX10_32 dX10_init_42 rfl rfl ⟨Nat.le_of_ble_eq_true rfl, Nat.le_of_ble_eq_true rfl⟩ (Nat.le_of_ble_eq_true rfl) hc hs (fun v M h => ?_)
  obtain ⟨h1, h2, h3⟩ := h
  rw [h1, h2]
  refine y_putRF fX10_33 ⟨rfl, ffX10_33⟩ dX10_init_45 a1 (fun _ => rfl) (fun _ => rfl) ?_
  exact kk (by omega) a1 (Zb_f (Zb_u h3 (by omega)) (by omega))
theorem sg_48 {B : zBt} {n a cu su m : Nat} {S : List zSh} {V : Nat → Int → Int} {F : Nat → Nat → Option Nat} (hn : S.length = n) (ha : S[a]? = some (Sum.inl 10)) (hz : Zb n V F) (hm : n + 5 = m) (hc : cu + 1 + 4 ≤ 133) (hs : su + 3 + 51 ≤ 5788) (kk : (sS3 S).length = m → (sS3 S)[a]? = some (Sum.inl 10) → Zb m (iV3 V n (n + 1)) (fu (iF3 F n (n + 1)) a 4 n) → zE (zrm 4 133 5788) B mX10_init 59 [some (.ref a)] [] (cu + 1 + 4) (su + 3 + 51) (mk (sS3 S) (iV3 V n (n + 1)) (fu (iF3 F n (n + 1)) a 4 n))) : zE (zrm 4 133 5788) B mX10_init 48 [some (.ref a)] [] cu su (mk S V F) := by
  have han := ltS ha hn
  have lo : (S ++ [Sum.inl 3]).length = n + 1 := lnA hn rfl
  have oo : (S ++ [Sum.inl 3])[n]? = some (Sum.inl 3) := apZ hn
  have zo : Zb (n + 1) V F := Zb_u hz (by omega)
  have l1 := sS3_l hn
  have a1 : (sS3 S)[a]? = some (Sum.inl 10) := sS3_a ha
  refine z_aload_n dX10_init_48 rfl ?_
  refine y_new (N := 3) dX10_init_49 nX10_30 rfl hn hz (Nat.le_trans (Nat.le_add_right _ _) hc) (Nat.le_trans (Nat.le_add_right _ _) hs) ?_
  refine z_dup dX10_init_52 rfl ?_
  refine z_callI (ct_X3_init lo oo zo) kX10_32 dX10_init_53 rfl rfl ⟨Nat.le_of_ble_eq_true rfl, Nat.le_of_ble_eq_true rfl⟩ (Nat.le_of_ble_eq_true rfl) hc hs (fun v M h => ?_)
  obtain ⟨h1, h2, h3⟩ := h
  rw [h1, h2]
  refine y_putRF fX10_37 ⟨rfl, ffX10_37⟩ dX10_init_56 a1 (fun _ => rfl) (fun _ => rfl) ?_
  exact kk (by omega) a1 (Zb_f (Zb_u h3 (by omega)) (by omega))
def sS1 (S : List zSh) : List zSh := (S ++ [Sum.inl 1])
theorem sS1_l {S : List zSh} {n : Nat} (h : S.length = n) : (sS1 S).length = n + 1 := lnA (h) rfl
theorem sS1_a {S : List zSh} {a : Nat} {x : zSh} (h : S[a]? = some x) : (sS1 S)[a]? = some x := apA (h)
theorem sg_59 {B : zBt} {n a cu su m : Nat} {S : List zSh} {V : Nat → Int → Int} {F : Nat → Nat → Option Nat} (hn : S.length = n) (ha : S[a]? = some (Sum.inl 10)) (hz : Zb n V F) (hm : n + 1 = m) (hc : cu + 1 + 0 ≤ 133) (hs : su + 3 + 0 ≤ 5788) (kk : (sS1 S).length = m → (sS1 S)[a]? = some (Sum.inl 10) → Zb m (iV1 V n) (fu (iF1 F n (n + 1)) a 5 n) → zE (zrm 4 133 5788) B mX10_init 70 [some (.ref a)] [] (cu + 1 + 0) (su + 3 + 0) (mk (sS1 S) (iV1 V n) (fu (iF1 F n (n + 1)) a 5 n))) : zE (zrm 4 133 5788) B mX10_init 59 [some (.ref a)] [] cu su (mk S V F) := by
  have han := ltS ha hn
  have lo : (S ++ [Sum.inl 1]).length = n + 1 := lnA hn rfl
  have oo : (S ++ [Sum.inl 1])[n]? = some (Sum.inl 1) := apZ hn
  have zo : Zb (n + 1) V F := Zb_u hz (by omega)
  have l1 := sS1_l hn
  have a1 : (sS1 S)[a]? = some (Sum.inl 10) := sS1_a ha
  refine z_aload_n dX10_init_59 rfl ?_
  refine y_new (N := 3) dX10_init_60 nX10_40 rfl hn hz (Nat.le_trans (Nat.le_add_right _ _) hc) (Nat.le_trans (Nat.le_add_right _ _) hs) ?_
  refine z_dup dX10_init_63 rfl ?_
  refine z_callI (ct_X1_init lo oo zo) kX10_42 dX10_init_64 rfl rfl ⟨Nat.le_of_ble_eq_true rfl, Nat.le_of_ble_eq_true rfl⟩ (Nat.le_of_ble_eq_true rfl) hc hs (fun v M h => ?_)
  obtain ⟨h1, h2⟩ := h
  rw [h1, h2]
  refine y_putRF fX10_43 ⟨rfl, ffX10_43⟩ dX10_init_67 a1 (fun _ => rfl) (fun _ => rfl) ?_
  exact kk (by omega) a1 (Zb_f (Zb_u (Zb_X1 zo (by omega)) (by omega)) (by omega))
def sS4_6 (S : List zSh) : List zSh := ((((S ++ [Sum.inl 4]) ++ [Sum.inr (0, 6)]) ++ [Sum.inr (0, 6)]) ++ [Sum.inr (0, 6)])
theorem sS4_6_l {S : List zSh} {n : Nat} (h : S.length = n) : (sS4_6 S).length = n + 4 := lnA (lnA (lnA (lnA (h) rfl) rfl) rfl) rfl
theorem sS4_6_a {S : List zSh} {a : Nat} {x : zSh} (h : S[a]? = some x) : (sS4_6 S)[a]? = some x := apA (apA (apA (apA (h))))
theorem sg_70 {B : zBt} {n a cu su m : Nat} {S : List zSh} {V : Nat → Int → Int} {F : Nat → Nat → Option Nat} (hn : S.length = n) (ha : S[a]? = some (Sum.inl 10)) (hz : Zb n V F) (hm : n + 4 = m) (hc : cu + 1 + 3 ≤ 133) (hs : su + 4 + 18 ≤ 5788) (kk : (sS4_6 S).length = m → (sS4_6 S)[a]? = some (Sum.inl 10) → Zb m (iV4 V n) (fu (iF4 F n (n + 1)) a 6 n) → zE (zrm 4 133 5788) B mX10_init 83 [some (.ref a)] [] (cu + 1 + 3) (su + 4 + 18) (mk (sS4_6 S) (iV4 V n) (fu (iF4 F n (n + 1)) a 6 n))) : zE (zrm 4 133 5788) B mX10_init 70 [some (.ref a)] [] cu su (mk S V F) := by
  have han := ltS ha hn
  have lo : (S ++ [Sum.inl 4]).length = n + 1 := lnA hn rfl
  have oo : (S ++ [Sum.inl 4])[n]? = some (Sum.inl 4) := apZ hn
  have zo : Zb (n + 1) V F := Zb_u hz (by omega)
  have l1 := sS4_6_l hn
  have a1 : (sS4_6 S)[a]? = some (Sum.inl 10) := sS4_6_a ha
  refine z_aload_n dX10_init_70 rfl ?_
  refine y_new (N := 4) dX10_init_71 nX10_47 rfl hn hz (Nat.le_trans (Nat.le_add_right _ _) hc) (Nat.le_trans (Nat.le_add_right _ _) hs) ?_
  refine z_dup dX10_init_74 rfl ?_
  refine y_bipush dX10_init_75 (by decide +kernel) ?_
  refine z_callI (ct_X4_init (m := 6) (by omega) lo oo zo) kX10_49 dX10_init_77 rfl rfl ⟨Nat.le_of_ble_eq_true rfl, Nat.le_of_ble_eq_true rfl⟩ (Nat.le_of_ble_eq_true rfl) hc hs (fun v M h => ?_)
  obtain ⟨h1, h2⟩ := h
  rw [h1, h2]
  refine y_putRF fX10_52 ⟨rfl, ffX10_52⟩ dX10_init_80 a1 (fun _ => rfl) (fun _ => rfl) ?_
  exact kk (by omega) a1 (Zb_f (Zb_u (Zb_X4 zo (by omega)) (by omega)) (by omega))
def sS4_15 (S : List zSh) : List zSh := ((((S ++ [Sum.inl 4]) ++ [Sum.inr (0, 15)]) ++ [Sum.inr (0, 15)]) ++ [Sum.inr (0, 15)])
theorem sS4_15_l {S : List zSh} {n : Nat} (h : S.length = n) : (sS4_15 S).length = n + 4 := lnA (lnA (lnA (lnA (h) rfl) rfl) rfl) rfl
theorem sS4_15_a {S : List zSh} {a : Nat} {x : zSh} (h : S[a]? = some x) : (sS4_15 S)[a]? = some x := apA (apA (apA (apA (h))))
theorem sg_83 {B : zBt} {n a cu su m : Nat} {S : List zSh} {V : Nat → Int → Int} {F : Nat → Nat → Option Nat} (hn : S.length = n) (ha : S[a]? = some (Sum.inl 10)) (hz : Zb n V F) (hm : n + 4 = m) (hc : cu + 1 + 3 ≤ 133) (hs : su + 4 + 45 ≤ 5788) (kk : (sS4_15 S).length = m → (sS4_15 S)[a]? = some (Sum.inl 10) → Zb m (iV4 V n) (fu (iF4 F n (n + 1)) a 7 n) → zE (zrm 4 133 5788) B mX10_init 96 [some (.ref a)] [] (cu + 1 + 3) (su + 4 + 45) (mk (sS4_15 S) (iV4 V n) (fu (iF4 F n (n + 1)) a 7 n))) : zE (zrm 4 133 5788) B mX10_init 83 [some (.ref a)] [] cu su (mk S V F) := by
  have han := ltS ha hn
  have lo : (S ++ [Sum.inl 4]).length = n + 1 := lnA hn rfl
  have oo : (S ++ [Sum.inl 4])[n]? = some (Sum.inl 4) := apZ hn
  have zo : Zb (n + 1) V F := Zb_u hz (by omega)
  have l1 := sS4_15_l hn
  have a1 : (sS4_15 S)[a]? = some (Sum.inl 10) := sS4_15_a ha
  refine z_aload_n dX10_init_83 rfl ?_
  refine y_new (N := 4) dX10_init_84 nX10_47 rfl hn hz (Nat.le_trans (Nat.le_add_right _ _) hc) (Nat.le_trans (Nat.le_add_right _ _) hs) ?_
  refine z_dup dX10_init_87 rfl ?_
  refine y_bipush dX10_init_88 (by decide +kernel) ?_
  refine z_callI (ct_X4_init (m := 15) (by omega) lo oo zo) kX10_49 dX10_init_90 rfl rfl ⟨Nat.le_of_ble_eq_true rfl, Nat.le_of_ble_eq_true rfl⟩ (Nat.le_of_ble_eq_true rfl) hc hs (fun v M h => ?_)
  obtain ⟨h1, h2⟩ := h
  rw [h1, h2]
  refine y_putRF fX10_56 ⟨rfl, ffX10_56⟩ dX10_init_93 a1 (fun _ => rfl) (fun _ => rfl) ?_
  exact kk (by omega) a1 (Zb_f (Zb_u (Zb_X4 zo (by omega)) (by omega)) (by omega))
def sS0 (S : List zSh) : List zSh := (((((S ++ [Sum.inl 0]) ++ [Sum.inr (0, 7)]) ++ [Sum.inr (0, 4)]) ++ [Sum.inr (0, 4)]) ++ [Sum.inr (0, 4)])
theorem sS0_l {S : List zSh} {n : Nat} (h : S.length = n) : (sS0 S).length = n + 5 := lnA (lnA (lnA (lnA (lnA (h) rfl) rfl) rfl) rfl) rfl
theorem sS0_a {S : List zSh} {a : Nat} {x : zSh} (h : S[a]? = some x) : (sS0 S)[a]? = some x := apA (apA (apA (apA (apA (h)))))
theorem sg_96 {B : zBt} {n a cu su m : Nat} {S : List zSh} {V : Nat → Int → Int} {F : Nat → Nat → Option Nat} (hn : S.length = n) (ha : S[a]? = some (Sum.inl 10)) (hz : Zb n V F) (hm : n + 5 = m) (hc : cu + 1 + 4 ≤ 133) (hs : su + 7 + 19 ≤ 5788) (kk : (sS0 S).length = m → (sS0 S)[a]? = some (Sum.inl 10) → Zb m (iV0 V n) (fu (iF0 F n (n + 1)) a 8 n) → zE (zrm 4 133 5788) B mX10_init 107 [some (.ref a)] [] (cu + 1 + 4) (su + 7 + 19) (mk (sS0 S) (iV0 V n) (fu (iF0 F n (n + 1)) a 8 n))) : zE (zrm 4 133 5788) B mX10_init 96 [some (.ref a)] [] cu su (mk S V F) := by
  have han := ltS ha hn
  have lo : (S ++ [Sum.inl 0]).length = n + 1 := lnA hn rfl
  have oo : (S ++ [Sum.inl 0])[n]? = some (Sum.inl 0) := apZ hn
  have zo : Zb (n + 1) V F := Zb_u hz (by omega)
  have l1 := sS0_l hn
  have a1 : (sS0 S)[a]? = some (Sum.inl 10) := sS0_a ha
  refine z_aload_n dX10_init_96 rfl ?_
  refine y_new (N := 7) dX10_init_97 nX10_59 rfl hn hz (Nat.le_trans (Nat.le_add_right _ _) hc) (Nat.le_trans (Nat.le_add_right _ _) hs) ?_
  refine z_dup dX10_init_100 rfl ?_
  refine z_callI (ct_X0_init lo oo zo) kX10_61 dX10_init_101 rfl rfl ⟨Nat.le_of_ble_eq_true rfl, Nat.le_of_ble_eq_true rfl⟩ (Nat.le_of_ble_eq_true rfl) hc hs (fun v M h => ?_)
  obtain ⟨h1, h2⟩ := h
  rw [h1, h2]
  refine y_putRF fX10_62 ⟨rfl, ffX10_62⟩ dX10_init_104 a1 (fun _ => rfl) (fun _ => rfl) ?_
  exact kk (by omega) a1 (Zb_f (Zb_u (Zb_X0 zo (by omega)) (by omega)) (by omega))
def sS6 (S : List zSh) : List zSh := (((S ++ [Sum.inl 6]) ++ [Sum.inr (0, 7)]) ++ [Sum.inr (0, 7)])
theorem sS6_l {S : List zSh} {n : Nat} (h : S.length = n) : (sS6 S).length = n + 3 := lnA (lnA (lnA (h) rfl) rfl) rfl
theorem sS6_a {S : List zSh} {a : Nat} {x : zSh} (h : S[a]? = some x) : (sS6 S)[a]? = some x := apA (apA (apA (h)))
theorem sg_107 {B : zBt} {n a cu su m : Nat} {S : List zSh} {V : Nat → Int → Int} {F : Nat → Nat → Option Nat} (hn : S.length = n) (ha : S[a]? = some (Sum.inl 10)) (hz : Zb n V F) (hm : n + 3 = m) (hc : cu + 1 + 2 ≤ 133) (hs : su + 4 + 14 ≤ 5788) (kk : (sS6 S).length = m → (sS6 S)[a]? = some (Sum.inl 10) → Zb m (iV6 V n) (fu (iF6 F n (n + 1)) a 9 n) → zE (zrm 4 133 5788) B mX10_init 118 [some (.ref a)] [] (cu + 1 + 2) (su + 4 + 14) (mk (sS6 S) (iV6 V n) (fu (iF6 F n (n + 1)) a 9 n))) : zE (zrm 4 133 5788) B mX10_init 107 [some (.ref a)] [] cu su (mk S V F) := by
  have han := ltS ha hn
  have lo : (S ++ [Sum.inl 6]).length = n + 1 := lnA hn rfl
  have oo : (S ++ [Sum.inl 6])[n]? = some (Sum.inl 6) := apZ hn
  have zo : Zb (n + 1) V F := Zb_u hz (by omega)
  have l1 := sS6_l hn
  have a1 : (sS6 S)[a]? = some (Sum.inl 10) := sS6_a ha
  refine z_aload_n dX10_init_107 rfl ?_
  refine y_new (N := 4) dX10_init_108 nX10_66 rfl hn hz (Nat.le_trans (Nat.le_add_right _ _) hc) (Nat.le_trans (Nat.le_add_right _ _) hs) ?_
  refine z_dup dX10_init_111 rfl ?_
  refine z_callI (ct_X6_init lo oo zo) kX10_68 dX10_init_112 rfl rfl ⟨Nat.le_of_ble_eq_true rfl, Nat.le_of_ble_eq_true rfl⟩ (Nat.le_of_ble_eq_true rfl) hc hs (fun v M h => ?_)
  obtain ⟨h1, h2⟩ := h
  rw [h1, h2]
  refine y_putRF fX10_69 ⟨rfl, ffX10_69⟩ dX10_init_115 a1 (fun _ => rfl) (fun _ => rfl) ?_
  exact kk (by omega) a1 (Zb_f (Zb_u (Zb_X6 zo (by omega)) (by omega)) (by omega))
def sS2 (S : List zSh) : List zSh := ((((S ++ [Sum.inl 2]) ++ [Sum.inr (0, 4096)]) ++ [Sum.inr (0, 28)]) ++ [Sum.inr (0, 7)])
theorem sS2_l {S : List zSh} {n : Nat} (h : S.length = n) : (sS2 S).length = n + 4 := lnA (lnA (lnA (lnA (h) rfl) rfl) rfl) rfl
theorem sS2_a {S : List zSh} {a : Nat} {x : zSh} (h : S[a]? = some x) : (sS2 S)[a]? = some x := apA (apA (apA (apA (h))))
theorem sg_118 {B : zBt} {n a cu su m : Nat} {S : List zSh} {V : Nat → Int → Int} {F : Nat → Nat → Option Nat} (hn : S.length = n) (ha : S[a]? = some (Sum.inl 10)) (hz : Zb n V F) (hm : n + 4 = m) (hc : cu + 1 + 3 ≤ 133) (hs : su + 3 + 4131 ≤ 5788) (kk : (sS2 S).length = m → (sS2 S)[a]? = some (Sum.inl 10) → Zb m (iV2 V n) (fu (iF2 F n (n + 1)) a 10 n) → zE (zrm 4 133 5788) B mX10_init 129 [some (.ref a)] [] (cu + 1 + 3) (su + 3 + 4131) (mk (sS2 S) (iV2 V n) (fu (iF2 F n (n + 1)) a 10 n))) : zE (zrm 4 133 5788) B mX10_init 118 [some (.ref a)] [] cu su (mk S V F) := by
  have han := ltS ha hn
  have lo : (S ++ [Sum.inl 2]).length = n + 1 := lnA hn rfl
  have oo : (S ++ [Sum.inl 2])[n]? = some (Sum.inl 2) := apZ hn
  have zo : Zb (n + 1) V F := Zb_u hz (by omega)
  have l1 := sS2_l hn
  have a1 : (sS2 S)[a]? = some (Sum.inl 10) := sS2_a ha
  refine z_aload_n dX10_init_118 rfl ?_
  refine y_new (N := 3) dX10_init_119 nX10_73 rfl hn hz (Nat.le_trans (Nat.le_add_right _ _) hc) (Nat.le_trans (Nat.le_add_right _ _) hs) ?_
  refine z_dup dX10_init_122 rfl ?_
  refine z_callI (ct_X2_init lo oo zo) kX10_75 dX10_init_123 rfl rfl ⟨Nat.le_of_ble_eq_true rfl, Nat.le_of_ble_eq_true rfl⟩ (Nat.le_of_ble_eq_true rfl) hc hs (fun v M h => ?_)
  obtain ⟨h1, h2⟩ := h
  rw [h1, h2]
  refine y_putRF fX10_76 ⟨rfl, ffX10_76⟩ dX10_init_126 a1 (fun _ => rfl) (fun _ => rfl) ?_
  exact kk (by omega) a1 (Zb_f (Zb_u (Zb_X2 zo (by omega)) (by omega)) (by omega))
def sS9 (S : List zSh) : List zSh := (((((((S ++ [Sum.inl 9]) ++ [Sum.inr (0, 4)]) ++ [Sum.inr (0, 7)]) ++ [Sum.inr (0, 7)]) ++ [Sum.inr (0, 7)]) ++ [Sum.inr (0, 7)]) ++ [Sum.inr (0, 7)])
theorem sS9_l {S : List zSh} {n : Nat} (h : S.length = n) : (sS9 S).length = n + 7 := lnA (lnA (lnA (lnA (lnA (lnA (lnA (h) rfl) rfl) rfl) rfl) rfl) rfl) rfl
theorem sS9_a {S : List zSh} {a : Nat} {x : zSh} (h : S[a]? = some x) : (sS9 S)[a]? = some x := apA (apA (apA (apA (apA (apA (apA (h)))))))
theorem sg_129 {B : zBt} {n a cu su m : Nat} {S : List zSh} {V : Nat → Int → Int} {F : Nat → Nat → Option Nat} (hn : S.length = n) (ha : S[a]? = some (Sum.inl 10)) (hz : Zb n V F) (hm : n + 7 = m) (hc : cu + 1 + 6 ≤ 133) (hs : su + 10 + 39 ≤ 5788) (kk : (sS9 S).length = m → (sS9 S)[a]? = some (Sum.inl 10) → Zb m (iV9 V n) (fu (iF9 F n (n + 1)) a 11 n) → zE (zrm 4 133 5788) B mX10_init 140 [some (.ref a)] [] (cu + 1 + 6) (su + 10 + 39) (mk (sS9 S) (iV9 V n) (fu (iF9 F n (n + 1)) a 11 n))) : zE (zrm 4 133 5788) B mX10_init 129 [some (.ref a)] [] cu su (mk S V F) := by
  have han := ltS ha hn
  have lo : (S ++ [Sum.inl 9]).length = n + 1 := lnA hn rfl
  have oo : (S ++ [Sum.inl 9])[n]? = some (Sum.inl 9) := apZ hn
  have zo : Zb (n + 1) V F := Zb_u hz (by omega)
  have l1 := sS9_l hn
  have a1 : (sS9 S)[a]? = some (Sum.inl 10) := sS9_a ha
  refine z_aload_n dX10_init_129 rfl ?_
  refine y_new (N := 10) dX10_init_130 nX10_80 rfl hn hz (Nat.le_trans (Nat.le_add_right _ _) hc) (Nat.le_trans (Nat.le_add_right _ _) hs) ?_
  refine z_dup dX10_init_133 rfl ?_
  refine z_callI (ct_X9_init lo oo zo) kX10_82 dX10_init_134 rfl rfl ⟨Nat.le_of_ble_eq_true rfl, Nat.le_of_ble_eq_true rfl⟩ (Nat.le_of_ble_eq_true rfl) hc hs (fun v M h => ?_)
  obtain ⟨h1, h2⟩ := h
  rw [h1, h2]
  refine y_putR fX10_83 dX10_init_137 a1 (fun _ => rfl) (fun _ => rfl) ?_
  exact kk (by omega) a1 (Zb_f (Zb_u (Zb_X9 zo (by omega)) (by omega)) (by omega))
theorem sg_140 {B : zBt} {n a cu su m : Nat} {S : List zSh} {V : Nat → Int → Int} {F : Nat → Nat → Option Nat} (hn : S.length = n) (ha : S[a]? = some (Sum.inl 10)) (hz : Zb n V F) (hm : n + 7 = m) (hc : cu + 1 + 6 ≤ 133) (hs : su + 10 + 39 ≤ 5788) (kk : (sS9 S).length = m → (sS9 S)[a]? = some (Sum.inl 10) → Zb m (iV9 V n) (fu (iF9 F n (n + 1)) a 12 n) → zE (zrm 4 133 5788) B mX10_init 151 [some (.ref a)] [] (cu + 1 + 6) (su + 10 + 39) (mk (sS9 S) (iV9 V n) (fu (iF9 F n (n + 1)) a 12 n))) : zE (zrm 4 133 5788) B mX10_init 140 [some (.ref a)] [] cu su (mk S V F) := by
  have han := ltS ha hn
  have lo : (S ++ [Sum.inl 9]).length = n + 1 := lnA hn rfl
  have oo : (S ++ [Sum.inl 9])[n]? = some (Sum.inl 9) := apZ hn
  have zo : Zb (n + 1) V F := Zb_u hz (by omega)
  have l1 := sS9_l hn
  have a1 : (sS9 S)[a]? = some (Sum.inl 10) := sS9_a ha
  refine z_aload_n dX10_init_140 rfl ?_
  refine y_new (N := 10) dX10_init_141 nX10_80 rfl hn hz (Nat.le_trans (Nat.le_add_right _ _) hc) (Nat.le_trans (Nat.le_add_right _ _) hs) ?_
  refine z_dup dX10_init_144 rfl ?_
  refine z_callI (ct_X9_init lo oo zo) kX10_82 dX10_init_145 rfl rfl ⟨Nat.le_of_ble_eq_true rfl, Nat.le_of_ble_eq_true rfl⟩ (Nat.le_of_ble_eq_true rfl) hc hs (fun v M h => ?_)
  obtain ⟨h1, h2⟩ := h
  rw [h1, h2]
  refine y_putR fX10_87 dX10_init_148 a1 (fun _ => rfl) (fun _ => rfl) ?_
  exact kk (by omega) a1 (Zb_f (Zb_u (Zb_X9 zo (by omega)) (by omega)) (by omega))
def iV10 (V : Nat → Int → Int) (a n : Nat) : Nat → Int → Int := vst (iV9 (iV9 (iV2 (iV6 (iV0 (iV4 (iV4 (iV1 (iV3 (iV3 (iV5 (iV8 (iV7 V n) (n + 2)) (n + 6) (n + 7)) (n + 88) (n + 89)) (n + 93) (n + 94)) (n + 98)) (n + 99)) (n + 103)) (n + 107)) (n + 112)) (n + 115)) (n + 119)) (n + 126)) a 13 0
def iF10 (F : Nat → Nat → Option Nat) (a n : Nat) : Nat → Nat → Option Nat := (fu (iF9 (fu (iF9 (fu (iF2 (fu (iF6 (fu (iF0 (fu (iF4 (fu (iF4 (fu (iF1 (fu (iF3 (fu (iF3 (fu (iF5 (fu (iF8 (fu (iF7 F n (n + 1)) a 0 n) (n + 2) (n + 3)) a 1 (n + 2)) (n + 6) (n + 7)) a 2 (n + 6)) (n + 88) (n + 89)) a 3 (n + 88)) (n + 93) (n + 94)) a 4 (n + 93)) (n + 98) (n + 99)) a 5 (n + 98)) (n + 99) (n + 100)) a 6 (n + 99)) (n + 103) (n + 104)) a 7 (n + 103)) (n + 107) (n + 108)) a 8 (n + 107)) (n + 112) (n + 113)) a 9 (n + 112)) (n + 115) (n + 116)) a 10 (n + 115)) (n + 119) (n + 120)) a 11 (n + 119)) (n + 126) (n + 127)) a 12 (n + 126))
def iS10 (S : List zSh) : List zSh := (sS9 (sS9 (sS2 (sS6 (sS0 (sS4_15 (sS4_6 (sS1 (sS3 (sS3 (sS5 (sS8 (sS7 S)))))))))))))
theorem ct_X10_init {n a : Nat} {S : List zSh} {V : Nat → Int → Int} {F : Nat → Nat → Option Nat} (hn : S.length = n) (ha : S[a]? = some (Sum.inl 10)) (hz : Zb n V F) : zC 4 133 5788 mX10_init [.ref a] (mk S V F) (fun v M => v = none ∧ M = mk (iS10 S) (iV10 V a n) (iF10 F a n) ∧ Zb (n + 133) (iV10 V a n) (iF10 F a n)) := by
  have han := ltS ha hn
  refine zC_of (by decide +kernel) (Nat.le_of_ble_eq_true rfl) rfl ?_
  refine z_aload_n dX10_init_0 rfl ?_
  refine z_objI dX10_init_1 kX10_1 wObjM wObjC (Nat.le_of_ble_eq_true rfl) (Nat.le_of_ble_eq_true rfl) ?_
  refine sg_4 (m := n + 2) hn ha hz (by omega) (Nat.le_of_ble_eq_true rfl) (Nat.le_of_ble_eq_true rfl) (fun l1 a1 z1 => ?_)
  refine sg_15 (m := n + 6) l1 a1 z1 (by omega) (Nat.le_of_ble_eq_true rfl) (Nat.le_of_ble_eq_true rfl) (fun l2 a2 z2 => ?_)
  refine sg_26 (m := n + 88) l2 a2 z2 (by omega) (Nat.le_of_ble_eq_true rfl) (Nat.le_of_ble_eq_true rfl) (fun l3 a3 z3 => ?_)
  refine sg_37 (m := n + 93) l3 a3 z3 (by omega) (Nat.le_of_ble_eq_true rfl) (Nat.le_of_ble_eq_true rfl) (fun l4 a4 z4 => ?_)
  refine sg_48 (m := n + 98) l4 a4 z4 (by omega) (Nat.le_of_ble_eq_true rfl) (Nat.le_of_ble_eq_true rfl) (fun l5 a5 z5 => ?_)
  refine sg_59 (m := n + 99) l5 a5 z5 (by omega) (Nat.le_of_ble_eq_true rfl) (Nat.le_of_ble_eq_true rfl) (fun l6 a6 z6 => ?_)
  refine sg_70 (m := n + 103) l6 a6 z6 (by omega) (Nat.le_of_ble_eq_true rfl) (Nat.le_of_ble_eq_true rfl) (fun l7 a7 z7 => ?_)
  refine sg_83 (m := n + 107) l7 a7 z7 (by omega) (Nat.le_of_ble_eq_true rfl) (Nat.le_of_ble_eq_true rfl) (fun l8 a8 z8 => ?_)
  refine sg_96 (m := n + 112) l8 a8 z8 (by omega) (Nat.le_of_ble_eq_true rfl) (Nat.le_of_ble_eq_true rfl) (fun l9 a9 z9 => ?_)
  refine sg_107 (m := n + 115) l9 a9 z9 (by omega) (Nat.le_of_ble_eq_true rfl) (Nat.le_of_ble_eq_true rfl) (fun l10 a10 z10 => ?_)
  refine sg_118 (m := n + 119) l10 a10 z10 (by omega) (Nat.le_of_ble_eq_true rfl) (Nat.le_of_ble_eq_true rfl) (fun l11 a11 z11 => ?_)
  refine sg_129 (m := n + 126) l11 a11 z11 (by omega) (Nat.le_of_ble_eq_true rfl) (Nat.le_of_ble_eq_true rfl) (fun l12 a12 z12 => ?_)
  refine sg_140 (m := n + 133) l12 a12 z12 (by omega) (Nat.le_of_ble_eq_true rfl) (Nat.le_of_ble_eq_true rfl) (fun l13 a13 z13 => ?_)
  refine z_aload_n dX10_init_151 rfl ?_
  refine y_iconst dX10_init_152 ?_
  refine y_putI (j := 13) fX10_90 dX10_init_153 rfl a13 ?_
  exact z_vret dX10_init_156 rfl (Nat.le_of_ble_eq_true rfl) (Nat.le_of_ble_eq_true rfl) ⟨rfl, rfl, Zb_v z13 (by omega)⟩

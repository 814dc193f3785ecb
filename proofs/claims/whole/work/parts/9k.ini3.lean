/-! ===== the model is made ===== -/
theorem sm_4 {B : zBt} {n a cu su m : Nat} {S : List zSh} {V : Nat → Int → Int} {F : Nat → Nat → Option Nat} (hn : S.length = n) (ha : S[a]? = some (Sum.inl 11)) (hz : Zb n V F) (hm : n + 1 = m) (hc : cu + 1 ≤ 23) (hs : su + 41 ≤ 1643) (kk : (S ++ [Sum.inr (0, 41)]).length = m → (S ++ [Sum.inr (0, 41)])[a]? = some (Sum.inl 11) → Zb m V (fu F a 0 n) → zE (zrm 2 23 1643) B mX11_init 12 [some (.ref a)] [] (cu + 1) (su + 41) (mk (S ++ [Sum.inr (0, 41)]) V (fu F a 0 n))) : zE (zrm 2 23 1643) B mX11_init 4 [some (.ref a)] [] cu su (mk S V F) := by
  have han := ltS ha hn
  have l1 : (S ++ [Sum.inr (0, 41)]).length = m := lnA hn hm
  have a1 : (S ++ [Sum.inr (0, 41)])[a]? = some (Sum.inl 11) := apA ha
  refine z_aload_n dX11_init_4 rfl ?_
  refine y_bipush dX11_init_5 (by decide +kernel) ?_
  refine y_newi (N := 41) dX11_init_7 rfl (by omega) hn hz hc hs ?_
  refine y_putRF fX11_7 ⟨rfl, ffX11_7⟩ dX11_init_9 a1 (fun _ => rfl) (fun _ => rfl) ?_
  exact kk l1 a1 (Zb_f (Zb_u hz (by omega)) (by omega))
theorem sm_12 {B : zBt} {n a cu su m : Nat} {S : List zSh} {V : Nat → Int → Int} {F : Nat → Nat → Option Nat} (hn : S.length = n) (ha : S[a]? = some (Sum.inl 11)) (hz : Zb n V F) (hm : n + 1 = m) (hc : cu + 1 ≤ 23) (hs : su + 41 ≤ 1643) (kk : (S ++ [Sum.inr (0, 41)]).length = m → (S ++ [Sum.inr (0, 41)])[a]? = some (Sum.inl 11) → Zb m V (fu F a 1 n) → zE (zrm 2 23 1643) B mX11_init 20 [some (.ref a)] [] (cu + 1) (su + 41) (mk (S ++ [Sum.inr (0, 41)]) V (fu F a 1 n))) : zE (zrm 2 23 1643) B mX11_init 12 [some (.ref a)] [] cu su (mk S V F) := by
  have han := ltS ha hn
  have l1 : (S ++ [Sum.inr (0, 41)]).length = m := lnA hn hm
  have a1 : (S ++ [Sum.inr (0, 41)])[a]? = some (Sum.inl 11) := apA ha
  refine z_aload_n dX11_init_12 rfl ?_
  refine y_bipush dX11_init_13 (by decide +kernel) ?_
  refine y_newi (N := 41) dX11_init_15 rfl (by omega) hn hz hc hs ?_
  refine y_putRF fX11_13 ⟨rfl, ffX11_13⟩ dX11_init_17 a1 (fun _ => rfl) (fun _ => rfl) ?_
  exact kk l1 a1 (Zb_f (Zb_u hz (by omega)) (by omega))
theorem sm_20 {B : zBt} {n a cu su m : Nat} {S : List zSh} {V : Nat → Int → Int} {F : Nat → Nat → Option Nat} (hn : S.length = n) (ha : S[a]? = some (Sum.inl 11)) (hz : Zb n V F) (hm : n + 1 = m) (hc : cu + 1 ≤ 23) (hs : su + 47 ≤ 1643) (kk : (S ++ [Sum.inr (0, 47)]).length = m → (S ++ [Sum.inr (0, 47)])[a]? = some (Sum.inl 11) → Zb m V (fu F a 2 n) → zE (zrm 2 23 1643) B mX11_init 28 [some (.ref a)] [] (cu + 1) (su + 47) (mk (S ++ [Sum.inr (0, 47)]) V (fu F a 2 n))) : zE (zrm 2 23 1643) B mX11_init 20 [some (.ref a)] [] cu su (mk S V F) := by
  have han := ltS ha hn
  have l1 : (S ++ [Sum.inr (0, 47)]).length = m := lnA hn hm
  have a1 : (S ++ [Sum.inr (0, 47)])[a]? = some (Sum.inl 11) := apA ha
  refine z_aload_n dX11_init_20 rfl ?_
  refine y_bipush dX11_init_21 (by decide +kernel) ?_
  refine y_newi (N := 47) dX11_init_23 rfl (by omega) hn hz hc hs ?_
  refine y_putRF fX11_16 ⟨rfl, ffX11_16⟩ dX11_init_25 a1 (fun _ => rfl) (fun _ => rfl) ?_
  exact kk l1 a1 (Zb_f (Zb_u hz (by omega)) (by omega))
theorem sm_28 {B : zBt} {n a cu su m : Nat} {S : List zSh} {V : Nat → Int → Int} {F : Nat → Nat → Option Nat} (hn : S.length = n) (ha : S[a]? = some (Sum.inl 11)) (hz : Zb n V F) (hm : n + 1 = m) (hc : cu + 1 ≤ 23) (hs : su + 940 ≤ 1643) (kk : (S ++ [Sum.inr (0, 940)]).length = m → (S ++ [Sum.inr (0, 940)])[a]? = some (Sum.inl 11) → Zb m V (fu F a 3 n) → zE (zrm 2 23 1643) B mX11_init 37 [some (.ref a)] [] (cu + 1) (su + 940) (mk (S ++ [Sum.inr (0, 940)]) V (fu F a 3 n))) : zE (zrm 2 23 1643) B mX11_init 28 [some (.ref a)] [] cu su (mk S V F) := by
  have han := ltS ha hn
  have l1 : (S ++ [Sum.inr (0, 940)]).length = m := lnA hn hm
  have a1 : (S ++ [Sum.inr (0, 940)])[a]? = some (Sum.inl 11) := apA ha
  refine z_aload_n dX11_init_28 rfl ?_
  refine y_sipush dX11_init_29 (by decide +kernel) ?_
  refine y_newi (N := 940) dX11_init_32 rfl (by omega) hn hz hc hs ?_
  refine y_putRF fX11_19 ⟨rfl, ffX11_19⟩ dX11_init_34 a1 (fun _ => rfl) (fun _ => rfl) ?_
  exact kk l1 a1 (Zb_f (Zb_u hz (by omega)) (by omega))
theorem sm_37 {B : zBt} {n a cu su m : Nat} {S : List zSh} {V : Nat → Int → Int} {F : Nat → Nat → Option Nat} (hn : S.length = n) (ha : S[a]? = some (Sum.inl 11)) (hz : Zb n V F) (hm : n + 1 = m) (hc : cu + 1 ≤ 23) (hs : su + 96 ≤ 1643) (kk : (S ++ [Sum.inr (0, 96)]).length = m → (S ++ [Sum.inr (0, 96)])[a]? = some (Sum.inl 11) → Zb m V (fu F a 5 n) → zE (zrm 2 23 1643) B mX11_init 45 [some (.ref a)] [] (cu + 1) (su + 96) (mk (S ++ [Sum.inr (0, 96)]) V (fu F a 5 n))) : zE (zrm 2 23 1643) B mX11_init 37 [some (.ref a)] [] cu su (mk S V F) := by
  have han := ltS ha hn
  have l1 : (S ++ [Sum.inr (0, 96)]).length = m := lnA hn hm
  have a1 : (S ++ [Sum.inr (0, 96)])[a]? = some (Sum.inl 11) := apA ha
  refine z_aload_n dX11_init_37 rfl ?_
  refine y_bipush dX11_init_38 (by decide +kernel) ?_
  refine y_newi (N := 96) dX11_init_40 rfl (by omega) hn hz hc hs ?_
  refine y_putRF fX11_22 ⟨rfl, ffX11_22⟩ dX11_init_42 a1 (fun _ => rfl) (fun _ => rfl) ?_
  exact kk l1 a1 (Zb_f (Zb_u hz (by omega)) (by omega))
theorem sm_45 {B : zBt} {n a cu su m : Nat} {S : List zSh} {V : Nat → Int → Int} {F : Nat → Nat → Option Nat} (hn : S.length = n) (ha : S[a]? = some (Sum.inl 11)) (hz : Zb n V F) (hm : n + 1 = m) (hc : cu + 1 ≤ 23) (hs : su + 2 ≤ 1643) (kk : (S ++ [Sum.inr (1, 2)]).length = m → (S ++ [Sum.inr (1, 2)])[a]? = some (Sum.inl 11) → Zb m V (fu F a 6 n) → zE (zrm 2 23 1643) B mX11_init 52 [some (.ref a)] [] (cu + 1) (su + 2) (mk (S ++ [Sum.inr (1, 2)]) V (fu F a 6 n))) : zE (zrm 2 23 1643) B mX11_init 45 [some (.ref a)] [] cu su (mk S V F) := by
  have han := ltS ha hn
  have l1 : (S ++ [Sum.inr (1, 2)]).length = m := lnA hn hm
  have a1 : (S ++ [Sum.inr (1, 2)])[a]? = some (Sum.inl 11) := apA ha
  refine z_aload_n dX11_init_45 rfl ?_
  refine y_iconst dX11_init_46 ?_
  refine y_newz (N := 2) dX11_init_47 rfl (by omega) hn hz hc hs ?_
  refine y_putRF fX11_25 ⟨rfl, ffX11_25⟩ dX11_init_49 a1 (fun _ => rfl) (fun _ => rfl) ?_
  exact kk l1 a1 (Zb_f (Zb_u hz (by omega)) (by omega))
theorem sm_52 {B : zBt} {n a cu su m : Nat} {S : List zSh} {V : Nat → Int → Int} {F : Nat → Nat → Option Nat} (hn : S.length = n) (ha : S[a]? = some (Sum.inl 11)) (hz : Zb n V F) (hm : n + 1 = m) (hc : cu + 1 ≤ 23) (hs : su + 230 ≤ 1643) (kk : (S ++ [Sum.inr (0, 230)]).length = m → (S ++ [Sum.inr (0, 230)])[a]? = some (Sum.inl 11) → Zb m V (fu F a 8 n) → zE (zrm 2 23 1643) B mX11_init 61 [some (.ref a)] [] (cu + 1) (su + 230) (mk (S ++ [Sum.inr (0, 230)]) V (fu F a 8 n))) : zE (zrm 2 23 1643) B mX11_init 52 [some (.ref a)] [] cu su (mk S V F) := by
  have han := ltS ha hn
  have l1 : (S ++ [Sum.inr (0, 230)]).length = m := lnA hn hm
  have a1 : (S ++ [Sum.inr (0, 230)])[a]? = some (Sum.inl 11) := apA ha
  refine z_aload_n dX11_init_52 rfl ?_
  refine y_sipush dX11_init_53 (by decide +kernel) ?_
  refine y_newi (N := 230) dX11_init_56 rfl (by omega) hn hz hc hs ?_
  refine y_putRF fX11_29 ⟨rfl, ffX11_29⟩ dX11_init_58 a1 (fun _ => rfl) (fun _ => rfl) ?_
  exact kk l1 a1 (Zb_f (Zb_u hz (by omega)) (by omega))
theorem sm_66 {B : zBt} {n a cu su m : Nat} {S : List zSh} {V : Nat → Int → Int} {F : Nat → Nat → Option Nat} (hn : S.length = n) (ha : S[a]? = some (Sum.inl 11)) (hz : Zb n V F) (hm : n + 1 = m) (hc : cu + 1 ≤ 23) (hs : su + 24 ≤ 1643) (kk : (S ++ [Sum.inr (0, 24)]).length = m → (S ++ [Sum.inr (0, 24)])[a]? = some (Sum.inl 11) → Zb m V (fu F a 11 n) → zE (zrm 2 23 1643) B mX11_init 74 [some (.ref a)] [] (cu + 1) (su + 24) (mk (S ++ [Sum.inr (0, 24)]) V (fu F a 11 n))) : zE (zrm 2 23 1643) B mX11_init 66 [some (.ref a)] [] cu su (mk S V F) := by
  have han := ltS ha hn
  have l1 : (S ++ [Sum.inr (0, 24)]).length = m := lnA hn hm
  have a1 : (S ++ [Sum.inr (0, 24)])[a]? = some (Sum.inl 11) := apA ha
  refine z_aload_n dX11_init_66 rfl ?_
  refine y_bipush dX11_init_67 (by decide +kernel) ?_
  refine y_newi (N := 24) dX11_init_69 rfl (by omega) hn hz hc hs ?_
  refine y_putRF fX11_36 ⟨rfl, ffX11_36⟩ dX11_init_71 a1 (fun _ => rfl) (fun _ => rfl) ?_
  exact kk l1 a1 (Zb_f (Zb_u hz (by omega)) (by omega))
theorem sm_74 {B : zBt} {n a cu su m : Nat} {S : List zSh} {V : Nat → Int → Int} {F : Nat → Nat → Option Nat} (hn : S.length = n) (ha : S[a]? = some (Sum.inl 11)) (hz : Zb n V F) (hm : n + 1 = m) (hc : cu + 1 ≤ 23) (hs : su + 18 ≤ 1643) (kk : (S ++ [Sum.inr (0, 18)]).length = m → (S ++ [Sum.inr (0, 18)])[a]? = some (Sum.inl 11) → Zb m V (fu F a 13 n) → zE (zrm 2 23 1643) B mX11_init 82 [some (.ref a)] [] (cu + 1) (su + 18) (mk (S ++ [Sum.inr (0, 18)]) V (fu F a 13 n))) : zE (zrm 2 23 1643) B mX11_init 74 [some (.ref a)] [] cu su (mk S V F) := by
  have han := ltS ha hn
  have l1 : (S ++ [Sum.inr (0, 18)]).length = m := lnA hn hm
  have a1 : (S ++ [Sum.inr (0, 18)])[a]? = some (Sum.inl 11) := apA ha
  refine z_aload_n dX11_init_74 rfl ?_
  refine y_bipush dX11_init_75 (by decide +kernel) ?_
  refine y_newi (N := 18) dX11_init_77 rfl (by omega) hn hz hc hs ?_
  refine y_putRF fX11_39 ⟨rfl, ffX11_39⟩ dX11_init_79 a1 (fun _ => rfl) (fun _ => rfl) ?_
  exact kk l1 a1 (Zb_f (Zb_u hz (by omega)) (by omega))
theorem sm_82 {B : zBt} {n a cu su m : Nat} {S : List zSh} {V : Nat → Int → Int} {F : Nat → Nat → Option Nat} (hn : S.length = n) (ha : S[a]? = some (Sum.inl 11)) (hz : Zb n V F) (hm : n + 1 = m) (hc : cu + 1 ≤ 23) (hs : su + 45 ≤ 1643) (kk : (S ++ [Sum.inr (0, 45)]).length = m → (S ++ [Sum.inr (0, 45)])[a]? = some (Sum.inl 11) → Zb m V (fu F a 15 n) → zE (zrm 2 23 1643) B mX11_init 90 [some (.ref a)] [] (cu + 1) (su + 45) (mk (S ++ [Sum.inr (0, 45)]) V (fu F a 15 n))) : zE (zrm 2 23 1643) B mX11_init 82 [some (.ref a)] [] cu su (mk S V F) := by
  have han := ltS ha hn
  have l1 : (S ++ [Sum.inr (0, 45)]).length = m := lnA hn hm
  have a1 : (S ++ [Sum.inr (0, 45)])[a]? = some (Sum.inl 11) := apA ha
  refine z_aload_n dX11_init_82 rfl ?_
  refine y_bipush dX11_init_83 (by decide +kernel) ?_
  refine y_newi (N := 45) dX11_init_85 rfl (by omega) hn hz hc hs ?_
  refine y_putRF fX11_42 ⟨rfl, ffX11_42⟩ dX11_init_87 a1 (fun _ => rfl) (fun _ => rfl) ?_
  exact kk l1 a1 (Zb_f (Zb_u hz (by omega)) (by omega))
theorem sm_90 {B : zBt} {n a cu su m : Nat} {S : List zSh} {V : Nat → Int → Int} {F : Nat → Nat → Option Nat} (hn : S.length = n) (ha : S[a]? = some (Sum.inl 11)) (hz : Zb n V F) (hm : n + 1 = m) (hc : cu + 1 ≤ 23) (hs : su + 7 ≤ 1643) (kk : (S ++ [Sum.inr (0, 7)]).length = m → (S ++ [Sum.inr (0, 7)])[a]? = some (Sum.inl 11) → Zb m V (fu F a 23 n) → zE (zrm 2 23 1643) B mX11_init 98 [some (.ref a)] [] (cu + 1) (su + 7) (mk (S ++ [Sum.inr (0, 7)]) V (fu F a 23 n))) : zE (zrm 2 23 1643) B mX11_init 90 [some (.ref a)] [] cu su (mk S V F) := by
  have han := ltS ha hn
  have l1 : (S ++ [Sum.inr (0, 7)]).length = m := lnA hn hm
  have a1 : (S ++ [Sum.inr (0, 7)])[a]? = some (Sum.inl 11) := apA ha
  refine z_aload_n dX11_init_90 rfl ?_
  refine y_bipush dX11_init_91 (by decide +kernel) ?_
  refine y_newi (N := 7) dX11_init_93 rfl (by omega) hn hz hc hs ?_
  refine y_putRF fX11_45 ⟨rfl, ffX11_45⟩ dX11_init_95 a1 (fun _ => rfl) (fun _ => rfl) ?_
  exact kk l1 a1 (Zb_f (Zb_u hz (by omega)) (by omega))
theorem sm_98 {B : zBt} {n a cu su m : Nat} {S : List zSh} {V : Nat → Int → Int} {F : Nat → Nat → Option Nat} (hn : S.length = n) (ha : S[a]? = some (Sum.inl 11)) (hz : Zb n V F) (hm : n + 1 = m) (hc : cu + 1 ≤ 23) (hs : su + 7 ≤ 1643) (kk : (S ++ [Sum.inr (0, 7)]).length = m → (S ++ [Sum.inr (0, 7)])[a]? = some (Sum.inl 11) → Zb m V (fu F a 24 n) → zE (zrm 2 23 1643) B mX11_init 106 [some (.ref a)] [] (cu + 1) (su + 7) (mk (S ++ [Sum.inr (0, 7)]) V (fu F a 24 n))) : zE (zrm 2 23 1643) B mX11_init 98 [some (.ref a)] [] cu su (mk S V F) := by
  have han := ltS ha hn
  have l1 : (S ++ [Sum.inr (0, 7)]).length = m := lnA hn hm
  have a1 : (S ++ [Sum.inr (0, 7)])[a]? = some (Sum.inl 11) := apA ha
  refine z_aload_n dX11_init_98 rfl ?_
  refine y_bipush dX11_init_99 (by decide +kernel) ?_
  refine y_newi (N := 7) dX11_init_101 rfl (by omega) hn hz hc hs ?_
  refine y_putRF fX11_48 ⟨rfl, ffX11_48⟩ dX11_init_103 a1 (fun _ => rfl) (fun _ => rfl) ?_
  exact kk l1 a1 (Zb_f (Zb_u hz (by omega)) (by omega))
theorem sm_106 {B : zBt} {n a cu su m : Nat} {S : List zSh} {V : Nat → Int → Int} {F : Nat → Nat → Option Nat} (hn : S.length = n) (ha : S[a]? = some (Sum.inl 11)) (hz : Zb n V F) (hm : n + 1 = m) (hc : cu + 1 ≤ 23) (hs : su + 4 ≤ 1643) (kk : (S ++ [Sum.inr (0, 4)]).length = m → (S ++ [Sum.inr (0, 4)])[a]? = some (Sum.inl 11) → Zb m V (fu F a 25 n) → zE (zrm 2 23 1643) B mX11_init 113 [some (.ref a)] [] (cu + 1) (su + 4) (mk (S ++ [Sum.inr (0, 4)]) V (fu F a 25 n))) : zE (zrm 2 23 1643) B mX11_init 106 [some (.ref a)] [] cu su (mk S V F) := by
  have han := ltS ha hn
  have l1 : (S ++ [Sum.inr (0, 4)]).length = m := lnA hn hm
  have a1 : (S ++ [Sum.inr (0, 4)])[a]? = some (Sum.inl 11) := apA ha
  refine z_aload_n dX11_init_106 rfl ?_
  refine y_iconst dX11_init_107 ?_
  refine y_newi (N := 4) dX11_init_108 rfl (by omega) hn hz hc hs ?_
  refine y_putRF fX11_51 ⟨rfl, ffX11_51⟩ dX11_init_110 a1 (fun _ => rfl) (fun _ => rfl) ?_
  exact kk l1 a1 (Zb_f (Zb_u hz (by omega)) (by omega))
theorem sm_113 {B : zBt} {n a cu su m : Nat} {S : List zSh} {V : Nat → Int → Int} {F : Nat → Nat → Option Nat} (hn : S.length = n) (ha : S[a]? = some (Sum.inl 11)) (hz : Zb n V F) (hm : n + 1 = m) (hc : cu + 1 ≤ 23) (hs : su + 4 ≤ 1643) (kk : (S ++ [Sum.inr (0, 4)]).length = m → (S ++ [Sum.inr (0, 4)])[a]? = some (Sum.inl 11) → Zb m V (fu F a 26 n) → zE (zrm 2 23 1643) B mX11_init 120 [some (.ref a)] [] (cu + 1) (su + 4) (mk (S ++ [Sum.inr (0, 4)]) V (fu F a 26 n))) : zE (zrm 2 23 1643) B mX11_init 113 [some (.ref a)] [] cu su (mk S V F) := by
  have han := ltS ha hn
  have l1 : (S ++ [Sum.inr (0, 4)]).length = m := lnA hn hm
  have a1 : (S ++ [Sum.inr (0, 4)])[a]? = some (Sum.inl 11) := apA ha
  refine z_aload_n dX11_init_113 rfl ?_
  refine y_iconst dX11_init_114 ?_
  refine y_newi (N := 4) dX11_init_115 rfl (by omega) hn hz hc hs ?_
  refine y_putRF fX11_54 ⟨rfl, ffX11_54⟩ dX11_init_117 a1 (fun _ => rfl) (fun _ => rfl) ?_
  exact kk l1 a1 (Zb_f (Zb_u hz (by omega)) (by omega))
theorem sm_120 {B : zBt} {n a cu su m : Nat} {S : List zSh} {V : Nat → Int → Int} {F : Nat → Nat → Option Nat} (hn : S.length = n) (ha : S[a]? = some (Sum.inl 11)) (hz : Zb n V F) (hm : n + 1 = m) (hc : cu + 1 ≤ 23) (hs : su + 7 ≤ 1643) (kk : (S ++ [Sum.inr (0, 7)]).length = m → (S ++ [Sum.inr (0, 7)])[a]? = some (Sum.inl 11) → Zb m V (fu F a 27 n) → zE (zrm 2 23 1643) B mX11_init 128 [some (.ref a)] [] (cu + 1) (su + 7) (mk (S ++ [Sum.inr (0, 7)]) V (fu F a 27 n))) : zE (zrm 2 23 1643) B mX11_init 120 [some (.ref a)] [] cu su (mk S V F) := by
  have han := ltS ha hn
  have l1 : (S ++ [Sum.inr (0, 7)]).length = m := lnA hn hm
  have a1 : (S ++ [Sum.inr (0, 7)])[a]? = some (Sum.inl 11) := apA ha
  refine z_aload_n dX11_init_120 rfl ?_
  refine y_bipush dX11_init_121 (by decide +kernel) ?_
  refine y_newi (N := 7) dX11_init_123 rfl (by omega) hn hz hc hs ?_
  refine y_putRF fX11_57 ⟨rfl, ffX11_57⟩ dX11_init_125 a1 (fun _ => rfl) (fun _ => rfl) ?_
  exact kk l1 a1 (Zb_f (Zb_u hz (by omega)) (by omega))
theorem sm_128 {B : zBt} {n a cu su m : Nat} {S : List zSh} {V : Nat → Int → Int} {F : Nat → Nat → Option Nat} (hn : S.length = n) (ha : S[a]? = some (Sum.inl 11)) (hz : Zb n V F) (hm : n + 1 = m) (hc : cu + 1 ≤ 23) (hs : su + 7 ≤ 1643) (kk : (S ++ [Sum.inr (0, 7)]).length = m → (S ++ [Sum.inr (0, 7)])[a]? = some (Sum.inl 11) → Zb m V (fu F a 28 n) → zE (zrm 2 23 1643) B mX11_init 136 [some (.ref a)] [] (cu + 1) (su + 7) (mk (S ++ [Sum.inr (0, 7)]) V (fu F a 28 n))) : zE (zrm 2 23 1643) B mX11_init 128 [some (.ref a)] [] cu su (mk S V F) := by
  have han := ltS ha hn
  have l1 : (S ++ [Sum.inr (0, 7)]).length = m := lnA hn hm
  have a1 : (S ++ [Sum.inr (0, 7)])[a]? = some (Sum.inl 11) := apA ha
  refine z_aload_n dX11_init_128 rfl ?_
  refine y_bipush dX11_init_129 (by decide +kernel) ?_
  refine y_newi (N := 7) dX11_init_131 rfl (by omega) hn hz hc hs ?_
  refine y_putRF fX11_60 ⟨rfl, ffX11_60⟩ dX11_init_133 a1 (fun _ => rfl) (fun _ => rfl) ?_
  exact kk l1 a1 (Zb_f (Zb_u hz (by omega)) (by omega))
theorem sm_136 {B : zBt} {n a cu su m : Nat} {S : List zSh} {V : Nat → Int → Int} {F : Nat → Nat → Option Nat} (hn : S.length = n) (ha : S[a]? = some (Sum.inl 11)) (hz : Zb n V F) (hm : n + 1 = m) (hc : cu + 1 ≤ 23) (hs : su + 7 ≤ 1643) (kk : (S ++ [Sum.inr (0, 7)]).length = m → (S ++ [Sum.inr (0, 7)])[a]? = some (Sum.inl 11) → Zb m V (fu F a 29 n) → zE (zrm 2 23 1643) B mX11_init 144 [some (.ref a)] [] (cu + 1) (su + 7) (mk (S ++ [Sum.inr (0, 7)]) V (fu F a 29 n))) : zE (zrm 2 23 1643) B mX11_init 136 [some (.ref a)] [] cu su (mk S V F) := by
  have han := ltS ha hn
  have l1 : (S ++ [Sum.inr (0, 7)]).length = m := lnA hn hm
  have a1 : (S ++ [Sum.inr (0, 7)])[a]? = some (Sum.inl 11) := apA ha
  refine z_aload_n dX11_init_136 rfl ?_
  refine y_bipush dX11_init_137 (by decide +kernel) ?_
  refine y_newi (N := 7) dX11_init_139 rfl (by omega) hn hz hc hs ?_
  refine y_putRF fX11_63 ⟨rfl, ffX11_63⟩ dX11_init_141 a1 (fun _ => rfl) (fun _ => rfl) ?_
  exact kk l1 a1 (Zb_f (Zb_u hz (by omega)) (by omega))
theorem sm_144 {B : zBt} {n a cu su m : Nat} {S : List zSh} {V : Nat → Int → Int} {F : Nat → Nat → Option Nat} (hn : S.length = n) (ha : S[a]? = some (Sum.inl 11)) (hz : Zb n V F) (hm : n + 1 = m) (hc : cu + 1 ≤ 23) (hs : su + 32 ≤ 1643) (kk : (S ++ [Sum.inr (0, 32)]).length = m → (S ++ [Sum.inr (0, 32)])[a]? = some (Sum.inl 11) → Zb m V (fu F a 30 n) → zE (zrm 2 23 1643) B mX11_init 152 [some (.ref a)] [] (cu + 1) (su + 32) (mk (S ++ [Sum.inr (0, 32)]) V (fu F a 30 n))) : zE (zrm 2 23 1643) B mX11_init 144 [some (.ref a)] [] cu su (mk S V F) := by
  have han := ltS ha hn
  have l1 : (S ++ [Sum.inr (0, 32)]).length = m := lnA hn hm
  have a1 : (S ++ [Sum.inr (0, 32)])[a]? = some (Sum.inl 11) := apA ha
  refine z_aload_n dX11_init_144 rfl ?_
  refine y_bipush dX11_init_145 (by decide +kernel) ?_
  refine y_newi (N := 32) dX11_init_147 rfl (by omega) hn hz hc hs ?_
  refine y_putRF fX11_66 ⟨rfl, ffX11_66⟩ dX11_init_149 a1 (fun _ => rfl) (fun _ => rfl) ?_
  exact kk l1 a1 (Zb_f (Zb_u hz (by omega)) (by omega))
theorem sm_152 {B : zBt} {n a cu su m : Nat} {S : List zSh} {V : Nat → Int → Int} {F : Nat → Nat → Option Nat} (hn : S.length = n) (ha : S[a]? = some (Sum.inl 11)) (hz : Zb n V F) (hm : n + 1 = m) (hc : cu + 1 ≤ 23) (hs : su + 32 ≤ 1643) (kk : (S ++ [Sum.inr (0, 32)]).length = m → (S ++ [Sum.inr (0, 32)])[a]? = some (Sum.inl 11) → Zb m V (fu F a 31 n) → zE (zrm 2 23 1643) B mX11_init 160 [some (.ref a)] [] (cu + 1) (su + 32) (mk (S ++ [Sum.inr (0, 32)]) V (fu F a 31 n))) : zE (zrm 2 23 1643) B mX11_init 152 [some (.ref a)] [] cu su (mk S V F) := by
  have han := ltS ha hn
  have l1 : (S ++ [Sum.inr (0, 32)]).length = m := lnA hn hm
  have a1 : (S ++ [Sum.inr (0, 32)])[a]? = some (Sum.inl 11) := apA ha
  refine z_aload_n dX11_init_152 rfl ?_
  refine y_bipush dX11_init_153 (by decide +kernel) ?_
  refine y_newi (N := 32) dX11_init_155 rfl (by omega) hn hz hc hs ?_
  refine y_putRF fX11_69 ⟨rfl, ffX11_69⟩ dX11_init_157 a1 (fun _ => rfl) (fun _ => rfl) ?_
  exact kk l1 a1 (Zb_f (Zb_u hz (by omega)) (by omega))
theorem sm_160 {B : zBt} {n a cu su m : Nat} {S : List zSh} {V : Nat → Int → Int} {F : Nat → Nat → Option Nat} (hn : S.length = n) (ha : S[a]? = some (Sum.inl 11)) (hz : Zb n V F) (hm : n + 1 = m) (hc : cu + 1 ≤ 23) (hs : su + 8 ≤ 1643) (kk : (S ++ [Sum.inr (0, 8)]).length = m → (S ++ [Sum.inr (0, 8)])[a]? = some (Sum.inl 11) → Zb m V (fu F a 32 n) → zE (zrm 2 23 1643) B mX11_init 168 [some (.ref a)] [] (cu + 1) (su + 8) (mk (S ++ [Sum.inr (0, 8)]) V (fu F a 32 n))) : zE (zrm 2 23 1643) B mX11_init 160 [some (.ref a)] [] cu su (mk S V F) := by
  have han := ltS ha hn
  have l1 : (S ++ [Sum.inr (0, 8)]).length = m := lnA hn hm
  have a1 : (S ++ [Sum.inr (0, 8)])[a]? = some (Sum.inl 11) := apA ha
  refine z_aload_n dX11_init_160 rfl ?_
  refine y_bipush dX11_init_161 (by decide +kernel) ?_
  refine y_newi (N := 8) dX11_init_163 rfl (by omega) hn hz hc hs ?_
  refine y_putRF fX11_72 ⟨rfl, ffX11_72⟩ dX11_init_165 a1 (fun _ => rfl) (fun _ => rfl) ?_
  exact kk l1 a1 (Zb_f (Zb_u hz (by omega)) (by omega))
theorem sm_168 {B : zBt} {n a cu su m : Nat} {S : List zSh} {V : Nat → Int → Int} {F : Nat → Nat → Option Nat} (hn : S.length = n) (ha : S[a]? = some (Sum.inl 11)) (hz : Zb n V F) (hm : n + 1 = m) (hc : cu + 1 ≤ 23) (hs : su + 8 ≤ 1643) (kk : (S ++ [Sum.inr (0, 8)]).length = m → (S ++ [Sum.inr (0, 8)])[a]? = some (Sum.inl 11) → Zb m V (fu F a 33 n) → zE (zrm 2 23 1643) B mX11_init 176 [some (.ref a)] [] (cu + 1) (su + 8) (mk (S ++ [Sum.inr (0, 8)]) V (fu F a 33 n))) : zE (zrm 2 23 1643) B mX11_init 168 [some (.ref a)] [] cu su (mk S V F) := by
  have han := ltS ha hn
  have l1 : (S ++ [Sum.inr (0, 8)]).length = m := lnA hn hm
  have a1 : (S ++ [Sum.inr (0, 8)])[a]? = some (Sum.inl 11) := apA ha
  refine z_aload_n dX11_init_168 rfl ?_
  refine y_bipush dX11_init_169 (by decide +kernel) ?_
  refine y_newi (N := 8) dX11_init_171 rfl (by omega) hn hz hc hs ?_
  refine y_putRF fX11_75 ⟨rfl, ffX11_75⟩ dX11_init_173 a1 (fun _ => rfl) (fun _ => rfl) ?_
  exact kk l1 a1 (Zb_f (Zb_u hz (by omega)) (by omega))
theorem sm_176 {B : zBt} {n a cu su m : Nat} {S : List zSh} {V : Nat → Int → Int} {F : Nat → Nat → Option Nat} (hn : S.length = n) (ha : S[a]? = some (Sum.inl 11)) (hz : Zb n V F) (hm : n + 1 = m) (hc : cu + 1 ≤ 23) (hs : su + 8 ≤ 1643) (kk : (S ++ [Sum.inr (0, 8)]).length = m → (S ++ [Sum.inr (0, 8)])[a]? = some (Sum.inl 11) → Zb m V (fu F a 34 n) → zE (zrm 2 23 1643) B mX11_init 184 [some (.ref a)] [] (cu + 1) (su + 8) (mk (S ++ [Sum.inr (0, 8)]) V (fu F a 34 n))) : zE (zrm 2 23 1643) B mX11_init 176 [some (.ref a)] [] cu su (mk S V F) := by
  have han := ltS ha hn
  have l1 : (S ++ [Sum.inr (0, 8)]).length = m := lnA hn hm
  have a1 : (S ++ [Sum.inr (0, 8)])[a]? = some (Sum.inl 11) := apA ha
  refine z_aload_n dX11_init_176 rfl ?_
  refine y_bipush dX11_init_177 (by decide +kernel) ?_
  refine y_newi (N := 8) dX11_init_179 rfl (by omega) hn hz hc hs ?_
  refine y_putRF fX11_78 ⟨rfl, ffX11_78⟩ dX11_init_181 a1 (fun _ => rfl) (fun _ => rfl) ?_
  exact kk l1 a1 (Zb_f (Zb_u hz (by omega)) (by omega))
theorem sm_184 {B : zBt} {n a cu su m : Nat} {S : List zSh} {V : Nat → Int → Int} {F : Nat → Nat → Option Nat} (hn : S.length = n) (ha : S[a]? = some (Sum.inl 11)) (hz : Zb n V F) (hm : n + 1 = m) (hc : cu + 1 ≤ 23) (hs : su + 28 ≤ 1643) (kk : (S ++ [Sum.inr (0, 28)]).length = m → (S ++ [Sum.inr (0, 28)])[a]? = some (Sum.inl 11) → Zb m V (fu F a 35 n) → zE (zrm 2 23 1643) B mX11_init 192 [some (.ref a)] [] (cu + 1) (su + 28) (mk (S ++ [Sum.inr (0, 28)]) V (fu F a 35 n))) : zE (zrm 2 23 1643) B mX11_init 184 [some (.ref a)] [] cu su (mk S V F) := by
  have han := ltS ha hn
  have l1 : (S ++ [Sum.inr (0, 28)]).length = m := lnA hn hm
  have a1 : (S ++ [Sum.inr (0, 28)])[a]? = some (Sum.inl 11) := apA ha
  refine z_aload_n dX11_init_184 rfl ?_
  refine y_bipush dX11_init_185 (by decide +kernel) ?_
  refine y_newi (N := 28) dX11_init_187 rfl (by omega) hn hz hc hs ?_
  refine y_putRF fX11_81 ⟨rfl, ffX11_81⟩ dX11_init_189 a1 (fun _ => rfl) (fun _ => rfl) ?_
  exact kk l1 a1 (Zb_f (Zb_u hz (by omega)) (by omega))
def iS11 (S : List zSh) : List zSh := (((((((((((((((((((((((S ++ [Sum.inr (0, 41)]) ++ [Sum.inr (0, 41)]) ++ [Sum.inr (0, 47)]) ++ [Sum.inr (0, 940)]) ++ [Sum.inr (0, 96)]) ++ [Sum.inr (1, 2)]) ++ [Sum.inr (0, 230)]) ++ [Sum.inr (0, 24)]) ++ [Sum.inr (0, 18)]) ++ [Sum.inr (0, 45)]) ++ [Sum.inr (0, 7)]) ++ [Sum.inr (0, 7)]) ++ [Sum.inr (0, 4)]) ++ [Sum.inr (0, 4)]) ++ [Sum.inr (0, 7)]) ++ [Sum.inr (0, 7)]) ++ [Sum.inr (0, 7)]) ++ [Sum.inr (0, 32)]) ++ [Sum.inr (0, 32)]) ++ [Sum.inr (0, 8)]) ++ [Sum.inr (0, 8)]) ++ [Sum.inr (0, 8)]) ++ [Sum.inr (0, 28)])
def iV11 (V : Nat → Int → Int) (a : Nat) : Nat → Int → Int := (vst V a 10 (-1))
def iF11 (F : Nat → Nat → Option Nat) (a n : Nat) : Nat → Nat → Option Nat := (fu (fu (fu (fu (fu (fu (fu (fu (fu (fu (fu (fu (fu (fu (fu (fu (fu (fu (fu (fu (fu (fu (fu F a 0 n) a 1 (n + 1)) a 2 (n + 2)) a 3 (n + 3)) a 5 (n + 4)) a 6 (n + 5)) a 8 (n + 6)) a 11 (n + 7)) a 13 (n + 8)) a 15 (n + 9)) a 23 (n + 10)) a 24 (n + 11)) a 25 (n + 12)) a 26 (n + 13)) a 27 (n + 14)) a 28 (n + 15)) a 29 (n + 16)) a 30 (n + 17)) a 31 (n + 18)) a 32 (n + 19)) a 33 (n + 20)) a 34 (n + 21)) a 35 (n + 22))
theorem X11_mid {B : zBt} {n a : Nat} {S : List zSh} {V : Nat → Int → Int} {F : Nat → Nat → Option Nat} (hn : S.length = n) (ha : S[a]? = some (Sum.inl 11)) (hz : Zb n V F) (kk : zE (zrm 2 23 1643) B mX11_init 192 [some (.ref a)] [] 23 1643 (mk (iS11 S) (iV11 V a) (iF11 F a n))) : zE (zrm 2 23 1643) B mX11_init 0 [some (.ref a)] [] 0 0 (mk S V F) := by
  have han := ltS ha hn
  refine z_aload_n dX11_init_0 rfl ?_
  refine z_objI dX11_init_1 kX11_1 wObjM wObjC (Nat.le_of_ble_eq_true rfl) (Nat.le_of_ble_eq_true rfl) ?_
  refine sm_4 (m := n + 1) hn ha hz (by omega) (Nat.le_of_ble_eq_true rfl) (Nat.le_of_ble_eq_true rfl) (fun l1 a1 z1 => ?_)
  refine sm_12 (m := n + 2) l1 a1 z1 (by omega) (Nat.le_of_ble_eq_true rfl) (Nat.le_of_ble_eq_true rfl) (fun l2 a2 z2 => ?_)
  refine sm_20 (m := n + 3) l2 a2 z2 (by omega) (Nat.le_of_ble_eq_true rfl) (Nat.le_of_ble_eq_true rfl) (fun l3 a3 z3 => ?_)
  refine sm_28 (m := n + 4) l3 a3 z3 (by omega) (Nat.le_of_ble_eq_true rfl) (Nat.le_of_ble_eq_true rfl) (fun l4 a4 z4 => ?_)
  refine sm_37 (m := n + 5) l4 a4 z4 (by omega) (Nat.le_of_ble_eq_true rfl) (Nat.le_of_ble_eq_true rfl) (fun l5 a5 z5 => ?_)
  refine sm_45 (m := n + 6) l5 a5 z5 (by omega) (Nat.le_of_ble_eq_true rfl) (Nat.le_of_ble_eq_true rfl) (fun l6 a6 z6 => ?_)
  refine sm_52 (m := n + 7) l6 a6 z6 (by omega) (Nat.le_of_ble_eq_true rfl) (Nat.le_of_ble_eq_true rfl) (fun l7 a7 z7 => ?_)
  refine z_aload_n dX11_init_61 rfl ?_
  refine y_iconst dX11_init_62 ?_
  refine y_putI (j := 10) fX11_32 dX11_init_63 rfl a7 ?_
  have z8 := Zb_v (j := 10) (x := -1) z7 (show a < n + 7 by omega)
  refine sm_66 (m := n + 8) l7 a7 z8 (by omega) (Nat.le_of_ble_eq_true rfl) (Nat.le_of_ble_eq_true rfl) (fun l9 a9 z9 => ?_)
  refine sm_74 (m := n + 9) l9 a9 z9 (by omega) (Nat.le_of_ble_eq_true rfl) (Nat.le_of_ble_eq_true rfl) (fun l10 a10 z10 => ?_)
  refine sm_82 (m := n + 10) l10 a10 z10 (by omega) (Nat.le_of_ble_eq_true rfl) (Nat.le_of_ble_eq_true rfl) (fun l11 a11 z11 => ?_)
  refine sm_90 (m := n + 11) l11 a11 z11 (by omega) (Nat.le_of_ble_eq_true rfl) (Nat.le_of_ble_eq_true rfl) (fun l12 a12 z12 => ?_)
  refine sm_98 (m := n + 12) l12 a12 z12 (by omega) (Nat.le_of_ble_eq_true rfl) (Nat.le_of_ble_eq_true rfl) (fun l13 a13 z13 => ?_)
  refine sm_106 (m := n + 13) l13 a13 z13 (by omega) (Nat.le_of_ble_eq_true rfl) (Nat.le_of_ble_eq_true rfl) (fun l14 a14 z14 => ?_)
  refine sm_113 (m := n + 14) l14 a14 z14 (by omega) (Nat.le_of_ble_eq_true rfl) (Nat.le_of_ble_eq_true rfl) (fun l15 a15 z15 => ?_)
  refine sm_120 (m := n + 15) l15 a15 z15 (by omega) (Nat.le_of_ble_eq_true rfl) (Nat.le_of_ble_eq_true rfl) (fun l16 a16 z16 => ?_)
  refine sm_128 (m := n + 16) l16 a16 z16 (by omega) (Nat.le_of_ble_eq_true rfl) (Nat.le_of_ble_eq_true rfl) (fun l17 a17 z17 => ?_)
  refine sm_136 (m := n + 17) l17 a17 z17 (by omega) (Nat.le_of_ble_eq_true rfl) (Nat.le_of_ble_eq_true rfl) (fun l18 a18 z18 => ?_)
  refine sm_144 (m := n + 18) l18 a18 z18 (by omega) (Nat.le_of_ble_eq_true rfl) (Nat.le_of_ble_eq_true rfl) (fun l19 a19 z19 => ?_)
  refine sm_152 (m := n + 19) l19 a19 z19 (by omega) (Nat.le_of_ble_eq_true rfl) (Nat.le_of_ble_eq_true rfl) (fun l20 a20 z20 => ?_)
  refine sm_160 (m := n + 20) l20 a20 z20 (by omega) (Nat.le_of_ble_eq_true rfl) (Nat.le_of_ble_eq_true rfl) (fun l21 a21 z21 => ?_)
  refine sm_168 (m := n + 21) l21 a21 z21 (by omega) (Nat.le_of_ble_eq_true rfl) (Nat.le_of_ble_eq_true rfl) (fun l22 a22 z22 => ?_)
  refine sm_176 (m := n + 22) l22 a22 z22 (by omega) (Nat.le_of_ble_eq_true rfl) (Nat.le_of_ble_eq_true rfl) (fun l23 a23 z23 => ?_)
  refine sm_184 (m := n + 23) l23 a23 z23 (by omega) (Nat.le_of_ble_eq_true rfl) (Nat.le_of_ble_eq_true rfl) (fun l24 a24 z24 => ?_)
  exact kk

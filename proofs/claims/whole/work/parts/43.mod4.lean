/-! ===== GrudgeYardModel: drift, couplings, chalk, book ===== -/
section
variable {V : Nat → Int → Int} {b : Bool}
/-- now after one step by draws -/
def mdr1 (Y N : Int → Int) (r : Int) : Int → Int := if N 0 = 0 then pulN N r else if 1 ≤ N 0 ∧ N (8 + r) + 1 ≤ Y (1 + r) then cutN Y N 1 r else N
def mds1 (V : Nat → Int → Int) : Nat → Int → Int := zup (vst V 134 7 (sdN (V 134 7))) 137 (mdr1 (V 135) (V 137) (drN (sdN (V 134 7)) (V 135 0)))
def mdf : Nat → (Nat → Int → Int) → Nat → Int → Int
  | 0, V => V
  | n + 1, V => mdf n (mds1 V)
def totN (N : Int → Int) : Int := N 0 + N 8 + N 9 + N 10 + N 11
/-- what a walk by draws needs and keeps -/
def MI (m : Int) (V : Nat → Int → Int) : Prop := MS V ∧ NS V ∧ totN (V 137) ≤ 7 ∧ (-1 ≤ V 137 46 ∧ V 137 46 ≤ 66) ∧ (0 ≤ V 137 44 ∧ V 137 44 ≤ m) ∧ (0 ≤ V 137 45 ∧ V 137 45 ≤ m) ∧ (0 ≤ V 134 7 ∧ V 134 7 ≤ 2147483647)
theorem totN_h7 (hN : NS V) (ht : totN (V 137) ≤ 7) : ∀ r, 0 ≤ r → r < 4 → V 137 0 + V 137 (8 + r) ≤ 7 := by
  intro r h1 h2
  obtain ⟨n0, n1, -⟩ := hN
  have c0 := n1 0 (by omega) (by omega)
  have c1 := n1 1 (by omega) (by omega)
  have c2 := n1 2 (by omega) (by omega)
  have c3 := n1 3 (by omega) (by omega)
  unfold totN at ht
  simp only [Int.reduceAdd] at c0 c1 c2 c3
  rcases (show r = 0 ∨ r = 1 ∨ r = 2 ∨ r = 3 by omega) with rfl | rfl | rfl | rfl <;> simp only [Int.reduceAdd] <;> omega
theorem cutN_0 (Y N : Int → Int) (k r : Int) : cutN Y N k r 0 = N 0 - k := by unfold cutN L2; rw [iup_n (by decide), iup_n (by decide), if_pos rfl]
theorem cutN_h {Y N : Int → Int} {k r i : Int} (h : 0 ≤ i ∧ i < N 0 - k) (h0 : N 0 ≤ 7) (hk : 0 ≤ k) : cutN Y N k r (1 + i) = N (1 + i + k) := by
  unfold cutN L2
  rw [iup_n (by omega), iup_n (by omega), if_neg (by omega), if_pos (by omega)]
theorem cutN_8 {Y N : Int → Int} {k r : Int} (hr : 0 ≤ r ∧ r ≤ 3) (hk : 0 ≤ k) (h0 : N 0 ≤ 7) : cutN Y N k r (8 + r) = N (8 + r) + k := by
  unfold cutN L2 L1
  rw [iup_n (by omega), iup_n (by omega), if_neg (by omega), if_neg (by omega), if_pos rfl]
  omega
theorem cutN_8o {Y N : Int → Int} {k r s : Int} (hr : 0 ≤ r ∧ r ≤ 3) (hs : 0 ≤ s ∧ s ≤ 3) (hsr : s ≠ r) (hk : 0 ≤ k) (h0 : N 0 ≤ 7) (hn : 0 ≤ N (8 + r)) : cutN Y N k r (8 + s) = N (8 + s) := by
  unfold cutN L2 L1
  rw [iup_n (by omega), iup_n (by omega), if_neg (by omega), if_neg (by omega), if_neg (by omega), if_neg (by omega), if_neg (by omega)]
theorem cutN_44 {Y N : Int → Int} {k r : Int} : cutN Y N k r 44 = N 44 + 1 := by unfold cutN; rw [iup_n (by decide), iup_s]
theorem cutN_45 {Y N : Int → Int} {k r : Int} : cutN Y N k r 45 = N 45 + Kc Y N r k.toNat := by unfold cutN; rw [iup_s]
theorem cutN_46 {Y N : Int → Int} {k r : Int} (hr : 0 ≤ r ∧ r ≤ 3) (hk : 0 ≤ k) (h0 : N 0 ≤ 7) (hn : 0 ≤ N (8 + r) ∧ N (8 + r) + k ≤ 7) : cutN Y N k r 46 = Fc Y N r k.toNat := by
  unfold cutN L2 L1
  rw [iup_n (by decide), iup_n (by decide), if_neg (by omega), if_neg (by omega), if_neg (by omega), if_neg (by omega), if_pos rfl]
theorem Fc_rg {Y N : Int → Int} {r k : Int} (hr : 0 ≤ r ∧ r ≤ 3) (hk : k ≤ 7) (hn : 0 ≤ N (8 + r) ∧ N (8 + r) + k ≤ 7) (n2 : ∀ i, 1 ≤ i → i < 8 → 0 ≤ N i ∧ N i ≤ 6) (n3 : ∀ i, 12 ≤ i → i < 40 → 0 ≤ N i ∧ N i ≤ 6) (hf : -1 ≤ N 46 ∧ N 46 ≤ 66) : ∀ i : Nat, (i : Int) ≤ k → -1 ≤ Fc Y N r i ∧ Fc Y N r i ≤ 66 := by
  intro i
  induction i with
  | zero => intro _; exact hf
  | succ i ih =>
    intro h
    have ih := ih (by omega)
    unfold Fc
    split
    · rename_i hc
      have hex : 0 < i ∨ 0 < N (8 + r) := by
        by_cases hh : 0 < i ∨ 0 < N (8 + r)
        · exact hh
        · exfalso; apply hc.1; unfold ckM; rw [if_neg hh]
      have h2 := n2 (1 + i) (by omega) (by omega)
      unfold pvM
      split
      · have := n3 (12 + 7 * r + N (8 + r) - 1) (by omega) (by omega); omega
      · have := n2 (i : Int) (by omega) (by omega); omega
    · exact ih
theorem NS_cut {V' : Nat → Int → Int} {k r : Int} (hr : 0 ≤ r ∧ r ≤ 3) (hk : 0 ≤ k) (hN : NS V) (hk0 : k ≤ V 137 0) (hkr : V 137 (8 + r) + k ≤ 7) (h : V' 137 = cutN (V 135) (V 137) k r) : NS V' := by
  obtain ⟨n0, n1, n2, n3, n4⟩ := hN
  have nr := n1 r (by omega) (by omega)
  unfold NS
  rw [h]
  refine ⟨by rw [cutN_0]; omega, fun s s1 s2 => ?_, fun i i1 i2 => ?_, fun i i1 i2 => ?_, fun i i1 i2 => ?_⟩
  · by_cases hs : s = r
    · subst hs; rw [cutN_8 hr hk n0.2]; omega
    · rw [cutN_8o hr (by omega) hs hk n0.2 nr.1]; exact n1 s s1 s2
  · unfold cutN L2 L1
    rw [iup_n (by omega), iup_n (by omega), if_neg (by omega)]
    split
    · exact n2 _ (by omega) (by omega)
    · rw [if_neg (by omega), if_neg (by omega), if_neg (by omega)]; exact n2 i i1 i2
  · unfold cutN L2 L1
    rw [iup_n (by omega), iup_n (by omega), if_neg (by omega), if_neg (by omega), if_neg (by omega)]
    split
    · exact n2 _ (by omega) (by omega)
    · rw [if_neg (by omega)]; exact n3 i i1 i2
  · unfold cutN L2 L1
    rw [iup_n (by omega), iup_n (by omega), if_neg (by omega), if_neg (by omega), if_neg (by omega), if_neg (by omega), if_neg (by omega)]
    exact n4 i i1 i2
theorem NS_pul {V' : Nat → Int → Int} {r : Int} (hr : 0 ≤ r ∧ r ≤ 3) (hN : NS V) (h7 : V 137 0 + V 137 (8 + r) ≤ 7) (h : V' 137 = pulN (V 137) r) : NS V' := by
  obtain ⟨n0, n1, n2, n3, n4⟩ := hN
  have nr := n1 r (by omega) (by omega)
  unfold NS
  rw [h]
  unfold pulN
  refine ⟨by rw [if_pos rfl]; omega, fun s s1 s2 => ?_, fun i i1 i2 => ?_, fun i i1 i2 => ?_, fun i i1 i2 => ?_⟩
  · rw [if_neg (by omega), if_neg (by omega), if_neg (by omega)]
    split
    · omega
    · rw [if_neg (by omega)]; exact n1 s s1 s2
  · rw [if_neg (by omega)]
    split
    · exact n3 _ (by omega) (by omega)
    · split
      · exact n2 _ (by omega) (by omega)
      · rw [if_neg (by omega), if_neg (by omega)]; exact n2 i i1 i2
  · rw [if_neg (by omega), if_neg (by omega), if_neg (by omega), if_neg (by omega), if_neg (by omega)]; exact n3 i i1 i2
  · rw [if_neg (by omega), if_neg (by omega), if_neg (by omega), if_neg (by omega)]
    split
    · omega
    · exact n4 i i1 i2
theorem tot_cut {Y N : Int → Int} {k r : Int} (hr : 0 ≤ r ∧ r ≤ 3) (hk : 0 ≤ k) (h0 : N 0 ≤ 7) (hn : 0 ≤ N (8 + r)) : totN (cutN Y N k r) = totN N := by
  have e : ∀ s, 0 ≤ s → s ≤ 3 → cutN Y N k r (8 + s) = N (8 + s) + (if s = r then k else 0) := by
    intro s s1 s2
    by_cases hs : s = r
    · subst hs; rw [cutN_8 hr hk h0, if_pos rfl]
    · rw [cutN_8o hr (by omega) hs hk h0 hn, if_neg hs]; omega
  have e0 := e 0 (by omega) (by omega)
  have e1 := e 1 (by omega) (by omega)
  have e2 := e 2 (by omega) (by omega)
  have e3 := e 3 (by omega) (by omega)
  simp only [Int.reduceAdd] at e0 e1 e2 e3
  unfold totN
  rw [cutN_0, e0, e1, e2, e3]
  repeat' split
  all_goals omega
theorem tot_pul {N : Int → Int} {r : Int} (hr : 0 ≤ r ∧ r ≤ 3) (h0 : 0 ≤ N 0) (hn : 0 ≤ N (8 + r)) (h7 : N 0 + N (8 + r) ≤ 7) : totN (pulN N r) = totN N := by
  have e : ∀ s, 0 ≤ s → s ≤ 3 → pulN N r (8 + s) = if s = r then 0 else N (8 + s) := by
    intro s s1 s2
    unfold pulN
    rw [if_neg (by omega), if_neg (by omega), if_neg (by omega)]
    by_cases hs : s = r
    · rw [if_pos (by omega), if_pos hs]
    · rw [if_neg (by omega), if_neg (by omega), if_neg hs]
  have e0 := e 0 (by omega) (by omega)
  have e1 := e 1 (by omega) (by omega)
  have e2 := e 2 (by omega) (by omega)
  have e3 := e 3 (by omega) (by omega)
  have ez : pulN N r 0 = N 0 + N (8 + r) := by unfold pulN; rw [if_pos rfl]
  simp only [Int.reduceAdd] at e0 e1 e2 e3
  unfold totN
  rw [ez, e0, e1, e2, e3]
  rcases (show r = 0 ∨ r = 1 ∨ r = 2 ∨ r = 3 by omega) with rfl | rfl | rfl | rfl <;> simp <;> omega
theorem pulN_4 {N : Int → Int} {r j : Int} (hr : 0 ≤ r ∧ r ≤ 3) (h0 : 0 ≤ N 0) (h8 : 0 ≤ N (8 + r)) (h7 : N 0 + N (8 + r) ≤ 7) (hj : 44 ≤ j) : pulN N r j = N j := by
  unfold pulN
  rw [if_neg (by omega), if_neg (by omega), if_neg (by omega), if_neg (by omega), if_neg (by omega)]
theorem MI_step {m r s : Int} (h : MI m V) (hr : 0 ≤ r ∧ r < V 135 0) (hs : 0 ≤ s ∧ s ≤ 2147483647) : MI (m + 1) (zup (vst V 134 7 s) 137 (mdr1 (V 135) (V 137) r)) := by
  obtain ⟨hM, hN, ht, h46, h44, h45, -⟩ := id h
  obtain ⟨n0, n1, n2, n3, n4⟩ := id hN
  obtain ⟨m0, m1, m2, m3, m4⟩ := id hM
  have nr := n1 r (by omega) (by omega)
  have h7 := totN_h7 hN ht r (by omega) (by omega)
  have e5 : zup (vst V 134 7 s) 137 (mdr1 (V 135) (V 137) r) 135 = V 135 := by rw [zup_n _ _ (by decide), vst_o (by decide)]
  have e7 : zup (vst V 134 7 s) 137 (mdr1 (V 135) (V 137) r) 137 = mdr1 (V 135) (V 137) r := zup_s _ _ _
  have e4 : zup (vst V 134 7 s) 137 (mdr1 (V 135) (V 137) r) 134 7 = s := by rw [zup_n _ _ (by decide), vst_s]
  refine ⟨MS_congr e5 hM, ?_⟩
  rw [e4, e7]
  unfold mdr1
  split
  · rename_i hz
    refine ⟨NS_pul (by omega) hN h7 (zup_s _ _ _), ?_, ?_, ?_, ?_, hs⟩
    · rw [tot_pul (by omega) (by omega) (by omega) h7]; exact ht
    · rw [pulN_4 (by omega) (by omega) (by omega) h7 (by omega)]; exact h46
    · rw [pulN_4 (by omega) (by omega) (by omega) h7 (by omega)]; omega
    · rw [pulN_4 (by omega) (by omega) (by omega) h7 (by omega)]; omega
  · rename_i hz
    split
    · rename_i hy
      have mr := m4 r (by omega) (by omega)
      have hk := Kc_rg (V 135) (V 137) r 1
      have hF := Fc_rg (Y := V 135) (N := V 137) (r := r) (k := 1) (by omega) (by omega) (by omega) n2 n3 h46 1 (by omega)
      refine ⟨NS_cut (k := 1) (by omega) (by omega) hN (by omega) (by omega) (zup_s _ _ _), ?_, ?_, ?_, ?_, hs⟩
      · rw [tot_cut (by omega) (by omega) (by omega) (by omega)]; exact ht
      · rw [cutN_46 (by omega) (by omega) (by omega) (by omega)]; exact hF
      · rw [cutN_44]; omega
      · rw [cutN_45]
        rw [show (1 : Int).toNat = 1 from rfl]
        omega
    · rename_i hy
      refine ⟨NS_congr (V := V) (zup_s _ _ _) hN, ht, h46, by omega, by omega, hs⟩
abbrev mdP (V : Nat → Int → Int) (n q : Int) (V' : Nat → Int → Int) : Prop :=
  (¬ (1 ≤ n ∧ n ≤ 60) ∧ q = -1000000002 ∧ V' = V) ∨ ((1 ≤ n ∧ n ≤ 60) ∧ V 135 0 = 0 ∧ q = -1000000003 ∧ V' = V) ∨ ((1 ≤ n ∧ n ≤ 60) ∧ V 135 0 ≠ 0 ∧ 90000 < V 137 44 ∧ q = -1000000004 ∧ V' = V) ∨ ((1 ≤ n ∧ n ≤ 60) ∧ V 135 0 ≠ 0 ∧ V 137 44 ≤ 90000 ∧ q = mdf n.toNat (remM V) 137 44 ∧ V' = mdf n.toNat (remM V))
theorem ct_X11_drift {n : Int} (hn : rg n) (hD : MI 100000 V) (hu : 0 ≤ V 134 4 ∧ V 134 4 ≤ 20) : yC 5 mX11_drift [.ref 134, .int (iI n)] V b (pI b (fun q V' => mdP V n q V')) := by
  obtain ⟨hM, hN, ht, h46, h44, h45, hs⟩ := id hD
  obtain ⟨m0, m1, m2, m3, m4⟩ := id hM
  have e5 : remM V 135 = V 135 := remM_o (by decide) (by decide)
  have e7 : remM V 137 = V 137 := remM_o (by decide) (by decide)
  have e4 : remM V 134 7 = V 134 7 := by unfold remM; rw [vst_n (by decide), zup_n _ _ (by decide)]
  have hD' : MI 100000 (remM V) := ⟨MS_congr e5 hM, NS_congr e7 hN, by rw [e7]; exact ht, by rw [e7]; exact h46, by rw [e7]; exact h44, by rw [e7]; exact h45, by rw [e4]; exact hs⟩
  have loop : ∀ (k : Nat) (i : Int) (U : Nat → Int → Int) (a3 a4 : Option Value), (1 ≤ n ∧ n ≤ 60) → V 135 0 ≠ 0 → V 137 44 ≤ 90000 → 0 ≤ i → i + k = n → MI (100000 + i) U → U 135 = V 135 → mdf k U = mdf n.toNat (remM V) → yE 5 (pI b (fun q V' => mdP V n q V')) mX11_drift 48 [some (.ref 134), some (.int (iI n)), some (.int (iI i)), a3, a4] [] U b := by
    intro k
    induction k with
    | zero =>
      intro i U a3 a4 g1 g2 g3 g4 g5 g6 g7 g8
      refine z_iload_n dX11_drift_48 rfl ?_
      refine z_iload_n dX11_drift_49 rfl ?_
      refine y_icmp_ge dX11_drift_50 (by omega) (by omega) (fun c_50 => ?_) (fun c_50 => ?_)
      · refine z_aload_n dX11_drift_108 rfl ?_
        refine y_getR fX11_16 dX11_drift_109 (by first | assumption | rfl) (by first | assumption | rfl) ?_
        refine y_bipush dX11_drift_112 (by decide +kernel) ?_
        refine y_iald dX11_drift_114 (by first | assumption | rfl) (by first | rfl | assumption) (by omega) ?_
        exact z_iret dX11_drift_115 rfl (Nat.le_refl 0) (Nat.le_refl 0) ⟨_, _, rfl, rfl, Or.inr (Or.inr (Or.inr ⟨g1, g2, g3, by rw [← g8]; rfl, by rw [← g8]; rfl⟩))⟩
      · omega
    | succ k ih =>
      intro i U a3 a4 g1 g2 g3 g4 g5 g6 g7 g8
      obtain ⟨uM, uN, ut, u46, u44, u45, us⟩ := id g6
      have u0 : 1 ≤ U 135 0 ∧ U 135 0 ≤ 4 := by rw [g7]; omega
      have hs1 : 0 ≤ sdN (U 134 7) ∧ sdN (U 134 7) ≤ 2147483647 := by unfold sdN; omega
      have hdr : 0 ≤ drN (sdN (U 134 7)) (U 135 0) ∧ drN (sdN (U 134 7)) (U 135 0) < U 135 0 := ⟨Int.emod_nonneg _ (by omega), Int.emod_lt_of_pos _ (by omega)⟩
      have hst := MI_step g6 hdr hs1
      have f5 : vst U 134 7 (sdN (U 134 7)) 135 = U 135 := vst_o (by decide)
      have f7 : vst U 134 7 (sdN (U 134 7)) 137 = U 137 := vst_o (by decide)
      have uMs : MS (vst U 134 7 (sdN (U 134 7))) := MS_congr f5 uM
      have uNs : NS (vst U 134 7 (sdN (U 134 7))) := NS_congr f7 uN
      have n00 := uN.1
      have h7 := totN_h7 uN ut (drN (sdN (U 134 7)) (U 135 0)) (by omega) (by omega)
      have hyr := uM.2.2.2.2 (drN (sdN (U 134 7)) (U 135 0)) (by omega) (by omega)
      have nrr := uN.2.1 (drN (sdN (U 134 7)) (U 135 0)) (by omega) (by omega)
      have hih : ∀ a3 a4, yE 5 (pI b (fun q V' => mdP V n q V')) mX11_drift 48 [some (.ref 134), some (.int (iI n)), some (.int (iI (i + 1))), a3, a4] [] (mds1 U) b := fun a3 a4 => ih (i + 1) (mds1 U) a3 a4 g1 g2 g3 (by omega) (by omega) (by rw [show (100000 : Int) + (i + 1) = 100000 + i + 1 by omega]; exact hst) (by unfold mds1; rw [zup_n _ _ (by decide), f5]; exact g7) g8
      have hm : mds1 U = zup (vst U 134 7 (sdN (U 134 7))) 137 (mdr1 (U 135) (U 137) (drN (sdN (U 134 7)) (U 135 0))) := rfl
      clear ih
      refine z_iload_n dX11_drift_48 rfl ?_
      refine z_iload_n dX11_drift_49 rfl ?_
      refine y_icmp_ge dX11_drift_50 (by omega) (by omega) (fun c_50 => ?_) (fun c_50 => ?_)
      · omega
      · refine z_aload_n dX11_drift_53 rfl ?_
        refine z_aload_n dX11_drift_54 rfl ?_
        refine y_getR fX11_7 dX11_drift_55 (by first | assumption | rfl) (by first | assumption | rfl) ?_
        refine y_iconst dX11_drift_58 ?_
        refine y_iald dX11_drift_59 (by first | assumption | rfl) (by first | rfl | assumption) (by omega) ?_
        refine y_callVi (ct_X11_draw (by omega) us) kX11_234 dX11_drift_60 rfl rfl (by first | assumption | rfl) rfl (by decide) rfl (Nat.le_of_ble_eq_true rfl) (fun r_60 V1 h_60 => ?_)
        obtain ⟨f1, f2⟩ := h_60
        subst f1 f2
        refine z_istore_n dX11_drift_63 (by decide) rfl rfl ?_
        refine z_aload_n dX11_drift_64 rfl ?_
        refine y_getR fX11_16 dX11_drift_65 (by first | assumption | rfl) (by first | assumption | rfl) ?_
        refine y_iconst dX11_drift_68 ?_
        refine y_iald dX11_drift_69 (by first | assumption | rfl) (by first | rfl | assumption) (by omega) ?_
        rw [f7]
        refine y_if_ne dX11_drift_70 (by omega) (fun c_70 => ?_) (fun c_70 => ?_)
        · refine z_aload_n dX11_drift_81 rfl ?_
          refine y_iconst dX11_drift_82 ?_
          refine z_iload_n dX11_drift_83 rfl ?_
          refine y_callVr (ct_X11_mayCut (by omega) (by rw [f5]; omega) uMs uNs) kX11_205 dX11_drift_84 rfl rfl (by first | assumption | rfl) rfl (by decide) rfl (Nat.le_of_ble_eq_true rfl) (fun r_84 h_84 => ?_)
          rw [f5, f7] at h_84
          refine y_if_eq dX11_drift_87 (by omega) (fun c_87 => ?_) (fun c_87 => ?_)
          · have hm2 : mds1 U = vst U 134 7 (sdN (U 134 7)) := by rw [hm]; unfold mdr1; rw [if_neg c_70, if_neg (by omega), ← f7, zup_id]
            rw [← hm2]
            refine y_iconst dX11_drift_99 ?_
            refine z_istore dX11_drift_100 (by decide) rfl rfl ?_
            refine y_iinc dX11_drift_102 rfl (by decide) rfl rfl ?_
            refine z_goto dX11_drift_105 ?_
            exact hih _ _
          · refine z_aload_n dX11_drift_90 rfl ?_
            refine y_iconst dX11_drift_91 ?_
            refine z_iload_n dX11_drift_92 rfl ?_
            refine y_callVi (ct_X11_cuts (by omega) (by omega) (by rw [f7]; omega) (by rw [f7]; omega) uMs uNs (by rw [f7]; exact ⟨by omega, by omega⟩)) kX11_212 dX11_drift_93 rfl rfl (by first | assumption | rfl) rfl (by decide) rfl (Nat.le_of_ble_eq_true rfl) (fun r_93 V1 h_93 => ?_)
            obtain ⟨k1, k2⟩ := h_93
            subst k2
            have hm2 : mds1 U = zup (vst U 134 7 (sdN (U 134 7))) 137 (cutN (U 135) (U 137) 1 (drN (sdN (U 134 7)) (U 135 0))) := by rw [hm]; unfold mdr1; rw [if_neg c_70, if_pos (by omega)]
            rw [f7, f5, ← hm2]
            refine z_goto dX11_drift_96 ?_
            refine z_istore dX11_drift_100 (by decide) rfl rfl ?_
            refine y_iinc dX11_drift_102 rfl (by decide) rfl rfl ?_
            refine z_goto dX11_drift_105 ?_
            exact hih _ _
        · refine z_aload_n dX11_drift_73 rfl ?_
          refine z_iload_n dX11_drift_74 rfl ?_
          refine y_callVi (ct_X11_pulls (by omega) uNs (by rw [f7]; exact h7)) kX11_216 dX11_drift_75 rfl rfl (by first | assumption | rfl) rfl (by decide) rfl (Nat.le_of_ble_eq_true rfl) (fun r_75 V1 h_75 => ?_)
          obtain ⟨k1, k2⟩ := h_75
          subst k2
          have hm2 : mds1 U = zup (vst U 134 7 (sdN (U 134 7))) 137 (pulN (U 137) (drN (sdN (U 134 7)) (U 135 0))) := by rw [hm]; unfold mdr1; rw [if_pos c_70]
          rw [f7, ← hm2]
          refine z_goto dX11_drift_78 ?_
          refine z_istore dX11_drift_100 (by decide) rfl rfl ?_
          refine y_iinc dX11_drift_102 rfl (by decide) rfl rfl ?_
          refine z_goto dX11_drift_105 ?_
          exact hih _ _
  refine zC_of (by decide +kernel) (Nat.le_of_ble_eq_true rfl) rfl ?_
  refine z_iload_n dX11_drift_0 rfl ?_
  refine y_i2l dX11_drift_1 (by omega) ?_
  refine y_lconst (v := 1) dX11_drift_2 (by decide +kernel) ?_
  refine y_ldc2 (n := 60) dX11_drift_3 cX11_231 (by decide +kernel) ?_
  refine y_callSr (ct_X11_in (by omega) (by omega) (by omega)) kX11_101 dX11_drift_6 rfl rfl (by decide) rfl (Nat.le_of_ble_eq_true rfl) (fun r_6 h_6 => ?_)
  refine y_if_ne dX11_drift_9 (by omega) (fun c_9 => ?_) (fun c_9 => ?_)
  · refine z_aload_n dX11_drift_15 rfl ?_
    refine y_getR fX11_7 dX11_drift_16 (by first | assumption | rfl) (by first | assumption | rfl) ?_
    refine y_iconst dX11_drift_19 ?_
    refine y_iald dX11_drift_20 (by first | assumption | rfl) (by first | rfl | assumption) (by omega) ?_
    refine y_if_ne dX11_drift_21 (by omega) (fun c_21 => ?_) (fun c_21 => ?_)
    · refine z_aload_n dX11_drift_27 rfl ?_
      refine y_getR fX11_16 dX11_drift_28 (by first | assumption | rfl) (by first | assumption | rfl) ?_
      refine y_bipush dX11_drift_31 (by decide +kernel) ?_
      refine y_iald dX11_drift_33 (by first | assumption | rfl) (by first | rfl | assumption) (by omega) ?_
      refine y_ldc (n := 90000) dX11_drift_34 cX11_233 (by decide +kernel) ?_
      refine y_icmp_le dX11_drift_36 (by omega) (by omega) (fun c_36 => ?_) (fun c_36 => ?_)
      · refine z_aload_n dX11_drift_42 rfl ?_
        refine y_callVv (ct_X11_remember (by omega)) kX11_209 dX11_drift_43 rfl rfl (by first | assumption | rfl) rfl (by decide) rfl (Nat.le_of_ble_eq_true rfl) (fun V1 h_43 => ?_)
        subst h_43
        refine y_iconst dX11_drift_46 ?_
        refine z_istore_n dX11_drift_47 (by decide) rfl rfl ?_
        exact loop n.toNat 0 (remM V) none none (by omega) (by omega) (by omega) (by omega) (by omega) (by rw [Int.add_zero]; exact hD') e5 rfl
      · refine y_ldc (n := -1000000004) dX11_drift_39 cX11_109 (by decide +kernel) ?_
        exact z_iret dX11_drift_41 rfl (Nat.le_refl 0) (Nat.le_refl 0) ⟨_, _, rfl, rfl, Or.inr (Or.inr (Or.inl ⟨by omega, by omega, by omega, rfl, rfl⟩))⟩
    · refine y_ldc (n := -1000000003) dX11_drift_24 cX11_208 (by decide +kernel) ?_
      exact z_iret dX11_drift_26 rfl (Nat.le_refl 0) (Nat.le_refl 0) ⟨_, _, rfl, rfl, Or.inr (Or.inl ⟨by omega, by omega, rfl, rfl⟩)⟩
  · refine y_ldc (n := -1000000002) dX11_drift_12 cX11_105 (by decide +kernel) ?_
    exact z_iret dX11_drift_14 rfl (Nat.le_refl 0) (Nat.le_refl 0) ⟨_, _, rfl, rfl, Or.inl ⟨by omega, rfl, rfl⟩⟩
/-! couplings -/
/-- the latest of a, c among the first k couplings; -1 of none -/
def trM (T : Int → Int) (a c : Int) : Nat → Int
  | 0 => -1
  | k + 1 => if T (3 * k) = a ∧ T (3 * k + 1) = c then T (3 * k + 2) else trM T a c k
/-- what the walks need of the couplings -/
abbrev TS (V : Nat → Int → Int) : Prop := (0 ≤ V 134 12 ∧ V 134 12 ≤ 8) ∧ ∀ i, -1 ≤ V 142 i ∧ V 142 i ≤ 4
theorem trM_rg {T : Int → Int} {a c : Int} (h : ∀ i, -1 ≤ T i ∧ T i ≤ 4) : ∀ k, -1 ≤ trM T a c k ∧ trM T a c k ≤ 4
  | 0 => by simp [trM]
  | k + 1 => by
    have := trM_rg (a := a) (c := c) h k
    have := h (3 * k + 2)
    unfold trM
    split <;> omega
theorem ct_X11_triedOf {a c : Int} (ha : rg a) (hc : rg c) (hT : TS V) : yC 1 mX11_triedOf [.ref 134, .int (iI a), .int (iI c)] V b (pR b V (fun q => q = trM (V 142) a c (V 134 12).toNat)) := by
  obtain ⟨t0, t1⟩ := id hT
  have loop : ∀ (m k : Nat), (k : Int) + m = V 134 12 → yE 1 (pR b V (fun q => q = trM (V 142) a c (V 134 12).toNat)) mX11_triedOf 5 [some (.ref 134), some (.int (iI a)), some (.int (iI c)), some (.int (iI (trM (V 142) a c k))), some (.int (iI (k : Nat)))] [] V b := by
    intro m
    induction m with
    | zero =>
      intro k h1
      refine z_iload dX11_triedOf_5 rfl ?_
      refine z_aload_n dX11_triedOf_7 rfl ?_
      refine y_getI (j := 12) fX11_90 dX11_triedOf_8 rfl (by first | assumption | rfl) ?_
      refine y_icmp_ge dX11_triedOf_11 (by omega) (by omega) (fun c_11 => ?_) (fun c_11 => ?_)
      · refine z_iload_n dX11_triedOf_64 rfl ?_
        exact z_iret dX11_triedOf_65 rfl (Nat.le_refl 0) (Nat.le_refl 0) ⟨_, rfl, rfl, by rw [show (V 134 12).toNat = k by omega]⟩
      · omega
    | succ m ih =>
      intro k h1
      have w0 := t1 (3 * (k : Nat))
      have w1 := t1 (3 * (k : Nat) + 1)
      have hih := ih (k + 1) (by omega)
      rw [show ((k + 1 : Nat) : Int) = (k : Int) + 1 by omega] at hih
      have e : trM (V 142) a c (k + 1) = if V 142 (3 * (k : Nat)) = a ∧ V 142 (3 * (k : Nat) + 1) = c then V 142 (3 * (k : Nat) + 2) else trM (V 142) a c k := rfl
      refine z_iload dX11_triedOf_5 rfl ?_
      refine z_aload_n dX11_triedOf_7 rfl ?_
      refine y_getI (j := 12) fX11_90 dX11_triedOf_8 rfl (by first | assumption | rfl) ?_
      refine y_icmp_ge dX11_triedOf_11 (by omega) (by omega) (fun c_11 => ?_) (fun c_11 => ?_)
      · omega
      · refine z_aload_n dX11_triedOf_14 rfl ?_
        refine y_getR fX11_36 dX11_triedOf_15 (by first | assumption | rfl) (by first | assumption | rfl) ?_
        refine y_iconst dX11_triedOf_18 ?_
        refine z_iload dX11_triedOf_19 rfl ?_
        refine y_imul dX11_triedOf_21 ?_
        refine y_iald dX11_triedOf_22 (by first | assumption | rfl) (by first | rfl | assumption) (by omega) ?_
        refine z_iload_n dX11_triedOf_23 rfl ?_
        refine y_icmp_ne dX11_triedOf_24 (by omega) (by omega) (fun c_24 => ?_) (fun c_24 => ?_)
        · rw [e, if_neg (by omega)] at hih
          refine z_iload_n dX11_triedOf_56 rfl ?_
          refine z_istore_n dX11_triedOf_57 (by decide) rfl rfl ?_
          refine y_iinc dX11_triedOf_58 rfl (by decide) rfl rfl ?_
          refine z_goto dX11_triedOf_61 ?_
          exact hih
        · refine z_aload_n dX11_triedOf_27 rfl ?_
          refine y_getR fX11_36 dX11_triedOf_28 (by first | assumption | rfl) (by first | assumption | rfl) ?_
          refine y_iconst dX11_triedOf_31 ?_
          refine z_iload dX11_triedOf_32 rfl ?_
          refine y_imul dX11_triedOf_34 ?_
          refine y_iconst dX11_triedOf_35 ?_
          refine y_iadd dX11_triedOf_36 ?_
          refine y_iald dX11_triedOf_37 (by first | assumption | rfl) (by first | rfl | assumption) (by omega) ?_
          refine z_iload_n dX11_triedOf_38 rfl ?_
          refine y_icmp_ne dX11_triedOf_39 (by omega) (by omega) (fun c_39 => ?_) (fun c_39 => ?_)
          · rw [e, if_neg (by omega)] at hih
            refine z_iload_n dX11_triedOf_56 rfl ?_
            refine z_istore_n dX11_triedOf_57 (by decide) rfl rfl ?_
            refine y_iinc dX11_triedOf_58 rfl (by decide) rfl rfl ?_
            refine z_goto dX11_triedOf_61 ?_
            exact hih
          · rw [e, if_pos (by omega)] at hih
            refine z_aload_n dX11_triedOf_42 rfl ?_
            refine y_getR fX11_36 dX11_triedOf_43 (by first | assumption | rfl) (by first | assumption | rfl) ?_
            refine y_iconst dX11_triedOf_46 ?_
            refine z_iload dX11_triedOf_47 rfl ?_
            refine y_imul dX11_triedOf_49 ?_
            refine y_iconst dX11_triedOf_50 ?_
            refine y_iadd dX11_triedOf_51 ?_
            refine y_iald dX11_triedOf_52 (by first | assumption | rfl) (by first | rfl | assumption) (by omega) ?_
            refine z_goto dX11_triedOf_53 ?_
            refine z_istore_n dX11_triedOf_57 (by decide) rfl rfl ?_
            refine y_iinc dX11_triedOf_58 rfl (by decide) rfl rfl ?_
            refine z_goto dX11_triedOf_61 ?_
            exact hih
  refine zC_of (by decide +kernel) (Nat.le_of_ble_eq_true rfl) rfl ?_
  refine y_iconst dX11_triedOf_0 ?_
  refine z_istore_n dX11_triedOf_1 (by decide) rfl rfl ?_
  refine y_iconst dX11_triedOf_2 ?_
  refine z_istore dX11_triedOf_3 (by decide) rfl rfl ?_
  exact loop (V 134 12).toNat 0 (by omega)
def cplM (V : Nat → Int → Int) (a c k : Int) : Nat → Int → Int := vst (vst (vst (vst V 142 (3 * V 134 12) a) 142 (3 * V 134 12 + 1) c) 142 (3 * V 134 12 + 2) (if k = 0 then 0 else 1)) 134 12 (V 134 12 + 1)
theorem ct_X11_couple {a c k : Int} (ha : rg a) (hc : rg c) (hk : rg k) (hn : 0 ≤ V 134 12 ∧ V 134 12 ≤ 8) : yC 3 mX11_couple [.ref 134, .int (iI a), .int (iI c), .int (iI k)] V b (pI b (fun q V' => (¬ (0 ≤ a ∧ a ≤ 4 ∧ 0 ≤ c ∧ c ≤ 4) ∧ q = -1000000001 ∧ V' = V) ∨ ((0 ≤ a ∧ a ≤ 4 ∧ 0 ≤ c ∧ c ≤ 4) ∧ V 134 12 = 8 ∧ q = -1000000004 ∧ V' = V) ∨ ((0 ≤ a ∧ a ≤ 4 ∧ 0 ≤ c ∧ c ≤ 4) ∧ V 134 12 < 8 ∧ q = V 134 12 + 1 ∧ V' = cplM V a c k))) := by
  have eo : ∀ {U : Nat → Int → Int} {j x : Int}, vst U 142 j x 134 = U 134 := fun {U j x} => vst_o (by decide)
  refine zC_of (by decide +kernel) (Nat.le_of_ble_eq_true rfl) rfl ?_
  refine z_iload_n dX11_couple_0 rfl ?_
  refine y_callSr (ct_X11_isKind (by omega)) kX11_190 dX11_couple_1 rfl rfl (by decide) rfl (Nat.le_of_ble_eq_true rfl) (fun r_1 h_1 => ?_)
  refine y_if_eq dX11_couple_4 (by omega) (fun c_4 => ?_) (fun c_4 => ?_)
  · refine y_ldc (n := -1000000001) dX11_couple_14 cX11_179 (by decide +kernel) ?_
    exact z_iret dX11_couple_16 rfl (Nat.le_refl 0) (Nat.le_refl 0) ⟨_, _, rfl, rfl, Or.inl ⟨by omega, rfl, rfl⟩⟩
  · refine z_iload_n dX11_couple_7 rfl ?_
    refine y_callSr (ct_X11_isKind (by omega)) kX11_190 dX11_couple_8 rfl rfl (by decide) rfl (Nat.le_of_ble_eq_true rfl) (fun r_8 h_8 => ?_)
    refine y_if_ne dX11_couple_11 (by omega) (fun c_11 => ?_) (fun c_11 => ?_)
    · refine z_aload_n dX11_couple_17 rfl ?_
      refine y_getI (j := 12) fX11_90 dX11_couple_18 rfl (by first | assumption | rfl) ?_
      refine y_bipush dX11_couple_21 (by decide +kernel) ?_
      refine y_icmp_ne dX11_couple_23 (by omega) (by omega) (fun c_23 => ?_) (fun c_23 => ?_)
      · refine z_aload_n dX11_couple_29 rfl ?_
        refine y_getR fX11_36 dX11_couple_30 (by first | assumption | rfl) (by first | assumption | rfl) ?_
        refine y_iconst dX11_couple_33 ?_
        refine z_aload_n dX11_couple_34 rfl ?_
        refine y_getI (j := 12) fX11_90 dX11_couple_35 rfl (by first | assumption | rfl) ?_
        refine y_imul dX11_couple_38 ?_
        refine z_iload_n dX11_couple_39 rfl ?_
        refine y_iast dX11_couple_40 (by first | assumption | rfl) (by first | rfl | assumption) (by omega) ?_
        refine z_aload_n dX11_couple_41 rfl ?_
        refine y_getR fX11_36 dX11_couple_42 (by first | assumption | rfl) (by first | assumption | rfl) ?_
        refine y_iconst dX11_couple_45 ?_
        refine z_aload_n dX11_couple_46 rfl ?_
        refine y_getI (j := 12) fX11_90 dX11_couple_47 rfl (by first | assumption | rfl) ?_
        rw [eo]
        refine y_imul dX11_couple_50 ?_
        refine y_iconst dX11_couple_51 ?_
        refine y_iadd dX11_couple_52 ?_
        refine z_iload_n dX11_couple_53 rfl ?_
        refine y_iast dX11_couple_54 (by first | assumption | rfl) (by first | rfl | assumption) (by omega) ?_
        refine z_aload_n dX11_couple_55 rfl ?_
        refine y_getR fX11_36 dX11_couple_56 (by first | assumption | rfl) (by first | assumption | rfl) ?_
        refine y_iconst dX11_couple_59 ?_
        refine z_aload_n dX11_couple_60 rfl ?_
        refine y_getI (j := 12) fX11_90 dX11_couple_61 rfl (by first | assumption | rfl) ?_
        rw [eo, eo]
        refine y_imul dX11_couple_64 ?_
        refine y_iconst dX11_couple_65 ?_
        refine y_iadd dX11_couple_66 ?_
        refine z_iload_n dX11_couple_67 rfl ?_
        refine y_if_eq dX11_couple_68 (by omega) (fun c_68 => ?_) (fun c_68 => ?_)
        · refine y_iconst dX11_couple_75 ?_
          refine y_iast dX11_couple_76 (by first | assumption | rfl) (by first | rfl | assumption) (by omega) ?_
          refine z_aload_n dX11_couple_77 rfl ?_
          refine z_dup dX11_couple_78 rfl ?_
          refine y_getI (j := 12) fX11_90 dX11_couple_79 rfl (by first | assumption | rfl) ?_
          rw [eo, eo, eo]
          refine y_iconst dX11_couple_82 ?_
          refine y_iadd dX11_couple_83 ?_
          refine y_putI (j := 12) fX11_90 dX11_couple_84 rfl (by first | assumption | rfl) ?_
          refine z_aload_n dX11_couple_87 rfl ?_
          refine y_getI (j := 12) fX11_90 dX11_couple_88 rfl (by first | assumption | rfl) ?_
          exact z_iret dX11_couple_91 rfl (Nat.le_refl 0) (Nat.le_refl 0) ⟨_, _, rfl, rfl, Or.inr (Or.inr ⟨by omega, by omega, by rw [vst_s], by unfold cplM; first | rw [if_pos c_68] | rw [if_neg c_68]⟩)⟩
        · refine y_iconst dX11_couple_71 ?_
          refine z_goto dX11_couple_72 ?_
          refine y_iast dX11_couple_76 (by first | assumption | rfl) (by first | rfl | assumption) (by omega) ?_
          refine z_aload_n dX11_couple_77 rfl ?_
          refine z_dup dX11_couple_78 rfl ?_
          refine y_getI (j := 12) fX11_90 dX11_couple_79 rfl (by first | assumption | rfl) ?_
          rw [eo, eo, eo]
          refine y_iconst dX11_couple_82 ?_
          refine y_iadd dX11_couple_83 ?_
          refine y_putI (j := 12) fX11_90 dX11_couple_84 rfl (by first | assumption | rfl) ?_
          refine z_aload_n dX11_couple_87 rfl ?_
          refine y_getI (j := 12) fX11_90 dX11_couple_88 rfl (by first | assumption | rfl) ?_
          exact z_iret dX11_couple_91 rfl (Nat.le_refl 0) (Nat.le_refl 0) ⟨_, _, rfl, rfl, Or.inr (Or.inr ⟨by omega, by omega, by rw [vst_s], by unfold cplM; first | rw [if_pos c_68] | rw [if_neg c_68]⟩)⟩
      · refine y_ldc (n := -1000000004) dX11_couple_26 cX11_109 (by decide +kernel) ?_
        exact z_iret dX11_couple_28 rfl (Nat.le_refl 0) (Nat.le_refl 0) ⟨_, _, rfl, rfl, Or.inr (Or.inl ⟨by omega, by omega, rfl, rfl⟩)⟩
    · refine y_ldc (n := -1000000001) dX11_couple_14 cX11_179 (by decide +kernel) ?_
      exact z_iret dX11_couple_16 rfl (Nat.le_refl 0) (Nat.le_refl 0) ⟨_, _, rfl, rfl, Or.inl ⟨by omega, rfl, rfl⟩⟩
theorem ct_X11_tear : yC 1 mX11_tear [.ref 134] V b (pI b (fun q V' => q = V 134 12 + V 134 14 + V 134 16 ∧ V' = vst (vst (vst V 134 12 0) 134 14 0) 134 16 0)) := by
  refine zC_of (by decide +kernel) (Nat.le_of_ble_eq_true rfl) rfl ?_
  refine z_aload_n dX11_tear_0 rfl ?_
  refine y_getI (j := 12) fX11_90 dX11_tear_1 rfl (by first | assumption | rfl) ?_
  refine z_aload_n dX11_tear_4 rfl ?_
  refine y_getI (j := 14) fX11_93 dX11_tear_5 rfl (by first | assumption | rfl) ?_
  refine y_iadd dX11_tear_8 ?_
  refine z_aload_n dX11_tear_9 rfl ?_
  refine y_getI (j := 16) fX11_96 dX11_tear_10 rfl (by first | assumption | rfl) ?_
  refine y_iadd dX11_tear_13 ?_
  refine z_istore_n dX11_tear_14 (by decide) rfl rfl ?_
  refine z_aload_n dX11_tear_15 rfl ?_
  refine y_iconst dX11_tear_16 ?_
  refine y_putI (j := 12) fX11_90 dX11_tear_17 rfl (by first | assumption | rfl) ?_
  refine z_aload_n dX11_tear_20 rfl ?_
  refine y_iconst dX11_tear_21 ?_
  refine y_putI (j := 14) fX11_93 dX11_tear_22 rfl (by first | assumption | rfl) ?_
  refine z_aload_n dX11_tear_25 rfl ?_
  refine y_iconst dX11_tear_26 ?_
  refine y_putI (j := 16) fX11_96 dX11_tear_27 rfl (by first | assumption | rfl) ?_
  refine z_iload_n dX11_tear_30 rfl ?_
  exact z_iret dX11_tear_31 rfl (Nat.le_refl 0) (Nat.le_refl 0) ⟨_, _, rfl, rfl, rfl, rfl⟩
def chkM (V : Nat → Int → Int) (r i k : Int) : Nat → Int → Int := vst (vst (vst (vst V 143 (3 * V 134 14) r) 143 (3 * V 134 14 + 1) i) 143 (3 * V 134 14 + 2) k) 134 14 (V 134 14 + 1)
theorem ct_X11_chalk {r i k : Int} (hr : rg r) (hi : rg i) (hk : rg k) (hM : MS V) (hc : 0 ≤ V 134 14 ∧ V 134 14 ≤ 6) : yC 3 mX11_chalk [.ref 134, .int (iI r), .int (iI i), .int (iI k)] V b (pI b (fun q V' => (¬ ((0 ≤ r ∧ r < V 135 0) ∧ ((0 ≤ k ∧ k ≤ 4) ∨ k = 9)) ∧ q = -1000000001 ∧ V' = V) ∨ (((0 ≤ r ∧ r < V 135 0) ∧ ((0 ≤ k ∧ k ≤ 4) ∨ k = 9)) ∧ ((¬ (0 ≤ i ∧ i ≤ 6) ∧ q = -1000000002 ∧ V' = V) ∨ ((0 ≤ i ∧ i ≤ 6) ∧ V 134 14 = 6 ∧ q = -1000000004 ∧ V' = V) ∨ ((0 ≤ i ∧ i ≤ 6) ∧ V 134 14 < 6 ∧ q = V 134 14 + 1 ∧ V' = chkM V r i k))))) := by
  obtain ⟨m0, m1, m2, m3, m4⟩ := id hM
  have eo : ∀ {U : Nat → Int → Int} {j x : Int}, vst U 143 j x 134 = U 134 := fun {U j x} => vst_o (by decide)
  refine zC_of (by decide +kernel) (Nat.le_of_ble_eq_true rfl) rfl ?_
  refine z_aload_n dX11_chalk_0 rfl ?_
  refine z_iload_n dX11_chalk_1 rfl ?_
  refine y_callVr (ct_X11_isRoad (by omega) (by omega)) kX11_187 dX11_chalk_2 rfl rfl (by first | assumption | rfl) rfl (by decide) rfl (Nat.le_of_ble_eq_true rfl) (fun r_2 h_2 => ?_)
  refine y_if_eq dX11_chalk_5 (by omega) (fun c_5 => ?_) (fun c_5 => ?_)
  · refine y_ldc (n := -1000000001) dX11_chalk_21 cX11_179 (by decide +kernel) ?_
    exact z_iret dX11_chalk_23 rfl (Nat.le_refl 0) (Nat.le_refl 0) ⟨_, _, rfl, rfl, Or.inl ⟨by omega, rfl, rfl⟩⟩
  · refine z_iload_n dX11_chalk_8 rfl ?_
    refine y_callSr (ct_X11_isKind (by omega)) kX11_190 dX11_chalk_9 rfl rfl (by decide) rfl (Nat.le_of_ble_eq_true rfl) (fun r_9 h_9 => ?_)
    refine y_if_ne dX11_chalk_12 (by omega) (fun c_12 => ?_) (fun c_12 => ?_)
    · refine z_iload_n dX11_chalk_24 rfl ?_
      refine y_i2l dX11_chalk_25 (by omega) ?_
      refine y_lconst (v := 0) dX11_chalk_26 (by decide +kernel) ?_
      refine y_ldc2 (n := 6) dX11_chalk_27 cX11_281 (by decide +kernel) ?_
      refine y_callSr (ct_X11_in (by omega) (by omega) (by omega)) kX11_101 dX11_chalk_30 rfl rfl (by decide) rfl (Nat.le_of_ble_eq_true rfl) (fun r_30 h_30 => ?_)
      refine y_if_ne dX11_chalk_33 (by omega) (fun c_33 => ?_) (fun c_33 => ?_)
      · refine z_aload_n dX11_chalk_39 rfl ?_
        refine y_getI (j := 14) fX11_93 dX11_chalk_40 rfl (by first | assumption | rfl) ?_
        refine y_bipush dX11_chalk_43 (by decide +kernel) ?_
        refine y_icmp_ne dX11_chalk_45 (by omega) (by omega) (fun c_45 => ?_) (fun c_45 => ?_)
        · refine z_aload_n dX11_chalk_51 rfl ?_
          refine y_getR fX11_39 dX11_chalk_52 (by first | assumption | rfl) (by first | assumption | rfl) ?_
          refine y_iconst dX11_chalk_55 ?_
          refine z_aload_n dX11_chalk_56 rfl ?_
          refine y_getI (j := 14) fX11_93 dX11_chalk_57 rfl (by first | assumption | rfl) ?_
          refine y_imul dX11_chalk_60 ?_
          refine z_iload_n dX11_chalk_61 rfl ?_
          refine y_iast dX11_chalk_62 (by first | assumption | rfl) (by first | rfl | assumption) (by omega) ?_
          refine z_aload_n dX11_chalk_63 rfl ?_
          refine y_getR fX11_39 dX11_chalk_64 (by first | assumption | rfl) (by first | assumption | rfl) ?_
          refine y_iconst dX11_chalk_67 ?_
          refine z_aload_n dX11_chalk_68 rfl ?_
          refine y_getI (j := 14) fX11_93 dX11_chalk_69 rfl (by first | assumption | rfl) ?_
          rw [eo]
          refine y_imul dX11_chalk_72 ?_
          refine y_iconst dX11_chalk_73 ?_
          refine y_iadd dX11_chalk_74 ?_
          refine z_iload_n dX11_chalk_75 rfl ?_
          refine y_iast dX11_chalk_76 (by first | assumption | rfl) (by first | rfl | assumption) (by omega) ?_
          refine z_aload_n dX11_chalk_77 rfl ?_
          refine y_getR fX11_39 dX11_chalk_78 (by first | assumption | rfl) (by first | assumption | rfl) ?_
          refine y_iconst dX11_chalk_81 ?_
          refine z_aload_n dX11_chalk_82 rfl ?_
          refine y_getI (j := 14) fX11_93 dX11_chalk_83 rfl (by first | assumption | rfl) ?_
          rw [eo, eo]
          refine y_imul dX11_chalk_86 ?_
          refine y_iconst dX11_chalk_87 ?_
          refine y_iadd dX11_chalk_88 ?_
          refine z_iload_n dX11_chalk_89 rfl ?_
          refine y_iast dX11_chalk_90 (by first | assumption | rfl) (by first | rfl | assumption) (by omega) ?_
          refine z_aload_n dX11_chalk_91 rfl ?_
          refine z_dup dX11_chalk_92 rfl ?_
          refine y_getI (j := 14) fX11_93 dX11_chalk_93 rfl (by first | assumption | rfl) ?_
          rw [eo, eo, eo]
          refine y_iconst dX11_chalk_96 ?_
          refine y_iadd dX11_chalk_97 ?_
          refine y_putI (j := 14) fX11_93 dX11_chalk_98 rfl (by first | assumption | rfl) ?_
          refine z_aload_n dX11_chalk_101 rfl ?_
          refine y_getI (j := 14) fX11_93 dX11_chalk_102 rfl (by first | assumption | rfl) ?_
          exact z_iret dX11_chalk_105 rfl (Nat.le_refl 0) (Nat.le_refl 0) ⟨_, _, rfl, rfl, Or.inr ⟨by omega, Or.inr (Or.inr ⟨by omega, by omega, by rw [vst_s], rfl⟩)⟩⟩
        · refine y_ldc (n := -1000000004) dX11_chalk_48 cX11_109 (by decide +kernel) ?_
          exact z_iret dX11_chalk_50 rfl (Nat.le_refl 0) (Nat.le_refl 0) ⟨_, _, rfl, rfl, Or.inr ⟨by omega, Or.inr (Or.inl ⟨by omega, by omega, rfl, rfl⟩)⟩⟩
      · refine y_ldc (n := -1000000002) dX11_chalk_36 cX11_105 (by decide +kernel) ?_
        exact z_iret dX11_chalk_38 rfl (Nat.le_refl 0) (Nat.le_refl 0) ⟨_, _, rfl, rfl, Or.inr ⟨by omega, Or.inl ⟨by omega, rfl, rfl⟩⟩⟩
    · refine z_iload_n dX11_chalk_15 rfl ?_
      refine y_bipush dX11_chalk_16 (by decide +kernel) ?_
      refine y_icmp_eq dX11_chalk_18 (by omega) (by omega) (fun c_18 => ?_) (fun c_18 => ?_)
      · refine z_iload_n dX11_chalk_24 rfl ?_
        refine y_i2l dX11_chalk_25 (by omega) ?_
        refine y_lconst (v := 0) dX11_chalk_26 (by decide +kernel) ?_
        refine y_ldc2 (n := 6) dX11_chalk_27 cX11_281 (by decide +kernel) ?_
        refine y_callSr (ct_X11_in (by omega) (by omega) (by omega)) kX11_101 dX11_chalk_30 rfl rfl (by decide) rfl (Nat.le_of_ble_eq_true rfl) (fun r_30 h_30 => ?_)
        refine y_if_ne dX11_chalk_33 (by omega) (fun c_33 => ?_) (fun c_33 => ?_)
        · refine z_aload_n dX11_chalk_39 rfl ?_
          refine y_getI (j := 14) fX11_93 dX11_chalk_40 rfl (by first | assumption | rfl) ?_
          refine y_bipush dX11_chalk_43 (by decide +kernel) ?_
          refine y_icmp_ne dX11_chalk_45 (by omega) (by omega) (fun c_45 => ?_) (fun c_45 => ?_)
          · refine z_aload_n dX11_chalk_51 rfl ?_
            refine y_getR fX11_39 dX11_chalk_52 (by first | assumption | rfl) (by first | assumption | rfl) ?_
            refine y_iconst dX11_chalk_55 ?_
            refine z_aload_n dX11_chalk_56 rfl ?_
            refine y_getI (j := 14) fX11_93 dX11_chalk_57 rfl (by first | assumption | rfl) ?_
            refine y_imul dX11_chalk_60 ?_
            refine z_iload_n dX11_chalk_61 rfl ?_
            refine y_iast dX11_chalk_62 (by first | assumption | rfl) (by first | rfl | assumption) (by omega) ?_
            refine z_aload_n dX11_chalk_63 rfl ?_
            refine y_getR fX11_39 dX11_chalk_64 (by first | assumption | rfl) (by first | assumption | rfl) ?_
            refine y_iconst dX11_chalk_67 ?_
            refine z_aload_n dX11_chalk_68 rfl ?_
            refine y_getI (j := 14) fX11_93 dX11_chalk_69 rfl (by first | assumption | rfl) ?_
            rw [eo]
            refine y_imul dX11_chalk_72 ?_
            refine y_iconst dX11_chalk_73 ?_
            refine y_iadd dX11_chalk_74 ?_
            refine z_iload_n dX11_chalk_75 rfl ?_
            refine y_iast dX11_chalk_76 (by first | assumption | rfl) (by first | rfl | assumption) (by omega) ?_
            refine z_aload_n dX11_chalk_77 rfl ?_
            refine y_getR fX11_39 dX11_chalk_78 (by first | assumption | rfl) (by first | assumption | rfl) ?_
            refine y_iconst dX11_chalk_81 ?_
            refine z_aload_n dX11_chalk_82 rfl ?_
            refine y_getI (j := 14) fX11_93 dX11_chalk_83 rfl (by first | assumption | rfl) ?_
            rw [eo, eo]
            refine y_imul dX11_chalk_86 ?_
            refine y_iconst dX11_chalk_87 ?_
            refine y_iadd dX11_chalk_88 ?_
            refine z_iload_n dX11_chalk_89 rfl ?_
            refine y_iast dX11_chalk_90 (by first | assumption | rfl) (by first | rfl | assumption) (by omega) ?_
            refine z_aload_n dX11_chalk_91 rfl ?_
            refine z_dup dX11_chalk_92 rfl ?_
            refine y_getI (j := 14) fX11_93 dX11_chalk_93 rfl (by first | assumption | rfl) ?_
            rw [eo, eo, eo]
            refine y_iconst dX11_chalk_96 ?_
            refine y_iadd dX11_chalk_97 ?_
            refine y_putI (j := 14) fX11_93 dX11_chalk_98 rfl (by first | assumption | rfl) ?_
            refine z_aload_n dX11_chalk_101 rfl ?_
            refine y_getI (j := 14) fX11_93 dX11_chalk_102 rfl (by first | assumption | rfl) ?_
            exact z_iret dX11_chalk_105 rfl (Nat.le_refl 0) (Nat.le_refl 0) ⟨_, _, rfl, rfl, Or.inr ⟨by omega, Or.inr (Or.inr ⟨by omega, by omega, by rw [vst_s], rfl⟩)⟩⟩
          · refine y_ldc (n := -1000000004) dX11_chalk_48 cX11_109 (by decide +kernel) ?_
            exact z_iret dX11_chalk_50 rfl (Nat.le_refl 0) (Nat.le_refl 0) ⟨_, _, rfl, rfl, Or.inr ⟨by omega, Or.inr (Or.inl ⟨by omega, by omega, rfl, rfl⟩)⟩⟩
        · refine y_ldc (n := -1000000002) dX11_chalk_36 cX11_105 (by decide +kernel) ?_
          exact z_iret dX11_chalk_38 rfl (Nat.le_refl 0) (Nat.le_refl 0) ⟨_, _, rfl, rfl, Or.inr ⟨by omega, Or.inl ⟨by omega, rfl, rfl⟩⟩⟩
      · refine y_ldc (n := -1000000001) dX11_chalk_21 cX11_179 (by decide +kernel) ?_
        exact z_iret dX11_chalk_23 rfl (Nat.le_refl 0) (Nat.le_refl 0) ⟨_, _, rfl, rfl, Or.inl ⟨by omega, rfl, rfl⟩⟩
def bokM (V : Nat → Int → Int) (r i k : Int) : Nat → Int → Int := vst (vst (vst (vst V 144 (3 * V 134 16) r) 144 (3 * V 134 16 + 1) i) 144 (3 * V 134 16 + 2) k) 134 16 (V 134 16 + 1)
theorem ct_X11_write {r i w : Int} (hr : rg r) (hi : rg i) (hk : rg w) (hM : MS V) (hc : 0 ≤ V 134 16 ∧ V 134 16 ≤ 15) : yC 3 mX11_write [.ref 134, .int (iI r), .int (iI i), .int (iI w)] V b (pI b (fun q V' => (¬ ((0 ≤ r ∧ r < V 135 0) ∧ (w = -1 ∨ (0 ≤ w ∧ w < V 135 5))) ∧ q = -1000000001 ∧ V' = V) ∨ (((0 ≤ r ∧ r < V 135 0) ∧ (w = -1 ∨ (0 ≤ w ∧ w < V 135 5))) ∧ ((¬ (0 ≤ i ∧ i ≤ 6) ∧ q = -1000000002 ∧ V' = V) ∨ ((0 ≤ i ∧ i ≤ 6) ∧ V 134 16 = 15 ∧ q = -1000000004 ∧ V' = V) ∨ ((0 ≤ i ∧ i ≤ 6) ∧ V 134 16 < 15 ∧ q = V 134 16 + 1 ∧ V' = bokM V r i w))))) := by
  obtain ⟨m0, m1, m2, m3, m4⟩ := id hM
  have eo : ∀ {U : Nat → Int → Int} {j x : Int}, vst U 144 j x 134 = U 134 := fun {U j x} => vst_o (by decide)
  refine zC_of (by decide +kernel) (Nat.le_of_ble_eq_true rfl) rfl ?_
  refine z_aload_n dX11_write_0 rfl ?_
  refine z_iload_n dX11_write_1 rfl ?_
  refine y_callVr (ct_X11_isRoad (by omega) (by omega)) kX11_187 dX11_write_2 rfl rfl (by first | assumption | rfl) rfl (by decide) rfl (Nat.le_of_ble_eq_true rfl) (fun r_2 h_2 => ?_)
  refine y_if_eq dX11_write_5 (by omega) (fun c_5 => ?_) (fun c_5 => ?_)
  · refine y_ldc (n := -1000000001) dX11_write_21 cX11_179 (by decide +kernel) ?_
    exact z_iret dX11_write_23 rfl (Nat.le_refl 0) (Nat.le_refl 0) ⟨_, _, rfl, rfl, Or.inl ⟨by omega, rfl, rfl⟩⟩
  · refine z_iload_n dX11_write_8 rfl ?_
    refine y_iconst dX11_write_9 ?_
    refine y_icmp_eq dX11_write_10 (by omega) (by omega) (fun c_10 => ?_) (fun c_10 => ?_)
    · refine z_iload_n dX11_write_24 rfl ?_
      refine y_i2l dX11_write_25 (by omega) ?_
      refine y_lconst (v := 0) dX11_write_26 (by decide +kernel) ?_
      refine y_ldc2 (n := 6) dX11_write_27 cX11_281 (by decide +kernel) ?_
      refine y_callSr (ct_X11_in (by omega) (by omega) (by omega)) kX11_101 dX11_write_30 rfl rfl (by decide) rfl (Nat.le_of_ble_eq_true rfl) (fun r_30 h_30 => ?_)
      refine y_if_ne dX11_write_33 (by omega) (fun c_33 => ?_) (fun c_33 => ?_)
      · refine z_aload_n dX11_write_39 rfl ?_
        refine y_getI (j := 16) fX11_96 dX11_write_40 rfl (by first | assumption | rfl) ?_
        refine y_bipush dX11_write_43 (by decide +kernel) ?_
        refine y_icmp_ne dX11_write_45 (by omega) (by omega) (fun c_45 => ?_) (fun c_45 => ?_)
        · refine z_aload_n dX11_write_51 rfl ?_
          refine y_getR fX11_42 dX11_write_52 (by first | assumption | rfl) (by first | assumption | rfl) ?_
          refine y_iconst dX11_write_55 ?_
          refine z_aload_n dX11_write_56 rfl ?_
          refine y_getI (j := 16) fX11_96 dX11_write_57 rfl (by first | assumption | rfl) ?_
          refine y_imul dX11_write_60 ?_
          refine z_iload_n dX11_write_61 rfl ?_
          refine y_iast dX11_write_62 (by first | assumption | rfl) (by first | rfl | assumption) (by omega) ?_
          refine z_aload_n dX11_write_63 rfl ?_
          refine y_getR fX11_42 dX11_write_64 (by first | assumption | rfl) (by first | assumption | rfl) ?_
          refine y_iconst dX11_write_67 ?_
          refine z_aload_n dX11_write_68 rfl ?_
          refine y_getI (j := 16) fX11_96 dX11_write_69 rfl (by first | assumption | rfl) ?_
          rw [eo]
          refine y_imul dX11_write_72 ?_
          refine y_iconst dX11_write_73 ?_
          refine y_iadd dX11_write_74 ?_
          refine z_iload_n dX11_write_75 rfl ?_
          refine y_iast dX11_write_76 (by first | assumption | rfl) (by first | rfl | assumption) (by omega) ?_
          refine z_aload_n dX11_write_77 rfl ?_
          refine y_getR fX11_42 dX11_write_78 (by first | assumption | rfl) (by first | assumption | rfl) ?_
          refine y_iconst dX11_write_81 ?_
          refine z_aload_n dX11_write_82 rfl ?_
          refine y_getI (j := 16) fX11_96 dX11_write_83 rfl (by first | assumption | rfl) ?_
          rw [eo, eo]
          refine y_imul dX11_write_86 ?_
          refine y_iconst dX11_write_87 ?_
          refine y_iadd dX11_write_88 ?_
          refine z_iload_n dX11_write_89 rfl ?_
          refine y_iast dX11_write_90 (by first | assumption | rfl) (by first | rfl | assumption) (by omega) ?_
          refine z_aload_n dX11_write_91 rfl ?_
          refine z_dup dX11_write_92 rfl ?_
          refine y_getI (j := 16) fX11_96 dX11_write_93 rfl (by first | assumption | rfl) ?_
          rw [eo, eo, eo]
          refine y_iconst dX11_write_96 ?_
          refine y_iadd dX11_write_97 ?_
          refine y_putI (j := 16) fX11_96 dX11_write_98 rfl (by first | assumption | rfl) ?_
          refine z_aload_n dX11_write_101 rfl ?_
          refine y_getI (j := 16) fX11_96 dX11_write_102 rfl (by first | assumption | rfl) ?_
          exact z_iret dX11_write_105 rfl (Nat.le_refl 0) (Nat.le_refl 0) ⟨_, _, rfl, rfl, Or.inr ⟨by omega, Or.inr (Or.inr ⟨by omega, by omega, by rw [vst_s], rfl⟩)⟩⟩
        · refine y_ldc (n := -1000000004) dX11_write_48 cX11_109 (by decide +kernel) ?_
          exact z_iret dX11_write_50 rfl (Nat.le_refl 0) (Nat.le_refl 0) ⟨_, _, rfl, rfl, Or.inr ⟨by omega, Or.inr (Or.inl ⟨by omega, by omega, rfl, rfl⟩)⟩⟩
      · refine y_ldc (n := -1000000002) dX11_write_36 cX11_105 (by decide +kernel) ?_
        exact z_iret dX11_write_38 rfl (Nat.le_refl 0) (Nat.le_refl 0) ⟨_, _, rfl, rfl, Or.inr ⟨by omega, Or.inl ⟨by omega, rfl, rfl⟩⟩⟩
    · refine z_aload_n dX11_write_13 rfl ?_
      refine z_iload_n dX11_write_14 rfl ?_
      refine y_callVr (ct_X11_isWagon (by omega) (by omega)) kX11_176 dX11_write_15 rfl rfl (by first | assumption | rfl) rfl (by decide) rfl (Nat.le_of_ble_eq_true rfl) (fun r_15 h_15 => ?_)
      refine y_if_ne dX11_write_18 (by omega) (fun c_18 => ?_) (fun c_18 => ?_)
      · refine z_iload_n dX11_write_24 rfl ?_
        refine y_i2l dX11_write_25 (by omega) ?_
        refine y_lconst (v := 0) dX11_write_26 (by decide +kernel) ?_
        refine y_ldc2 (n := 6) dX11_write_27 cX11_281 (by decide +kernel) ?_
        refine y_callSr (ct_X11_in (by omega) (by omega) (by omega)) kX11_101 dX11_write_30 rfl rfl (by decide) rfl (Nat.le_of_ble_eq_true rfl) (fun r_30 h_30 => ?_)
        refine y_if_ne dX11_write_33 (by omega) (fun c_33 => ?_) (fun c_33 => ?_)
        · refine z_aload_n dX11_write_39 rfl ?_
          refine y_getI (j := 16) fX11_96 dX11_write_40 rfl (by first | assumption | rfl) ?_
          refine y_bipush dX11_write_43 (by decide +kernel) ?_
          refine y_icmp_ne dX11_write_45 (by omega) (by omega) (fun c_45 => ?_) (fun c_45 => ?_)
          · refine z_aload_n dX11_write_51 rfl ?_
            refine y_getR fX11_42 dX11_write_52 (by first | assumption | rfl) (by first | assumption | rfl) ?_
            refine y_iconst dX11_write_55 ?_
            refine z_aload_n dX11_write_56 rfl ?_
            refine y_getI (j := 16) fX11_96 dX11_write_57 rfl (by first | assumption | rfl) ?_
            refine y_imul dX11_write_60 ?_
            refine z_iload_n dX11_write_61 rfl ?_
            refine y_iast dX11_write_62 (by first | assumption | rfl) (by first | rfl | assumption) (by omega) ?_
            refine z_aload_n dX11_write_63 rfl ?_
            refine y_getR fX11_42 dX11_write_64 (by first | assumption | rfl) (by first | assumption | rfl) ?_
            refine y_iconst dX11_write_67 ?_
            refine z_aload_n dX11_write_68 rfl ?_
            refine y_getI (j := 16) fX11_96 dX11_write_69 rfl (by first | assumption | rfl) ?_
            rw [eo]
            refine y_imul dX11_write_72 ?_
            refine y_iconst dX11_write_73 ?_
            refine y_iadd dX11_write_74 ?_
            refine z_iload_n dX11_write_75 rfl ?_
            refine y_iast dX11_write_76 (by first | assumption | rfl) (by first | rfl | assumption) (by omega) ?_
            refine z_aload_n dX11_write_77 rfl ?_
            refine y_getR fX11_42 dX11_write_78 (by first | assumption | rfl) (by first | assumption | rfl) ?_
            refine y_iconst dX11_write_81 ?_
            refine z_aload_n dX11_write_82 rfl ?_
            refine y_getI (j := 16) fX11_96 dX11_write_83 rfl (by first | assumption | rfl) ?_
            rw [eo, eo]
            refine y_imul dX11_write_86 ?_
            refine y_iconst dX11_write_87 ?_
            refine y_iadd dX11_write_88 ?_
            refine z_iload_n dX11_write_89 rfl ?_
            refine y_iast dX11_write_90 (by first | assumption | rfl) (by first | rfl | assumption) (by omega) ?_
            refine z_aload_n dX11_write_91 rfl ?_
            refine z_dup dX11_write_92 rfl ?_
            refine y_getI (j := 16) fX11_96 dX11_write_93 rfl (by first | assumption | rfl) ?_
            rw [eo, eo, eo]
            refine y_iconst dX11_write_96 ?_
            refine y_iadd dX11_write_97 ?_
            refine y_putI (j := 16) fX11_96 dX11_write_98 rfl (by first | assumption | rfl) ?_
            refine z_aload_n dX11_write_101 rfl ?_
            refine y_getI (j := 16) fX11_96 dX11_write_102 rfl (by first | assumption | rfl) ?_
            exact z_iret dX11_write_105 rfl (Nat.le_refl 0) (Nat.le_refl 0) ⟨_, _, rfl, rfl, Or.inr ⟨by omega, Or.inr (Or.inr ⟨by omega, by omega, by rw [vst_s], rfl⟩)⟩⟩
          · refine y_ldc (n := -1000000004) dX11_write_48 cX11_109 (by decide +kernel) ?_
            exact z_iret dX11_write_50 rfl (Nat.le_refl 0) (Nat.le_refl 0) ⟨_, _, rfl, rfl, Or.inr ⟨by omega, Or.inr (Or.inl ⟨by omega, by omega, rfl, rfl⟩)⟩⟩
        · refine y_ldc (n := -1000000002) dX11_write_36 cX11_105 (by decide +kernel) ?_
          exact z_iret dX11_write_38 rfl (Nat.le_refl 0) (Nat.le_refl 0) ⟨_, _, rfl, rfl, Or.inr ⟨by omega, Or.inl ⟨by omega, rfl, rfl⟩⟩⟩
      · refine y_ldc (n := -1000000001) dX11_write_21 cX11_179 (by decide +kernel) ?_
        exact z_iret dX11_write_23 rfl (Nat.le_refl 0) (Nat.le_refl 0) ⟨_, _, rfl, rfl, Or.inl ⟨by omega, rfl, rfl⟩⟩
/-- the first entry of the book that is otherwise -/
def jgM (V : Nat → Int → Int) (q : Int) : Prop := (∃ n, 0 ≤ n ∧ n < V 134 16 ∧ atM (V 137) (V 144 (3 * n)) (V 144 (3 * n + 1)) ≠ V 144 (3 * n + 2) ∧ (∀ m, 0 ≤ m → m < n → atM (V 137) (V 144 (3 * m)) (V 144 (3 * m + 1)) = V 144 (3 * m + 2)) ∧ q = n) ∨ ((∀ m, 0 ≤ m → m < V 134 16 → atM (V 137) (V 144 (3 * m)) (V 144 (3 * m + 1)) = V 144 (3 * m + 2)) ∧ q = -1)
theorem atM_rg {N : Int → Int} {r i : Int} (hN : NS V) (hr : 0 ≤ r ∧ r ≤ 3) : -1 ≤ atM (V 137) r i ∧ atM (V 137) r i ≤ 6 := by
  obtain ⟨n0, n1, n2, n3, n4⟩ := hN
  have nr := n1 r (by omega) (by omega)
  unfold atM
  rw [if_neg (by omega)]
  split
  · have := n3 (12 + 7 * r + i) (by omega) (by omega); omega
  · omega
theorem ct_X11_judge (hM : MS V) (hN : NS V) (hb : 0 ≤ V 134 16 ∧ V 134 16 ≤ 15) (hbk : ∀ m, 0 ≤ m → m < V 134 16 → (0 ≤ V 144 (3 * m) ∧ V 144 (3 * m) < V 135 0) ∧ (0 ≤ V 144 (3 * m + 1) ∧ V 144 (3 * m + 1) ≤ 6) ∧ (-1 ≤ V 144 (3 * m + 2) ∧ V 144 (3 * m + 2) ≤ 6)) : yC 4 mX11_judge [.ref 134] V b (pR b V (jgM V)) := by
  obtain ⟨m0, m1, m2, m3, m4⟩ := id hM
  have loop : ∀ (k : Nat) (n : Int), 0 ≤ n → n ≤ V 134 16 → V 134 16 - n ≤ k → (∀ m, 0 ≤ m → m < n → atM (V 137) (V 144 (3 * m)) (V 144 (3 * m + 1)) = V 144 (3 * m + 2)) → yE 4 (pR b V (jgM V)) mX11_judge 2 [some (.ref 134), some (.int (iI n))] [] V b := by
    intro k
    induction k with
    | zero =>
      intro n h1 h2 h3 h4
      refine z_iload_n dX11_judge_2 rfl ?_
      refine z_aload_n dX11_judge_3 rfl ?_
      refine y_getI (j := 16) fX11_96 dX11_judge_4 rfl (by first | assumption | rfl) ?_
      refine y_icmp_ge dX11_judge_7 (by omega) (by omega) (fun c_7 => ?_) (fun c_7 => ?_)
      · refine y_iconst dX11_judge_53 ?_
        exact z_iret dX11_judge_54 rfl (Nat.le_refl 0) (Nat.le_refl 0) ⟨_, rfl, rfl, Or.inr ⟨fun m m1 m2 => h4 m m1 (by omega), rfl⟩⟩
      · omega
    | succ k ih =>
      intro n h1 h2 h3 h4
      refine z_iload_n dX11_judge_2 rfl ?_
      refine z_aload_n dX11_judge_3 rfl ?_
      refine y_getI (j := 16) fX11_96 dX11_judge_4 rfl (by first | assumption | rfl) ?_
      refine y_icmp_ge dX11_judge_7 (by omega) (by omega) (fun c_7 => ?_) (fun c_7 => ?_)
      · refine y_iconst dX11_judge_53 ?_
        exact z_iret dX11_judge_54 rfl (Nat.le_refl 0) (Nat.le_refl 0) ⟨_, rfl, rfl, Or.inr ⟨fun m m1 m2 => h4 m m1 (by omega), rfl⟩⟩
      · have hbn := hbk n h1 c_7
        have hat := atM_rg (N := V 137) (r := V 144 (3 * n)) (i := V 144 (3 * n + 1)) hN (by omega)
        refine z_aload_n dX11_judge_10 rfl ?_
        refine z_aload_n dX11_judge_11 rfl ?_
        refine y_getR fX11_42 dX11_judge_12 (by first | assumption | rfl) (by first | assumption | rfl) ?_
        refine y_iconst dX11_judge_15 ?_
        refine z_iload_n dX11_judge_16 rfl ?_
        refine y_imul dX11_judge_17 ?_
        refine y_iald dX11_judge_18 (by first | assumption | rfl) (by first | rfl | assumption) (by omega) ?_
        refine z_aload_n dX11_judge_19 rfl ?_
        refine y_getR fX11_42 dX11_judge_20 (by first | assumption | rfl) (by first | assumption | rfl) ?_
        refine y_iconst dX11_judge_23 ?_
        refine z_iload_n dX11_judge_24 rfl ?_
        refine y_imul dX11_judge_25 ?_
        refine y_iconst dX11_judge_26 ?_
        refine y_iadd dX11_judge_27 ?_
        refine y_iald dX11_judge_28 (by first | assumption | rfl) (by first | rfl | assumption) (by omega) ?_
        refine y_callVr (ct_X11_at (by omega) (by omega) (by assumption) (by assumption)) kX11_286 dX11_judge_29 rfl rfl (by first | assumption | rfl) rfl (by decide) rfl (Nat.le_of_ble_eq_true rfl) (fun r_29 h_29 => ?_)
        have hat2 : r_29 = atM (V 137) (V 144 (3 * n)) (V 144 (3 * n + 1)) := by
          rcases h_29 with h | h
          · exact absurd (Or.inr (by omega)) h.1
          · exact h.2
        subst hat2
        refine z_aload_n dX11_judge_32 rfl ?_
        refine y_getR fX11_42 dX11_judge_33 (by first | assumption | rfl) (by first | assumption | rfl) ?_
        refine y_iconst dX11_judge_36 ?_
        refine z_iload_n dX11_judge_37 rfl ?_
        refine y_imul dX11_judge_38 ?_
        refine y_iconst dX11_judge_39 ?_
        refine y_iadd dX11_judge_40 ?_
        refine y_iald dX11_judge_41 (by first | assumption | rfl) (by first | rfl | assumption) (by omega) ?_
        refine y_icmp_eq dX11_judge_42 (by omega) (by omega) (fun c_42 => ?_) (fun c_42 => ?_)
        · refine y_iinc dX11_judge_47 rfl (by decide) rfl rfl ?_
          refine z_goto dX11_judge_50 ?_
          refine ih (n + 1) (by omega) (by omega) (by omega) (fun m m1 m2 => ?_)
          by_cases hm : m = n
          · subst hm; exact c_42
          · exact h4 m m1 (by omega)
        · refine z_iload_n dX11_judge_45 rfl ?_
          exact z_iret dX11_judge_46 rfl (Nat.le_refl 0) (Nat.le_refl 0) ⟨_, rfl, rfl, Or.inl ⟨n, h1, c_7, c_42, h4, rfl⟩⟩
  refine zC_of (by decide +kernel) (Nat.le_of_ble_eq_true rfl) rfl ?_
  refine y_iconst dX11_judge_0 ?_
  refine z_istore_n dX11_judge_1 (by decide) rfl rfl ?_
  exact loop 15 0 (by omega) (by omega) (by omega) (fun m m1 m2 => by omega)
end

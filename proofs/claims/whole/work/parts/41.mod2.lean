/-! ===== GrudgeYardModel: what changes now ===== -/
theorem vst_vst (V : Nat → Int → Int) (a : Nat) (k x z : Int) : vst (vst V a k x) a k z = vst V a k z := by
  unfold vst
  rw [zup_s, zup_zup]
  congr 1
  funext j
  unfold iup
  split <;> rfl
theorem vst_zup {V : Nat → Int → Int} {a c : Nat} {f : Int → Int} {k x : Int} (h : a ≠ c) : vst (zup V c f) a k x = zup (vst V a k x) c f := by
  funext q
  unfold vst
  by_cases hq : q = a
  · subst hq
    rw [zup_s, zup_n _ _ h, zup_n _ _ h, zup_s]
  · by_cases hc : q = c
    · subst hc
      rw [zup_n _ _ hq, zup_s, zup_s]
    · rw [zup_n _ _ hq, zup_n _ _ hc, zup_n _ _ hc, zup_n _ _ hq]
theorem zup_comm {α : Type} {V : Nat → α} {a c : Nat} {f g : α} (h : a ≠ c) : zup (zup V c f) a g = zup (zup V a g) c f := by
  funext q
  by_cases hq : q = a
  · subst hq
    rw [zup_s, zup_n _ _ h, zup_s]
  · by_cases hc : q = c
    · subst hc
      rw [zup_n _ _ hq, zup_s, zup_s]
    · rw [zup_n _ _ hq, zup_n _ _ hc, zup_n _ _ hc, zup_n _ _ hq]
theorem vst_zup_s {V : Nat → Int → Int} {a : Nat} {f : Int → Int} {k x : Int} : vst (zup V a f) a k x = zup V a (iup f k x) := by
  unfold vst
  rw [zup_s, zup_zup]
section
variable {V : Nat → Int → Int} {b : Bool}
theorem icp_0 (f g : Int → Int) (sp dp : Int) : icp f g sp dp 0 = g := by
  funext j
  unfold icp
  rw [if_neg (by omega)]
theorem icp_s (f g : Int → Int) {sp dp n : Int} (hn : 0 ≤ n) : iup (icp f g sp dp n) (dp + n) (f (sp + n)) = icp f g sp dp (n + 1) := by
  funext j
  unfold iup icp
  by_cases h : j = dp + n
  · rw [if_pos h, if_pos (by omega)]
    congr 1
    omega
  · rw [if_neg h]
    by_cases h2 : dp ≤ j ∧ j < dp + n
    · rw [if_pos h2, if_pos (by omega)]
    · rw [if_neg h2, if_neg (by omega)]
theorem ct_X11_copies {p q m n : Nat} {i j : Int} (hp : S0[p]? = some (.inr (0, m))) (hq : S0[q]? = some (.inr (0, n))) (hpq : p ≠ q) (hi : 0 ≤ i ∧ i + 47 ≤ m) (hj : 0 ≤ j ∧ j + 47 ≤ n) (hm : m ≤ 1000) (hn : n ≤ 1000) : yC 1 mX11_copies [.ref p, .int (iI i), .ref q, .int (iI j)] V b (pV b (fun V' => V' = zup V q (icp (V p) (V q) i j 47))) := by
  have hm2 : Nat.ble m 2147483647 = true := by rw [Nat.ble_eq]; omega
  have hn2 : Nat.ble n 2147483647 = true := by rw [Nat.ble_eq]; omega
  have loop : ∀ (t : Nat) (k : Int), 0 ≤ k → k + t = 47 → yE 1 (pV b (fun V' => V' = zup V q (icp (V p) (V q) i j 47))) mX11_copies 3 [some (.ref p), some (.int (iI i)), some (.ref q), some (.int (iI j)), some (.int (iI k))] [] (zup V q (icp (V p) (V q) i j k)) b := by
    intro t
    induction t with
    | zero =>
      intro k h1 h2
      refine z_iload dX11_copies_3 rfl ?_
      refine y_bipush dX11_copies_5 (by decide +kernel) ?_
      refine y_icmp_ge dX11_copies_7 (by omega) (by omega) (fun c_7 => ?_) (fun c_7 => ?_)
      · exact z_vret dX11_copies_28 rfl (Nat.le_refl 0) (Nat.le_refl 0) ⟨_, rfl, rfl, by rw [show k = 47 by omega]⟩
      · omega
    | succ t ih =>
      intro k h1 h2
      have hih := ih (k + 1) (by omega) (by omega)
      rw [← icp_s _ _ h1, ← vst_zup_s] at hih
      refine z_iload dX11_copies_3 rfl ?_
      refine y_bipush dX11_copies_5 (by decide +kernel) ?_
      refine y_icmp_ge dX11_copies_7 (by omega) (by omega) (fun c_7 => ?_) (fun c_7 => ?_)
      · omega
      · refine z_aload_n dX11_copies_10 rfl ?_
        refine z_iload_n dX11_copies_11 rfl ?_
        refine z_iload dX11_copies_12 rfl ?_
        refine y_iadd dX11_copies_14 ?_
        refine z_aload_n dX11_copies_15 rfl ?_
        refine z_iload_n dX11_copies_16 rfl ?_
        refine z_iload dX11_copies_17 rfl ?_
        refine y_iadd dX11_copies_19 ?_
        refine y_iald dX11_copies_20 hp (by first | rfl | assumption) (by omega) ?_
        rw [zup_n _ _ hpq]
        refine y_iast dX11_copies_21 hq (by first | rfl | assumption) (by omega) ?_
        refine y_iinc dX11_copies_22 rfl (by decide) rfl rfl ?_
        refine z_goto dX11_copies_25 ?_
        exact hih
  have h0 := loop 47 0 (by omega) (by omega)
  rw [icp_0, zup_id] at h0
  refine zC_of (by decide +kernel) (Nat.le_of_ble_eq_true rfl) rfl ?_
  refine y_iconst dX11_copies_0 ?_
  refine z_istore dX11_copies_1 (by decide) rfl rfl ?_
  exact h0
/-- the past with 'now' behind it -/
def pastM (P N : Int → Int) (u : Int) : Int → Int := if u = 20 then icp N (icp P P 47 0 893) 0 893 47 else icp N P 0 (47 * u) 47
def remM (V : Nat → Int → Int) : Nat → Int → Int := vst (zup V 138 (pastM (V 138) (V 137) (V 134 4))) 134 4 (min (V 134 4 + 1) 20)
theorem ct_X11_remember (hu : 0 ≤ V 134 4 ∧ V 134 4 ≤ 20) : yC 2 mX11_remember [.ref 134] V b (pV b (fun V' => V' = remM V)) := by
  have loop : ∀ (t : Nat) (k : Int), V 134 4 = 20 → 0 ≤ k → k + t = 893 → yE 2 (pV b (fun V' => V' = remM V)) mX11_remember 11 [some (.ref 134), some (.int (iI k))] [] (zup V 138 (icp (V 138) (V 138) 47 0 k)) b := by
    intro t
    induction t with
    | zero =>
      intro k h0 h1 h2
      have hk : k = 893 := by omega
      subst hk
      have e4 : zup V 138 (icp (V 138) (V 138) 47 0 893) 134 4 = 20 := by rw [zup_n _ _ (by decide)]; exact h0
      refine z_iload_n dX11_remember_11 rfl ?_
      refine y_sipush dX11_remember_12 (by decide +kernel) ?_
      refine y_icmp_ge dX11_remember_15 (by omega) (by omega) (fun c_15 => ?_) (fun c_15 => ?_)
      · refine z_aload_n dX11_remember_39 rfl ?_
        refine z_dup dX11_remember_40 rfl ?_
        refine y_getI (j := 4) fX11_87 dX11_remember_41 rfl (by first | assumption | rfl) ?_
        refine y_iconst dX11_remember_44 ?_
        refine y_isub dX11_remember_45 ?_
        refine y_putI (j := 4) fX11_87 dX11_remember_46 rfl (by first | assumption | rfl) ?_
        refine z_aload_n dX11_remember_49 rfl ?_
        refine y_getR fX11_16 dX11_remember_50 (by first | assumption | rfl) (by first | assumption | rfl) ?_
        refine y_iconst dX11_remember_53 ?_
        refine z_aload_n dX11_remember_54 rfl ?_
        refine y_getR fX11_19 dX11_remember_55 (by first | assumption | rfl) (by first | assumption | rfl) ?_
        refine y_bipush dX11_remember_58 (by decide +kernel) ?_
        refine z_aload_n dX11_remember_60 rfl ?_
        refine y_getI (j := 4) fX11_87 dX11_remember_61 rfl (by first | assumption | rfl) ?_
        refine y_imul dX11_remember_64 ?_
        rw [vst_s, e4]
        refine y_callSv (ct_X11_copies (p := 137) (q := 138) (m := 47) (n := 940) rfl rfl (by decide) (by omega) (by omega) (by decide) (by decide)) kX11_196 dX11_remember_65 rfl rfl (by decide) rfl (Nat.le_of_ble_eq_true rfl) (fun V1 h_65 => ?_)
        subst h_65
        refine z_aload_n dX11_remember_68 rfl ?_
        refine z_dup dX11_remember_69 rfl ?_
        refine y_getI (j := 4) fX11_87 dX11_remember_70 rfl (by first | assumption | rfl) ?_
        refine y_iconst dX11_remember_73 ?_
        refine y_iadd dX11_remember_74 ?_
        refine y_putI (j := 4) fX11_87 dX11_remember_75 rfl (by first | assumption | rfl) ?_
        exact z_vret dX11_remember_78 rfl (Nat.le_refl 0) (Nat.le_refl 0) ⟨_, rfl, rfl, by
          unfold remM pastM
          simp only [e4, vst_s, vst_o (show (137 : Nat) ≠ 134 by decide), vst_o (show (138 : Nat) ≠ 134 by decide), zup_n _ _ (show (134 : Nat) ≠ 138 by decide), zup_n _ _ (show (137 : Nat) ≠ 138 by decide), zup_s]
          rw [h0, if_pos rfl, vst_zup (by decide), vst_vst, ← vst_zup (by decide), zup_zup, vst_zup (by decide), vst_zup (by decide)]
          rfl⟩
      · omega
    | succ t ih =>
      intro k h0 h1 h2
      have hih := ih (k + 1) h0 (by omega) (by omega)
      have ei := icp_s (V 138) (V 138) (sp := 47) (dp := 0) h1
      rw [← ei, ← vst_zup_s, Int.zero_add] at hih
      have e : zup V 138 (icp (V 138) (V 138) 47 0 k) 138 (k + 47) = V 138 (47 + k) := by
        rw [zup_s]
        unfold icp
        rw [if_neg (by omega)]
        congr 1
        omega
      refine z_iload_n dX11_remember_11 rfl ?_
      refine y_sipush dX11_remember_12 (by decide +kernel) ?_
      refine y_icmp_ge dX11_remember_15 (by omega) (by omega) (fun c_15 => ?_) (fun c_15 => ?_)
      · omega
      · refine z_aload_n dX11_remember_18 rfl ?_
        refine y_getR fX11_19 dX11_remember_19 (by first | assumption | rfl) (by first | assumption | rfl) ?_
        refine z_iload_n dX11_remember_22 rfl ?_
        refine z_aload_n dX11_remember_23 rfl ?_
        refine y_getR fX11_19 dX11_remember_24 (by first | assumption | rfl) (by first | assumption | rfl) ?_
        refine z_iload_n dX11_remember_27 rfl ?_
        refine y_bipush dX11_remember_28 (by decide +kernel) ?_
        refine y_iadd dX11_remember_30 ?_
        refine y_iald dX11_remember_31 (by first | assumption | rfl) (by first | rfl | assumption) (by omega) ?_
        rw [e]
        refine y_iast dX11_remember_32 (by first | assumption | rfl) (by first | rfl | assumption) (by omega) ?_
        refine y_iinc dX11_remember_33 rfl (by decide) rfl rfl ?_
        refine z_goto dX11_remember_36 ?_
        exact hih
  refine zC_of (by decide +kernel) (Nat.le_of_ble_eq_true rfl) rfl ?_
  refine z_aload_n dX11_remember_0 rfl ?_
  refine y_getI (j := 4) fX11_87 dX11_remember_1 rfl (by first | assumption | rfl) ?_
  refine y_bipush dX11_remember_4 (by decide +kernel) ?_
  refine y_icmp_ne dX11_remember_6 (by omega) (by omega) (fun c_6 => ?_) (fun c_6 => ?_)
  · refine z_aload_n dX11_remember_49 rfl ?_
    refine y_getR fX11_16 dX11_remember_50 (by first | assumption | rfl) (by first | assumption | rfl) ?_
    refine y_iconst dX11_remember_53 ?_
    refine z_aload_n dX11_remember_54 rfl ?_
    refine y_getR fX11_19 dX11_remember_55 (by first | assumption | rfl) (by first | assumption | rfl) ?_
    refine y_bipush dX11_remember_58 (by decide +kernel) ?_
    refine z_aload_n dX11_remember_60 rfl ?_
    refine y_getI (j := 4) fX11_87 dX11_remember_61 rfl (by first | assumption | rfl) ?_
    refine y_imul dX11_remember_64 ?_
    refine y_callSv (ct_X11_copies (p := 137) (q := 138) (m := 47) (n := 940) rfl rfl (by decide) (by omega) (by omega) (by decide) (by decide)) kX11_196 dX11_remember_65 rfl rfl (by decide) rfl (Nat.le_of_ble_eq_true rfl) (fun V1 h_65 => ?_)
    subst h_65
    refine z_aload_n dX11_remember_68 rfl ?_
    refine z_dup dX11_remember_69 rfl ?_
    refine y_getI (j := 4) fX11_87 dX11_remember_70 rfl (by first | assumption | rfl) ?_
    refine y_iconst dX11_remember_73 ?_
    refine y_iadd dX11_remember_74 ?_
    refine y_putI (j := 4) fX11_87 dX11_remember_75 rfl (by first | assumption | rfl) ?_
    exact z_vret dX11_remember_78 rfl (Nat.le_refl 0) (Nat.le_refl 0) ⟨_, rfl, rfl, by
      unfold remM pastM
      rw [if_neg (by omega), zup_n _ _ (show (134 : Nat) ≠ 138 by decide), show min (V 134 4 + 1) 20 = V 134 4 + 1 by omega]⟩
  · have h0 := loop 893 0 (by omega) (by omega) (by omega)
    rw [icp_0, zup_id] at h0
    refine y_iconst dX11_remember_9 ?_
    refine z_istore_n dX11_remember_10 (by decide) rfl rfl ?_
    exact h0
/-! cuts -/
/-- the wagon ahead of the i-th that is let down -/
def pvM (N : Int → Int) (r : Int) (i : Nat) : Int := if i = 0 then N (12 + 7 * r + N (8 + r) - 1) else N i
def ckM (Y N : Int → Int) (r : Int) (i : Nat) : Int := if 0 < i ∨ 0 < N (8 + r) then enI Y (Y (6 + pvM N r i)) (Y (6 + N (1 + i))) else 0
def Kc (Y N : Int → Int) (r : Int) : Nat → Int
  | 0 => 0
  | i + 1 => Kc Y N r i + ckM Y N r i
def Fc (Y N : Int → Int) (r : Int) : Nat → Int
  | 0 => N 46
  | i + 1 => if ckM Y N r i ≠ 0 ∧ Fc Y N r i = -1 then 10 * pvM N r i + N (1 + i) else Fc Y N r i
theorem ckM_01 (Y N : Int → Int) (r : Int) (i : Nat) : ckM Y N r i = 0 ∨ ckM Y N r i = 1 := by
  unfold ckM
  split
  · exact enI_01 _ _ _
  · exact Or.inl rfl
theorem Kc_rg (Y N : Int → Int) (r : Int) : ∀ i : Nat, 0 ≤ Kc Y N r i ∧ Kc Y N r i ≤ i
  | 0 => by simp [Kc]
  | i + 1 => by
    have := Kc_rg Y N r i
    have := ckM_01 Y N r i
    unfold Kc
    omega
/-- 'now' after i have run down, the hump as it was -/
def L1 (Y N : Int → Int) (r : Int) (i : Nat) : Int → Int := fun j => if j = 8 + r then N (8 + r) + i else if 12 + 7 * r + N (8 + r) ≤ j ∧ j < 12 + 7 * r + N (8 + r) + i then N (1 + (j - (12 + 7 * r + N (8 + r)))) else if j = 46 then Fc Y N r i else N j
/-- and the hump as it is then -/
def L2 (Y N : Int → Int) (k r : Int) (i : Int) : Int → Int := fun j => if j = 0 then N 0 - k else if 1 ≤ j ∧ j < 1 + i then N (j + k) else L1 Y N r k.toNat j
/-- 'now' after a cut of k into road r -/
def cutN (Y N : Int → Int) (k r : Int) : Int → Int := iup (iup (L2 Y N k r (N 0 - k)) 44 (N 44 + 1)) 45 (N 45 + Kc Y N r k.toNat)
theorem ct_X11_cuts {k r : Int} (hk : 0 ≤ k ∧ k ≤ 7) (hr : 0 ≤ r ∧ r ≤ 3) (hk0 : k ≤ V 137 0) (hkr : V 137 (8 + r) + k ≤ 7) (hM : MS V) (hN : NS V) (hf : rg (V 137 46)) : yC 4 mX11_cuts [.ref 134, .int (iI k), .int (iI r)] V b (pI b (fun q V' => q = Kc (V 135) (V 137) r k.toNat ∧ V' = zup V 137 (cutN (V 135) (V 137) k r))) := by
  obtain ⟨n0, n1, n2, n3, n4⟩ := id hN
  have nr := n1 r (by omega) (by omega)
  have hMu : ∀ f, MS (zup V 137 f) := fun f => MS_congr (zup_n _ _ (by decide)) hM
  have hpv : ∀ i : Nat, (i : Int) < k → (0 < i ∨ 0 < V 137 (8 + r)) → 0 ≤ pvM (V 137) r i ∧ pvM (V 137) r i ≤ 6 := by
    intro i h1 h2
    unfold pvM
    split
    · exact n3 _ (by omega) (by omega)
    · exact n2 _ (by omega) (by omega)
  have hFr : ∀ i : Nat, (i : Int) ≤ k → rg (Fc (V 135) (V 137) r i) := by
    intro i
    induction i with
    | zero => intro _; exact hf
    | succ i ih =>
      intro h
      have ih := ih (by omega)
      unfold Fc
      split
      · rename_i hc
        have hex : 0 < i ∨ 0 < V 137 (8 + r) := by
          by_cases hh : 0 < i ∨ 0 < V 137 (8 + r)
          · exact hh
          · exfalso; apply hc.1; unfold ckM; rw [if_neg hh]
        have h1 := hpv i (by omega) hex
        have h2 := n2 (1 + i) (by omega) (by omega)
        exact ⟨by omega, by omega⟩
      · exact ih
  have loop2 : ∀ (t : Nat) (i : Int) (a5 a6 : Option Value), 0 ≤ i → i + t = V 137 0 - k → yE 4 (pI b (fun q V' => q = Kc (V 135) (V 137) r k.toNat ∧ V' = zup V 137 (cutN (V 135) (V 137) k r))) mX11_cuts 167 [some (.ref 134), some (.int (iI k)), some (.int (iI r)), some (.int (iI (Kc (V 135) (V 137) r k.toNat))), some (.int (iI i)), a5, a6] [] (zup V 137 (L2 (V 135) (V 137) k r i)) b := by
    intro t
    induction t with
    | zero =>
      intro i a5 a6 h1 h2
      have hi : i = V 137 0 - k := by omega
      subst hi
      have e0 : L2 (V 135) (V 137) k r (V 137 0 - k) 0 = V 137 0 - k := by unfold L2; rw [if_pos rfl]
      have e44 : L2 (V 135) (V 137) k r (V 137 0 - k) 44 = V 137 44 := by
        unfold L2 L1
        rw [if_neg (by omega), if_neg (by omega), if_neg (by omega), if_neg (by omega), if_neg (by omega)]
      have e45 : L2 (V 135) (V 137) k r (V 137 0 - k) 45 = V 137 45 := by
        unfold L2 L1
        rw [if_neg (by omega), if_neg (by omega), if_neg (by omega), if_neg (by omega), if_neg (by omega)]
      refine z_iload dX11_cuts_167 rfl ?_
      refine z_aload_n dX11_cuts_169 rfl ?_
      refine y_getR fX11_16 dX11_cuts_170 (by first | assumption | rfl) (by first | assumption | rfl) ?_
      refine y_iconst dX11_cuts_173 ?_
      refine y_iald dX11_cuts_174 (by first | assumption | rfl) (by first | rfl | assumption) (by omega) ?_
      rw [zup_s, e0]
      refine y_icmp_ge dX11_cuts_175 (by omega) (by omega) (fun c_175 => ?_) (fun c_175 => ?_)
      · refine z_aload_n dX11_cuts_204 rfl ?_
        refine y_getR fX11_16 dX11_cuts_205 (by first | assumption | rfl) (by first | assumption | rfl) ?_
        refine y_bipush dX11_cuts_208 (by decide +kernel) ?_
        refine z_dup2 dX11_cuts_210 rfl rfl ?_
        refine y_iald dX11_cuts_211 (by first | assumption | rfl) (by first | rfl | assumption) (by omega) ?_
        refine y_iconst dX11_cuts_212 ?_
        refine y_iadd dX11_cuts_213 ?_
        refine y_iast dX11_cuts_214 (by first | assumption | rfl) (by first | rfl | assumption) (by omega) ?_
        refine z_aload_n dX11_cuts_215 rfl ?_
        refine y_getR fX11_16 dX11_cuts_216 (by first | assumption | rfl) (by first | assumption | rfl) ?_
        refine y_bipush dX11_cuts_219 (by decide +kernel) ?_
        refine z_dup2 dX11_cuts_221 rfl rfl ?_
        refine y_iald dX11_cuts_222 (by first | assumption | rfl) (by first | rfl | assumption) (by omega) ?_
        refine z_iload_n dX11_cuts_223 rfl ?_
        refine y_iadd dX11_cuts_224 ?_
        refine y_iast dX11_cuts_225 (by first | assumption | rfl) (by first | rfl | assumption) (by omega) ?_
        refine z_iload_n dX11_cuts_226 rfl ?_
        exact z_iret dX11_cuts_227 rfl (Nat.le_refl 0) (Nat.le_refl 0) ⟨_, _, rfl, rfl, rfl, by
          unfold cutN
          rw [vst_zup_s, vst_zup_s, zup_s, zup_s, iup_n (by decide), e44, e45]⟩
      · omega
    | succ t ih =>
      intro i a5 a6 h1 h2
      have e0 : L2 (V 135) (V 137) k r i 0 = V 137 0 - k := by unfold L2; rw [if_pos rfl]
      have er : L2 (V 135) (V 137) k r i (1 + i + k) = V 137 (1 + i + k) := by
        unfold L2 L1
        rw [if_neg (by omega), if_neg (by omega), if_neg (by omega), if_neg (by omega), if_neg (by omega)]
      have hih := ih (i + 1) a5 a6 (by omega) (by omega)
      have es : L2 (V 135) (V 137) k r (i + 1) = iup (L2 (V 135) (V 137) k r i) (1 + i) (V 137 (1 + i + k)) := by
        funext j
        unfold iup L2
        by_cases hj : j = 1 + i
        · subst hj
          rw [if_neg (by omega), if_pos (by omega), if_pos rfl]
        · rw [if_neg hj]
          by_cases hj0 : j = 0
          · rw [if_pos hj0, if_pos hj0]
          · rw [if_neg hj0, if_neg hj0]
            by_cases hj1 : 1 ≤ j ∧ j < 1 + i
            · rw [if_pos hj1, if_pos (by omega)]
            · rw [if_neg hj1, if_neg (by omega)]
      rw [es, ← vst_zup_s] at hih
      refine z_iload dX11_cuts_167 rfl ?_
      refine z_aload_n dX11_cuts_169 rfl ?_
      refine y_getR fX11_16 dX11_cuts_170 (by first | assumption | rfl) (by first | assumption | rfl) ?_
      refine y_iconst dX11_cuts_173 ?_
      refine y_iald dX11_cuts_174 (by first | assumption | rfl) (by first | rfl | assumption) (by omega) ?_
      rw [zup_s, e0]
      refine y_icmp_ge dX11_cuts_175 (by omega) (by omega) (fun c_175 => ?_) (fun c_175 => ?_)
      · omega
      · refine z_aload_n dX11_cuts_178 rfl ?_
        refine y_getR fX11_16 dX11_cuts_179 (by first | assumption | rfl) (by first | assumption | rfl) ?_
        refine y_iconst dX11_cuts_182 ?_
        refine z_iload dX11_cuts_183 rfl ?_
        refine y_iadd dX11_cuts_185 ?_
        refine z_aload_n dX11_cuts_186 rfl ?_
        refine y_getR fX11_16 dX11_cuts_187 (by first | assumption | rfl) (by first | assumption | rfl) ?_
        refine y_iconst dX11_cuts_190 ?_
        refine z_iload dX11_cuts_191 rfl ?_
        refine y_iadd dX11_cuts_193 ?_
        refine z_iload_n dX11_cuts_194 rfl ?_
        refine y_iadd dX11_cuts_195 ?_
        refine y_iald dX11_cuts_196 (by first | assumption | rfl) (by first | rfl | assumption) (by omega) ?_
        rw [zup_s, er]
        refine y_iast dX11_cuts_197 (by first | assumption | rfl) (by first | rfl | assumption) (by omega) ?_
        refine y_iinc dX11_cuts_198 rfl (by decide) rfl rfl ?_
        refine z_goto dX11_cuts_201 ?_
        exact hih
  have loop1 : ∀ (t i : Nat) (a5 a6 : Option Value), (i : Int) + t = k → yE 4 (pI b (fun q V' => q = Kc (V 135) (V 137) r k.toNat ∧ V' = zup V 137 (cutN (V 135) (V 137) k r))) mX11_cuts 5 [some (.ref 134), some (.int (iI k)), some (.int (iI r)), some (.int (iI (Kc (V 135) (V 137) r i))), some (.int (iI (i : Nat))), a5, a6] [] (zup V 137 (L1 (V 135) (V 137) r i)) b := by
    intro t
    induction t with
    | zero =>
      intro i a5 a6 h1
      have hi : k.toNat = i := by omega
      have e0 : L1 (V 135) (V 137) r i 0 = V 137 0 := by unfold L1; rw [if_neg (by omega), if_neg (by omega), if_neg (by omega)]
      have es : iup (L1 (V 135) (V 137) r i) 0 (V 137 0 - k) = L2 (V 135) (V 137) k r 0 := by
        funext j
        unfold iup L2
        rw [hi]
        by_cases hj0 : j = 0
        · rw [if_pos hj0, if_pos hj0]
        · rw [if_neg hj0, if_neg hj0, if_neg (by omega)]
      have hl2 := loop2 (V 137 0 - k).toNat 0 a5 a6 (by omega) (by omega)
      rw [← es, ← vst_zup_s, hi] at hl2
      rw [hi]
      refine z_iload dX11_cuts_5 rfl ?_
      refine z_iload_n dX11_cuts_7 rfl ?_
      refine y_icmp_ge dX11_cuts_8 (by omega) (by omega) (fun c_8 => ?_) (fun c_8 => ?_)
      · refine z_aload_n dX11_cuts_154 rfl ?_
        refine y_getR fX11_16 dX11_cuts_155 (by first | assumption | rfl) (by first | assumption | rfl) ?_
        refine y_iconst dX11_cuts_158 ?_
        refine z_dup2 dX11_cuts_159 rfl rfl ?_
        refine y_iald dX11_cuts_160 (by first | assumption | rfl) (by first | rfl | assumption) (by omega) ?_
        rw [zup_s, e0]
        refine z_iload_n dX11_cuts_161 rfl ?_
        refine y_isub dX11_cuts_162 ?_
        refine y_iast dX11_cuts_163 (by first | assumption | rfl) (by first | rfl | assumption) (by omega) ?_
        refine y_iconst dX11_cuts_164 ?_
        refine z_istore dX11_cuts_165 (by decide) rfl rfl ?_
        exact hl2
      · omega
    | succ t ih =>
      intro i a5 a6 h1
      have hF := hFr i (by omega)
      have hK := Kc_rg (V 135) (V 137) r i
      have hw := n2 (1 + i) (by omega) (by omega)
      have c01 := ckM_01 (V 135) (V 137) r i
      have ew : L1 (V 135) (V 137) r i (1 + (i : Nat)) = V 137 (1 + i) := by unfold L1; rw [if_neg (by omega), if_neg (by omega), if_neg (by omega)]
      have en : L1 (V 135) (V 137) r i (8 + r) = V 137 (8 + r) + i := by unfold L1; rw [if_pos rfl]
      have ea : L1 (V 135) (V 137) r i (12 + 7 * r + (V 137 (8 + r) + i) - 1) = pvM (V 137) r i := by
        unfold L1 pvM
        rw [if_neg (by omega)]
        by_cases hi0 : i = 0
        · subst hi0
          rw [if_neg (by omega), if_neg (by omega), if_pos rfl]
          congr 1
          omega
        · rw [if_pos (by omega), if_neg hi0]
          congr 1
          omega
      have e46 : L1 (V 135) (V 137) r i 46 = Fc (V 135) (V 137) r i := by unfold L1; rw [if_neg (by omega), if_neg (by omega), if_pos rfl]
      have hstep : ∀ x : Int, x = Fc (V 135) (V 137) r (i + 1) → iup (iup (iup (L1 (V 135) (V 137) r i) 46 x) (12 + 7 * r + (V 137 (8 + r) + i)) (V 137 (1 + i))) (8 + r) (V 137 (8 + r) + i + 1) = L1 (V 135) (V 137) r (i + 1) := by
        intro x hx
        subst hx
        funext j
        simp only [iup, L1]
        repeat' split
        all_goals first | rfl | omega | (congr 1; omega)
      have hih := ih (i + 1) (some (.int (iI (V 137 (1 + i))))) (some (.int (iI (V 137 (8 + r) + i)))) (by omega)
      have hno : ckM (V 135) (V 137) r i = 0 → vst (vst (zup V 137 (L1 (V 135) (V 137) r i)) 137 (12 + 7 * r + (V 137 (8 + r) + i)) (V 137 (1 + i))) 137 (8 + r) (V 137 (8 + r) + i + 1) = zup V 137 (L1 (V 135) (V 137) r (i + 1)) := by
        intro hc
        rw [vst_zup_s, vst_zup_s]
        have e1 : iup (L1 (V 135) (V 137) r i) 46 (Fc (V 135) (V 137) r i) = L1 (V 135) (V 137) r i := by
          funext j
          unfold iup
          split
          · rename_i hj; rw [hj, e46]
          · rfl
        have := hstep (Fc (V 135) (V 137) r i) (by show _ = if _ then _ else _; rw [if_neg (by omega)])
        rw [e1] at this
        rw [this]
      have hye : ∀ x : Int, x = Fc (V 135) (V 137) r (i + 1) → vst (vst (vst (zup V 137 (L1 (V 135) (V 137) r i)) 137 46 x) 137 (12 + 7 * r + (V 137 (8 + r) + i)) (V 137 (1 + i))) 137 (8 + r) (V 137 (8 + r) + i + 1) = zup V 137 (L1 (V 135) (V 137) r (i + 1)) := by
        intro x hx
        rw [vst_zup_s, vst_zup_s, vst_zup_s, hstep x hx]
      have hK1 : Kc (V 135) (V 137) r (i + 1) = Kc (V 135) (V 137) r i + ckM (V 135) (V 137) r i := rfl
      have hnn : zup V 137 (L1 (V 135) (V 137) r i) 137 = L1 (V 135) (V 137) r i := zup_s _ _ _
      have hyy : zup V 137 (L1 (V 135) (V 137) r i) 135 = V 135 := zup_n _ _ (by decide)
      have hMi := hMu (L1 (V 135) (V 137) r i)
      refine z_iload dX11_cuts_5 rfl ?_
      refine z_iload_n dX11_cuts_7 rfl ?_
      refine y_icmp_ge dX11_cuts_8 (by omega) (by omega) (fun c_8 => ?_) (fun c_8 => ?_)
      · omega
      · refine z_aload_n dX11_cuts_11 rfl ?_
        refine y_getR fX11_16 dX11_cuts_12 (by first | assumption | rfl) (by first | assumption | rfl) ?_
        refine y_iconst dX11_cuts_15 ?_
        refine z_iload dX11_cuts_16 rfl ?_
        refine y_iadd dX11_cuts_18 ?_
        refine y_iald dX11_cuts_19 (by first | assumption | rfl) (by first | rfl | assumption) (by omega) ?_
        rw [hnn, ew]
        refine z_istore dX11_cuts_20 (by decide) rfl rfl ?_
        refine z_aload_n dX11_cuts_22 rfl ?_
        refine y_getR fX11_16 dX11_cuts_23 (by first | assumption | rfl) (by first | assumption | rfl) ?_
        refine y_bipush dX11_cuts_26 (by decide +kernel) ?_
        refine z_iload_n dX11_cuts_28 rfl ?_
        refine y_iadd dX11_cuts_29 ?_
        refine y_iald dX11_cuts_30 (by first | assumption | rfl) (by first | rfl | assumption) (by omega) ?_
        rw [hnn, en]
        refine z_istore dX11_cuts_31 (by decide) rfl rfl ?_
        refine z_iload dX11_cuts_33 rfl ?_
        refine y_if_le dX11_cuts_35 (by omega) (fun c_35 => ?_) (fun c_35 => ?_)
        · have hc0 : ckM (V 135) (V 137) r i = 0 := by unfold ckM; rw [if_neg (by omega)]
          rw [← hno hc0, hK1, hc0, Int.add_zero, show ((i + 1 : Nat) : Int) = (i : Int) + 1 by omega] at hih
          refine z_aload_n dX11_cuts_118 rfl ?_
          refine y_getR fX11_16 dX11_cuts_119 (by first | assumption | rfl) (by first | assumption | rfl) ?_
          refine y_bipush dX11_cuts_122 (by decide +kernel) ?_
          refine y_bipush dX11_cuts_124 (by decide +kernel) ?_
          refine z_iload_n dX11_cuts_126 rfl ?_
          refine y_imul dX11_cuts_127 ?_
          refine y_iadd dX11_cuts_128 ?_
          refine z_iload dX11_cuts_129 rfl ?_
          refine y_iadd dX11_cuts_131 ?_
          refine z_iload dX11_cuts_132 rfl ?_
          refine y_iast dX11_cuts_134 (by first | assumption | rfl) (by first | rfl | assumption) (by omega) ?_
          refine z_aload_n dX11_cuts_135 rfl ?_
          refine y_getR fX11_16 dX11_cuts_136 (by first | assumption | rfl) (by first | assumption | rfl) ?_
          refine y_bipush dX11_cuts_139 (by decide +kernel) ?_
          refine z_iload_n dX11_cuts_141 rfl ?_
          refine y_iadd dX11_cuts_142 ?_
          refine z_dup2 dX11_cuts_143 rfl rfl ?_
          refine y_iald dX11_cuts_144 (by first | assumption | rfl) (by first | rfl | assumption) (by omega) ?_
          rw [vst_n (by omega)]
          try rw [vst_n (show (8 : Int) + r ≠ 46 by omega)]
          rw [hnn, en]
          refine y_iconst dX11_cuts_145 ?_
          refine y_iadd dX11_cuts_146 ?_
          refine y_iast dX11_cuts_147 (by first | assumption | rfl) (by first | rfl | assumption) (by omega) ?_
          refine y_iinc dX11_cuts_148 rfl (by decide) rfl rfl ?_
          refine z_goto dX11_cuts_151 ?_
          exact hih
        · have hex : 0 < i ∨ 0 < V 137 (8 + r) := by omega
          have hp := hpv i (by omega) hex
          refine z_aload_n dX11_cuts_38 rfl ?_
          refine z_aload_n dX11_cuts_39 rfl ?_
          refine y_getR fX11_16 dX11_cuts_40 (by first | assumption | rfl) (by first | assumption | rfl) ?_
          refine y_bipush dX11_cuts_43 (by decide +kernel) ?_
          refine y_bipush dX11_cuts_45 (by decide +kernel) ?_
          refine z_iload_n dX11_cuts_47 rfl ?_
          refine y_imul dX11_cuts_48 ?_
          refine y_iadd dX11_cuts_49 ?_
          refine z_iload dX11_cuts_50 rfl ?_
          refine y_iadd dX11_cuts_52 ?_
          refine y_iconst dX11_cuts_53 ?_
          refine y_isub dX11_cuts_54 ?_
          refine y_iald dX11_cuts_55 (by first | assumption | rfl) (by first | rfl | assumption) (by omega) ?_
          rw [hnn, ea]
          refine z_iload dX11_cuts_56 rfl ?_
          refine y_callVr (ct_X11_kick (by omega) (by omega) (by assumption)) kX11_200 dX11_cuts_58 rfl rfl (by first | assumption | rfl) rfl (by decide) rfl (Nat.le_of_ble_eq_true rfl) (fun r_58 h_58 => ?_)
          rw [hyy] at h_58
          have hcv : ckM (V 135) (V 137) r i = r_58 := by unfold ckM; rw [if_pos hex, h_58]
          refine y_if_eq dX11_cuts_61 (by omega) (fun c_61 => ?_) (fun c_61 => ?_)
          · have hc0 : ckM (V 135) (V 137) r i = 0 := by omega
            rw [← hno hc0, hK1, hc0, Int.add_zero, show ((i + 1 : Nat) : Int) = (i : Int) + 1 by omega] at hih
            refine z_aload_n dX11_cuts_118 rfl ?_
            refine y_getR fX11_16 dX11_cuts_119 (by first | assumption | rfl) (by first | assumption | rfl) ?_
            refine y_bipush dX11_cuts_122 (by decide +kernel) ?_
            refine y_bipush dX11_cuts_124 (by decide +kernel) ?_
            refine z_iload_n dX11_cuts_126 rfl ?_
            refine y_imul dX11_cuts_127 ?_
            refine y_iadd dX11_cuts_128 ?_
            refine z_iload dX11_cuts_129 rfl ?_
            refine y_iadd dX11_cuts_131 ?_
            refine z_iload dX11_cuts_132 rfl ?_
            refine y_iast dX11_cuts_134 (by first | assumption | rfl) (by first | rfl | assumption) (by omega) ?_
            refine z_aload_n dX11_cuts_135 rfl ?_
            refine y_getR fX11_16 dX11_cuts_136 (by first | assumption | rfl) (by first | assumption | rfl) ?_
            refine y_bipush dX11_cuts_139 (by decide +kernel) ?_
            refine z_iload_n dX11_cuts_141 rfl ?_
            refine y_iadd dX11_cuts_142 ?_
            refine z_dup2 dX11_cuts_143 rfl rfl ?_
            refine y_iald dX11_cuts_144 (by first | assumption | rfl) (by first | rfl | assumption) (by omega) ?_
            rw [vst_n (by omega)]
            try rw [vst_n (show (8 : Int) + r ≠ 46 by omega)]
            rw [hnn, en]
            refine y_iconst dX11_cuts_145 ?_
            refine y_iadd dX11_cuts_146 ?_
            refine y_iast dX11_cuts_147 (by first | assumption | rfl) (by first | rfl | assumption) (by omega) ?_
            refine y_iinc dX11_cuts_148 rfl (by decide) rfl rfl ?_
            refine z_goto dX11_cuts_151 ?_
            exact hih
          · have hc1 : ckM (V 135) (V 137) r i = 1 := by omega
            refine y_iinc dX11_cuts_64 rfl (by decide) rfl rfl ?_
            refine z_aload_n dX11_cuts_67 rfl ?_
            refine y_getR fX11_16 dX11_cuts_68 (by first | assumption | rfl) (by first | assumption | rfl) ?_
            refine y_bipush dX11_cuts_71 (by decide +kernel) ?_
            refine z_aload_n dX11_cuts_73 rfl ?_
            refine y_getR fX11_16 dX11_cuts_74 (by first | assumption | rfl) (by first | assumption | rfl) ?_
            refine y_bipush dX11_cuts_77 (by decide +kernel) ?_
            refine y_iald dX11_cuts_79 (by first | assumption | rfl) (by first | rfl | assumption) (by omega) ?_
            rw [hnn, e46]
            refine y_iconst dX11_cuts_80 ?_
            refine y_icmp_ne dX11_cuts_81 (by omega) (by omega) (fun c_81 => ?_) (fun c_81 => ?_)
            · have hx : Fc (V 135) (V 137) r i = Fc (V 135) (V 137) r (i + 1) := by show _ = if _ then _ else _; rw [if_neg (by omega)]
              rw [← hye _ hx, hK1, hc1, show ((i + 1 : Nat) : Int) = (i : Int) + 1 by omega] at hih
              refine z_aload_n dX11_cuts_110 rfl ?_
              refine y_getR fX11_16 dX11_cuts_111 (by first | assumption | rfl) (by first | assumption | rfl) ?_
              refine y_bipush dX11_cuts_114 (by decide +kernel) ?_
              refine y_iald dX11_cuts_116 (by first | assumption | rfl) (by first | rfl | assumption) (by omega) ?_
              rw [hnn, e46]
              refine y_iast dX11_cuts_117 (by first | assumption | rfl) (by first | rfl | assumption) (by omega) ?_
              refine z_aload_n dX11_cuts_118 rfl ?_
              refine y_getR fX11_16 dX11_cuts_119 (by first | assumption | rfl) (by first | assumption | rfl) ?_
              refine y_bipush dX11_cuts_122 (by decide +kernel) ?_
              refine y_bipush dX11_cuts_124 (by decide +kernel) ?_
              refine z_iload_n dX11_cuts_126 rfl ?_
              refine y_imul dX11_cuts_127 ?_
              refine y_iadd dX11_cuts_128 ?_
              refine z_iload dX11_cuts_129 rfl ?_
              refine y_iadd dX11_cuts_131 ?_
              refine z_iload dX11_cuts_132 rfl ?_
              refine y_iast dX11_cuts_134 (by first | assumption | rfl) (by first | rfl | assumption) (by omega) ?_
              refine z_aload_n dX11_cuts_135 rfl ?_
              refine y_getR fX11_16 dX11_cuts_136 (by first | assumption | rfl) (by first | assumption | rfl) ?_
              refine y_bipush dX11_cuts_139 (by decide +kernel) ?_
              refine z_iload_n dX11_cuts_141 rfl ?_
              refine y_iadd dX11_cuts_142 ?_
              refine z_dup2 dX11_cuts_143 rfl rfl ?_
              refine y_iald dX11_cuts_144 (by first | assumption | rfl) (by first | rfl | assumption) (by omega) ?_
              rw [vst_n (by omega)]
              try rw [vst_n (show (8 : Int) + r ≠ 46 by omega)]
              rw [hnn, en]
              refine y_iconst dX11_cuts_145 ?_
              refine y_iadd dX11_cuts_146 ?_
              refine y_iast dX11_cuts_147 (by first | assumption | rfl) (by first | rfl | assumption) (by omega) ?_
              refine y_iinc dX11_cuts_148 rfl (by decide) rfl rfl ?_
              refine z_goto dX11_cuts_151 ?_
              exact hih
            · have hx : 10 * pvM (V 137) r i + V 137 (1 + i) = Fc (V 135) (V 137) r (i + 1) := by show _ = if _ then _ else _; rw [if_pos ⟨by omega, c_81⟩]
              rw [← hye _ hx, hK1, hc1, show ((i + 1 : Nat) : Int) = (i : Int) + 1 by omega] at hih
              refine y_bipush dX11_cuts_84 (by decide +kernel) ?_
              refine z_aload_n dX11_cuts_86 rfl ?_
              refine y_getR fX11_16 dX11_cuts_87 (by first | assumption | rfl) (by first | assumption | rfl) ?_
              refine y_bipush dX11_cuts_90 (by decide +kernel) ?_
              refine y_bipush dX11_cuts_92 (by decide +kernel) ?_
              refine z_iload_n dX11_cuts_94 rfl ?_
              refine y_imul dX11_cuts_95 ?_
              refine y_iadd dX11_cuts_96 ?_
              refine z_iload dX11_cuts_97 rfl ?_
              refine y_iadd dX11_cuts_99 ?_
              refine y_iconst dX11_cuts_100 ?_
              refine y_isub dX11_cuts_101 ?_
              refine y_iald dX11_cuts_102 (by first | assumption | rfl) (by first | rfl | assumption) (by omega) ?_
              rw [hnn, ea]
              refine y_imul dX11_cuts_103 ?_
              refine z_iload dX11_cuts_104 rfl ?_
              refine y_iadd dX11_cuts_106 ?_
              refine z_goto dX11_cuts_107 ?_
              refine y_iast dX11_cuts_117 (by first | assumption | rfl) (by first | rfl | assumption) (by omega) ?_
              refine z_aload_n dX11_cuts_118 rfl ?_
              refine y_getR fX11_16 dX11_cuts_119 (by first | assumption | rfl) (by first | assumption | rfl) ?_
              refine y_bipush dX11_cuts_122 (by decide +kernel) ?_
              refine y_bipush dX11_cuts_124 (by decide +kernel) ?_
              refine z_iload_n dX11_cuts_126 rfl ?_
              refine y_imul dX11_cuts_127 ?_
              refine y_iadd dX11_cuts_128 ?_
              refine z_iload dX11_cuts_129 rfl ?_
              refine y_iadd dX11_cuts_131 ?_
              refine z_iload dX11_cuts_132 rfl ?_
              refine y_iast dX11_cuts_134 (by first | assumption | rfl) (by first | rfl | assumption) (by omega) ?_
              refine z_aload_n dX11_cuts_135 rfl ?_
              refine y_getR fX11_16 dX11_cuts_136 (by first | assumption | rfl) (by first | assumption | rfl) ?_
              refine y_bipush dX11_cuts_139 (by decide +kernel) ?_
              refine z_iload_n dX11_cuts_141 rfl ?_
              refine y_iadd dX11_cuts_142 ?_
              refine z_dup2 dX11_cuts_143 rfl rfl ?_
              refine y_iald dX11_cuts_144 (by first | assumption | rfl) (by first | rfl | assumption) (by omega) ?_
              rw [vst_n (by omega)]
              try rw [vst_n (show (8 : Int) + r ≠ 46 by omega)]
              rw [hnn, en]
              refine y_iconst dX11_cuts_145 ?_
              refine y_iadd dX11_cuts_146 ?_
              refine y_iast dX11_cuts_147 (by first | assumption | rfl) (by first | rfl | assumption) (by omega) ?_
              refine y_iinc dX11_cuts_148 rfl (by decide) rfl rfl ?_
              refine z_goto dX11_cuts_151 ?_
              exact hih
  have h0 := loop1 k.toNat 0 none none (by omega)
  have e0 : L1 (V 135) (V 137) r 0 = V 137 := by
    funext j
    unfold L1
    by_cases h8 : j = 8 + r
    · rw [if_pos h8, h8]; simp
    · rw [if_neg h8, if_neg (by omega)]
      by_cases h46 : j = 46
      · rw [if_pos h46, h46]; rfl
      · rw [if_neg h46]
  rw [e0, zup_id] at h0
  refine zC_of (by decide +kernel) (Nat.le_of_ble_eq_true rfl) rfl ?_
  refine y_iconst dX11_cuts_0 ?_
  refine z_istore_n dX11_cuts_1 (by decide) rfl rfl ?_
  refine y_iconst dX11_cuts_2 ?_
  refine z_istore dX11_cuts_3 (by decide) rfl rfl ?_
  exact h0
end

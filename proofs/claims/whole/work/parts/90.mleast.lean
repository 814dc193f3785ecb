/-! ===== the model: draws, leastRoads ===== -/
def dwP (rw pl : Int → Int) (L : Nat) : Prop := ∀ k e : Nat, e < k → k < L → rw e ≠ rw k ∨ pl k < pl e
def dwQ (rw pl : Int → Int) (L k e : Nat) : Prop := ∀ k' e' : Nat, e' < k' → k' < L → (k' < k ∨ (k' = k ∧ e' < e)) → rw e' ≠ rw k' ∨ pl k' < pl e'
section
variable {V : Nat → Int → Int} {b : Bool}
theorem ct_X11_draws {L : Nat} (hL : (L : Int) = V 135 33) (hL7 : L ≤ 7) (hr : ∀ j : Int, 0 ≤ j → j < L → 0 ≤ V 145 j ∧ V 145 j ≤ 7) (hp : ∀ j : Int, 0 ≤ j → j < L → -1 ≤ V 150 j ∧ V 150 j ≤ 7) : yC 1 mX11_draws [.ref 134] V b (pR b V (fun q => (q = 0 ∨ q = 1) ∧ (q = 1 ↔ dwP (V 145) (V 150) L))) := by
  obtain ⟨Q, hQ⟩ : ∃ Q : Option Value → zMu → Prop, Q = pR b V (fun q => (q = 0 ∨ q = 1) ∧ (q = 1 ↔ dwP (V 145) (V 150) L)) := ⟨_, rfl⟩
  rw [← hQ]
  have loop : ∀ (t k : Nat) (w : Int) (a3 : Option Value), k + t = L → (w = 0 ∨ w = 1) → (w = 1 ↔ dwQ (V 145) (V 150) L k 0) → yE 1 Q mX11_draws 4 [some (.ref 134), some (.int (iI w)), some (.int (iI k)), a3] [] V b := by
    intro t
    induction t with
    | zero =>
      intro k w a3 hk hw hwq
      have hfin : w = 1 ↔ dwP (V 145) (V 150) L := ⟨fun h k' e' p1 p2 => hwq.1 h k' e' p1 p2 (by omega), fun h => hwq.2 (fun k' e' p1 p2 _ => h k' e' p1 p2)⟩
      refine z_iload_n dX11_draws_4 rfl ?_
      refine z_aload_n dX11_draws_5 rfl ?_
      refine y_getR fX11_7 dX11_draws_6 (by first | assumption | rfl) (by first | assumption | rfl) ?_
      refine y_bipush dX11_draws_9 (by decide +kernel) ?_
      refine y_iald dX11_draws_11 (by first | assumption | rfl) (by first | rfl | assumption) (by omega) ?_
      rw [← hL]
      refine y_icmp_ge dX11_draws_12 (by omega) (by omega) (fun c_12 => ?_) (fun c_12 => ?_)
      · refine z_iload_n dX11_draws_74 rfl ?_
        exact y_zret dX11_draws_75 rfl (by omega) (Nat.le_refl 0) (Nat.le_refl 0) (by rw [hQ]; exact ⟨_, rfl, rfl, hw, hfin⟩)
      · omega
    | succ t ih =>
      intro k w a3 hk hw hwq
      have inner : ∀ (s e : Nat) (w : Int), e + s = k → (w = 0 ∨ w = 1) → (w = 1 ↔ dwQ (V 145) (V 150) L k e) → yE 1 Q mX11_draws 17 [some (.ref 134), some (.int (iI w)), some (.int (iI k)), some (.int (iI e))] [] V b := by
        intro s
        induction s with
        | zero =>
          intro e w he hw hwq
          have hh := ih (k + 1) w (some (.int (iI e))) (by omega) hw ⟨fun h k' e' p1 p2 p3 => hwq.1 h k' e' p1 p2 (by omega), fun h => hwq.2 (fun k' e' p1 p2 p3 => h k' e' p1 p2 (by omega))⟩
          rw [show ((k + 1 : Nat) : Int) = (k : Int) + 1 by omega] at hh
          refine z_iload_n dX11_draws_17 rfl ?_
          refine z_iload_n dX11_draws_18 rfl ?_
          refine y_icmp_ge dX11_draws_19 (by omega) (by omega) (fun c_19 => ?_) (fun c_19 => ?_)
          · refine y_iinc dX11_draws_68 rfl (by decide) rfl rfl ?_
            refine z_goto dX11_draws_71 ?_
            exact hh
          · omega
        | succ s ihs =>
          intro e w he hw hwq
          have re := hr e (by omega) (by omega)
          have rk := hr k (by omega) (by omega)
          have pe := hp e (by omega) (by omega)
          have pk := hp k (by omega) (by omega)
          have next : ∀ w' : Int, (w' = 0 ∨ w' = 1) → (w' = 1 ↔ w = 1 ∧ (V 145 e ≠ V 145 k ∨ V 150 k < V 150 e)) → yE 1 Q mX11_draws 17 [some (.ref 134), some (.int (iI w')), some (.int (iI k)), some (.int (iI ((e : Int) + 1)))] [] V b := by
            intro w' h1 h2
            have hh := ihs (e + 1) w' (by omega) h1 ⟨fun h k' e' p1 p2 p3 => by
              obtain ⟨z1, z2⟩ := h2.1 h
              by_cases hx : k' = k ∧ e' = e
              · rw [hx.1, hx.2]; exact z2
              · exact hwq.1 z1 k' e' p1 p2 (by omega), fun h => h2.2 ⟨hwq.2 (fun k' e' p1 p2 p3 => h k' e' p1 p2 (by omega)), h k e (by omega) (by omega) (by omega)⟩⟩
            rw [show ((e + 1 : Nat) : Int) = (e : Int) + 1 by omega] at hh
            exact hh
          refine z_iload_n dX11_draws_17 rfl ?_
          refine z_iload_n dX11_draws_18 rfl ?_
          refine y_icmp_ge dX11_draws_19 (by omega) (by omega) (fun c_19 => ?_) (fun c_19 => ?_)
          · omega
          · refine z_iload_n dX11_draws_22 rfl ?_
            refine y_if_eq dX11_draws_23 (by omega) (fun c_23 => ?_) (fun c_23 => ?_)
            · refine y_iconst dX11_draws_60 ?_
              refine z_istore_n dX11_draws_61 (by decide) rfl rfl ?_
              refine y_iinc dX11_draws_62 rfl (by decide) rfl rfl ?_
              refine z_goto dX11_draws_65 ?_
              exact next _ (by omega) (by omega)
            · refine z_aload_n dX11_draws_26 rfl ?_
              refine y_getR fX11_45 dX11_draws_27 (by first | assumption | rfl) (by first | assumption | rfl) ?_
              refine z_iload_n dX11_draws_30 rfl ?_
              refine y_iald dX11_draws_31 (by first | assumption | rfl) (by first | rfl | assumption) (by omega) ?_
              refine z_aload_n dX11_draws_32 rfl ?_
              refine y_getR fX11_45 dX11_draws_33 (by first | assumption | rfl) (by first | assumption | rfl) ?_
              refine z_iload_n dX11_draws_36 rfl ?_
              refine y_iald dX11_draws_37 (by first | assumption | rfl) (by first | rfl | assumption) (by omega) ?_
              refine y_icmp_ne dX11_draws_38 (by omega) (by omega) (fun c_38 => ?_) (fun c_38 => ?_)
              · refine y_iconst dX11_draws_56 ?_
                refine z_goto dX11_draws_57 ?_
                refine z_istore_n dX11_draws_61 (by decide) rfl rfl ?_
                refine y_iinc dX11_draws_62 rfl (by decide) rfl rfl ?_
                refine z_goto dX11_draws_65 ?_
                exact next _ (by omega) (by omega)
              · refine z_aload_n dX11_draws_41 rfl ?_
                refine y_getR fX11_60 dX11_draws_42 (by first | assumption | rfl) (by first | assumption | rfl) ?_
                refine z_iload_n dX11_draws_45 rfl ?_
                refine y_iald dX11_draws_46 (by first | assumption | rfl) (by first | rfl | assumption) (by omega) ?_
                refine z_aload_n dX11_draws_47 rfl ?_
                refine y_getR fX11_60 dX11_draws_48 (by first | assumption | rfl) (by first | assumption | rfl) ?_
                refine z_iload_n dX11_draws_51 rfl ?_
                refine y_iald dX11_draws_52 (by first | assumption | rfl) (by first | rfl | assumption) (by omega) ?_
                refine y_icmp_ge dX11_draws_53 (by omega) (by omega) (fun c_53 => ?_) (fun c_53 => ?_)
                · refine y_iconst dX11_draws_60 ?_
                  refine z_istore_n dX11_draws_61 (by decide) rfl rfl ?_
                  refine y_iinc dX11_draws_62 rfl (by decide) rfl rfl ?_
                  refine z_goto dX11_draws_65 ?_
                  exact next _ (by omega) (by omega)
                · refine y_iconst dX11_draws_56 ?_
                  refine z_goto dX11_draws_57 ?_
                  refine z_istore_n dX11_draws_61 (by decide) rfl rfl ?_
                  refine y_iinc dX11_draws_62 rfl (by decide) rfl rfl ?_
                  refine z_goto dX11_draws_65 ?_
                  exact next _ (by omega) (by omega)
      have h0 := inner k 0 w (by omega) hw hwq
      refine z_iload_n dX11_draws_4 rfl ?_
      refine z_aload_n dX11_draws_5 rfl ?_
      refine y_getR fX11_7 dX11_draws_6 (by first | assumption | rfl) (by first | assumption | rfl) ?_
      refine y_bipush dX11_draws_9 (by decide +kernel) ?_
      refine y_iald dX11_draws_11 (by first | assumption | rfl) (by first | rfl | assumption) (by omega) ?_
      rw [← hL]
      refine y_icmp_ge dX11_draws_12 (by omega) (by omega) (fun c_12 => ?_) (fun c_12 => ?_)
      · omega
      · refine y_iconst dX11_draws_15 ?_
        refine z_istore_n dX11_draws_16 (by decide) rfl rfl ?_
        exact h0
  have h0 := loop L 0 1 none (by omega) (by omega) ⟨fun _ k' e' p1 p2 p3 => by omega, fun _ => rfl⟩
  refine zC_of (by decide +kernel) (Nat.le_of_ble_eq_true rfl) rfl ?_
  refine y_iconst dX11_draws_0 ?_
  refine z_istore_n dX11_draws_1 (by decide) rfl rfl ?_
  refine y_iconst dX11_draws_2 ?_
  refine z_istore_n dX11_draws_3 (by decide) rfl rfl ?_
  exact h0
abbrev mqO (V U : Nat → Int → Int) : Prop := ∀ a, a ≠ 145 → a ≠ 149 → a ≠ 150 → a ≠ 151 → U a = V a
def lsA (T l0 : Int → Int) (W : Nat) (x : Int) : Int := if x = -1 then (plS T l0 W).1 else if 0 ≤ x ∧ x < W then (if T x = -1 then -1 else gR T l0 x.toNat) else -1000000001
theorem pow7 {B L : Nat} (hB : B ≤ 7) (hL : L ≤ 7) (hB0 : 0 < B) : B ^ L ≤ 823543 := by
  have h1 : B ^ L ≤ B ^ 7 := Nat.pow_le_pow_right hB0 hL
  have h2 : B ^ 7 ≤ 7 ^ 7 := Nat.pow_le_pow_left hB 7
  have h3 : 7 ^ 7 = 823543 := by decide
  omega
theorem ct_X11_leastRoads {x : Int} {T l0 : Int → Int} {W L : Nat} (hx : rg x) (hW : (W : Int) = V 135 5) (hL : (L : Int) = V 135 33) (hW7 : W ≤ 7) (hL7 : L ≤ 7) (hT : trH (V 135) T W L) (hTr : ∀ j, -1 ≤ T j ∧ T j ≤ 6) (hl0 : ∀ j, -1 ≤ l0 j ∧ l0 j ≤ 6) : yC 4 mX11_leastRoads [.ref 134, .int (iI x)] V b (pI b (fun q V' => mqO V V' ∧ q = lsA T l0 W x)) := by
  have hinj := trH_inj hT
  have hcn := trH_cn hT
  obtain ⟨i1, i2, i3, i4⟩ := gI_all (l0 := l0) hinj W (Nat.le_refl W)
  have prg := (plS_rg (l0 := l0) hTr hl0 W).1
  obtain ⟨Q, hQ⟩ : ∃ Q : Option Value → zMu → Prop, Q = pI b (fun q V' => mqO V V' ∧ q = lsA T l0 W x) := ⟨_, rfl⟩
  rw [← hQ]
  have fin : ∀ q U, mqO V U → q = lsA T l0 W x → Q (some (.int (iI q))) (mk S0 U (Fs b)) := fun q U h1 h2 => by rw [hQ]; exact ⟨_, _, rfl, rfl, h1, h2⟩
  obtain ⟨B, hB⟩ : ∃ B : Nat, (B : Int) = (plS T l0 W).1 := ⟨(plS T l0 W).1.toNat, by omega⟩
  have main : ∀ (U : Nat → Int → Int) (i : Int) (a4 : Option Value), (0 ≤ x ∧ x < W) → T x ≠ -1 → mlO V U → laS T l0 W U → i = cnT T x.toNat → yE 4 Q mX11_leastRoads 51 [some (.ref 134), some (.int (iI x)), some (.int (iI B)), some (.int (iI i)), a4] [] U b := by
    intro U i a4 hxW hTx hU hS hi
    have hxn : (x.toNat : Int) = x := by omega
    have hgx := i1 x.toNat (by omega) (by rw [hxn]; exact hTx)
    have hB0 : 0 < B := by omega
    have hiL : cnT T x.toNat < cnT T W := cnT_lt (by omega) (by rw [hxn]; exact hTx)
    obtain ⟨G, hG⟩ : ∃ G : Nat → Nat, G = fun k : Nat => (U 151 k - 1).toNat := ⟨_, rfl⟩
    have who : ∀ k : Nat, k < L → ∃ u : Nat, u < W ∧ T u ≠ -1 ∧ cnT T u = k ∧ (G k : Int) = gR T l0 u ∧ U 150 k = T u := fun k hk => by
      obtain ⟨u, q1, q2, q3⟩ := cnT_ex (T := T) W k (by omega)
      have hs := hS u q1 q2
      rw [q3] at hs
      have := i1 u q1 q2
      refine ⟨u, q1, q2, q3, ?_, hs.2.1⟩
      rw [hG]
      show (((U 151 k - 1).toNat : Nat) : Int) = _
      rw [hs.2.2]
      omega
    have hGB : ∀ k, k < L → G k < B := fun k hk => by
      obtain ⟨u, q1, q2, q3, q4, q5⟩ := who k hk
      have := i1 u q1 q2
      omega
    obtain ⟨cs, hcs⟩ : ∃ cs : Nat, cs = cdOf B G L := ⟨_, rfl⟩
    have csl := cdOf_lt L hGB
    have csd := cdOf_dgt L hGB
    rw [← hcs] at csl csd
    have p7 := pow7 (B := B) (L := L) (by omega) hL7 hB0
    have mono : ∀ u u' : Nat, u < W → u' < W → T u ≠ -1 → T u' ≠ -1 → cnT T u < cnT T u' → u < u' := fun u u' h1 h2 h3 h4 h5 => by
      by_cases h : u < u'
      · exact h
      · by_cases he : u = u'
        · rw [he] at h5; omega
        · have := cnT_lt (T := T) (show u' < u by omega) h4; omega
    -- the row of code cs will do
    have good : ∀ rw : Int → Int, (∀ j : Int, 0 ≤ j → j < L → rw j = dgt B L cs j) → dwP rw (U 150) L := fun rw hrw k e h1 h2 => by
      obtain ⟨u, q1, q2, q3, q4, q5⟩ := who k h2
      obtain ⟨u', r1, r2, r3, r4, r5⟩ := who e (by omega)
      rw [hrw e (by omega) (by omega), hrw k (by omega) (by omega), csd e (by omega), csd k h2, q5, r5]
      by_cases hg : (G e : Int) = G k
      · exact Or.inr (i3 u' u (mono u' u r1 q1 r2 q2 (by omega)) q1 r2 q2 (by omega))
      · exact Or.inl hg
    -- no row of an earlier one
    have bad : ∀ (c : Nat) (rw : Int → Int), c < cs → (∀ j : Int, 0 ≤ j → j < L → rw j = dgt B L c j) → ¬ dwP rw (U 150) L := fun c rw hc hrw hd => by
      obtain ⟨k, q1, q2, q3⟩ := lex_lt hB0 L c cs csl hc
      rw [csd k q1] at q3
      obtain ⟨u, r1, r2, r3, r4, r5⟩ := who k q1
      have hdg := dgt_rg (m := L) (c := c) (j := (k : Int)) hB0
      obtain ⟨u', s1, s2, s3, s4⟩ := i4 u r1 r2 (dgt B L c k) hdg.1 (by omega)
      have hek : cnT T u' < k := by have := cnT_lt (T := T) s1 s2; omega
      obtain ⟨v, v1, v2, v3, v4, v5⟩ := who (cnT T u') (by omega)
      have huv : v = u' := by
        by_cases h1 : v < u'
        · have := cnT_lt (T := T) h1 v2; omega
        · by_cases h2 : u' < v
          · have := cnT_lt (T := T) h2 s2; omega
          · omega
      rw [huv] at v4 v5
      have e1 : rw (cnT T u' : Nat) = rw k := by
        rw [hrw _ (by omega) (by omega), hrw k (by omega) (by omega), q2 _ hek, csd _ (by omega)]
        omega
      rcases hd k (cnT T u') hek q1 with h | h
      · exact h e1
      · rw [r5, v5] at h; omega
    have loop : ∀ (t c : Nat) (U' : Nat → Int → Int), c + t = cs → mqO V U' → U' 150 = U 150 → (∀ j : Int, 0 ≤ j → j < L → U' 145 j = dgt B L c j) → yE 4 Q mX11_leastRoads 68 [some (.ref 134), some (.int (iI x)), some (.int (iI B)), some (.int (iI i)), some (.int (iI c))] [] U' b := by
      intro t
      induction t with
      | zero =>
        intro c U' hc hU' h150 hrow
        have hcc : c = cs := by omega
        have u5 : U' 135 = V 135 := hU' 135 (by decide) (by decide) (by decide) (by decide)
        have hdr := ct_X11_draws (V := U') (b := b) (L := L) (by rw [u5]; exact hL) hL7 (fun j j0 j1 => by rw [hrow j j0 j1]; have := dgt_rg (m := L) (c := c) (j := j) hB0; omega) (fun j j0 j1 => by
          rw [h150]
          obtain ⟨u, q1, q2, q3, q4, q5⟩ := who j.toNat (by omega)
          rw [Int.toNat_of_nonneg j0] at q5
          rw [q5]; have := hTr u; omega)
        rw [h150] at hdr
        have hyes := good (U' 145) (by rw [← hcc]; exact hrow)
        have hri : U' 145 i = gR T l0 x.toNat := by
          rw [hrow i (by omega) (by omega), hi, hcc, csd _ (by omega)]
          obtain ⟨u, q1, q2, q3, q4, q5⟩ := who (cnT T x.toNat) (by omega)
          have hux : u = x.toNat := by
            by_cases h1 : u < x.toNat
            · have := cnT_lt (T := T) h1 q2; omega
            · by_cases h2 : x.toNat < u
              · have := cnT_lt (T := T) h2 (by rw [hxn]; exact hTx); omega
              · omega
          rw [q4, hux]
        refine z_aload_n dX11_leastRoads_68 rfl ?_
        refine y_callVr (hdr) kX11_254 dX11_leastRoads_69 rfl rfl (by first | assumption | rfl) rfl (by decide) rfl (Nat.le_of_ble_eq_true rfl) (fun r_69 h_69 => ?_)
        refine y_if_ne dX11_leastRoads_72 (by omega) (fun c_72 => ?_) (fun c_72 => ?_)
        · refine z_aload_n dX11_leastRoads_95 rfl ?_
          refine y_getR fX11_45 dX11_leastRoads_96 (by first | assumption | rfl) (by first | assumption | rfl) ?_
          refine z_iload_n dX11_leastRoads_99 rfl ?_
          refine y_iald dX11_leastRoads_100 (by first | assumption | rfl) (by first | rfl | assumption) (by omega) ?_
          rw [hri]
          exact z_iret dX11_leastRoads_101 rfl (Nat.le_refl 0) (Nat.le_refl 0) (fin _ _ hU' (by unfold lsA; rw [if_neg (by omega), if_pos hxW, if_neg hTx]))
        · (exfalso; have := h_69.2.2 hyes; omega)
      | succ t ih =>
        intro c U' hc hU' h150 hrow
        have u5 : U' 135 = V 135 := hU' 135 (by decide) (by decide) (by decide) (by decide)
        have hdr := ct_X11_draws (V := U') (b := b) (L := L) (by rw [u5]; exact hL) hL7 (fun j j0 j1 => by rw [hrow j j0 j1]; have := dgt_rg (m := L) (c := c) (j := j) hB0; omega) (fun j j0 j1 => by
          rw [h150]
          obtain ⟨u, q1, q2, q3, q4, q5⟩ := who j.toNat (by omega)
          rw [Int.toNat_of_nonneg j0] at q5
          rw [q5]; have := hTr u; omega)
        rw [h150] at hdr
        have hno := bad c (U' 145) (by omega) hrow
        have hlay := ct_X11_layRow (V := U') (b := b) (c := c + 1) (B := B) (m := L) (by omega) (by omega) (by omega) (Or.inl hB0)
        rw [show ((c + 1 : Nat) : Int) = (c : Int) + 1 by omega] at hlay
        have hnext := ih (c + 1) (zup U' 145 (lrw B L (c + 1) L (U' 145))) (by omega) (fun a r1 r2 r3 r4 => by rw [zup_n _ _ r1]; exact hU' a r1 r2 r3 r4) (by rw [zup_n _ _ (by decide)]; exact h150) (fun j j0 j1 => by rw [zup_s]; unfold lrw; rw [if_pos (by omega)])
        rw [show ((c + 1 : Nat) : Int) = (c : Int) + 1 by omega] at hnext
        refine z_aload_n dX11_leastRoads_68 rfl ?_
        refine y_callVr (hdr) kX11_254 dX11_leastRoads_69 rfl rfl (by first | assumption | rfl) rfl (by decide) rfl (Nat.le_of_ble_eq_true rfl) (fun r_69 h_69 => ?_)
        refine y_if_ne dX11_leastRoads_72 (by omega) (fun c_72 => ?_) (fun c_72 => ?_)
        · exact absurd (h_69.2.1 (by omega)) hno
        · refine y_iinc dX11_leastRoads_75 rfl (by decide) rfl rfl ?_
          refine z_aload_n dX11_leastRoads_78 rfl ?_
          refine z_iload dX11_leastRoads_79 rfl ?_
          refine z_iload_n dX11_leastRoads_81 rfl ?_
          refine z_aload_n dX11_leastRoads_82 rfl ?_
          refine y_getR fX11_7 dX11_leastRoads_83 (by first | assumption | rfl) (by first | assumption | rfl) ?_
          refine y_bipush dX11_leastRoads_86 (by decide +kernel) ?_
          refine y_iald dX11_leastRoads_88 (by first | assumption | rfl) (by first | rfl | assumption) (by omega) ?_
          rw [u5, ← hL]
          refine y_callVv (hlay) kX11_244 dX11_leastRoads_89 rfl rfl (by first | assumption | rfl) rfl (by decide) rfl (Nat.le_of_ble_eq_true rfl) (fun V1 h_89 => ?_)
          rw [h_89]
          refine z_goto dX11_leastRoads_92 ?_
          exact hnext
    have u5 : U 135 = V 135 := hU 135 (by decide) (by decide) (by decide)
    have hlay := ct_X11_layRow (V := U) (b := b) (c := 0) (B := B) (m := L) (by omega) (by omega) (by omega) (Or.inl hB0)
    have h0 := loop cs 0 (zup U 145 (lrw B L 0 L (U 145))) (by omega) (fun a r1 r2 r3 r4 => by rw [zup_n _ _ r1]; exact hU a r2 r3 r4) (zup_n _ _ (by decide)) (fun j j0 j1 => by rw [zup_s]; unfold lrw; rw [if_pos (by omega)])
    refine y_iconst dX11_leastRoads_51 ?_
    refine z_istore dX11_leastRoads_52 (by decide) rfl rfl ?_
    refine z_aload_n dX11_leastRoads_54 rfl ?_
    refine z_iload dX11_leastRoads_55 rfl ?_
    refine z_iload_n dX11_leastRoads_57 rfl ?_
    refine z_aload_n dX11_leastRoads_58 rfl ?_
    refine y_getR fX11_7 dX11_leastRoads_59 (by first | assumption | rfl) (by first | assumption | rfl) ?_
    refine y_bipush dX11_leastRoads_62 (by decide +kernel) ?_
    refine y_iald dX11_leastRoads_64 (by first | assumption | rfl) (by first | rfl | assumption) (by omega) ?_
    rw [u5, ← hL]
    refine y_callVv (hlay) kX11_244 dX11_leastRoads_65 rfl rfl (by first | assumption | rfl) rfl (by decide) rfl (Nat.le_of_ble_eq_true rfl) (fun V1 h_65 => ?_)
    rw [h_65]
    exact h0
  have hlt := ct_X11_layTrain (b := b) hW hL hW7 hL7 hT hTr hl0
  rw [← hB] at hlt
  have rest : (x = -1 ∨ (0 ≤ x ∧ x < W)) → yE 4 Q mX11_leastRoads 16 [some (.ref 134), some (.int (iI x)), none, none, none] [] V b := by
    intro hx1
    refine z_aload_n dX11_leastRoads_16 rfl ?_
    refine y_callVi (hlt) kX11_251 dX11_leastRoads_17 rfl rfl (by first | assumption | rfl) rfl (by decide) rfl (Nat.le_of_ble_eq_true rfl) (fun q_17 V1 h_17 => ?_)
    obtain ⟨z1, z2, z3⟩ := h_17
    rw [z3]
    have u5 : V1 135 = V 135 := z1 135 (by decide) (by decide) (by decide)
    have hpl := ct_X11_placeOf (V := V1) (b := b) (a := 149) (sz := 7) (f := 0) (n := (L : Int)) (w := x) rfl (by omega) (by omega) (by omega) (by omega) (fun j j1 j2 => by
      obtain ⟨u, q1, q2, q3⟩ := cnT_ex (T := T) W j.toNat (by omega)
      have hs := (z2 u q1 q2).1
      rw [q3, Int.toNat_of_nonneg j1] at hs
      rw [hs]; omega) (by decide)
    have hmq : mqO V V1 := fun a r1 r2 r3 r4 => z1 a r2 r3 r4
    refine z_istore_n dX11_leastRoads_20 (by decide) rfl rfl ?_
    refine z_iload_n dX11_leastRoads_21 rfl ?_
    refine y_iconst dX11_leastRoads_22 ?_
    refine y_icmp_ne dX11_leastRoads_23 (by omega) (by omega) (fun c_23 => ?_) (fun c_23 => ?_)
    · refine z_aload_n dX11_leastRoads_28 rfl ?_
      refine y_getR fX11_57 dX11_leastRoads_29 (by first | assumption | rfl) (by first | assumption | rfl) ?_
      refine y_iconst dX11_leastRoads_32 ?_
      refine z_aload_n dX11_leastRoads_33 rfl ?_
      refine y_getR fX11_7 dX11_leastRoads_34 (by first | assumption | rfl) (by first | assumption | rfl) ?_
      refine y_bipush dX11_leastRoads_37 (by decide +kernel) ?_
      refine y_iald dX11_leastRoads_39 (by first | assumption | rfl) (by first | rfl | assumption) (by omega) ?_
      rw [u5, ← hL]
      refine z_iload_n dX11_leastRoads_40 rfl ?_
      refine y_callSr (hpl) kX11_172 dX11_leastRoads_41 rfl rfl (by decide) rfl (Nat.le_of_ble_eq_true rfl) (fun r_41 h_41 => ?_)
      have hxW : 0 ≤ x ∧ x < W := by omega
      have hxn : (x.toNat : Int) = x := by omega
      have hq : -1 ≤ r_41 ∧ r_41 ≤ 7 := by rcases h_41 with h | h <;> omega
      refine z_istore_n dX11_leastRoads_44 (by decide) rfl rfl ?_
      refine z_iload_n dX11_leastRoads_45 rfl ?_
      refine y_if_ge dX11_leastRoads_46 (by omega) (fun c_46 => ?_) (fun c_46 => ?_)
      · have hyes : T x ≠ -1 ∧ r_41 = (cnT T x.toNat : Nat) := by
          rcases h_41 with h | h
          · obtain ⟨u, q1, q2, q3⟩ := cnT_ex (T := T) W r_41.toNat (by omega)
            have hs := (z2 u q1 q2).1
            rw [q3, Int.toNat_of_nonneg h.1] at hs
            have h3 := h.2.2.1
            rw [Int.zero_add, hs] at h3
            rw [← h3]
            exact ⟨q2, by rw [show ((u : Nat) : Int).toNat = u by omega, q3]; omega⟩
          · omega
        exact main V1 _ _ hxW hyes.1 z1 z2 hyes.2
      · have hno : T x = -1 := by
          rcases h_41 with h | h
          · omega
          · by_cases ht : T x = -1
            · exact ht
            · exfalso
              have ht' : T (x.toNat : Int) ≠ -1 := by rw [hxn]; exact ht
              have hs := (z2 x.toNat (by omega) ht').1
              have hc := cnT_lt (T := T) (show x.toNat < W by omega) ht'
              refine h.2 (cnT T x.toNat : Nat) (by omega) (by omega) ?_
              rw [Int.zero_add, hs, hxn]
        refine y_iconst dX11_leastRoads_49 ?_
        exact z_iret dX11_leastRoads_50 rfl (Nat.le_refl 0) (Nat.le_refl 0) (fin _ _ hmq (by unfold lsA; rw [if_neg (by omega), if_pos hxW, if_pos hno]))
    · refine z_iload_n dX11_leastRoads_26 rfl ?_
      exact z_iret dX11_leastRoads_27 rfl (Nat.le_refl 0) (Nat.le_refl 0) (fin _ _ hmq (by unfold lsA; rw [if_pos (by omega), hB]))
  have hWv : 0 ≤ V 135 5 ∧ V 135 5 ≤ 7 := by omega
  refine zC_of (by decide +kernel) (Nat.le_of_ble_eq_true rfl) rfl ?_
  refine z_iload_n dX11_leastRoads_0 rfl ?_
  refine y_iconst dX11_leastRoads_1 ?_
  refine y_icmp_eq dX11_leastRoads_2 (by omega) (by omega) (fun c_2 => ?_) (fun c_2 => ?_)
  · exact rest (by omega)
  · refine z_aload_n dX11_leastRoads_5 rfl ?_
    refine z_iload_n dX11_leastRoads_6 rfl ?_
    refine y_callVr (ct_X11_isWagon hx hWv) kX11_176 dX11_leastRoads_7 rfl rfl (by first | assumption | rfl) rfl (by decide) rfl (Nat.le_of_ble_eq_true rfl) (fun r_7 h_7 => ?_)
    refine y_if_ne dX11_leastRoads_10 (by omega) (fun c_10 => ?_) (fun c_10 => ?_)
    · exact rest (by omega)
    · refine y_ldc (n := -1000000001) dX11_leastRoads_13 cX11_179 (by decide +kernel) ?_
      exact z_iret dX11_leastRoads_15 rfl (Nat.le_refl 0) (Nat.le_refl 0) (fin _ _ (fun a _ _ _ _ => rfl) (by unfold lsA; rw [if_neg (by omega), if_neg (by omega)]))
end

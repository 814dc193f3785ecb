/-! ===== the model: layTrain, draws ===== -/
def cnT (T : Int → Int) : Nat → Nat
  | 0 => 0
  | v + 1 => cnT T v + if T v = -1 then 0 else 1
theorem cnT_le (T : Int → Int) : ∀ v : Nat, cnT T v ≤ v
  | 0 => Nat.le_refl 0
  | v + 1 => by have := cnT_le T v; unfold cnT; split <;> omega
theorem cnT_mono (T : Int → Int) {u : Nat} : ∀ k : Nat, cnT T u ≤ cnT T (u + k)
  | 0 => Nat.le_refl _
  | k + 1 => by
    have := cnT_mono T (u := u) k
    show _ ≤ cnT T (u + k) + _
    omega
theorem cnT_lt {T : Int → Int} {u v : Nat} (h : u < v) (hu : T u ≠ -1) : cnT T u < cnT T v := by
  have h1 := cnT_mono T (u := u + 1) (v - (u + 1))
  rw [show u + 1 + (v - (u + 1)) = v by omega] at h1
  have h2 : cnT T (u + 1) = cnT T u + 1 := by
    show cnT T u + (if T u = -1 then 0 else 1) = _
    rw [if_neg hu]
  omega
theorem cnT_ex {T : Int → Int} : ∀ (v k : Nat), k < cnT T v → ∃ u : Nat, u < v ∧ T u ≠ -1 ∧ cnT T u = k
  | 0, k, h => by unfold cnT at h; omega
  | v + 1, k, h => by
    by_cases hk : k < cnT T v
    · obtain ⟨u, q1, q2⟩ := cnT_ex v k hk
      exact ⟨u, by omega, q2⟩
    · have h1 : k < cnT T v + (if T v = -1 then 0 else 1) := h
      by_cases ht : T v = -1
      · rw [if_pos ht] at h1; omega
      · rw [if_neg ht] at h1
        exact ⟨v, by omega, ht, by omega⟩
def trH (Y T : Int → Int) (W L : Nat) : Prop := (∀ i : Int, 0 ≤ i → i < L → 0 ≤ Y (34 + i) ∧ Y (34 + i) < W ∧ T (Y (34 + i)) = i) ∧ (∀ w : Int, 0 ≤ w → w < W → T w = -1 ∨ (0 ≤ T w ∧ T w < L ∧ Y (34 + T w) = w))
theorem trH_inj {Y T : Int → Int} {W L : Nat} (h : trH Y T W L) : ∀ u v : Nat, u < W → v < W → T u ≠ -1 → T u = T v → u = v := by
  intro u v hu hv h1 h2
  obtain ⟨_, _, a3⟩ := (h.2 u (by omega) (by omega)).resolve_left h1
  obtain ⟨_, _, b3⟩ := (h.2 v (by omega) (by omega)).resolve_left (by omega)
  rw [h2, b3] at a3
  omega
theorem trH_pl {Y T : Int → Int} {W L : Nat} (h : trH Y T W L) {w q : Int} (h0 : 0 ≤ w) (h1 : w < W) (hq : plM Y 34 L w q) : q = T w := by
  rcases hq with ⟨q0, q1, q2, q3⟩ | ⟨q1, q2⟩
  · have := (h.1 q q0 q1).2.2
    rw [q2] at this
    exact this.symm
  · rcases h.2 w h0 h1 with ht | ⟨t0, t1, t2⟩
    · omega
    · exact absurd t2 (q2 _ t0 t1)
theorem trH_cn {Y T : Int → Int} {W L : Nat} (h : trH Y T W L) : cnT T W = L := by
  have a1 : cnT T W ≤ L := by
    have ex : ∀ k : Nat, ∃ u : Nat, k < cnT T W → u < W ∧ T u ≠ -1 ∧ cnT T u = k := fun k => by
      by_cases hk : k < cnT T W
      · obtain ⟨u, hu⟩ := cnT_ex W k hk
        exact ⟨u, fun _ => hu⟩
      · exact ⟨0, fun h => absurd h hk⟩
    refine pigeon L (cnT T W) (fun k => T ((Classical.choose (ex k) : Nat) : Int)) (fun k hk => ?_) (fun i j hi hj hij => ?_)
    · have hc := Classical.choose_spec (ex k) hk
      obtain ⟨t0, t1, t2⟩ := (h.2 ((Classical.choose (ex k) : Nat) : Int) (by omega) (by omega)).resolve_left hc.2.1
      exact ⟨t0, t1⟩
    · have hc := Classical.choose_spec (ex i) hi
      have hd := Classical.choose_spec (ex j) hj
      have := trH_inj h _ _ hc.1 hd.1 hc.2.1 hij
      rw [this] at hc
      omega
  have a2 : L ≤ cnT T W := by
    refine pigeon (cnT T W) L (fun i => ((cnT T (Y (34 + (i : Int))).toNat : Nat) : Int)) (fun i hi => ?_) (fun i j hi hj hij => ?_)
    · obtain ⟨h0, h1, h2⟩ := h.1 i (by omega) (by omega)
      have := cnT_lt (T := T) (u := (Y (34 + (i : Int))).toNat) (v := W) (by omega) (by rw [Int.toNat_of_nonneg h0, h2]; omega)
      show (0 : Int) ≤ _ ∧ _
      omega
    · obtain ⟨h0, h1, h2⟩ := h.1 i (by omega) (by omega)
      obtain ⟨k0, k1, k2⟩ := h.1 j (by omega) (by omega)
      have hij : ((cnT T (Y (34 + (i : Int))).toNat : Nat) : Int) = ((cnT T (Y (34 + (j : Int))).toNat : Nat) : Int) := hij
      have ei : T ((Y (34 + (i : Int))).toNat : Int) = i := by rw [Int.toNat_of_nonneg h0, h2]
      have ej : T ((Y (34 + (j : Int))).toNat : Int) = j := by rw [Int.toNat_of_nonneg k0, k2]
      by_cases hlt : (Y (34 + (i : Int))).toNat < (Y (34 + (j : Int))).toNat
      · have := cnT_lt (T := T) hlt (by omega); omega
      · by_cases hgt : (Y (34 + (j : Int))).toNat < (Y (34 + (i : Int))).toNat
        · have := cnT_lt (T := T) hgt (by omega); omega
        · have he : (Y (34 + (i : Int))).toNat = (Y (34 + (j : Int))).toNat := by omega
          rw [he] at ei
          omega
  omega
abbrev mlO (V U : Nat → Int → Int) : Prop := ∀ a, a ≠ 149 → a ≠ 150 → a ≠ 151 → U a = V a
def laS (T l0 : Int → Int) (v : Nat) (U : Nat → Int → Int) : Prop := ∀ u : Nat, u < v → T u ≠ -1 → U 149 (cnT T u) = u ∧ U 150 (cnT T u) = T u ∧ U 151 (cnT T u) = gR T l0 u + 1
section
variable {V : Nat → Int → Int} {b : Bool}
theorem ct_X11_layTrain {T l0 : Int → Int} {W L : Nat} (hW : (W : Int) = V 135 5) (hL : (L : Int) = V 135 33) (hW7 : W ≤ 7) (hL7 : L ≤ 7) (hT : trH (V 135) T W L) (hTr : ∀ j, -1 ≤ T j ∧ T j ≤ 6) (hl0 : ∀ j, -1 ≤ l0 j ∧ l0 j ≤ 6) : yC 2 mX11_layTrain [.ref 134] V b (pI b (fun q V' => mlO V V' ∧ laS T l0 W V' ∧ q = (plS T l0 W).1)) := by
  have hinj := trH_inj hT
  obtain ⟨Q, hQ⟩ : ∃ Q : Option Value → zMu → Prop, Q = pI b (fun q V' => mlO V V' ∧ laS T l0 W V' ∧ q = (plS T l0 W).1) := ⟨_, rfl⟩
  rw [← hQ]
  have prg := fun v => plS_rg (l0 := l0) hTr hl0 v
  have grg : ∀ v : Nat, v < W → T v ≠ -1 → 0 ≤ gR T l0 v ∧ gR T l0 v ≤ 7 := fun v hv ht => by
    have h1 := gR_0 (l0 := l0) hinj hv ht
    have h2 := (prg (v + 1)).1
    rw [plS_1 ht] at h2
    omega
  have loop : ∀ (k v : Nat) (U : Nat → Int → Int) (a4 a5 : Option Value), v + k = W → mlO V U → laS T l0 v U → yE 2 Q mX11_layTrain 6 [some (.ref 134), some (.int (iI (cnT T v))), some (.int (iI (plS T l0 v).1)), some (.int (iI v)), a4, a5] [] U b := by
    intro k
    induction k with
    | zero =>
      intro v U a4 a5 hv hU hS
      have hvW : v = W := by omega
      subst hvW
      have u5 : U 135 = V 135 := hU 135 (by decide) (by decide) (by decide)
      have hp := prg v
      refine z_iload_n dX11_layTrain_6 rfl ?_
      refine z_aload_n dX11_layTrain_7 rfl ?_
      refine y_getR fX11_7 dX11_layTrain_8 (by first | assumption | rfl) (by first | assumption | rfl) ?_
      refine y_iconst dX11_layTrain_11 ?_
      refine y_iald dX11_layTrain_12 (by first | assumption | rfl) (by first | rfl | assumption) (by omega) ?_
      rw [u5, ← hW]
      refine y_icmp_ge dX11_layTrain_13 (by omega) (by omega) (fun c_13 => ?_) (fun c_13 => ?_)
      · refine z_iload_n dX11_layTrain_161 rfl ?_
        exact z_iret dX11_layTrain_162 rfl (Nat.le_refl 0) (Nat.le_refl 0) (by rw [hQ]; exact ⟨_, _, rfl, rfl, hU, hS, rfl⟩)
      · omega
    | succ k ih =>
      intro v U a4 a5 hv hU hS
      have u5 : U 135 = V 135 := hU 135 (by decide) (by decide) (by decide)
      have hp := prg v
      have hc7 := cnT_le T v
      have htv := hTr v
      have hpl := ct_X11_placeOf (V := U) (b := b) (a := 135) (sz := 41) (f := 34) (n := (L : Int)) (w := (v : Int)) rfl (by omega) (by omega) (by omega) (by omega) (fun i i1 i2 => by
        rw [u5]
        have := hT.1 (i - 34) (by omega) (by omega)
        rw [show 34 + (i - 34) = i by omega] at this
        omega) (by decide)
      rw [u5] at hpl
      -- what follows the inner loop
      have after : ∀ (U3 : Nat → Int → Int) (a5 : Option Value), T v ≠ -1 → mlO V U3 → laS T l0 (v + 1) U3 → yE 2 Q mX11_layTrain 131 [some (.ref 134), some (.int (iI (cnT T v))), some (.int (iI (plS T l0 v).1)), some (.int (iI v)), some (.int (iI (T v))), a5] [] U3 b := by
        intro U3 a5 ht h1 h2
        have hg := grg v (by omega) ht
        have hn := (h2 v (by omega) ht).2.2
        have hh := ih (v + 1) U3 (some (.int (iI (T v)))) a5 (by omega) h1 h2
        rw [show cnT T (v + 1) = cnT T v + 1 by show cnT T v + (if T v = -1 then 0 else 1) = _; rw [if_neg ht], plS_1 ht, show ((v + 1 : Nat) : Int) = (v : Int) + 1 by omega, show ((cnT T v + 1 : Nat) : Int) = (cnT T v : Int) + 1 by omega] at hh
        refine z_aload_n dX11_layTrain_131 rfl ?_
        refine y_getR fX11_63 dX11_layTrain_132 (by first | assumption | rfl) (by first | assumption | rfl) ?_
        refine z_iload_n dX11_layTrain_135 rfl ?_
        refine y_iald dX11_layTrain_136 (by first | assumption | rfl) (by first | rfl | assumption) (by omega) ?_
        rw [hn]
        refine z_iload_n dX11_layTrain_137 rfl ?_
        refine y_icmp_le dX11_layTrain_138 (by omega) (by omega) (fun c_138 => ?_) (fun c_138 => ?_)
        · rw [show max (plS T l0 v).1 (gR T l0 v + 1) = (plS T l0 v).1 by omega] at hh
          refine z_iload_n dX11_layTrain_150 rfl ?_
          refine z_istore_n dX11_layTrain_151 (by decide) rfl rfl ?_
          refine y_iinc dX11_layTrain_152 rfl (by decide) rfl rfl ?_
          refine y_iinc dX11_layTrain_155 rfl (by decide) rfl rfl ?_
          refine z_goto dX11_layTrain_158 ?_
          exact hh
        · rw [show max (plS T l0 v).1 (gR T l0 v + 1) = gR T l0 v + 1 by omega] at hh
          refine z_aload_n dX11_layTrain_141 rfl ?_
          refine y_getR fX11_63 dX11_layTrain_142 (by first | assumption | rfl) (by first | assumption | rfl) ?_
          refine z_iload_n dX11_layTrain_145 rfl ?_
          refine y_iald dX11_layTrain_146 (by first | assumption | rfl) (by first | rfl | assumption) (by omega) ?_
          rw [hn]
          refine z_goto dX11_layTrain_147 ?_
          refine z_istore_n dX11_layTrain_151 (by decide) rfl rfl ?_
          refine y_iinc dX11_layTrain_152 rfl (by decide) rfl rfl ?_
          refine y_iinc dX11_layTrain_155 rfl (by decide) rfl rfl ?_
          refine z_goto dX11_layTrain_158 ?_
          exact hh
      have inner : ∀ (t e : Nat) (U3 : Nat → Int → Int) (x : Int), T v ≠ -1 → e + t = cnT T v → mlO V U3 → laS T l0 v U3 → U3 149 (cnT T v) = v → U3 150 (cnT T v) = T v → U3 151 (cnT T v) = x → (1 ≤ x ∧ x ≤ gR T l0 v + 1) → (∀ u : Nat, u < v → T u ≠ -1 → cnT T u < e → T u < T v → gR T l0 u + 2 ≤ x) → yE 2 Q mX11_layTrain 65 [some (.ref 134), some (.int (iI (cnT T v))), some (.int (iI (plS T l0 v).1)), some (.int (iI v)), some (.int (iI (T v))), some (.int (iI e))] [] U3 b := by
        intro t
        induction t with
        | zero =>
          intro e U3 x ht he h1 h2 h3 h4 h5 h6 h7
          have hx : x = gR T l0 v + 1 := by
            have g0 := gR_0 (l0 := l0) hinj (show v < W by omega) ht
            by_cases hz : 0 < gR T l0 v
            · obtain ⟨u, q1, q2, q3, q4⟩ := g0.2 hz
              have := h7 u q1 q2 (by have := cnT_lt q1 q2; omega) q4
              omega
            · omega
          have haf := after U3 (some (.int (iI e))) ht h1 (fun u hu hu1 => by
            by_cases huv : u = v
            · subst huv; exact ⟨h3, h4, by rw [h5, hx]⟩
            · exact h2 u (by omega) hu1)
          refine z_iload dX11_layTrain_65 rfl ?_
          refine z_iload_n dX11_layTrain_67 rfl ?_
          refine y_icmp_ge dX11_layTrain_68 (by omega) (by omega) (fun c_68 => ?_) (fun c_68 => ?_)
          · exact haf
          · omega
        | succ t iht =>
          intro e U3 x ht he h1 h2 h3 h4 h5 h6 h7
          obtain ⟨u, q1, q2, q3⟩ := cnT_ex (T := T) v e (by omega)
          have hu := h2 u q1 q2
          rw [q3] at hu
          have hgu := grg u (by omega) q2
          have hgv := grg v (by omega) ht
          have htu := hTr u
          have huniq : ∀ u' : Nat, u' < v → T u' ≠ -1 → cnT T u' < e + 1 → cnT T u' < e ∨ u' = u := fun u' p1 p2 p3 => by
            by_cases hlt : u' < u
            · have := cnT_lt (T := T) hlt p2; omega
            · by_cases hgt : u < u'
              · have := cnT_lt (T := T) hgt q2; omega
              · omega
          have next : ∀ x' : Int, (1 ≤ x' ∧ x' ≤ gR T l0 v + 1) → x ≤ x' → (T u < T v → gR T l0 u + 2 ≤ x') → yE 2 Q mX11_layTrain 65 [some (.ref 134), some (.int (iI (cnT T v))), some (.int (iI (plS T l0 v).1)), some (.int (iI v)), some (.int (iI (T v))), some (.int (iI ((e : Int) + 1)))] [] (vst U3 151 (cnT T v) x') b := by
            intro x' hx1 hx2 hx3
            have hh := iht (e + 1) (vst U3 151 (cnT T v) x') x' ht (by omega) (fun a r1 r2 r3 => by rw [vst_o r3]; exact h1 a r1 r2 r3) (fun u' p1 p2 => by
              have := cnT_lt (T := T) p1 p2
              rw [vst_o (by decide), vst_o (by decide), vst_n (by omega)]
              exact h2 u' p1 p2) (by rw [vst_o (by decide)]; exact h3) (by rw [vst_o (by decide)]; exact h4) (vst_s _ _ _ _) hx1 (fun u' p1 p2 p3 p4 => by
                rcases huniq u' p1 p2 p3 with h | h
                · have := h7 u' p1 p2 h p4; omega
                · subst h; exact hx3 p4)
            rw [show ((e + 1 : Nat) : Int) = (e : Int) + 1 by omega] at hh
            exact hh
          have glt : T u < T v → gR T l0 u < gR T l0 v := fun h => gR_lt hinj q1 (by omega) q2 ht h
          refine z_iload dX11_layTrain_65 rfl ?_
          refine z_iload_n dX11_layTrain_67 rfl ?_
          refine y_icmp_ge dX11_layTrain_68 (by omega) (by omega) (fun c_68 => ?_) (fun c_68 => ?_)
          · omega
          · refine z_aload_n dX11_layTrain_71 rfl ?_
            refine y_getR fX11_63 dX11_layTrain_72 (by first | assumption | rfl) (by first | assumption | rfl) ?_
            refine z_iload_n dX11_layTrain_75 rfl ?_
            refine z_aload_n dX11_layTrain_76 rfl ?_
            refine y_getR fX11_60 dX11_layTrain_77 (by first | assumption | rfl) (by first | assumption | rfl) ?_
            refine z_iload dX11_layTrain_80 rfl ?_
            refine y_iald dX11_layTrain_82 (by first | assumption | rfl) (by first | rfl | assumption) (by omega) ?_
            rw [hu.2.1]
            refine z_iload dX11_layTrain_83 rfl ?_
            refine y_icmp_ge dX11_layTrain_85 (by omega) (by omega) (fun c_85 => ?_) (fun c_85 => ?_)
            · refine z_aload_n dX11_layTrain_118 rfl ?_
              refine y_getR fX11_63 dX11_layTrain_119 (by first | assumption | rfl) (by first | assumption | rfl) ?_
              refine z_iload_n dX11_layTrain_122 rfl ?_
              refine y_iald dX11_layTrain_123 (by first | assumption | rfl) (by first | rfl | assumption) (by omega) ?_
              rw [h5]
              refine y_iast dX11_layTrain_124 (by first | assumption | rfl) (by first | rfl | assumption) (by omega) ?_
              refine y_iinc dX11_layTrain_125 rfl (by decide) rfl rfl ?_
              refine z_goto dX11_layTrain_128 ?_
              exact next _ (by omega) (by omega) (fun _ => by omega)
            · have gl := glt (by omega)
              refine z_aload_n dX11_layTrain_88 rfl ?_
              refine y_getR fX11_63 dX11_layTrain_89 (by first | assumption | rfl) (by first | assumption | rfl) ?_
              refine z_iload dX11_layTrain_92 rfl ?_
              refine y_iald dX11_layTrain_94 (by first | assumption | rfl) (by first | rfl | assumption) (by omega) ?_
              rw [hu.2.2]
              refine y_iconst dX11_layTrain_95 ?_
              refine y_iadd dX11_layTrain_96 ?_
              refine z_aload_n dX11_layTrain_97 rfl ?_
              refine y_getR fX11_63 dX11_layTrain_98 (by first | assumption | rfl) (by first | assumption | rfl) ?_
              refine z_iload_n dX11_layTrain_101 rfl ?_
              refine y_iald dX11_layTrain_102 (by first | assumption | rfl) (by first | rfl | assumption) (by omega) ?_
              rw [h5]
              refine y_icmp_le dX11_layTrain_103 (by omega) (by omega) (fun c_103 => ?_) (fun c_103 => ?_)
              · refine z_aload_n dX11_layTrain_118 rfl ?_
                refine y_getR fX11_63 dX11_layTrain_119 (by first | assumption | rfl) (by first | assumption | rfl) ?_
                refine z_iload_n dX11_layTrain_122 rfl ?_
                refine y_iald dX11_layTrain_123 (by first | assumption | rfl) (by first | rfl | assumption) (by omega) ?_
                rw [h5]
                refine y_iast dX11_layTrain_124 (by first | assumption | rfl) (by first | rfl | assumption) (by omega) ?_
                refine y_iinc dX11_layTrain_125 rfl (by decide) rfl rfl ?_
                refine z_goto dX11_layTrain_128 ?_
                exact next _ (by omega) (by omega) (fun _ => by omega)
              · refine z_aload_n dX11_layTrain_106 rfl ?_
                refine y_getR fX11_63 dX11_layTrain_107 (by first | assumption | rfl) (by first | assumption | rfl) ?_
                refine z_iload dX11_layTrain_110 rfl ?_
                refine y_iald dX11_layTrain_112 (by first | assumption | rfl) (by first | rfl | assumption) (by omega) ?_
                rw [hu.2.2]
                refine y_iconst dX11_layTrain_113 ?_
                refine y_iadd dX11_layTrain_114 ?_
                refine z_goto dX11_layTrain_115 ?_
                refine y_iast dX11_layTrain_124 (by first | assumption | rfl) (by first | rfl | assumption) (by omega) ?_
                refine y_iinc dX11_layTrain_125 rfl (by decide) rfl rfl ?_
                refine z_goto dX11_layTrain_128 ?_
                exact next _ (by omega) (by omega) (fun _ => by omega)
      have noT : T v = -1 → ∀ a4 a5, yE 2 Q mX11_layTrain 155 [some (.ref 134), some (.int (iI (cnT T v))), some (.int (iI (plS T l0 v).1)), some (.int (iI v)), a4, a5] [] U b := by
        intro ht a4 a5
        have hh := ih (v + 1) U a4 a5 (by omega) hU (fun u hu hu1 => by
          by_cases huv : u = v
          · subst huv; exact absurd ht hu1
          · exact hS u (by omega) hu1)
        rw [show cnT T (v + 1) = cnT T v by show cnT T v + (if T v = -1 then 0 else 1) = _; rw [if_pos ht]; rfl, plS_no ht, show ((v + 1 : Nat) : Int) = (v : Int) + 1 by omega] at hh
        refine y_iinc dX11_layTrain_155 rfl (by decide) rfl rfl ?_
        refine z_goto dX11_layTrain_158 ?_
        exact hh
      refine z_iload_n dX11_layTrain_6 rfl ?_
      refine z_aload_n dX11_layTrain_7 rfl ?_
      refine y_getR fX11_7 dX11_layTrain_8 (by first | assumption | rfl) (by first | assumption | rfl) ?_
      refine y_iconst dX11_layTrain_11 ?_
      refine y_iald dX11_layTrain_12 (by first | assumption | rfl) (by first | rfl | assumption) (by omega) ?_
      rw [u5, ← hW]
      refine y_icmp_ge dX11_layTrain_13 (by omega) (by omega) (fun c_13 => ?_) (fun c_13 => ?_)
      · omega
      · refine z_aload_n dX11_layTrain_16 rfl ?_
        refine y_getR fX11_7 dX11_layTrain_17 (by first | assumption | rfl) (by first | assumption | rfl) ?_
        refine y_bipush dX11_layTrain_20 (by decide +kernel) ?_
        refine z_aload_n dX11_layTrain_22 rfl ?_
        refine y_getR fX11_7 dX11_layTrain_23 (by first | assumption | rfl) (by first | assumption | rfl) ?_
        refine y_bipush dX11_layTrain_26 (by decide +kernel) ?_
        refine y_iald dX11_layTrain_28 (by first | assumption | rfl) (by first | rfl | assumption) (by omega) ?_
        rw [u5, ← hL]
        refine z_iload_n dX11_layTrain_29 rfl ?_
        refine y_callSr (hpl) kX11_172 dX11_layTrain_30 rfl rfl (by decide) rfl (Nat.le_of_ble_eq_true rfl) (fun r_30 h_30 => ?_)
        have hq := trH_pl hT (by omega) (by omega) h_30
        rw [hq]
        refine z_istore dX11_layTrain_33 (by decide) rfl rfl ?_
        refine z_iload dX11_layTrain_35 rfl ?_
        refine y_if_lt dX11_layTrain_37 (by omega) (fun c_37 => ?_) (fun c_37 => ?_)
        · exact noT (by omega) _ _
        · have ht : T v ≠ -1 := by omega
          have g0 := grg v (by omega) ht
          refine z_aload_n dX11_layTrain_40 rfl ?_
          refine y_getR fX11_57 dX11_layTrain_41 (by first | assumption | rfl) (by first | assumption | rfl) ?_
          refine z_iload_n dX11_layTrain_44 rfl ?_
          refine z_iload_n dX11_layTrain_45 rfl ?_
          refine y_iast dX11_layTrain_46 (by first | assumption | rfl) (by first | rfl | assumption) (by omega) ?_
          refine z_aload_n dX11_layTrain_47 rfl ?_
          refine y_getR fX11_60 dX11_layTrain_48 (by first | assumption | rfl) (by first | assumption | rfl) ?_
          refine z_iload_n dX11_layTrain_51 rfl ?_
          refine z_iload dX11_layTrain_52 rfl ?_
          refine y_iast dX11_layTrain_54 (by first | assumption | rfl) (by first | rfl | assumption) (by omega) ?_
          refine z_aload_n dX11_layTrain_55 rfl ?_
          refine y_getR fX11_63 dX11_layTrain_56 (by first | assumption | rfl) (by first | assumption | rfl) ?_
          refine z_iload_n dX11_layTrain_59 rfl ?_
          refine y_iconst dX11_layTrain_60 ?_
          refine y_iast dX11_layTrain_61 (by first | assumption | rfl) (by first | rfl | assumption) (by omega) ?_
          refine y_iconst dX11_layTrain_62 ?_
          refine z_istore dX11_layTrain_63 (by decide) rfl rfl ?_
          refine inner (cnT T v) 0 _ 1 ht (by omega) (fun a r1 r2 r3 => by rw [vst_o r3, vst_o r2, vst_o r1]; exact hU a r1 r2 r3) (fun u p1 p2 => ?_) ?_ ?_ (vst_s _ _ _ _) (by omega) (fun u _ _ h => by omega)
          · have := cnT_lt (T := T) p1 p2
            rw [vst_o (by decide), vst_o (by decide), vst_n (by omega), vst_o (by decide), vst_n (by omega), vst_o (by decide), vst_n (by omega), vst_o (by decide), vst_o (by decide)]
            exact hS u p1 p2
          · rw [vst_o (by decide), vst_o (by decide), vst_s]
          · rw [vst_o (by decide), vst_s]
  have h0 := loop W 0 V none none (by omega) (fun a _ _ _ => rfl) (fun u hu => by omega)
  refine zC_of (by decide +kernel) (Nat.le_of_ble_eq_true rfl) rfl ?_
  refine y_iconst dX11_layTrain_0 ?_
  refine z_istore_n dX11_layTrain_1 (by decide) rfl rfl ?_
  refine y_iconst dX11_layTrain_2 ?_
  refine z_istore_n dX11_layTrain_3 (by decide) rfl rfl ?_
  refine y_iconst dX11_layTrain_4 ?_
  refine z_istore_n dX11_layTrain_5 (by decide) rfl rfl ?_
  exact h0
end

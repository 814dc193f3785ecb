/-! ===== the foremen, on GrudgeYard's side ===== -/
/-- the best of the first r roads: -1 of none; few: the least -/
def bst (few : Bool) (ok : Nat → Bool) (val : Nat → Int) : Nat → Int
  | 0 => -1
  | r + 1 => if ok r then (if bst few ok val r = -1 ∨ (if few then val r < bst few ok val r else bst few ok val r < val r) then val r else bst few ok val r) else bst few ok val r
theorem bst_rg {few : Bool} {ok : Nat → Bool} {val : Nat → Int} {m : Int} (hm : 0 ≤ m) : ∀ r : Nat, (∀ j, j < r → ok j = true → 0 ≤ val j ∧ val j ≤ m) → -1 ≤ bst few ok val r ∧ bst few ok val r ≤ m
  | 0, _ => by simp [bst]; omega
  | r + 1, h => by
    have ih := bst_rg (few := few) hm r (fun j hj => h j (by omega))
    unfold bst
    by_cases ho : ok r = true
    · have := h r (by omega) ho
      rw [if_pos ho]
      split <;> omega
    · rw [if_neg ho]; exact ih
theorem bst_take {few : Bool} {ok : Nat → Bool} {val : Nat → Int} {r : Nat} (ho : ok r = true) (h : bst few ok val r = -1 ∨ (few = true ∧ val r < bst few ok val r) ∨ (few = false ∧ bst few ok val r < val r)) : bst few ok val (r + 1) = val r := by
  rw [bst, if_pos ho, if_pos]
  rcases h with h | ⟨h1, h2⟩ | ⟨h1, h2⟩
  · exact Or.inl h
  · refine Or.inr ?_
    rw [if_pos h1]; exact h2
  · refine Or.inr ?_
    rw [h1] at h2 ⊢
    rw [if_neg (by decide)]; exact h2
theorem bst_keep {few : Bool} {ok : Nat → Bool} {val : Nat → Int} {r : Nat} (ho : ok r = true) (h : bst few ok val r ≠ -1) (h1 : few = true → bst few ok val r ≤ val r) (h2 : few = false → val r ≤ bst few ok val r) : bst few ok val (r + 1) = bst few ok val r := by
  rw [bst, if_pos ho, if_neg]
  intro hh
  rcases hh with hh | hh
  · exact h hh
  · cases few with
    | true => rw [if_pos rfl] at hh; have := h1 rfl; omega
    | false => rw [if_neg (by decide)] at hh; have := h2 rfl; omega
theorem bst_pass {few : Bool} {ok : Nat → Bool} {val : Nat → Int} {r : Nat} (ho : ok r = false) : bst few ok val (r + 1) = bst few ok val r := by rw [bst, if_neg (by rw [ho]; decide)]
/-- nothing beats the least of all -/
theorem bst_few0 {ok : Nat → Bool} {val : Nat → Int} {r : Nat} (h : bst true ok val r = 0) : ∀ k : Nat, (∀ j, j < r + k → ok j = true → 0 ≤ val j) → bst true ok val (r + k) = 0
  | 0, _ => h
  | k + 1, hv => by
    have ih := bst_few0 h k (fun j hj => hv j (by omega))
    rw [show r + (k + 1) = (r + k) + 1 by omega, bst]
    by_cases ho : ok (r + k) = true
    · have := hv (r + k) (by omega) ho
      rw [if_pos ho, ih, if_neg (by simp; omega)]
    · rw [if_neg ho, ih]
theorem bst_manyM {ok : Nat → Bool} {val : Nat → Int} {r : Nat} {m : Int} (hm : 0 ≤ m) (h : bst false ok val r = m) : ∀ k : Nat, (∀ j, j < r + k → ok j = true → val j ≤ m) → bst false ok val (r + k) = m
  | 0, _ => h
  | k + 1, hv => by
    have ih := bst_manyM hm h k (fun j hj => hv j (by omega))
    rw [show r + (k + 1) = (r + k) + 1 by omega, bst]
    by_cases ho : ok (r + k) = true
    · have := hv (r + k) (by omega) ho
      rw [if_pos ho, ih, if_neg (by simp; omega)]
    · rw [if_neg ho, ih]
/-- the value of the game: n wagons from the i-th on, by what stands on the board -/
def fmV : Nat → Int → (Nat → Int → Int) → Int
  | 0, _, _ => 0
  | n + 1, i, V => if bst (decide (i % 2 = 0)) (fun r : Nat => decide (V 111 (r : Int) < V 110 (r : Int))) (fun r : Nat => kkI (V 108 6) (V 112 (r : Int)) (V 109 i) + fmV n (i + 1) (putB V i (r : Int))) (V 108 4).toNat = -1 then 0 else bst (decide (i % 2 = 0)) (fun r : Nat => decide (V 111 (r : Int) < V 110 (r : Int))) (fun r : Nat => kkI (V 108 6) (V 112 (r : Int)) (V 109 i) + fmV n (i + 1) (putB V i (r : Int))) (V 108 4).toNat
theorem fmV_rg : ∀ (n : Nat) (i : Int) (V : Nat → Int → Int), 0 ≤ fmV n i V ∧ fmV n i V ≤ n
  | 0, _, _ => by simp [fmV]
  | n + 1, i, V => by
    have h := bst_rg (few := decide (i % 2 = 0)) (ok := fun r : Nat => decide (V 111 (r : Int) < V 110 (r : Int))) (val := fun r : Nat => kkI (V 108 6) (V 112 (r : Int)) (V 109 i) + fmV n (i + 1) (putB V i (r : Int))) (m := n + 1) (by omega) (V 108 4).toNat (fun j _ _ => by
      have := fmV_rg n (i + 1) (putB V i j)
      have := kkI_01 (V 108 6) (V 112 j) (V 109 i)
      omega)
    unfold fmV
    split <;> omega
section
variable {b : Bool}
theorem ct_X10_foremenKicks : ∀ (n : Nat) (i e : Int) (V : Nat → Int → Int), BS V → 0 ≤ i → i + n = e → e ≤ V 108 5 → yC (n + 4) mX10_foremenKicks [.ref 108, .int (iI i), .int (iI e)] V b (pR b V (fun q => q = fmV n i V)) := by
  intro n
  induction n with
  | zero =>
    intro i e V hB h1 h2 h3
    have b1 := hB.2.1
    refine zC_of (by decide +kernel) (Nat.le_of_ble_eq_true rfl) rfl ?_
    refine z_iload_n dX10_foremenKicks_0 rfl ?_
    refine z_iload_n dX10_foremenKicks_1 rfl ?_
    refine y_icmp_lt dX10_foremenKicks_2 (by omega) (by omega) (fun c_2 => ?_) (fun c_2 => ?_)
    · omega
    · refine y_iconst dX10_foremenKicks_5 ?_
      exact z_iret dX10_foremenKicks_6 rfl (Nat.le_refl 0) (Nat.le_refl 0) ⟨_, rfl, rfl, rfl⟩
  | succ n ih =>
    intro i e V hB h1 h2 h3
    obtain ⟨b0, b1, b2, b3, b4, b5, b6⟩ := id hB
    obtain ⟨val, hval⟩ : ∃ val : Nat → Int, val = fun r : Nat => kkI (V 108 6) (V 112 (r : Int)) (V 109 i) + fmV n (i + 1) (putB V i (r : Int)) := ⟨_, rfl⟩
    obtain ⟨ok, hok⟩ : ∃ ok : Nat → Bool, ok = fun r : Nat => decide (V 111 (r : Int) < V 110 (r : Int)) := ⟨_, rfl⟩
    have hfm : fmV (n + 1) i V = if bst (decide (i % 2 = 0)) ok val (V 108 4).toNat = -1 then 0 else bst (decide (i % 2 = 0)) ok val (V 108 4).toNat := by rw [hval, hok]; rfl
    have hvr : ∀ j, 0 ≤ val j ∧ val j ≤ n + 1 := fun j => by
      have := fmV_rg n (i + 1) (putB V i j)
      have := kkI_01 (V 108 6) (V 112 j) (V 109 i)
      rw [hval]
      simp only
      omega
    have hend : ∀ (bb few : Int) (a5 a6 a7 : Option Value), bb = bst (decide (i % 2 = 0)) ok val (V 108 4).toNat → (-1 ≤ bb ∧ bb ≤ 100) → yE (n + 1 + 4) (pR b V (fun q => q = fmV (n + 1) i V)) mX10_foremenKicks 140 [some (.ref 108), some (.int (iI i)), some (.int (iI e)), some (.int (iI few)), some (.int (iI bb)), a5, a6, a7] [] V b := by
      intro bb few a5 a6 a7 hb hb2
      refine z_iload dX10_foremenKicks_140 rfl ?_
      refine y_iconst dX10_foremenKicks_142 ?_
      refine y_icmp_ne dX10_foremenKicks_143 (by omega) (by omega) (fun c_143 => ?_) (fun c_143 => ?_)
      · refine z_iload dX10_foremenKicks_150 rfl ?_
        exact z_iret dX10_foremenKicks_152 rfl (Nat.le_refl 0) (Nat.le_refl 0) ⟨_, rfl, rfl, by rw [hfm, ← hb]; first | rw [if_pos c_143] | rw [if_neg c_143]⟩
      · refine y_iconst dX10_foremenKicks_146 ?_
        refine z_goto dX10_foremenKicks_147 ?_
        exact z_iret dX10_foremenKicks_152 rfl (Nat.le_refl 0) (Nat.le_refl 0) ⟨_, rfl, rfl, by rw [hfm, ← hb]; first | rw [if_pos c_143] | rw [if_neg c_143]⟩
    have loop : ∀ (t r : Nat) (few : Int) (a6 a7 : Option Value), (few = 1 ↔ i % 2 = 0) → (few = 0 ∨ few = 1) → (r : Int) + t = V 108 4 → (∃ v6, a6 = some (.int v6)) ∨ a6 = none → (∃ v7, a7 = some (.int v7)) ∨ a7 = none → yE (n + 1 + 4) (pR b V (fun q => q = fmV (n + 1) i V)) mX10_foremenKicks 25 [some (.ref 108), some (.int (iI i)), some (.int (iI e)), some (.int (iI few)), some (.int (iI (bst (decide (i % 2 = 0)) ok val r))), some (.int (iI (r : Nat))), a6, a7] [] V b := by
      intro t
      induction t with
      | zero =>
        intro r few a6 a7 hf hf2 ht h6 h7
        have hbr := bst_rg (few := decide (i % 2 = 0)) (ok := ok) (val := val) (m := n + 1) (by omega) r (fun j _ _ => hvr j)
        refine z_iload dX10_foremenKicks_25 rfl ?_
        refine z_aload_n dX10_foremenKicks_27 rfl ?_
        refine y_getI (j := 4) fX10_271 dX10_foremenKicks_28 rfl (by first | assumption | rfl) ?_
        refine y_icmp_ge dX10_foremenKicks_31 (by omega) (by omega) (fun c_31 => ?_) (fun c_31 => ?_)
        · exact hend _ _ _ _ _ (by rw [show (V 108 4).toNat = r by omega]) (by omega)
        · omega
      | succ t iht =>
        intro r few a6 a7 hf hf2 ht h6 h7
        have hbr := bst_rg (few := decide (i % 2 = 0)) (ok := ok) (val := val) (m := n + 1) (by omega) r (fun j _ _ => hvr j)
        have hbr1 := bst_rg (few := decide (i % 2 = 0)) (ok := ok) (val := val) (m := n + 1) (by omega) (r + 1) (fun j _ _ => hvr j)
        have hvrr := hvr r
        have c4 := b4 r (by omega) (by omega)
        have c5 := b5 r (by omega) (by omega)
        have c6 := b6 r (by omega) (by omega)
        have next : ∀ (a6 a7 : Option Value), ((∃ v6, a6 = some (.int v6)) ∨ a6 = none) → ((∃ v7, a7 = some (.int v7)) ∨ a7 = none) → yE (n + 1 + 4) (pR b V (fun q => q = fmV (n + 1) i V)) mX10_foremenKicks 134 [some (.ref 108), some (.int (iI i)), some (.int (iI e)), some (.int (iI few)), some (.int (iI (bst (decide (i % 2 = 0)) ok val (r + 1)))), some (.int (iI (r : Nat))), a6, a7] [] V b := by
          intro a6 a7 h6 h7
          have hh := iht (r + 1) few a6 a7 hf hf2 (by omega) h6 h7
          rw [show ((r + 1 : Nat) : Int) = (r : Int) + 1 by omega] at hh
          refine y_iinc dX10_foremenKicks_134 rfl (by decide) rfl rfl ?_
          refine z_goto dX10_foremenKicks_137 ?_
          exact hh
        -- behind the weighing: perhaps nothing can be better
        have weighed : ∀ (l6 v7 : Int), yE (n + 1 + 4) (pR b V (fun q => q = fmV (n + 1) i V)) mX10_foremenKicks 115 [some (.ref 108), some (.int (iI i)), some (.int (iI e)), some (.int (iI few)), some (.int (iI (bst (decide (i % 2 = 0)) ok val (r + 1)))), some (.int (iI (r : Nat))), some (.int (iI l6)), some (.int (iI v7))] [] V b := by
          intro l6 v7
          refine z_iload dX10_foremenKicks_115 rfl ?_
          refine z_iload_n dX10_foremenKicks_117 rfl ?_
          refine y_if_eq dX10_foremenKicks_118 (by omega) (fun c_118 => ?_) (fun c_118 => ?_)
          · have hev : ¬ i % 2 = 0 := fun h => by have := hf.2 h; omega
            refine z_iload_n dX10_foremenKicks_125 rfl ?_
            refine z_iload_n dX10_foremenKicks_126 rfl ?_
            refine y_isub dX10_foremenKicks_127 ?_
            refine y_icmp_ne dX10_foremenKicks_128 (by omega) (by omega) (fun c_128 => ?_) (fun c_128 => ?_)
            · exact next _ _ (Or.inl ⟨_, rfl⟩) (Or.inl ⟨_, rfl⟩)
            · refine z_goto dX10_foremenKicks_131 ?_
              refine hend _ _ _ _ _ ?_ (by omega)
              first
                | (simp only [hev, decide_true] at c_128 ⊢
                   have hz := bst_few0 c_128 (V 108 4 - (r + 1 : Nat)).toNat (fun j _ _ => (hvr j).1)
                   rw [c_128, ← hz]
                   congr 1
                   omega)
                | (simp only [hev, decide_false] at c_128 ⊢
                   have hz := bst_manyM (m := e - i) (by omega) c_128 (V 108 4 - (r + 1 : Nat)).toNat (fun j _ _ => by have := (hvr j).2; omega)
                   rw [c_128, ← hz]
                   congr 1
                   omega)
          · have hev : i % 2 = 0 := hf.1 (by omega)
            refine y_iconst dX10_foremenKicks_121 ?_
            refine z_goto dX10_foremenKicks_122 ?_
            refine y_icmp_ne dX10_foremenKicks_128 (by omega) (by omega) (fun c_128 => ?_) (fun c_128 => ?_)
            · exact next _ _ (Or.inl ⟨_, rfl⟩) (Or.inl ⟨_, rfl⟩)
            · refine z_goto dX10_foremenKicks_131 ?_
              refine hend _ _ _ _ _ ?_ (by omega)
              first
                | (simp only [hev, decide_true] at c_128 ⊢
                   have hz := bst_few0 c_128 (V 108 4 - (r + 1 : Nat)).toNat (fun j _ _ => (hvr j).1)
                   rw [c_128, ← hz]
                   congr 1
                   omega)
                | (simp only [hev, decide_false] at c_128 ⊢
                   have hz := bst_manyM (m := e - i) (by omega) c_128 (V 108 4 - (r + 1 : Nat)).toNat (fun j _ _ => by have := (hvr j).2; omega)
                   rw [c_128, ← hz]
                   congr 1
                   omega)
        have fP : putB V i r 108 = V 108 := putB_o (by decide) (by decide)
        have hBP : V 111 r < V 110 r → BS (putB V i r) := fun h => BS_put (by omega) (by omega) h hB
        have hvv : kkI (V 108 6) (V 112 r) (V 109 i) + fmV n (i + 1) (putB V i r) = val r := by rw [hval]
        refine z_iload dX10_foremenKicks_25 rfl ?_
        refine z_aload_n dX10_foremenKicks_27 rfl ?_
        refine y_getI (j := 4) fX10_271 dX10_foremenKicks_28 rfl (by first | assumption | rfl) ?_
        refine y_icmp_ge dX10_foremenKicks_31 (by omega) (by omega) (fun c_31 => ?_) (fun c_31 => ?_)
        · omega
        · refine z_aload_n dX10_foremenKicks_34 rfl ?_
          refine z_iload dX10_foremenKicks_35 rfl ?_
          refine y_callVr (ct_X0_hasRoom (by omega) (by assumption)) kX10_272 dX10_foremenKicks_37 rfl rfl (by first | assumption | rfl) rfl (by omega) rfl (Nat.le_of_ble_eq_true rfl) (fun r_37 h_37 => ?_)
          refine y_if_ne dX10_foremenKicks_40 (by omega) (fun c_40 => ?_) (fun c_40 => ?_)
          · have ho : ok r = true := by rw [hok]; simp; omega
            refine z_aload_n dX10_foremenKicks_46 rfl ?_
            refine z_iload dX10_foremenKicks_47 rfl ?_
            refine y_callVr (ct_X0_lastKind (by omega) (by omega)) kX10_275 dX10_foremenKicks_49 rfl rfl (by first | assumption | rfl) rfl (by omega) rfl (Nat.le_of_ble_eq_true rfl) (fun r_49 h_49 => ?_)
            subst h_49
            refine z_istore dX10_foremenKicks_52 (by decide) rfl rfl ?_
            refine z_aload_n dX10_foremenKicks_54 rfl ?_
            refine z_iload_n dX10_foremenKicks_55 rfl ?_
            refine z_iload dX10_foremenKicks_56 rfl ?_
            refine y_callVi (ct_X0_put (by omega) (by omega) hB) kX10_278 dX10_foremenKicks_58 rfl rfl (by first | assumption | rfl) rfl (by omega) rfl (Nat.le_of_ble_eq_true rfl) (fun r_58 V1 h_58 => ?_)
            obtain ⟨g1, g2⟩ := h_58
            subst g1 g2
            refine z_istore dX10_foremenKicks_61 (by decide) rfl rfl ?_
            refine z_iload dX10_foremenKicks_63 rfl ?_
            refine z_aload_n dX10_foremenKicks_65 rfl ?_
            refine z_iload_n dX10_foremenKicks_66 rfl ?_
            refine y_iconst dX10_foremenKicks_67 ?_
            refine y_iadd dX10_foremenKicks_68 ?_
            refine z_iload_n dX10_foremenKicks_69 rfl ?_
            refine y_callSr (ih (i + 1) e (putB V i r) (hBP (by omega)) (by omega) (by omega) (by rw [fP]; omega)) kX10_267 dX10_foremenKicks_70 rfl rfl (by omega) rfl (Nat.le_of_ble_eq_true rfl) (fun r_70 h_70 => ?_)
            subst h_70
            refine y_iadd dX10_foremenKicks_73 ?_
            rw [hvv]
            refine z_istore dX10_foremenKicks_74 (by decide) rfl rfl ?_
            refine z_aload_n dX10_foremenKicks_76 rfl ?_
            refine z_iload dX10_foremenKicks_77 rfl ?_
            refine z_iload dX10_foremenKicks_79 rfl ?_
            refine y_callVv (ct_X0_takeBack (by rw [fP]; omega) (by rw [fP]; omega)) kX10_281 dX10_foremenKicks_81 rfl rfl (by first | assumption | rfl) rfl (by omega) rfl (Nat.le_of_ble_eq_true rfl) (fun V1 h_81 => ?_)
            rw [putB_back] at h_81
            subst h_81
            refine z_iload dX10_foremenKicks_84 rfl ?_
            refine y_iconst dX10_foremenKicks_86 ?_
            refine y_icmp_eq dX10_foremenKicks_87 (by omega) (by omega) (fun c_87 => ?_) (fun c_87 => ?_)
            · have eb : bst (decide (i % 2 = 0)) ok val (r + 1) = val r := bst_take ho (Or.inl c_87)
              refine z_iload dX10_foremenKicks_111 rfl ?_
              refine z_istore dX10_foremenKicks_113 (by decide) rfl rfl ?_
              rw [← eb]
              exact weighed _ _
            · refine z_iload_n dX10_foremenKicks_90 rfl ?_
              refine y_if_eq dX10_foremenKicks_91 (by omega) (fun c_91 => ?_) (fun c_91 => ?_)
              · have hev : ¬ i % 2 = 0 := fun h => by have := hf.2 h; omega
                refine z_iload dX10_foremenKicks_104 rfl ?_
                refine z_iload dX10_foremenKicks_106 rfl ?_
                refine y_icmp_le dX10_foremenKicks_108 (by omega) (by omega) (fun c_108 => ?_) (fun c_108 => ?_)
                · have eb : bst (decide (i % 2 = 0)) ok val (r + 1) = bst (decide (i % 2 = 0)) ok val r := bst_keep ho c_87 (fun h => by rw [decide_eq_false hev] at h; exact absurd h (by decide)) (fun _ => by omega)
                  rw [← eb]
                  exact weighed _ _
                · have eb : bst (decide (i % 2 = 0)) ok val (r + 1) = val r := bst_take ho (Or.inr (Or.inr ⟨decide_eq_false hev, by omega⟩))
                  refine z_iload dX10_foremenKicks_111 rfl ?_
                  refine z_istore dX10_foremenKicks_113 (by decide) rfl rfl ?_
                  rw [← eb]
                  exact weighed _ _
              · have hev : i % 2 = 0 := hf.1 (by omega)
                refine z_iload dX10_foremenKicks_94 rfl ?_
                refine z_iload dX10_foremenKicks_96 rfl ?_
                refine y_icmp_ge dX10_foremenKicks_98 (by omega) (by omega) (fun c_98 => ?_) (fun c_98 => ?_)
                · have eb : bst (decide (i % 2 = 0)) ok val (r + 1) = bst (decide (i % 2 = 0)) ok val r := bst_keep ho c_87 (fun _ => by omega) (fun h => by rw [decide_eq_true hev] at h; exact absurd h (by decide))
                  rw [← eb]
                  exact weighed _ _
                · have eb : bst (decide (i % 2 = 0)) ok val (r + 1) = val r := bst_take ho (Or.inr (Or.inl ⟨decide_eq_true hev, by omega⟩))
                  refine z_goto dX10_foremenKicks_101 ?_
                  refine z_iload dX10_foremenKicks_111 rfl ?_
                  refine z_istore dX10_foremenKicks_113 (by decide) rfl rfl ?_
                  rw [← eb]
                  exact weighed _ _
          · have ho : ok r = false := by rw [hok]; simp; omega
            rw [← bst_pass ho]
            refine z_goto dX10_foremenKicks_43 ?_
            exact next _ _ h6 h7
    have hb0 : (bst (decide (i % 2 = 0)) ok val 0) = -1 := rfl
    refine zC_of (by decide +kernel) (Nat.le_of_ble_eq_true rfl) rfl ?_
    refine z_iload_n dX10_foremenKicks_0 rfl ?_
    refine z_iload_n dX10_foremenKicks_1 rfl ?_
    refine y_icmp_lt dX10_foremenKicks_2 (by omega) (by omega) (fun c_2 => ?_) (fun c_2 => ?_)
    · refine z_iload_n dX10_foremenKicks_7 rfl ?_
      refine y_iconst dX10_foremenKicks_8 ?_
      refine y_irem dX10_foremenKicks_9 (by omega) (by omega) ?_
      refine y_if_ne dX10_foremenKicks_10 (by omega) (fun c_10 => ?_) (fun c_10 => ?_)
      · have hfe : ((0 : Int) = 1 ↔ i % 2 = 0) := by omega
        refine y_iconst dX10_foremenKicks_17 ?_
        refine z_istore_n dX10_foremenKicks_18 (by decide) rfl rfl ?_
        refine y_iconst dX10_foremenKicks_19 ?_
        refine z_istore dX10_foremenKicks_20 (by decide) rfl rfl ?_
        refine y_iconst dX10_foremenKicks_22 ?_
        refine z_istore dX10_foremenKicks_23 (by decide) rfl rfl ?_
        exact loop (V 108 4).toNat 0 _ none none hfe (by omega) (by omega) (Or.inr rfl) (Or.inr rfl)
      · have hfe : ((1 : Int) = 1 ↔ i % 2 = 0) := by omega
        refine y_iconst dX10_foremenKicks_13 ?_
        refine z_goto dX10_foremenKicks_14 ?_
        refine z_istore_n dX10_foremenKicks_18 (by decide) rfl rfl ?_
        refine y_iconst dX10_foremenKicks_19 ?_
        refine z_istore dX10_foremenKicks_20 (by decide) rfl rfl ?_
        refine y_iconst dX10_foremenKicks_22 ?_
        refine z_istore dX10_foremenKicks_23 (by decide) rfl rfl ?_
        exact loop (V 108 4).toNat 0 _ none none hfe (by omega) (by omega) (Or.inr rfl) (Or.inr rfl)
    · omega
end

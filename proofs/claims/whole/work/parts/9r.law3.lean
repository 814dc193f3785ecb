/-! ===== the law: its end, its loop, its beginning ===== -/
section
variable {V : Nat → Int → Int} {b : Bool} {n i : Int} {bb Lb cu su : Nat} {xs : Nat → Int32}
theorem lw_end {L : List (Option Value)} {M : zMu} (hc : cu ≤ room_1.cells) (hs : su ≤ room_1.slots) : zE room_1 (lwB bb Lb xs) mL_law 970 L [] cu su M := by
  refine y_iconst dL_law_970 ?_
  intro l z D cc p e s m args below meth c H locs ls hX hP hK hI hz hS hLL
  obtain ⟨g1, g2, g3, g4⟩ := hP
  rw [g1]
  refine va_forget (fun q hq => ?_) ?_
  · have g5 := hS.2.2 q hq
    rw [← g4]
    exact g5
  refine W.widen (k := 600000) (n := 7302250) hc hs ?_
  have g6 : List.map (sv z) [Value.int (iI 1)] = [Value.int 1] := rfl
  rw [g6]
  exact lw_ret (b := bb) hX.1 hX.2.1 hX.2.2.2.1 hX.2.2.2.2.1 dL_law_971.1
theorem lw_turn (h : RR V b n) (hin : i = 4 * n) (hL : Lb ≤ 256) (hc : cu ≤ room_1.cells) (hs : su ≤ room_1.slots) (kk : i + 4 ≤ (Lb : Int) → ∀ (V' : Nat → Int → Int) (b' : Bool), RR V' b' (n + 1) → zE room_1 (lwB bb Lb xs) mL_law 18 (LL bb (i + 4)) [] cu su (mk S0 V' (Fs b'))) : zE room_1 (lwB bb Lb xs) mL_law 18 (LL bb i) [] cu su (mk S0 V (Fs b)) := by
  have hnr := h.1
  refine z_iload_n dL_law_18 rfl ?_
  refine z_aloadX_n dL_law_19 rfl ?_
  refine z_slen dL_law_20 hL ?_
  refine y_iconst dL_law_21 ?_
  refine y_isub dL_law_22 ?_
  refine y_icmp_gt dL_law_23 ⟨by omega, by omega⟩ ⟨by omega, by omega⟩ (fun _ => lw_end hc hs) (fun hle => ?_)
  have h64 : n + 1 ≤ 64 := by omega
  have hi : 0 ≤ i ∧ i + 4 ≤ (Lb : Int) := ⟨by omega, by omega⟩
  have k4 : ∀ (V' : Nat → Int → Int) (b' : Bool), RR V' b' (n + 1) → zE room_1 (lwB bb Lb xs) mL_law 964 (LL bb i) [] cu su (mk S0 V' (Fs b')) := fun V' b' hr => y_iinc dL_law_964 rfl (Nat.le_of_ble_eq_true rfl) rfl rfl (z_goto dL_law_967 (kk hi.2 V' b' hr))
  refine z_aloadX_n dL_law_26 rfl ?_
  refine z_iload_n dL_law_27 rfl ?_
  refine z_sld dL_law_28 ⟨by omega, by omega⟩ hL ?_
  refine y_bipush dL_law_29 rfl ?_
  refine z_iand dL_law_31 ?_
  obtain ⟨t, ht, htr⟩ := iI_of (iI (sx xs i) &&& iI 31)
  rw [ht]
  by_cases ho : t < 0 ∨ 29 < t
  · exact y_tsOut (tgt := 964) dL_law_32 htr ho (by decide) (k4 V b (RR_up h h64))
  have h30 : t = 0 ∨ t = 1 ∨ t = 2 ∨ t = 3 ∨ t = 4 ∨ t = 5 ∨ t = 6 ∨ t = 7 ∨ t = 8 ∨ t = 9 ∨ t = 10 ∨ t = 11 ∨ t = 12 ∨ t = 13 ∨ t = 14 ∨ t = 15 ∨ t = 16 ∨ t = 17 ∨ t = 18 ∨ t = 19 ∨ t = 20 ∨ t = 21 ∨ t = 22 ∨ t = 23 ∨ t = 24 ∨ t = 25 ∨ t = 26 ∨ t = 27 ∨ t = 28 ∨ t = 29 := by omega
  rcases h30 with hq | hq | hq | hq | hq | hq | hq | hq | hq | hq | hq | hq | hq | hq | hq | hq | hq | hq | hq | hq | hq | hq | hq | hq | hq | hq | hq | hq | hq | hq
  · exact y_tsIn (off := 136) (tgt := 168) dL_law_32 htr (by omega) (by omega) (by rw [hq]; rfl) (by decide) (lc_feed h h64 hL hi hc hs k4)
  · exact y_tsIn (off := 159) (tgt := 191) dL_law_32 htr (by omega) (by omega) (by rw [hq]; rfl) (by decide) (lc_yard h h64 hL hi hc hs k4)
  · exact y_tsIn (off := 172) (tgt := 204) dL_law_32 htr (by omega) (by omega) (by rw [hq]; rfl) (by decide) (lc_fault h h64 hL hi hc hs k4)
  · exact y_tsIn (off := 185) (tgt := 217) dL_law_32 htr (by omega) (by omega) (by rw [hq]; rfl) (by decide) (lc_told h h64 hL hi hc hs k4)
  · exact y_tsIn (off := 208) (tgt := 240) dL_law_32 htr (by omega) (by omega) (by rw [hq]; rfl) (by decide) (lc_wagon h h64 hL hi hc hs k4)
  · exact y_tsIn (off := 241) (tgt := 273) dL_law_32 htr (by omega) (by omega) (by rw [hq]; rfl) (by decide) (lc_road h h64 hL hi hc hs k4)
  · exact y_tsIn (off := 274) (tgt := 306) dL_law_32 htr (by omega) (by omega) (by rw [hq]; rfl) (by decide) (lc_at h h64 hL hi hc hs k4)
  · exact y_tsIn (off := 307) (tgt := 339) dL_law_32 htr (by omega) (by omega) (by rw [hq]; rfl) (by decide) (lc_enemies h h64 hL hi hc hs k4)
  · exact y_tsIn (off := 340) (tgt := 372) dL_law_32 htr (by omega) (by omega) (by rw [hq]; rfl) (by decide) (lc_cut h h64 hL hi hc hs k4)
  · exact y_tsIn (off := 373) (tgt := 405) dL_law_32 htr (by omega) (by omega) (by rw [hq]; rfl) (by decide) (lc_pull h h64 hL hi hc hs k4)
  · exact y_tsIn (off := 396) (tgt := 428) dL_law_32 htr (by omega) (by omega) (by rw [hq]; rfl) (by decide) (lc_peace h h64 hL hi hc hs k4)
  · exact y_tsIn (off := 429) (tgt := 461) dL_law_32 htr (by omega) (by omega) (by rw [hq]; rfl) (by decide) (lc_drift h h64 hL hi hc hs k4)
  · exact y_tsIn (off := 452) (tgt := 484) dL_law_32 htr (by omega) (by omega) (by rw [hq]; rfl) (by decide) (lc_undo h h64 hL hi hc hs k4)
  · exact y_tsIn (off := 465) (tgt := 497) dL_law_32 htr (by omega) (by omega) (by rw [hq]; rfl) (by decide) (lc_plan h h64 hL hi hc hs k4)
  · exact y_tsIn (off := 488) (tgt := 520) dL_law_32 htr (by omega) (by omega) (by rw [hq]; rfl) (by decide) (lc_leastRoads h h64 hL hi hc hs k4)
  · exact y_tsIn (off := 511) (tgt := 543) dL_law_32 htr (by omega) (by omega) (by rw [hq]; rfl) (by decide) (lc_safe h h64 hL hi hc hs k4)
  · exact y_tsIn (off := 554) (tgt := 586) dL_law_32 htr (by omega) (by omega) (by rw [hq]; rfl) (by decide) (lc_foremen h h64 hL hi hc hs k4)
  · exact y_tsIn (off := 577) (tgt := 609) dL_law_32 htr (by omega) (by omega) (by rw [hq]; rfl) (by decide) (lc_fewest h h64 hL hi hc hs k4)
  · exact y_tsIn (off := 600) (tgt := 632) dL_law_32 htr (by omega) (by omega) (by rw [hq]; rfl) (by decide) (lc_rusted h h64 hL hi hc hs k4)
  · exact y_tsIn (off := 633) (tgt := 665) dL_law_32 htr (by omega) (by omega) (by rw [hq]; rfl) (by decide) (lc_couple h h64 hL hi hc hs k4)
  · exact y_tsIn (off := 692) (tgt := 724) dL_law_32 htr (by omega) (by omega) (by rw [hq]; rfl) (by decide) (lc_laws h h64 hL hi hc hs k4)
  · exact y_tsIn (off := 715) (tgt := 747) dL_law_32 htr (by omega) (by omega) (by rw [hq]; rfl) (by decide) (lc_next h h64 hL hi hc hs k4)
  · exact y_tsIn (off := 728) (tgt := 760) dL_law_32 htr (by omega) (by omega) (by rw [hq]; rfl) (by decide) (lc_chalk h h64 hL hi hc hs k4)
  · exact y_tsIn (off := 771) (tgt := 803) dL_law_32 htr (by omega) (by omega) (by rw [hq]; rfl) (by decide) (lc_fit h h64 hL hi hc hs k4)
  · exact y_tsIn (off := 794) (tgt := 826) dL_law_32 htr (by omega) (by omega) (by rw [hq]; rfl) (by decide) (lc_write h h64 hL hi hc hs k4)
  · exact y_tsIn (off := 837) (tgt := 869) dL_law_32 htr (by omega) (by omega) (by rw [hq]; rfl) (by decide) (lc_tear h h64 hL hi hc hs k4)
  · exact y_tsIn (off := 850) (tgt := 882) dL_law_32 htr (by omega) (by omega) (by rw [hq]; rfl) (by decide) (lc_judge h h64 hL hi hc hs k4)
  · exact y_tsIn (off := 863) (tgt := 895) dL_law_32 htr (by omega) (by omega) (by rw [hq]; rfl) (by decide) (lc_seed h h64 hL hi hc hs k4)
  · exact y_tsIn (off := 886) (tgt := 918) dL_law_32 htr (by omega) (by omega) (by rw [hq]; rfl) (by decide) (lc_keep h h64 hL hi hc hs k4)
  · exact y_tsIn (off := 909) (tgt := 941) dL_law_32 htr (by omega) (by omega) (by rw [hq]; rfl) (by decide) (lc_goBack h h64 hL hi hc hs k4)
theorem lw_loop (hL : Lb ≤ 256) (hc : cu ≤ room_1.cells) (hs : su ≤ room_1.slots) : ∀ (k : Nat) (V : Nat → Int → Int) (b : Bool) (n i : Int), n + (k : Int) = 64 → i = 4 * n → RR V b n → zE room_1 (lwB bb Lb xs) mL_law 18 (LL bb i) [] cu su (mk S0 V (Fs b))
  | 0, V, b, n, i, hk, hin, h => lw_turn h hin hL hc hs (fun hle => absurd hle (by omega))
  | k + 1, V, b, n, i, hk, hin, h => lw_turn h hin hL hc hs (fun _ V' b' hr => lw_loop hL hc hs k V' b' (n + 1) (i + 4) (by omega) (by omega) hr)
theorem lw_begin (hL : Lb ≤ 256) : zE room_1 (lwB bb Lb xs) mL_law 0 [some (.retAddr bb), none, none, none] [] 0 0 (mk [] (fun _ _ => 0) (fun _ _ => none)) := by
  refine y_new (S := []) (n := 0) (N := 14) dL_law_0 nL_7 rfl rfl (fun _ _ => ⟨rfl, rfl⟩) (Nat.le_of_ble_eq_true rfl) (Nat.le_of_ble_eq_true rfl) ?_
  refine z_dup dL_law_3 rfl ?_
  refine z_callI (rest := [.ref 0]) (ct_X10_init (n := 1) (a := 0) (S := [Sum.inl 10]) (V := fun _ _ => 0) (F := fun _ _ => none) rfl rfl (fun _ _ => ⟨rfl, rfl⟩)) kL_9 dL_law_4 rfl rfl ⟨Nat.le_of_ble_eq_true rfl, Nat.le_of_ble_eq_true rfl⟩ (Nat.le_of_ble_eq_true rfl) (Nat.le_of_ble_eq_true rfl) (Nat.le_of_ble_eq_true rfl) (fun v M hv => ?_)
  obtain ⟨g1, g2, g3⟩ := hv
  rw [g1, g2]
  have hz : Zb 134 Vx Fx := g3
  refine z_astore_n (x := 0) (st := []) dL_law_7 (Nat.le_of_ble_eq_true rfl) rfl rfl ?_
  refine y_new (S := Sx) (V := Vx) (F := Fx) (n := 134) (N := 36) dL_law_8 nL_10 rfl Sx_len hz (Nat.le_of_ble_eq_true rfl) (Nat.le_of_ble_eq_true rfl) ?_
  refine z_dup dL_law_11 rfl ?_
  refine z_callI (rest := [.ref 134]) (ct_X11_init (Zb_u hz (by omega))) kL_12 dL_law_12 rfl rfl ⟨Nat.le_of_ble_eq_true rfl, Nat.le_of_ble_eq_true rfl⟩ (Nat.le_of_ble_eq_true rfl) (Nat.le_of_ble_eq_true rfl) (Nat.le_of_ble_eq_true rfl) (fun v M hv => ?_)
  obtain ⟨g4, g5⟩ := hv
  rw [g4, g5]
  refine z_astore_n (x := 134) (st := []) dL_law_15 (Nat.le_of_ble_eq_true rfl) rfl rfl ?_
  refine y_iconst dL_law_16 ?_
  refine z_istore_n (st := []) dL_law_17 (Nat.le_of_ble_eq_true rfl) rfl rfl ?_
  exact lw_loop hL (Nat.le_of_ble_eq_true rfl) (Nat.le_of_ble_eq_true rfl) 64 V00 false 0 0 (by omega) (by omega) RR_0
end
theorem lw_AO_in : Cond.arrayOver (.object "GrudgeYard$Stand") ∈ lw_tbl := List.mem_of_getElem? (i := 204) (by decide +kernel)
theorem lw_kn {s : State} {args : Array Value} (hg : ∀ w ∈ lw_good, w.before args s = true) {own : String} {index ci : Nat} (hcl : zCl own index ci) : ∃ (cC : ClassId) (iS : Nat → Nat), ∀ q : vw_C, classes[ci]? = some q → u_Kn s q.1 q.2.1 q.2.2 cC iS := by
  obtain ⟨C, T, N, ty, hc0, -, hin, -, -, -, w2, -⟩ := hcl
  obtain ⟨cC, iS, hk⟩ := u_known hg hin (hg _ w2)
  refine ⟨cC, iS, fun q hq => ?_⟩
  rw [hc0] at hq
  cases hq
  exact hk
theorem lw_kns {s : State} {args : Array Value} (hg : ∀ w ∈ lw_good, w.before args s = true) (ci : Nat) : ∃ (cC : ClassId) (iS : Nat → Nat), ∀ q : vw_C, classes[ci]? = some q → u_Kn s q.1 q.2.1 q.2.2 cC iS := by
  match ci with
  | 0 => exact lw_kn hg nX10_59
  | 1 => exact lw_kn hg nX10_40
  | 2 => exact lw_kn hg nX10_73
  | 3 => exact lw_kn hg nX10_30
  | 4 => exact lw_kn hg nX10_47
  | 5 => exact lw_kn hg nX10_23
  | 6 => exact lw_kn hg nX10_66
  | 7 => exact lw_kn hg nX10_7
  | 8 => exact lw_kn hg nX10_16
  | 9 => exact lw_kn hg nX10_80
  | 10 => exact lw_kn hg nL_7
  | 11 => exact lw_kn hg nL_10
  | ci + 12 =>
    refine ⟨(0 : Nat), fun _ => 0, fun q hq => ?_⟩
    have hno : classes[ci + 12]? = none := List.getElem?_eq_none (Nat.le_add_left 12 ci)
    rw [hno] at hq
    cases hq
theorem lw_zK {s : State} {args : Array Value} (hts : ∀ w ∈ lw_tbl, w.before args s = true) : ∃ (D : va_G) (cc : zCC), zK D cc s := by
  have hg : ∀ w ∈ lw_good, w.before args s = true := fun w hw => hts w (List.mem_filter.mp hw).1
  obtain ⟨cI, kI, pI₁, fI, hkI, hdI⟩ := Cond.arrayClass_spec (hg _ wArrI)
  obtain ⟨cZ, kZ, pZ₁, fZ, hkZ, hdZ⟩ := Cond.arrayClass_spec (hg _ wArrZ)
  obtain ⟨pS₁, cS, kS, fS, -, hkS, hdS, fS2⟩ := Cond.arrayOver_spec (hts _ lw_AO_in)
  refine ⟨(fun c => Classical.choose (lw_kns hg c), fun c => Classical.choose (Classical.choose_spec (lw_kns hg c))), (cI, cZ, cS), ⟨fun c q hq => Classical.choose_spec (Classical.choose_spec (lw_kns hg c)) q hq, fun k q hk => ?_⟩, fun w hw => va_Nw.of (isNest_on (lw_nest_is hw)) (hts w (List.mem_filter.mp hw).1), va_AO.of (hts _ lw_AO_in)⟩
  match k, hk with
  | 0, hk =>
    have hk : some (cI, FieldType.int) = some q := hk
    cases hk
    exact ⟨fun _ _ => ⟨fun _ hh => (by cases hh), kI, hkI, pI₁, hdI⟩, fI⟩
  | 1, hk =>
    have hk : some (cZ, FieldType.boolean) = some q := hk
    cases hk
    exact ⟨fun _ _ => ⟨fun _ hh => (by cases hh), kZ, hkZ, pZ₁, hdZ⟩, fZ⟩
  | 2, hk =>
    have hk : some (cS, FieldType.object "GrudgeYard$Stand") = some q := hk
    cases hk
    exact ⟨fun _ _ => ⟨fun _ hh => (by cases hh), kS, hkS, pS₁, hdS⟩, ⟨kS, pS₁, hkS, hdS, fS, fS2⟩⟩
  | k + 3, hk =>
    have hk : (none : Option (ClassId × FieldType)) = some q := hk
    cases hk
theorem whole_start {p : Program} {e : Env} {s : State} {m : MethodId} {below : List Frame} {meth : Method} {c : Code} (l : Launch) {b L : Nat} {xs : Nat → Int32} (hL : L ≤ 256) (C0 : lw_At p s m meth c b L xs) : W p l e room_1 s m #[Value.ref b] below meth c s.heap [] 0 0 (lw_Z below #[Value.ref b] s) (entryFrame m ([Value.ref b] : List Value).toArray 4) := by
  obtain ⟨hx, hb, hr, hml, hown, hts, hX, hbl, hlk, -⟩ := C0
  obtain ⟨D, cc, hK⟩ := lw_zK hts
  have hE : zE room_1 (lwB b L xs) mL_law 0 [some (.retAddr b), none, none, none] [] 0 0 (mk [] (fun _ _ => 0) (fun _ _ => none)) := lw_begin hL
  have hlen : (lg_sl [Value.ref b]).length ≤ 4 := by
    have hle := entL_len 0 [Value.retAddr b]
    have hle : (lg_sl [Value.ref b]).length = (entL [Value.retAddr b]).length := hle
    rw [hle]
    exact Nat.le_of_ble_eq_true rfl
  have hl := lv_entry [Value.ref b] (n := 4) hlen
  rw [lg_entry_eq]
  generalize (lg_sl [Value.ref b] ++ List.replicate (4 - (lg_sl [Value.ref b]).length) Slot.unset).toArray = ls at hl ⊢
  refine hE l s.heap.size D cc p e s m #[Value.ref b] below meth c s.heap [] ls ⟨hx, hb, hml, hr, hlk, hown, fun w hw => hts w (List.mem_filter.mp hw).1, fun hq => absurd hq (by decide)⟩ ⟨rfl, hX, hbl, rfl⟩ hK ⟨rfl, fun k q hq => ?_⟩ (Nat.le_refl _) va_S.rf ⟨⟨hl.1, hl.2.1, fun q hq => by cases hq⟩, fun i v hi => ?_⟩
  · have hq : (none : Option (Nat × va_E)) = some q := hq
    cases hq
  · match i, hi with
    | 0, hi =>
      have hi : some (some (Value.retAddr b)) = some (some v) := hi
      cases hi
      exact hl.2.2 (0, Value.ref b) List.mem_cons_self
    | 1, hi =>
      have hi : some (none : Option Value) = some (some v) := hi
      cases hi
    | 2, hi =>
      have hi : some (none : Option Value) = some (some v) := hi
      cases hi
    | 3, hi =>
      have hi : some (none : Option Value) = some (some v) := hi
      cases hi
    | i + 4, hi =>
      have hi : (none : Option (Option Value)) = some (some v) := hi
      cases hi

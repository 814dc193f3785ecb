/-! ===== calls ===== -/
/-- a method by its entry in the constant pool; kind 0 invokevirtual, 1 invokestatic, 2 a constructor -/
def zMl (own : String) (index : Nat) (Y : zMD) (n : Nat) (kind : Nat) : Prop :=
  Cond.code Y.1 Y.2.1 Y.2.2.1 Y.2.2.2 ∈ lw_good ∧ Cond.initialized Y.1.cls ∈ lw_good ∧ (Y.1.cls ≠ "java/lang/invoke/MethodHandle" ∧ Y.1.cls ≠ "java/lang/invoke/VarHandle") ∧ (parseMethodDescriptor Y.1.desc).map (fun d => d.parameters.length) = some n ∧
    (Cond.methodLink own index Y.1 ∈ lw_good ∨ ∃ host, Cond.methodLinkNest own index Y.1 host ∈ lw_nest) ∧
    (match kind with | 0 => Cond.instanceMethod Y.1 ∈ lw_good ∧ Cond.selects Y.1.cls Y.1 Y.1 ∈ lw_good | 1 => Cond.static Y.1 ∈ lw_good | _ => Cond.instanceMethod Y.1 ∈ lw_good ∧ Y.1.name = "<init>" ∧ Y.2.2.2 = none)
theorem zrm_hR {d mc ms : Nat} {R : Room} {maxL : Nat} (h : d + 1 ≤ R.frames ∧ 8 + (maxL + 11) + 40 * d ≤ R.locals) : (zrm d mc ms).frames + 1 ≤ R.frames ∧ 8 + (maxL + 11) + (zrm d mc ms).locals ≤ R.locals := h
section ZC
variable {p : Program} {l : Launch} {e : Env} {R : Room} {s : State} {m : MethodId} {args : Array Value} {below : List Frame} {meth : Method} {c : Code} {H : Heap} {locs : List Loc} {ls : Array Slot} {cu su mc ms pc : Nat} {Q : State → Prop} {z : Nat} {D : va_G} {cc : zCC} {Q' : Option Value → zMu → Prop} {a : Array Value} {st0 rest : List Value}
theorem z_run (hr : va_Run p l e R s m args below meth c H locs cu su mc ms (F0 m pc ls st0) (rest.map (sv z)) (zQx z D cc Q' a) (fun q => z ≤ q)) (hS : va_S (fun q => z ≤ q) s.heap H locs)
    (kk : ∀ (v : Option Value) (M' : zMu) (H1 : Heap) (locs1 : List Loc), Q' v M' → zIn z D cc M' H1 → va_S (fun q => z ≤ q) s.heap H1 locs1 → W p l e R s m args below meth c H1 locs1 (cu + mc) (su + ms) Q (F0 m (pc + 3) ls ((v.toList ++ rest).map (sv z)))) : W p l e R s m args below meth c H locs cu su Q (F0 m pc ls st0) := by
  intro T hT X
  obtain ⟨v, st₀, t, T', L, h0, X', hL, e1, e2, ⟨⟨v', M', hv, hq, hin⟩, hz, hk⟩, st⟩ := hr T hT X
  cases hv
  rw [h0] at hz hk
  obtain ⟨t2, a1, b1⟩ := kk v' M' T'.heap (locs ++ L) hq (by rw [e1]; exact hin)
    ⟨Nat.le_trans hS.1 (by rw [e1]; exact hz), fun q h1 h2 => by rw [e1, hk q (Nat.lt_of_lt_of_le h1 hS.1) h2]; exact hS.2.1 q h1 h2, fun q hq => by
      rcases List.mem_append.mp hq with h | h
      · exact hS.2.2 q h
      · exact hL q h⟩ T' rfl X'
  refine ⟨t2, st t2 ?_, b1⟩
  have e3 : (v'.map (sv z)).toList ++ rest.map (sv z) = (v'.toList ++ rest).map (sv z) := by cases v' <;> simp
  show Steps p.tables e below (T'.setTop (F0 m (pc + 3) ls ((v'.map (sv z)).toList ++ rest.map (sv z)))) t2
  rw [e3]
  exact a1
end ZC
section ZC2
variable {R : Room} {B : zBt} {Y : zMD} {pc pc' : Nat} {L : List (Option Value)} {st : List Value} {cu su : Nat} {M : zMu} {d mc ms : Nat} {Y' : zMD} {As : List Value} {rest : List Value} {Q' : Option Value → zMu → Prop} {index n : Nat}
theorem z_callV {a ci : Nat} {T : u_T} {N : Nat} (ct : zC d mc ms Y' (.ref a :: As) M Q') (ml : zMl Y.1.cls index Y' n 0) (hd : zN Y pc (.invokevirtual index) 3 pc') (hn : As.length = n) (hst : st = As.reverse ++ .ref a :: rest) (hcl : M.1[a]? = some (.inl ci)) (hC : classes[ci]? = some (Y'.1.cls, T, N))
    (hR : d + 1 ≤ R.frames ∧ 8 + (Y'.2.2.1 + 11) + 40 * d ≤ R.locals) (hw : (rest.map fun v => v.category).sum ≤ 8) (hc : cu + mc ≤ R.cells) (hs : su + ms ≤ R.slots)
    (kk : ∀ (v : Option Value) (M' : zMu), Q' v M' → zE R B Y pc' L (v.toList ++ rest) (cu + mc) (su + ms) M') : zE R B Y pc L st cu su M := by
  obtain ⟨hd, rfl⟩ := hd
  subst hst
  obtain ⟨w1, w2, w3, w4, w5, w6, w7⟩ := ml
  intro l z D cc p e s m args below meth c H locs ls hX hP hK hI hz hS hL
  have hts := hX.2.2.2.2.2.2.1
  have hrecv := va_recv hK.1 hI.2 hC (zwl_at (cc := cc) (z := z) hcl)
  have hcats : ((rest.map (sv z)).map fun v => v.category).sum ≤ 8 := by rw [sv_cats]; exact hw
  have hpv : PreV s H Y'.1.cls (z + a) (zPx z D cc (.ref a :: As) M) (As.map (sv z)) := ⟨zPx_blind, hrecv, fun U hU hW => ⟨rfl, by rw [hU]; exact hI, hK.warm hW⟩⟩
  have hstk : (List.map (sv z) (As.reverse ++ Value.ref a :: rest)) = (As.map (sv z)).reverse ++ Value.ref (z + a) :: rest.map (sv z) := by simp [sv]
  have hn' : (As.map (sv z)).length = n := by rw [List.length_map]; exact hn
  rcases w5 with w5 | ⟨host, w5⟩
  · have hrun := va_runV (cells := cu) (slots := su) (locs := locs) (e := e) (below := below) (meth := meth) (H := H) (rest := rest.map (sv z)) (g := F0 m pc ls (List.map (sv z) (As.reverse ++ Value.ref a :: rest))) ⟨hX.1, hX.2.1, hX.2.2.1, hX.2.2.2.2.2.1, hts⟩ (ct l z D cc) ⟨callB_of n hts (lw_good_in w1) rfl rfl rfl (hts _ w2) (hts _ w5) ⟨w3.1, w3.2, w4⟩ (zrm_hR hR), hts _ w6, hts _ w7⟩ hpv rfl hn' hL.1.1 hstk (lv_room hcats) hd ⟨hc, hs⟩
    exact z_run hrun hS fun v M' H1 locs1 hq hin hS1 => kk v M' hq l z D cc p e s m args below meth c H1 locs1 ls hX hP hK hin hz hS1 hL
  · have hrun := va_runVN (cells := cu) (slots := su) (locs := locs) (e := e) (below := below) (meth := meth) (H := H) (rest := rest.map (sv z)) (g := F0 m pc ls (List.map (sv z) (As.reverse ++ Value.ref a :: rest))) ⟨hX.1, hX.2.1, hX.2.2.1, hX.2.2.2.2.2.1, hts⟩ (ct l z D cc) ⟨va_cnB n hts (lw_good_in w1) rfl rfl rfl (hK.2.1 _ w5) (hts _ w2) ⟨w3.1, w3.2, w4⟩ (zrm_hR hR), hts _ w6, hts _ w7⟩ hpv rfl hn' hL.1.1 hstk (lv_room hcats) hd ⟨hc, hs⟩
    exact z_run hrun hS fun v M' H1 locs1 hq hin hS1 => kk v M' hq l z D cc p e s m args below meth c H1 locs1 ls hX hP hK hin hz hS1 hL
theorem z_callS (ct : zC d mc ms Y' As M Q') (ml : zMl Y.1.cls index Y' n 1) (hd : zN Y pc (.invokestatic index) 3 pc') (hn : As.length = n) (hst : st = As.reverse ++ rest)
    (hR : d + 1 ≤ R.frames ∧ 8 + (Y'.2.2.1 + 11) + 40 * d ≤ R.locals) (hw : (rest.map fun v => v.category).sum ≤ 8) (hc : cu + mc ≤ R.cells) (hs : su + ms ≤ R.slots)
    (kk : ∀ (v : Option Value) (M' : zMu), Q' v M' → zE R B Y pc' L (v.toList ++ rest) (cu + mc) (su + ms) M') : zE R B Y pc L st cu su M := by
  obtain ⟨hd, rfl⟩ := hd
  subst hst
  obtain ⟨w1, w2, w3, w4, w5, w6⟩ := ml
  intro l z D cc p e s m args below meth c H locs ls hX hP hK hI hz hS hL
  have hts := hX.2.2.2.2.2.2.1
  have hcats : ((rest.map (sv z)).map fun v => v.category).sum ≤ 8 := by rw [sv_cats]; exact hw
  have hpv : PreS s H (zPx z D cc As M) (As.map (sv z)) := ⟨zPx_blind, fun U hU hW => ⟨rfl, by rw [hU]; exact hI, hK.warm hW⟩⟩
  have hstk : (List.map (sv z) (As.reverse ++ rest)) = (As.map (sv z)).reverse ++ rest.map (sv z) := by simp
  have hn' : (As.map (sv z)).length = n := by rw [List.length_map]; exact hn
  rcases w5 with w5 | ⟨host, w5⟩
  · have hrun := va_runS (cells := cu) (slots := su) (locs := locs) (e := e) (below := below) (meth := meth) (H := H) (rest := rest.map (sv z)) (g := F0 m pc ls (List.map (sv z) (As.reverse ++ rest))) ⟨hX.1, hX.2.1, hX.2.2.1, hX.2.2.2.2.2.1, hts⟩ (ct l z D cc) ⟨callB_of n hts (lw_good_in w1) rfl rfl rfl (hts _ w2) (hts _ w5) ⟨w3.1, w3.2, w4⟩ (zrm_hR hR), hts _ w6⟩ hpv rfl hn' hL.1.1 hstk (lv_room hcats) hd ⟨hc, hs⟩
    exact z_run hrun hS fun v M' H1 locs1 hq hin hS1 => kk v M' hq l z D cc p e s m args below meth c H1 locs1 ls hX hP hK hin hz hS1 hL
  · have hrun := va_runSN (cells := cu) (slots := su) (locs := locs) (e := e) (below := below) (meth := meth) (H := H) (rest := rest.map (sv z)) (g := F0 m pc ls (List.map (sv z) (As.reverse ++ rest))) ⟨hX.1, hX.2.1, hX.2.2.1, hX.2.2.2.2.2.1, hts⟩ (ct l z D cc) ⟨va_cnB n hts (lw_good_in w1) rfl rfl rfl (hK.2.1 _ w5) (hts _ w2) ⟨w3.1, w3.2, w4⟩ (zrm_hR hR), hts _ w6, trivial⟩ hpv rfl hn' hL.1.1 hstk (lv_room hcats) hd ⟨hc, hs⟩
    exact z_run hrun hS fun v M' H1 locs1 hq hin hS1 => kk v M' hq l z D cc p e s m args below meth c H1 locs1 ls hX hP hK hin hz hS1 hL
theorem z_callI {a : Nat} (ct : zC d mc ms Y' (.ref a :: As) M Q') (ml : zMl Y.1.cls index Y' n 2) (hd : zN Y pc (.invokespecial index) 3 pc') (hn : As.length = n) (hst : st = As.reverse ++ .ref a :: rest)
    (hR : d + 1 ≤ R.frames ∧ 8 + (Y'.2.2.1 + 11) + 40 * d ≤ R.locals) (hw : (rest.map fun v => v.category).sum ≤ 8) (hc : cu + mc ≤ R.cells) (hs : su + ms ≤ R.slots)
    (kk : ∀ (v : Option Value) (M' : zMu), Q' v M' → zE R B Y pc' L (v.toList ++ rest) (cu + mc) (su + ms) M') : zE R B Y pc L st cu su M := by
  obtain ⟨hd, rfl⟩ := hd
  subst hst
  obtain ⟨Yn, Yb, Yl, Yr⟩ := Y'
  obtain ⟨w1, w2, w3, w4, w5, w6, w7, w8⟩ := ml
  cases w8
  intro l z D cc p e s m args below meth c H locs ls hX hP hK hI hz hS hL
  have hts := hX.2.2.2.2.2.2.1
  have hcats : ((rest.map (sv z)).map fun v => v.category).sum ≤ 8 := by rw [sv_cats]; exact hw
  have hpv : PreS s H (zPx z D cc (.ref a :: As) M) (.ref (z + a) :: As.map (sv z)) := ⟨zPx_blind, fun U hU hW => ⟨rfl, by rw [hU]; exact hI, hK.warm hW⟩⟩
  have hstk : (List.map (sv z) (As.reverse ++ Value.ref a :: rest)) = (As.map (sv z)).reverse ++ Value.ref (z + a) :: rest.map (sv z) := by simp [sv]
  have hn' : (As.map (sv z)).length = n := by rw [List.length_map]; exact hn
  rcases w5 with w5 | ⟨host, w5⟩
  · have hrun := va_runI (cells := cu) (slots := su) (locs := locs) (e := e) (below := below) (meth := meth) (H := H) (rest := rest.map (sv z)) (g := F0 m pc ls (List.map (sv z) (As.reverse ++ Value.ref a :: rest))) ⟨hX.1, hX.2.1, hX.2.2.1, hX.2.2.2.2.2.1, hts⟩ (ct l z D cc) ⟨callB_of n hts (lw_good_in w1) rfl rfl rfl (hts _ w2) (hts _ w5) ⟨w3.1, w3.2, w4⟩ (zrm_hR hR), w7, hts _ w6⟩ hpv rfl hn' hL.1.1 hstk (lv_room hcats) hd ⟨hc, hs⟩
    exact z_run hrun hS fun v M' H1 locs1 hq hin hS1 => kk v M' hq l z D cc p e s m args below meth c H1 locs1 ls hX hP hK hin hz hS1 hL
  · have hrun := va_runIN (cells := cu) (slots := su) (locs := locs) (e := e) (below := below) (meth := meth) (H := H) (rest := rest.map (sv z)) (g := F0 m pc ls (List.map (sv z) (As.reverse ++ Value.ref a :: rest))) ⟨hX.1, hX.2.1, hX.2.2.1, hX.2.2.2.2.2.1, hts⟩ (ct l z D cc) ⟨va_cnB n hts (lw_good_in w1) rfl rfl rfl (hK.2.1 _ w5) (hts _ w2) ⟨w3.1, w3.2, w4⟩ (zrm_hR hR), w7, hts _ w6⟩ hpv rfl hn' hL.1.1 hstk (lv_room hcats) hd ⟨hc, hs⟩
    exact z_run hrun hS fun v M' H1 locs1 hq hin hS1 => kk v M' hq l z D cc p e s m args below meth c H1 locs1 ls hX hP hK hin hz hS1 hL
/-! the library's own -/
theorem z_max {x y : Int32} (hd : zN Y pc (.invokestatic index) 3 pc') (w1 : Cond.methodLink Y.1.cls index Lib.Math.max.name ∈ lw_good) (w2 : Cond.static Lib.Math.max.name ∈ lw_good) (w3 : Cond.initialized "java/lang/Math" ∈ lw_good) (w4 : Cond.code Lib.Math.max.name Lib.Math.max.code 2 (some .int) ∈ lw_good)
    (hf : 1 ≤ R.frames) (hw : (rest.map fun v => v.category).sum + 13 ≤ R.locals) (hc : cu ≤ R.cells) (hs : su ≤ R.slots) (kk : zE R B Y pc' L (.int (if x < y then y else x) :: rest) cu su M) : zE R B Y pc L (.int y :: .int x :: rest) cu su M := by
  obtain ⟨hd, rfl⟩ := hd
  intro l z D cc p e s m args below meth c H locs ls hX hP hK hI hz hS hL
  have hts := hX.2.2.2.2.2.2.1
  exact va_mmax hX.1 hX.2.1 (hX.2.2.1.trans hL.1.1.symm) hX.2.2.2.2.2.1 (hts _ w1) (hts _ w2) (hts _ w3) (hts _ w4) hf (by rw [sv_cats]; exact hw) hc hs hd (kk l z D cc p e s m args below meth c H locs ls hX hP hK hI hz hS hL)
theorem z_min {x y : Int32} (hd : zN Y pc (.invokestatic index) 3 pc') (w1 : Cond.methodLink Y.1.cls index Lib.Math.min.name ∈ lw_good) (w2 : Cond.static Lib.Math.min.name ∈ lw_good) (w3 : Cond.initialized "java/lang/Math" ∈ lw_good) (w4 : Cond.code Lib.Math.min.name Lib.Math.min.code 2 (some .int) ∈ lw_good)
    (hf : 1 ≤ R.frames) (hw : (rest.map fun v => v.category).sum + 13 ≤ R.locals) (hc : cu ≤ R.cells) (hs : su ≤ R.slots) (kk : zE R B Y pc' L (.int (if y < x then y else x) :: rest) cu su M) : zE R B Y pc L (.int y :: .int x :: rest) cu su M := by
  obtain ⟨hd, rfl⟩ := hd
  intro l z D cc p e s m args below meth c H locs ls hX hP hK hI hz hS hL
  have hts := hX.2.2.2.2.2.2.1
  exact va_mmin hX.1 hX.2.1 (hX.2.2.1.trans hL.1.1.symm) hX.2.2.2.2.2.1 (hts _ w1) (hts _ w2) (hts _ w3) (hts _ w4) hf (by rw [sv_cats]; exact hw) hc hs hd (kk l z D cc p e s m args below meth c H locs ls hX hP hK hI hz hS hL)
theorem z_objI {a : Nat} (hd : zN Y pc (.invokespecial index) 3 pc') (w1 : Cond.methodLink Y.1.cls index Lib.objectInit ∈ lw_good) (w2 : Cond.instanceMethod Lib.objectInit ∈ lw_good) (w3 : Cond.code Lib.objectInit ⟨#[0xb1]⟩ 1 none ∈ lw_good)
    (hf : 1 ≤ R.frames) (hw : (rest.map fun v => v.category).sum + 12 ≤ R.locals) (kk : zE R B Y pc' L rest cu su M) : zE R B Y pc L (.ref a :: rest) cu su M := by
  obtain ⟨hd, rfl⟩ := hd
  intro l z D cc p e s m args below meth c H locs ls hX hP hK hI hz hS hL
  have hts := hX.2.2.2.2.2.2.1
  exact W.objInit hX.1 hX.2.1 hX.2.2.2.2.2.1 (hts _ w1) (hts _ w2) (hts _ w3) rfl (hL.1.1.trans hX.2.2.1.symm) rfl hd hf (by show 2 * 0 + _ + 12 ≤ _; rw [sv_cats]; omega) (kk l z D cc p e s m args below meth c H locs ls hX hP hK hI hz hS hL)
theorem z_wide {k n : Nat} (h1 : cu ≤ k) (h2 : su ≤ n) (kk : zE R B Y pc L st k n M) : zE R B Y pc L st cu su M := by
  intro l z D cc p e s m args below meth c H locs ls hX hP hK hI hz hS hL
  exact W.widen h1 h2 (kk l z D cc p e s m args below meth c H locs ls hX hP hK hI hz hS hL)
end ZC2
section ZC3
variable {R : Room} {B : zBt} {Y : zMD} {pc pc' : Nat} {L : List (Option Value)} {rest : List Value} {cu su index : Nat} {S : List zSh} {I : Nat → Nat → Int32} {J : Nat → Nat → Int64} {F : Nat → Nat → Option Nat}
/-- System.arraycopy of ints -/
theorem z_copy {a b na nb : Nat} {sp dp n : Int32} (hd : zN Y pc (.invokestatic index) 3 pc') (w1 : Cond.methodLink Y.1.cls index arraycopyName ∈ lw_good) (w2 : Cond.native arraycopyName ∈ lw_good) (w3 : Cond.static arraycopyName ∈ lw_good) (w4 : Cond.initialized "java/lang/System" ∈ lw_good)
    (ha : S[a]? = some (.inr (0, na))) (hb : S[b]? = some (.inr (0, nb))) (h1 : ¬ sp < 0) (h2 : ¬ dp < 0) (h3 : ¬ n < 0) (h4 : sp.toNatClampNeg + n.toNatClampNeg ≤ na) (h5 : dp.toNatClampNeg + n.toNatClampNeg ≤ nb)
    (hf : 1 ≤ R.frames) (hw : (rest.map fun v => v.category).sum + (nativeFrameWords "java/lang/System" "arraycopy" 5 + 11) ≤ R.locals)
    (kk : zE R B Y pc' L rest cu su (S, zup I b (va_cpy (I a) (I b) sp.toNatClampNeg dp.toNatClampNeg n.toNatClampNeg), J, F)) : zE R B Y pc L (.int n :: .int dp :: .ref b :: .int sp :: .ref a :: rest) cu su (S, I, J, F) := by
  obtain ⟨hd, rfl⟩ := hd
  intro l z D cc p e s m args below meth c H locs ls hX hP hK hI hz hS hL
  have hts := hX.2.2.2.2.2.2.1
  have hD := zwl_D (cc := cc) (z := z) (M := (S, I, J, F))
  have ha0 := zwl_i (cc := cc) (z := z) (I := I) (J := J) (F := F) ha
  have ha1 := zwl_i (cc := cc) (z := z) (I := I) (J := J) (F := F) hb
  have nn : ∀ z : Int32, ¬ z < 0 → z.toInt = (z.toNatClampNeg : Int) := by
    intro z hz
    have hz0 : (0 : Int) ≤ z.toInt := by
      have := Int32.not_lt.mp hz
      simpa using Int32.le_iff_toInt_le.mp this
    show z.toInt = ((z.toInt.toNat : Nat) : Int)
    omega
  intro T hT X
  have hc0 : H[z + a]? = some (vp_cell cc.1 (na, .inl (I a))) := hI.2 a _ ha0
  have hc1 : H[z + b]? = some (vp_cell cc.1 (nb, .inl (I b))) := hI.2 b _ ha1
  obtain ⟨-, k0, hk0, cm0, hkk0⟩ := (hK.1.2 0 _ rfl).1 na (fun j => .int (I a j))
  obtain ⟨-, k1, hk1, cm1, hkk1⟩ := (hK.1.2 0 _ rfl).1 nb (fun j => .int (I b j))
  obtain ⟨vm', X', step⟩ := X.arraycopy hX.1 hX.2.2.2.2.2.1 (hts _ w1) (hts _ w2) (hts _ w3) (hts _ w4) (src := z + a) (dst := z + b) (cs := vp_cell cc.1 (na, .inl (I a))) (cd := vp_cell cc.1 (nb, .inl (I b))) (srcPos := sp) (destPos := dp) (n := n) (by rw [hT]; exact hc0) (by rw [hT]; exact hc1)
    (fun _ h => by cases h) (fun _ h => by cases h) (fun h => by cases h) (fun h => by cases h) hk0 hk1 hkk0 hkk1 (by rfl) h1 h2 h3
    (by rw [nn sp h1, nn n h3]; show ¬ _ > ((arrV cc.1 na (fun j => .int (I a j))).slots.size : Int); rw [arrV_size]; omega)
    (by rw [nn dp h2, nn n h3]; show ¬ _ > ((arrV cc.1 nb (fun j => .int (I b j))).slots.size : Int); rw [arrV_size]; omega)
    (fun vm₁ _ i hi => by
      have e : (vp_cell cc.1 (na, .inl (I a))).slots.getD (sp.toNatClampNeg + i) .null = .int (I a (sp.toNatClampNeg + i)) := by
        show (arrV cc.1 na (fun j => .int (I a j))).slots.getD _ _ = _
        rw [Array.getD_eq_getD_getElem?, arrV_read _ _ (by omega)]
        rfl
      refine ⟨?_, ?_⟩
      · rw [e]
        rfl
      · rw [e]
        exact trivial)
    (g := F0 m pc ls (.int n :: .int dp :: .ref (z + b) :: .int sp :: .ref (z + a) :: rest.map (sv z))) rfl (hL.1.1.trans hX.2.2.1.symm) (rest := rest.map (sv z)) rfl (by rw [hX.2.1]; exact hd) hf (by show 2 * 0 + _ + _ ≤ _; rw [sv_cats]; omega)
  have e1 : copied (vp_cell cc.1 (na, .inl (I a))) (vp_cell cc.1 (nb, .inl (I b))) sp dp n = vp_cell cc.1 (nb, .inl (va_cpy (I a) (I b) sp.toNatClampNeg dp.toNatClampNeg n.toNatClampNeg)) := va_copied (fun z => .int z) cc.1 cc.1 (I a) (I b) h4
  rw [e1] at X' step
  have hl : z + b < H.size := (Array.getElem?_eq_some_iff.mp hc1).1
  have hheap : ((T.setVm vm').setCell (z + b) (vp_cell cc.1 (nb, .inl (va_cpy (I a) (I b) sp.toNatClampNeg dp.toNatClampNeg n.toNatClampNeg)))).heap = H.setIfInBounds (z + b) (vp_cell cc.1 (nb, .inl (va_cpy (I a) (I b) sp.toNatClampNeg dp.toNatClampNeg n.toNatClampNeg))) := by rw [← hT]; rfl
  have oq : ∀ q : Nat, q ≠ z + b → (H.setIfInBounds (z + b) (vp_cell cc.1 (nb, .inl (va_cpy (I a) (I b) sp.toNatClampNeg dp.toNatClampNeg n.toNatClampNeg))))[q]? = H[q]? := fun q hq => by simp [Array.getElem?_setIfInBounds, Ne.symm hq]
  have hP1 := hI.2.set hD ha1 (e := .inl (cc.1, nb, .inl (va_cpy (I a) (I b) sp.toNatClampNeg dp.toNatClampNeg n.toNatClampNeg))) (show (H.setIfInBounds (z + b) (vp_cell cc.1 (nb, .inl (va_cpy (I a) (I b) sp.toNatClampNeg dp.toNatClampNeg n.toNatClampNeg))))[z + b]? = some _ by simp [Array.getElem?_setIfInBounds, hl]) oq
  have hI' : zIn z D cc (S, zup I b (va_cpy (I a) (I b) sp.toNatClampNeg dp.toNatClampNeg n.toNatClampNeg), J, F) (H.setIfInBounds (z + b) (vp_cell cc.1 (nb, .inl (va_cpy (I a) (I b) sp.toNatClampNeg dp.toNatClampNeg n.toNatClampNeg)))) := hI.put rfl hb (by simp only [zce, zup_s]) (fun x hx => ⟨zup_n _ _ hx, rfl, rfl⟩) (by simp) hP1
  obtain ⟨t, a1, b1⟩ := kk l z D cc p e s m args below meth c _ _ ls hX hP hK hI' hz ⟨by simp; exact hS.1, fun q g1 g2 => by
      rw [oq q (fun e => g2 (by rw [e]; exact Nat.le_add_right z b))]
      exact hS.2.1 q g1 g2, fun q hq => by
      rcases List.mem_append.mp hq with h | h
      · exact hS.2.2 q h
      · obtain ⟨w, -, hw⟩ := List.mem_map.mp h
        rw [← hw]
        exact Nat.le_add_right z b⟩ hL _ hheap X'
  exact ⟨t, step t a1, b1⟩
end ZC3

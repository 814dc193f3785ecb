/-! ===== memory rows ===== -/
def zup {α : Type} (I : Nat → α) (k : Nat) (f : α) : Nat → α := fun a => if a = k then f else I a
theorem zup_s {α : Type} (I : Nat → α) (k : Nat) (f : α) : zup I k f k = f := by simp [zup]
theorem zup_n {α : Type} (I : Nat → α) {k a : Nat} (f : α) (h : a ≠ k) : zup I k f a = I a := by simp [zup, h]
def zupL (f : Nat → Int64) (k : Nat) (x : Int64) : Nat → Int64 := fun j => if j = k then x else f j
/-- a field by its entry in the constant pool: its class, its place there, its kind -/
def zFl (own : String) (index ci k t : Nat) (fin : Bool) (fty : FieldType) : Prop :=
  ∃ (C : String) (T : u_T) (N : Nat) (ty : Nat → FieldType), classes[ci]? = some (C, T, N) ∧ k < N ∧ (tcl.getD ci [])[k]? = some t ∧ (tcl.getD ci []).length = N ∧ (∀ w ∈ u_ws C T N, w ∈ lw_good) ∧ (∀ k, k < N → parseFieldDescriptor (T k).2.2.1 = some (ty k)) ∧
    (∀ a, a < N → ∀ b, b < N → a ≠ b → (T a).2.1 ≠ (T b).2.1) ∧ (T k).1 = C ∧ (T k).2.2.2 = fin ∧ ty k = fty ∧ (Cond.fieldLink own index C (T k).2.1 (T k).2.2.1 ∈ lw_good ∨ ∃ host, Cond.fieldLinkNest own index C (T k).2.1 (T k).2.2.1 host ∈ lw_nest)
theorem zfs_at {z : Nat} {M : zMu} {a ci k t : Nat} (h : (tcl.getD ci [])[k]? = some t) : (zfs z M a ci)[k]? = some (zfv z M a k t) := by
  rw [zfs, List.getElem?_mapIdx, h]
  rfl
theorem zfs_set {z : Nat} {M M' : zMu} {a ci k t : Nat} (h : (tcl.getD ci [])[k]? = some t) (ho : ∀ j u, j ≠ k → zfv z M' a j u = zfv z M a j u) : (zfs z M a ci).set k (zfv z M' a k t) = zfs z M' a ci := by
  have hl : k < (zfs z M a ci).length := by
    have := (List.getElem?_eq_some_iff.mp h).1
    simpa [zfs] using this
  apply List.ext_getElem?
  intro i
  by_cases hi : i = k
  · subst hi
    rw [List.getElem?_set_self hl, zfs_at h]
  · rw [List.getElem?_set_ne (Ne.symm hi)]
    simp only [zfs, List.getElem?_mapIdx]
    cases (tcl.getD ci [])[i]? with
    | none => rfl
    | some u => simp [ho i u hi]
theorem getD_at_ (g : List Nat) (j : Nat) (h : j < g.length) : g.getD j 0 = g[j] := by simp [List.getD_eq_getElem?_getD, List.getElem?_eq_getElem h]
section ZM
variable {R : Room} {B : zBt} {Y : zMD} {pc pc' : Nat} {L : List (Option Value)} {st : List Value} {cu su : Nat} {S : List zSh} {I : Nat → Nat → Int32} {J : Nat → Nat → Int64} {F : Nat → Nat → Option Nat}
theorem z_get {a ci k t index : Nat} {fin : Bool} {fty : FieldType} {M : zMu} {v : Value} (f : zFl Y.1.cls index ci k t fin fty) (hd : zN Y pc (.getfield index) 3 pc') (hs : M.1[a]? = some (.inl ci)) (hv : ∀ z, zfv z M a k t = sv z v) (kk : zE R B Y pc' L (v :: st) cu su M) : zE R B Y pc L (.ref a :: st) cu su M := by
  obtain ⟨hd, rfl⟩ := hd
  obtain ⟨C, T, N, ty, hc, hk, ht, hlen, hin, hty, hnm, hT, -, -, hl⟩ := f
  intro l z D cc p e s m args below meth c H locs ls hX hP hK hI hz hS hL
  have h1 : (zfs z M a ci)[k]? = some (sv z v) := by rw [zfs_at ht, hv]
  rcases hl with hl | ⟨host, hl⟩
  · exact va_get hX.1 hX.2.1 hX.2.2.2.2.2.2.1 hin hX.2.2.2.2.2.1 hK.1 hI.2 a (zwl_at hs) hc k hk (hX.2.2.2.2.2.2.1 _ hl) (fun x hx => by rw [hT] at hx; exact hx) h1 hd (kk l z D cc p e s m args below meth c H locs ls hX hP hK hI hz hS hL)
  · exact va_getN hX.1 hX.2.1 hX.2.2.2.2.2.2.1 hin hX.2.2.2.2.2.1 hK.1 hI.2 a (zwl_at hs) hc k hk (va_Nw.use (isNest_on (lw_nest_is hl)) (hK.2.1 _ hl)) (fun x hx => by rw [hT] at hx; exact hx) h1 hd (kk l z D cc p e s m args below meth c H locs ls hX hP hK hI hz hS hL)
theorem z_getI {a ci k index : Nat} {fin : Bool} {fty : FieldType} (f : zFl Y.1.cls index ci k 0 fin fty) (hd : zN Y pc (.getfield index) 3 pc') (hs : S[a]? = some (.inl ci)) (kk : zE R B Y pc' L (.int (I a k) :: st) cu su (S, I, J, F)) : zE R B Y pc L (.ref a :: st) cu su (S, I, J, F) :=
  z_get f hd hs (fun _ => rfl) kk
theorem z_getJ {a ci k index : Nat} {fin : Bool} {fty : FieldType} (f : zFl Y.1.cls index ci k 1 fin fty) (hd : zN Y pc (.getfield index) 3 pc') (hs : S[a]? = some (.inl ci)) (kk : zE R B Y pc' L (.long (J a k) :: st) cu su (S, I, J, F)) : zE R B Y pc L (.ref a :: st) cu su (S, I, J, F) :=
  z_get f hd hs (fun _ => rfl) kk
theorem z_getR {a ci k b index : Nat} {fin : Bool} {fty : FieldType} (f : zFl Y.1.cls index ci k 2 fin fty) (hd : zN Y pc (.getfield index) 3 pc') (hs : S[a]? = some (.inl ci)) (hb : F a k = some b) (kk : zE R B Y pc' L (.ref b :: st) cu su (S, I, J, F)) : zE R B Y pc L (.ref a :: st) cu su (S, I, J, F) :=
  z_get f hd hs (fun z => by show va_rf ((F a k).map _) = _; rw [hb]; rfl) kk
theorem zIn.put {z : Nat} {D : va_G} {cc : zCC} {M M' : zMu} {H H1 : Heap} {k : Nat} {sh : zSh} {e : va_E} (hI : zIn z D cc M H) (hs : M'.1 = M.1) (hk : M.1[k]? = some sh) (he : zce cc z M' k sh = e) (ho : ∀ a, a ≠ k → M'.2.1 a = M.2.1 a ∧ M'.2.2.1 a = M.2.2.1 a ∧ M'.2.2.2 a = M.2.2.2 a)
    (hz : H1.size = H.size) (h : va_P D classes ((zwl cc z M).set k (z + k, e)) H1) : zIn z D cc M' H1 := by
  rw [zwl_set hs hk he ho] at h
  exact ⟨by rw [hz, hs]; exact hI.1, h⟩
theorem z_put {a ci k t index : Nat} {fin : Bool} {fty : FieldType} {M M' : zMu} {v : Value} (f : zFl Y.1.cls index ci k t fin fty) (hfin : fin = false ∨ (Y.1.name = "<init>" ∧ ∀ q, classes[ci]? = some q → q.1 = Y.1.cls ∧ Cond.fieldLink Y.1.cls index q.1 (q.2.1 k).2.1 (q.2.1 k).2.2.1 ∈ lw_good)) (hd : zN Y pc (.putfield index) 3 pc') (hs : M.1[a]? = some (.inl ci)) (hn : ∀ z, narrow fty (sv z v) = sv z v) (hf : ∀ z, fits fty (sv z v) = true)
    (hm : M'.1 = M.1) (hv : ∀ z, zfv z M' a k t = sv z v) (ho : ∀ z j u, j ≠ k → zfv z M' a j u = zfv z M a j u) (ho2 : ∀ b, b ≠ a → M'.2.1 b = M.2.1 b ∧ M'.2.2.1 b = M.2.2.1 b ∧ M'.2.2.2 b = M.2.2.2 b)
    (kk : zE R B Y pc' L st cu su M') : zE R B Y pc L (v :: .ref a :: st) cu su M := by
  obtain ⟨hd, rfl⟩ := hd
  obtain ⟨C, T, N, ty, hc, hk, ht, hlen, hin, hty, hnm, hT, hTf, hft, hl⟩ := f
  intro l z D cc p e s m args below meth c H locs ls hX hP hK hI hz hS hL
  have hts := hX.2.2.2.2.2.2.1
  have hown := hX.2.2.2.2.2.1
  have hset : (zfs z M a ci).set k (sv z v) = zfs z M' a ci := by rw [← hv z]; exact zfs_set ht (ho z)
  have hlen2 : k < (zfs z M a ci).length := by rw [zfs, List.length_mapIdx, hlen]; exact hk
  have hD := zwl_D (cc := cc) (z := z) (M := M)
  have he := zwl_at (cc := cc) (z := z) hs
  have hap := va_apart (own := Y.1.cls) hts hin ty hty hnm hK.1 hc
  obtain ⟨r, h1, cell, q1, q2, q3, q4⟩ := hI.2 a _ he
  have hr : r = (C, T, N) := Option.some.inj (h1.symm.trans hc)
  subst hr
  obtain ⟨hSl, hfc, kC, hkC, hkind⟩ := hK.1.1 ci _ hc
  obtain ⟨cf, kf, fi, fl, hi, hsl⟩ := hSl k hk
  have hst := (u_facts hfc hkC (u_lays hts hin hk) hi).1
  have hdty : parseFieldDescriptor (T k).2.2.1 = some fty := by rw [← hft]; exact hty k hk
  have hsame : s.fieldFound? C (T k).2.1 (T k).2.2.1 = some (cf, kf, fi, fl) := by
    have hi' := hi
    rw [hT] at hi'
    exact hi'
  have fin2 : ∀ H' : Heap, H'[z + a]? = some (cell.setSlot fl.slot (sv z v)) → H'.size = H.size → (∀ q, q ≠ z + a → H'[q]? = H[q]?) → W p l e R s m args below meth c H' (locs ++ [⟨z + a, fl.slot⟩]) cu su (B.2 z D cc below args s) (F0 m (pc + 3) ls (st.map (sv z))) := by
    intro H' e1 e2 e3
    rw [hsl] at e1 ⊢
    have hP1 : va_P D classes ((zwl cc z M).set a (z + a, .inr (ci, (zfs z M a ci).set k (sv z v)))) H' := hI.2.set hD he ⟨_, hc, t_OB.to (V := updV (vp_V (zfs z M a ci)) k (sv z v)) ⟨_, e1, q2, q3, t_set q4 hap hk (sv z v)⟩ (fun j _ => vp_updV_set hlen2 (sv z v) j)⟩ e3
    have hI' : zIn z D cc M' H' := hI.put hm hs (congrArg (fun x => (Sum.inr (ci, x) : va_E)) hset.symm) ho2 e2 hP1
    exact kk l z D cc p e s m args below meth c H' _ ls hX hP hK hI' hz (hS.put e2 e3 (Nat.le_add_right z a)) hL
  rcases hfin with hfin | ⟨hin1, hin2⟩
  · have hlay := hts _ (hin _ (u_in_lay hk))
    unfold u_lay at hlay
    rw [if_neg (by rw [hTf, hfin]; decide)] at hlay
    have h6 := u_store hfc hkC hkind hlay hi hdty (hn z) (hf z)
    rcases hl with hl | ⟨host, hl⟩
    · exact W.putK hX.1 hX.2.1 (f := fl) ⟨hown, hts _ hl, ⟨_, _, _, hsame⟩, hst⟩ (by rw [q2]; exact h6) q1 q3 (by rw [hsl]; exact k2_hasslot (q4 k hk)) rfl rfl hd fin2
    · exact va_WputK hX.1 hX.2.1 (f := fl) hown (va_Nw.use (isNest_on (lw_nest_is hl)) (hK.2.1 _ hl)) hsame hst (by rw [q2]; exact h6) q1 q3 (by rw [hsl]; exact k2_hasslot (q4 k hk)) rfl rfl hd fin2
  · by_cases hfb : fin = true
    · have hlay := hts _ (hin _ (u_in_lay hk))
      unfold u_lay at hlay
      rw [if_pos (by rw [hTf, hfb])] at hlay
      have hcf : m.cls = cf := by
        obtain ⟨_, _, c', _, _, _, -, -, hf', -, -, -, hown2, -⟩ := Cond.laysFinal_spec hlay
        have e1 : c' = cf := by have := hi.symm.trans hf'; simp at this; exact this.1.symm
        rw [hT, show C = Y.1.cls from (hin2 _ hc).1] at hown2
        rw [← e1]; exact Option.some.inj (hown.symm.trans hown2)
      have h6 := u_fits hfc hkC hkind (Or.inr hlay) hi hdty (hn z) (hf z)
      exact W.putFinK hX.1 hX.2.1 hown (hts _ (hin2 _ hc).2) hsame hst hcf (hX.2.2.2.2.2.2.2 hin1) (by rw [q2]; exact h6) q1 q3 (by rw [hsl]; exact k2_hasslot (q4 k hk)) rfl rfl hd fin2
    · have hlay := hts _ (hin _ (u_in_lay hk))
      have hfb' : fin = false := by cases fin <;> simp_all
      unfold u_lay at hlay
      rw [if_neg (by rw [hTf, hfb']; decide)] at hlay
      have h6 := u_store hfc hkC hkind hlay hi hdty (hn z) (hf z)
      rcases hl with hl | ⟨host, hl⟩
      · exact W.putK hX.1 hX.2.1 (f := fl) ⟨hown, hts _ hl, ⟨_, _, _, hsame⟩, hst⟩ (by rw [q2]; exact h6) q1 q3 (by rw [hsl]; exact k2_hasslot (q4 k hk)) rfl rfl hd fin2
      · exact va_WputK hX.1 hX.2.1 (f := fl) hown (va_Nw.use (isNest_on (lw_nest_is hl)) (hK.2.1 _ hl)) hsame hst (by rw [q2]; exact h6) q1 q3 (by rw [hsl]; exact k2_hasslot (q4 k hk)) rfl rfl hd fin2
/-- an int field is written -/
theorem z_putI {a ci k index : Nat} {x : Int32} (f : zFl Y.1.cls index ci k 0 false .int) (hd : zN Y pc (.putfield index) 3 pc') (hs : S[a]? = some (.inl ci)) (kk : zE R B Y pc' L st cu su (S, zup I a (upd (I a) k x), J, F)) : zE R B Y pc L (.int x :: .ref a :: st) cu su (S, I, J, F) := by
  refine z_put (M' := (S, zup I a (upd (I a) k x), J, F)) f (Or.inl rfl) hd hs (fun _ => rfl) (fun _ => rfl) rfl (fun z => ?_) (fun z j u hj => ?_) (fun b hb => ⟨zup_n _ _ hb, rfl, rfl⟩) kk
  · show Value.int (zup I a (upd (I a) k x) a k) = _
    rw [zup_s]
    simp [upd, sv]
  · unfold zfv
    simp only [zup_s]
    simp [upd, hj]
theorem z_putZ {a ci k index : Nat} {x : Int32} (f : zFl Y.1.cls index ci k 0 false .boolean) (hd : zN Y pc (.putfield index) 3 pc') (hs : S[a]? = some (.inl ci)) (hn : narrow .boolean (.int x) = .int x) (hf : fits .boolean (.int x) = true) (kk : zE R B Y pc' L st cu su (S, zup I a (upd (I a) k x), J, F)) : zE R B Y pc L (.int x :: .ref a :: st) cu su (S, I, J, F) := by
  refine z_put (M' := (S, zup I a (upd (I a) k x), J, F)) f (Or.inl rfl) hd hs (fun _ => hn) (fun _ => hf) rfl (fun z => ?_) (fun z j u hj => ?_) (fun b hb => ⟨zup_n _ _ hb, rfl, rfl⟩) kk
  · show Value.int (zup I a (upd (I a) k x) a k) = _
    rw [zup_s]
    simp [upd, sv]
  · unfold zfv
    simp only [zup_s]
    simp [upd, hj]
theorem z_putJ {a ci k index : Nat} {x : Int64} (f : zFl Y.1.cls index ci k 1 false .long) (hd : zN Y pc (.putfield index) 3 pc') (hs : S[a]? = some (.inl ci)) (kk : zE R B Y pc' L st cu su (S, I, zup J a (zupL (J a) k x), F)) : zE R B Y pc L (.long x :: .ref a :: st) cu su (S, I, J, F) := by
  refine z_put (M' := (S, I, zup J a (zupL (J a) k x), F)) f (Or.inl rfl) hd hs (fun _ => rfl) (fun _ => rfl) rfl (fun z => ?_) (fun z j u hj => ?_) (fun b hb => ⟨rfl, zup_n _ _ hb, rfl⟩) kk
  · show Value.long (zup J a (zupL (J a) k x) a k) = _
    rw [zup_s]
    simp [zupL, sv]
  · unfold zfv
    simp only [zup_s]
    simp [zupL, hj]
/-- a reference field is written -/
theorem z_putR {a b ci k index : Nat} {fty : FieldType} (f : zFl Y.1.cls index ci k 2 false fty) (hd : zN Y pc (.putfield index) 3 pc') (hs : S[a]? = some (.inl ci)) (hn : ∀ q, narrow fty (.ref q) = .ref q) (hf : ∀ q, fits fty (.ref q) = true) (kk : zE R B Y pc' L st cu su (S, I, J, zup F a (va_up (F a) k (some b)))) : zE R B Y pc L (.ref b :: .ref a :: st) cu su (S, I, J, F) := by
  refine z_put (M' := (S, I, J, zup F a (va_up (F a) k (some b)))) f (Or.inl rfl) hd hs (fun z => hn _) (fun z => hf _) rfl (fun z => ?_) (fun z j u hj => ?_) (fun b hb => ⟨rfl, rfl, zup_n _ _ hb⟩) kk
  · show va_rf ((zup F a (va_up (F a) k (some b)) a k).map _) = _
    rw [zup_s]
    simp [va_up, sv, va_rf]
  · unfold zfv
    simp only [zup_s]
    simp [va_up, hj]
/-- a final reference field is written, in the constructor -/
theorem z_putRF {a b ci k index : Nat} {fty : FieldType} (f : zFl Y.1.cls index ci k 2 true fty) (hin : Y.1.name = "<init>" ∧ ∀ q, classes[ci]? = some q → q.1 = Y.1.cls ∧ Cond.fieldLink Y.1.cls index q.1 (q.2.1 k).2.1 (q.2.1 k).2.2.1 ∈ lw_good) (hd : zN Y pc (.putfield index) 3 pc') (hs : S[a]? = some (.inl ci)) (hn : ∀ q, narrow fty (.ref q) = .ref q) (hf : ∀ q, fits fty (.ref q) = true) (kk : zE R B Y pc' L st cu su (S, I, J, zup F a (va_up (F a) k (some b)))) : zE R B Y pc L (.ref b :: .ref a :: st) cu su (S, I, J, F) := by
  refine z_put (M' := (S, I, J, zup F a (va_up (F a) k (some b)))) f (Or.inr hin) hd hs (fun z => hn _) (fun z => hf _) rfl (fun z => ?_) (fun z j u hj => ?_) (fun b hb => ⟨rfl, rfl, zup_n _ _ hb⟩) kk
  · show va_rf ((zup F a (va_up (F a) k (some b)) a k).map _) = _
    rw [zup_s]
    simp [va_up, sv, va_rf]
  · unfold zfv
    simp only [zup_s]
    simp [va_up, hj]
/-! arrays -/
theorem zwl_i {cc : zCC} {z a n : Nat} (hs : S[a]? = some (.inr (0, n))) : (zwl cc z (S, I, J, F))[a]? = some (z + a, .inl (cc.1, n, .inl (I a))) := zwl_at (M := (S, I, J, F)) hs
theorem zwl_z {cc : zCC} {z a n : Nat} (hs : S[a]? = some (.inr (1, n))) : (zwl cc z (S, I, J, F))[a]? = some (z + a, .inl (cc.2.1, n, .inl (I a))) := zwl_at (M := (S, I, J, F)) hs
theorem zwl_q {cc : zCC} {z a n t : Nat} (hs : S[a]? = some (.inr (t + 2, n))) : (zwl cc z (S, I, J, F))[a]? = some (z + a, .inl (cc.2.2, n, .inr (.inr (.inr (.inr (fun j => (F a j).map (fun q => z + q))))))) := zwl_at (M := (S, I, J, F)) hs
theorem z_iald {a n : Nat} {i : Int32} (hd : zN Y pc .iaload 1 pc') (hs : S[a]? = some (.inr (0, n))) (hi : vp_in i n) (kk : zE R B Y pc' L (.int (I a i.toNatClampNeg) :: st) cu su (S, I, J, F)) : zE R B Y pc L (.int i :: .ref a :: st) cu su (S, I, J, F) := by
  obtain ⟨hd, rfl⟩ := hd
  intro l z D cc p e s m args below meth c H locs ls hX hP hK hI hz hS hL
  exact va_iald hX.1 hX.2.1 hK.1 hI.2 a 0 (zwl_i hs) rfl hi hd (kk l z D cc p e s m args below meth c H locs ls hX hP hK hI hz hS hL)
theorem z_zald {a n : Nat} {i : Int32} (hd : zN Y pc .baload 1 pc') (hs : S[a]? = some (.inr (1, n))) (hi : vp_in i n) (kk : zE R B Y pc' L (.int (I a i.toNatClampNeg) :: st) cu su (S, I, J, F)) : zE R B Y pc L (.int i :: .ref a :: st) cu su (S, I, J, F) := by
  obtain ⟨hd, rfl⟩ := hd
  intro l z D cc p e s m args below meth c H locs ls hX hP hK hI hz hS hL
  exact va_zald hX.1 hX.2.1 hK.1 hI.2 a 1 (zwl_z hs) rfl hi hd (kk l z D cc p e s m args below meth c H locs ls hX hP hK hI hz hS hL)
theorem z_aald {a n b : Nat} {i : Int32} (hd : zN Y pc .aaload 1 pc') (hs : S[a]? = some (.inr (2, n))) (hi : vp_in i n) (hb : F a i.toNatClampNeg = some b) (kk : zE R B Y pc' L (.ref b :: st) cu su (S, I, J, F)) : zE R B Y pc L (.int i :: .ref a :: st) cu su (S, I, J, F) := by
  obtain ⟨hd, rfl⟩ := hd
  intro l z D cc p e s m args below meth c H locs ls hX hP hK hI hz hS hL
  refine va_aldq hX.1 hX.2.1 hK.1 hI.2 a 2 (zwl_q (t := 0) hs) rfl hi hd ?_
  have := kk l z D cc p e s m args below meth c H locs ls hX hP hK hI hz hS hL
  rw [hb]
  exact this
theorem z_alen {a t n : Nat} {v : Int32} (hd : zN Y pc .arraylength 1 pc') (hs : S[a]? = some (.inr (t, n))) (hv : Int32.ofNat n = v) (kk : zE R B Y pc' L (.int v :: st) cu su (S, I, J, F)) : zE R B Y pc L (.ref a :: st) cu su (S, I, J, F) := by
  obtain ⟨hd, rfl⟩ := hd
  intro l z D cc p e s m args below meth c H locs ls hX hP hK hI hz hS hL
  have k2 := kk l z D cc p e s m args below meth c H locs ls hX hP hK hI hz hS hL
  match t, hs with
  | 0, hs => exact va_alen hX.1 hX.2.1 hK.1 hI.2 a 0 (zwl_i hs) rfl hv hd k2
  | 1, hs => exact va_alen hX.1 hX.2.1 hK.1 hI.2 a 1 (zwl_z hs) rfl hv hd k2
  | t + 2, hs => exact va_alen hX.1 hX.2.1 hK.1 hI.2 a 2 (zwl_q hs) rfl hv hd k2
theorem z_iast {a n : Nat} {i x : Int32} (hd : zN Y pc .iastore 1 pc') (hs : S[a]? = some (.inr (0, n))) (hi : vp_in i n) (kk : zE R B Y pc' L st cu su (S, zup I a (upd (I a) i.toNatClampNeg x), J, F)) : zE R B Y pc L (.int x :: .int i :: .ref a :: st) cu su (S, I, J, F) := by
  obtain ⟨hd, rfl⟩ := hd
  intro l z D cc p e s m args below meth c H locs ls hX hP hK hI hz hS hL
  have ha := zwl_i (cc := cc) (z := z) (I := I) (J := J) (F := F) hs
  have hD := zwl_D (cc := cc) (z := z) (M := (S, I, J, F))
  refine W.iast hX.1 hX.2.1 (hI.2 a _ ha) ((hK.1.2 0 _ rfl).1 n (fun j => .int (I a j))) (fun q => by cases q) (by show ¬ (i < 0 ∨ (arrV _ _ _).slots.size ≤ _); rw [arrV_size]; exact hi) rfl rfl hd fun H1 e0 z0 oq => ?_
  have hP1 : va_P D classes ((zwl cc z (S, I, J, F)).set a (z + a, .inl (cc.1, n, .inl (upd (I a) i.toNatClampNeg x)))) H1 := by
    refine hI.2.set hD ha ?_ oq
    show H1[z + a]? = some (vp_cell _ _)
    rw [e0]
    show some (Cell.setSlot (vp_cell cc.1 (n, .inl (I a))) _ _) = _
    rw [vp_cell_i, vp_cell_i, arrV_store]
    congr 2
    funext q
    by_cases hq : q = i.toNatClampNeg
    · subst hq
      simp [updV, upd]
    · simp [updV, upd, hq]
  have hI' : zIn z D cc (S, zup I a (upd (I a) i.toNatClampNeg x), J, F) H1 := hI.put rfl hs (by simp only [zce, zup_s]) (fun b hb => ⟨zup_n _ _ hb, rfl, rfl⟩) z0 hP1
  exact kk l z D cc p e s m args below meth c H1 _ ls hX hP hK hI' hz (hS.put z0 oq (Nat.le_add_right z a)) hL
theorem z_zast {a n : Nat} {i x : Int32} (hd : zN Y pc .bastore 1 pc') (hs : S[a]? = some (.inr (1, n))) (hi : vp_in i n) (kk : zE R B Y pc' L st cu su (S, zup I a (upd (I a) i.toNatClampNeg (vp_nar .boolean x)), J, F)) : zE R B Y pc L (.int x :: .int i :: .ref a :: st) cu su (S, I, J, F) := by
  obtain ⟨hd, rfl⟩ := hd
  intro l z D cc p e s m args below meth c H locs ls hX hP hK hI hz hS hL
  have ha := zwl_z (cc := cc) (z := z) (I := I) (J := J) (F := F) hs
  have hD := zwl_D (cc := cc) (z := z) (M := (S, I, J, F))
  refine W.zast hX.1 hX.2.1 (hI.2 a _ ha) ((hK.1.2 1 _ rfl).1 n (fun j => .int (I a j))) (fun q => by cases q) (by show ¬ (i < 0 ∨ (arrV _ _ _).slots.size ≤ _); rw [arrV_size]; exact hi) rfl rfl hd fun H1 e0 z0 oq => ?_
  have hP1 : va_P D classes ((zwl cc z (S, I, J, F)).set a (z + a, .inl (cc.2.1, n, .inl (upd (I a) i.toNatClampNeg (vp_nar .boolean x))))) H1 := by
    refine hI.2.set hD ha ?_ oq
    show H1[z + a]? = some (vp_cell _ _)
    rw [e0]
    show some (Cell.setSlot (vp_cell cc.2.1 (n, .inl (I a))) _ _) = _
    rw [vp_cell_i, vp_cell_i, arrV_store]
    congr 2
    funext q
    by_cases hq : q = i.toNatClampNeg
    · subst hq
      simp [updV, upd, vp_nar]
      try rfl
    · simp [updV, upd, hq]
  have hI' : zIn z D cc (S, zup I a (upd (I a) i.toNatClampNeg (vp_nar .boolean x)), J, F) H1 := hI.put rfl hs (by simp only [zce, zup_s]) (fun b hb => ⟨zup_n _ _ hb, rfl, rfl⟩) z0 hP1
  exact kk l z D cc p e s m args below meth c H1 _ ls hX hP hK hI' hz (hS.put z0 oq (Nat.le_add_right z a)) hL
/-- a Stand is put into the array of Stands -/
theorem z_aast {a n b : Nat} {i : Int32} (hd : zN Y pc .aastore 1 pc') (hs : S[a]? = some (.inr (2, n))) (hb : S[b]? = some (.inl 8)) (hi : vp_in i n) (kk : zE R B Y pc' L st cu su (S, I, J, zup F a (va_up (F a) i.toNatClampNeg (some b)))) : zE R B Y pc L (.ref b :: .int i :: .ref a :: st) cu su (S, I, J, F) := by
  obtain ⟨hd, rfl⟩ := hd
  intro l z D cc p e s m args below meth c H locs ls hX hP hK hI hz hS hL
  have ha := zwl_q (t := 0) (cc := cc) (z := z) (I := I) (J := J) (F := F) hs
  have hv := zwl_at (cc := cc) (z := z) (M := (S, I, J, F)) hb
  have hD := zwl_D (cc := cc) (z := z) (M := (S, I, J, F))
  have hlt : i.toNatClampNeg < n := Nat.not_le.mp fun q => hi (Or.inr q)
  have h0 : ¬ i < 0 := fun q => hi (Or.inl q)
  have hc : classes[8]? = some (RX8, TX8, 6) := rfl
  obtain ⟨r', hr', cellV, g1, g2, g3, -⟩ := hI.2 b _ hv
  have hcls := (hK.1.1 8 _ hc).2
  obtain ⟨kA, comp, k1, k2, k3, -⟩ := (hK.1.2 2 (cc.2.2, .object "GrudgeYard$Stand") rfl).2
  have hcomp : comp = D.1 8 := Option.some.inj (k3.symm.trans hcls.1)
  subst hcomp
  obtain ⟨kC, hkC, -⟩ := hcls.2
  refine W.aast hX.1 hX.2.1 (hI.2 a _ ha) (fun q h => by cases h) (fun h => by cases h) k1 k2 rfl hkC ⟨h0, by show _ < (arrV _ _ _).slots.size; rw [arrV_size]; exact hlt⟩ g1 (fun q h => by rw [g3] at h; cases h) (by rw [g2]; exact hkC) (by rw [g2]; exact va_assign hcls) rfl rfl hd fun H1 e0 z0 oq => ?_
  have hP1 : va_P D classes ((zwl cc z (S, I, J, F)).set a (z + a, .inl (cc.2.2, n, .inr (.inr (.inr (.inr (fun j => (va_up (F a) i.toNatClampNeg (some b) j).map (fun q => z + q)))))))) H1 := by
    refine hI.2.set hD ha ?_ oq
    show H1[z + a]? = some (vp_cell _ _)
    rw [e0]
    show some (Cell.setSlot (vp_cell cc.2.2 (n, .inr (.inr (.inr (.inr (fun j => (F a j).map (fun q => z + q))))))) _ _) = _
    rw [vp_cell_q, vp_cell_q, arrV_store]
    congr 2
    funext q
    by_cases hq : q = i.toNatClampNeg
    · subst hq
      simp [updV, va_up, va_rf]
    · simp [updV, va_up, hq]
  have hI' : zIn z D cc (S, I, J, zup F a (va_up (F a) i.toNatClampNeg (some b))) H1 := hI.put rfl hs (by simp only [zce, zup_s]) (fun b hb => ⟨rfl, rfl, zup_n _ _ hb⟩) z0 hP1
  exact kk l z D cc p e s m args below meth c H1 _ ls hX hP hK hI' hz (hS.put z0 oq (Nat.le_add_right z a)) hL
/-! new cells -/
theorem zIn.push {z : Nat} {D : va_G} {cc : zCC} {H H1 : Heap} {sh : zSh} (hI : zIn z D cc (S, I, J, F) H) (hz : H1.size = H.size + 1) (ho : ∀ q, q < H.size → H1[q]? = H[q]?) (hn : va_at D classes (z + S.length, zce cc z (S, I, J, F) S.length sh) H1) : zIn z D cc (S ++ [sh], I, J, F) H1 := by
  have hI1 : H.size = z + S.length := hI.1
  refine ⟨by rw [hz, hI1, List.length_append]; show _ = z + (S.length + 1); omega, ?_⟩
  have e : zwl cc z (S ++ [sh], I, J, F) = zwl cc z (S, I, J, F) ++ [(z + S.length, zce cc z (S, I, J, F) S.length sh)] := by
    have ec : ∀ a, zce cc z (S ++ [sh], I, J, F) a = zce cc z (S, I, J, F) a := fun a => zce_congr rfl rfl rfl
    simp only [zwl, List.mapIdx_append, ec]
    simp
  rw [e]
  exact (hI.2.kept fun k q hk => ho q.1 ((hI.2 k q hk).lt)).app fun k x hx => by
    have hz : k < 1 := (List.getElem?_eq_some_iff.mp hx).1
    rw [show k = 0 by omega] at hx
    cases hx
    exact hn
/-- the classes that can be made -/
def zCl (own : String) (index ci : Nat) : Prop :=
  ∃ (C : String) (T : u_T) (N : Nat) (ty : Nat → FieldType), classes[ci]? = some (C, T, N) ∧ (tcl.getD ci []).length = N ∧ (∀ w ∈ u_ws C T N, w ∈ lw_good) ∧ (∀ k, k < N → parseFieldDescriptor (T k).2.2.1 = some (ty k)) ∧
    (∀ k, k < N → defaultValue (ty k) = (match (tcl.getD ci []).getD k 0 with | 0 => .int 0 | 1 => .long 0 | _ => .null)) ∧ Cond.classLink own index C ∈ lw_good ∧ Cond.instantiable C N ∈ lw_good ∧ Cond.initialized C ∈ lw_good
theorem z_new {index ci N : Nat} (hd : zN Y pc (.new index) 3 pc') (hcl : zCl Y.1.cls index ci) (hN : (tcl.getD ci []).length = N) (h0 : I S.length = fun _ => 0) (h1 : J S.length = fun _ => 0) (h2 : F S.length = fun _ => none) (hc : cu + 1 ≤ R.cells) (hs : su + N ≤ R.slots)
    (kk : zE R B Y pc' L (.ref S.length :: st) (cu + 1) (su + N) (S ++ [.inl ci], I, J, F)) : zE R B Y pc L st cu su (S, I, J, F) := by
  obtain ⟨hd, rfl⟩ := hd
  obtain ⟨C, T, N', ty, hc0, hl, hin, hty, hdf, w1, w2, w3⟩ := hcl
  rw [hl] at hN
  subst hN
  intro l z D cc p e s m args below meth c H locs ls hX hP hK hI hz hS hL
  have hts := hX.2.2.2.2.2.2.1
  have hKn := hK.1.1 ci _ hc0
  have hI1 : H.size = z + S.length := hI.1
  refine W.newcK hX.1 hX.2.1 hX.2.2.2.2.2.1 (hts _ w1) (hts _ w2) (hts _ w3) rfl hd hc hs hKn.2.1 hI1 fun H1 kC hkC e1 z1 o1 => ?_
  have hI' : zIn z D cc (S ++ [.inl ci], I, J, F) H1 := by
    refine hI.push (by rw [z1, hI1]) (fun q hq => o1 q (by rw [hI1] at hq; exact hq)) ⟨_, hc0, (u_born ty hts hin hKn hkC e1 hty).to fun j hj => ?_⟩
    rw [hdf j hj]
    have hlt : j < (tcl.getD ci []).length := by rw [hl]; exact hj
    have h3 : (zfs z (S, I, J, F) S.length ci)[j]? = some (zfv z (S, I, J, F) S.length j ((tcl.getD ci [])[j])) := zfs_at (List.getElem?_eq_getElem hlt)
    have h4 : (tcl.getD ci []).getD j 0 = (tcl.getD ci [])[j] := getD_at_ _ _ hlt
    have h5 : (zfs z (S, I, J, F) S.length ci).getD j .null = zfv z (S, I, J, F) S.length j ((tcl.getD ci [])[j]) := by rw [List.getD_eq_getElem?_getD, h3, Option.getD_some]
    rw [h4]
    show _ = (zfs z (S, I, J, F) S.length ci).getD j .null
    rw [h5]
    generalize (tcl.getD ci [])[j] = t
    unfold zfv
    simp only [h0, h1, h2]
    match t with
    | 0 => rfl
    | 1 => rfl
    | t + 2 => rfl
  refine kk l z D cc p e s m args below meth c H1 locs ls hX hP hK hI' hz ⟨Nat.le_trans hS.1 (by omega), fun x g1 g2 => (o1 x (by have := hS.1; omega)).trans (hS.2.1 x g1 g2), hS.2.2⟩ hL
theorem z_newi {n : Int32} {N : Nat} (hd : zN Y pc (.newarray .int) 2 pc') (hw : Cond.arrayClass .int ∈ lw_good) (hn : ¬ n < 0) (hN : n.toNatClampNeg = N) (hb : N * 4 ≤ 536870912) (h0 : I S.length = fun _ => 0) (hc : cu + 1 ≤ R.cells) (hs : su + N ≤ R.slots)
    (kk : zE R B Y pc' L (.ref S.length :: st) (cu + 1) (su + N) (S ++ [.inr (0, N)], I, J, F)) : zE R B Y pc L (.int n :: st) cu su (S, I, J, F) := by
  obtain ⟨hd, rfl⟩ := hd
  intro l z D cc p e s m args below meth c H locs ls hX hP hK hI hz hS hL
  have hts := hX.2.2.2.2.2.2.1
  have hI1 : H.size = z + S.length := hI.1
  refine va_newaK hX.1 hX.2.1 (atype := .int) (hts _ hw) rfl hd rfl hn hN hb hc hs hI1 fun H1 cA e1 z1 o1 hAr hNm => ?_
  have hcA : cA = cc.1 := by
    have h3 : s.vm.findClass ("[" ++ FieldType.int.toString) = some cc.1 := (hK.1.2 0 (cc.1, .int) rfl).2
    exact Option.some.inj (hNm.symm.trans h3)
  subst hcA
  have hI' : zIn z D cc (S ++ [.inr (0, N)], I, J, F) H1 := by
    refine hI.push (by rw [z1, hI1]) (fun q hq => o1 q (by rw [hI1] at hq; exact hq)) ?_
    show H1[z + S.length]? = some (vp_cell cc.1 (N, .inl (I S.length)))
    rw [e1, h0]
    rfl
  refine kk l z D cc p e s m args below meth c H1 locs ls hX hP hK hI' hz ⟨Nat.le_trans hS.1 (by omega), fun x g1 g2 => (o1 x (by have := hS.1; omega)).trans (hS.2.1 x g1 g2), hS.2.2⟩ hL
theorem z_newz {n : Int32} {N : Nat} (hd : zN Y pc (.newarray .boolean) 2 pc') (hw : Cond.arrayClass .boolean ∈ lw_good) (hn : ¬ n < 0) (hN : n.toNatClampNeg = N) (hb : N * 4 ≤ 536870912) (h0 : I S.length = fun _ => 0) (hc : cu + 1 ≤ R.cells) (hs : su + N ≤ R.slots)
    (kk : zE R B Y pc' L (.ref S.length :: st) (cu + 1) (su + N) (S ++ [.inr (1, N)], I, J, F)) : zE R B Y pc L (.int n :: st) cu su (S, I, J, F) := by
  obtain ⟨hd, rfl⟩ := hd
  intro l z D cc p e s m args below meth c H locs ls hX hP hK hI hz hS hL
  have hts := hX.2.2.2.2.2.2.1
  have hI1 : H.size = z + S.length := hI.1
  refine va_newaK hX.1 hX.2.1 (atype := .boolean) (hts _ hw) rfl hd rfl hn hN (by show N * 1 ≤ _; omega) hc hs hI1 fun H1 cA e1 z1 o1 hAr hNm => ?_
  have hcA : cA = cc.2.1 := by
    have h3 : s.vm.findClass ("[" ++ FieldType.boolean.toString) = some cc.2.1 := (hK.1.2 1 (cc.2.1, .boolean) rfl).2
    exact Option.some.inj (hNm.symm.trans h3)
  subst hcA
  have hI' : zIn z D cc (S ++ [.inr (1, N)], I, J, F) H1 := by
    refine hI.push (by rw [z1, hI1]) (fun q hq => o1 q (by rw [hI1] at hq; exact hq)) ?_
    show H1[z + S.length]? = some (vp_cell cc.2.1 (N, .inl (I S.length)))
    rw [e1, h0]
    rfl
  refine kk l z D cc p e s m args below meth c H1 locs ls hX hP hK hI' hz ⟨Nat.le_trans hS.1 (by omega), fun x g1 g2 => (o1 x (by have := hS.1; omega)).trans (hS.2.1 x g1 g2), hS.2.2⟩ hL
theorem z_newq {n : Int32} {N index : Nat} (hd : zN Y pc (.anewarray index) 3 pc') (hw : Cond.classLink Y.1.cls index "GrudgeYard$Stand" ∈ lw_good) (hn : ¬ n < 0) (hN : n.toNatClampNeg = N) (hb : N * 4 ≤ 536870912) (h0 : F S.length = fun _ => none) (hc : cu + 1 ≤ R.cells) (hs : su + N ≤ R.slots)
    (kk : zE R B Y pc' L (.ref S.length :: st) (cu + 1) (su + N) (S ++ [.inr (2, N)], I, J, F)) : zE R B Y pc L (.int n :: st) cu su (S, I, J, F) := by
  obtain ⟨hd, rfl⟩ := hd
  subst hN
  intro l z D cc p e s m args below meth c H locs ls hX hP hK hI hz hS hL
  have hts := hX.2.2.2.2.2.2.1
  have hI1 : H.size = z + S.length := hI.1
  refine W.anew hX.1 hX.2.1 hX.2.2.2.2.2.1 (hts _ hw) (va_AO.use hK.2.2) rfl hd rfl hn hb hc hs fun cA kA comp f1 f2 f3 f4 => ?_
  rw [hI1]
  generalize hH1 : H.push ({ cls := cA, slots := Array.replicate n.toNatClampNeg .null, vm := .none } : Cell) = H1
  have z1 : H1.size = H.size + 1 := by rw [← hH1, Array.size_push]
  have e1 : H1[H.size]? = some (arrV cA n.toNatClampNeg (fun _ => .null)) := by rw [← hH1, Array.getElem?_push_size, ← arrV_new]
  have o1 : ∀ q : Nat, q < H.size → H1[q]? = H[q]? := fun q hq => by rw [← hH1, Array.getElem?_push, if_neg (Nat.ne_of_lt hq)]
  have hcA : cA = cc.2.2 := by
    obtain ⟨kA', comp', g1, g2, g3, g4⟩ := (hK.1.2 2 (cc.2.2, .object "GrudgeYard$Stand") rfl).2
    exact Option.some.inj (f1.symm.trans g4)
  subst hcA
  have hI' : zIn z D cc (S ++ [.inr (2, n.toNatClampNeg)], I, J, F) H1 := by
    refine hI.push z1 o1 ?_
    show H1[z + S.length]? = some (vp_cell cc.2.2 (n.toNatClampNeg, .inr (.inr (.inr (.inr (fun j => (F S.length j).map (fun q => z + q)))))))
    rw [← hI1, e1, h0]
    rfl
  refine kk l z D cc p e s m args below meth c H1 locs ls hX hP hK hI' hz ⟨Nat.le_trans hS.1 (by omega), fun x g1 g2 => (o1 x (by have := hS.1; omega)).trans (hS.2.1 x g1 g2), hS.2.2⟩ hL
end ZM

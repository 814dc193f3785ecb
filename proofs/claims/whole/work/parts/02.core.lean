/-! ===== the core: a memory of numbers, a judgement over it, out of the kit's rows ===== -/
abbrev zCC : Type := ClassId × ClassId × ClassId
abbrev zSh : Type := Nat ⊕ (Nat × Nat)
abbrev zMu : Type := List zSh × (Nat → Nat → Int32) × (Nat → Nat → Int64) × (Nat → Nat → Option Nat)
abbrev zMD : Type := MethodName × ByteArray × Nat × Option FieldType
abbrev zBt : Type := (Nat → Array Value → State → Prop) × (Nat → va_G → zCC → List Frame → Array Value → State → State → Prop)
/-- a value as the machine has it: addresses count from z on; retAddr b stands for a cell from before -/
def sv (z : Nat) : Value → Value
  | .ref a => .ref (z + a)
  | .retAddr b => .ref b
  | v => v
theorem sv_cat (z : Nat) (v : Value) : (sv z v).category = v.category := by cases v <;> rfl
theorem sv_cats (z : Nat) (st : List Value) : ((st.map (sv z)).map fun v => v.category) = st.map fun v => v.category := by
  rw [List.map_map]
  exact List.map_congr_left fun v _ => sv_cat z v
def zfv (z : Nat) (M : zMu) (a k t : Nat) : Value := match t with
  | 0 => .int (M.2.1 a k)
  | 1 => .long (M.2.2.1 a k)
  | _ => va_rf ((M.2.2.2 a k).map (fun q => z + q))
def zfs (z : Nat) (M : zMu) (a ci : Nat) : List Value := (tcl.getD ci []).mapIdx (fun k t => zfv z M a k t)
def zce (cc : zCC) (z : Nat) (M : zMu) (a : Nat) : zSh → va_E
  | .inl ci => .inr (ci, zfs z M a ci)
  | .inr (0, n) => .inl (cc.1, n, .inl (M.2.1 a))
  | .inr (1, n) => .inl (cc.2.1, n, .inl (M.2.1 a))
  | .inr (_, n) => .inl (cc.2.2, n, .inr (.inr (.inr (.inr (fun j => (M.2.2.2 a j).map (fun q => z + q))))))
def zwl (cc : zCC) (z : Nat) (M : zMu) : va_W := M.1.mapIdx (fun a sh => (z + a, zce cc z M a sh))
def zIn (z : Nat) (D : va_G) (cc : zCC) (M : zMu) (H : Heap) : Prop := H.size = z + M.1.length ∧ va_P D classes (zwl cc z M) H
def ztys (cc : zCC) : List (ClassId × FieldType) := [(cc.1, .int), (cc.2.1, .boolean), (cc.2.2, .object "GrudgeYard$Stand")]
def zK (D : va_G) (cc : zCC) (U : State) : Prop := va_K D classes (ztys cc) U ∧ (∀ w ∈ lw_nest, va_Nw w U) ∧ va_AO "GrudgeYard$Stand" U
theorem zwl_at {cc : zCC} {z : Nat} {M : zMu} {a : Nat} {sh : zSh} (h : M.1[a]? = some sh) : (zwl cc z M)[a]? = some (z + a, zce cc z M a sh) := by
  simp [zwl, List.getElem?_mapIdx, h]
theorem zwl_D {cc : zCC} {z : Nat} {M : zMu} : va_D (fun q => z ≤ q) (zwl cc z M) := by
  have key : ∀ (k : Nat) (q : Nat × va_E), (zwl cc z M)[k]? = some q → q.1 = z + k := by
    intro k q h
    simp only [zwl, List.getElem?_mapIdx, Option.map_eq_some_iff] at h
    obtain ⟨sh, -, rfl⟩ := h
    rfl
  refine ⟨fun i j p q hi hj e => ?_, fun k q h => ?_⟩
  · have h1 := key i p hi
    have h2 := key j q hj
    omega
  · have h1 := key k q h
    show z ≤ q.1
    omega
theorem zce_congr {cc : zCC} {z : Nat} {M M' : zMu} {a : Nat} (h1 : M'.2.1 a = M.2.1 a) (h2 : M'.2.2.1 a = M.2.2.1 a) (h3 : M'.2.2.2 a = M.2.2.2 a) : zce cc z M' a = zce cc z M a := by
  have h0 : ∀ k t, zfv z M' a k t = zfv z M a k t := by
    intro k t
    unfold zfv
    rw [h1, h2, h3]
  funext sh
  match sh with
  | .inl ci => simp only [zce, zfs, h0]
  | .inr (0, n) => simp only [zce, h1]
  | .inr (1, n) => simp only [zce, h1]
  | .inr (t + 2, n) => simp only [zce, h3]
theorem zwl_set {cc : zCC} {z : Nat} {M M' : zMu} {k : Nat} {sh : zSh} {e : va_E} (hs : M'.1 = M.1) (hk : M.1[k]? = some sh) (he : zce cc z M' k sh = e)
    (ho : ∀ a, a ≠ k → M'.2.1 a = M.2.1 a ∧ M'.2.2.1 a = M.2.2.1 a ∧ M'.2.2.2 a = M.2.2.2 a) : (zwl cc z M).set k (z + k, e) = zwl cc z M' := by
  have hl : k < (zwl cc z M).length := by
    have := (List.getElem?_eq_some_iff.mp hk).1
    simpa [zwl] using this
  apply List.ext_getElem?
  intro i
  by_cases hi : i = k
  · subst hi
    rw [List.getElem?_set_self hl, zwl_at (sh := sh) (by rw [hs]; exact hk), he]
  · rw [List.getElem?_set_ne (Ne.symm hi)]
    simp only [zwl, List.getElem?_mapIdx, hs]
    obtain ⟨a1, a2, a3⟩ := ho i hi
    rw [zce_congr a1 a2 a3]
/-- the method's own start: what the machine has, the words -/
def zX (Y : zMD) (p : Program) (s : State) (m : MethodId) (args : Array Value) (meth : Method) (c : Code) : Prop :=
  p.tables.exec = Jvm.exec ∧ c.code = Y.2.1 ∧ c.maxLocals = Y.2.2.1 ∧ meth.sig.returnType = Y.2.2.2 ∧ meth.locks = false ∧ s.vm.findClass Y.1.cls = some m.cls ∧ (∀ w ∈ lw_good, w.before args s = true) ∧ (Y.1.name = "<init>" → meth.name = "<init>")
def zL (z nL : Nat) (L : List (Option Value)) (ls : Array Slot) : Prop := lv_has ls nL [] ∧ ∀ (i : Nat) (v : Value), L[i]? = some (some v) → ls[i]? = some (.val (sv z v))
/-- from this frame, with this memory, the method comes to its end -/
def zE (R : Room) (B : zBt) (Y : zMD) (pc : Nat) (L : List (Option Value)) (st : List Value) (cu su : Nat) (M : zMu) : Prop :=
  ∀ (l : Launch) (z : Nat) (D : va_G) (cc : zCC) (p : Program) (e : Env) (s : State) (m : MethodId) (args : Array Value) (below : List Frame) (meth : Method) (c : Code) (H : Heap) (locs : List Loc) (ls : Array Slot),
    zX Y p s m args meth c → B.1 z args s → zK D cc s → zIn z D cc M H → z ≤ s.heap.size → va_S (fun q => z ≤ q) s.heap H locs → zL z Y.2.2.1 L ls →
    W p l e R s m args below meth c H locs cu su (B.2 z D cc below args s) (F0 m pc ls (st.map (sv z)))
def zrm (d mc ms : Nat) : Room := { frames := d, cells := mc, slots := ms, locals := 40 * d }
def zwd (Y : zMD) : List Cond := .code Y.1 Y.2.1 Y.2.2.1 Y.2.2.2 :: lw_good
def zQx (z : Nat) (D : va_G) (cc : zCC) (Q : Option Value → zMu → Prop) : Array Value → State → Outcome → State → Prop := fun _ st o t => (∃ (v : Option Value) (M' : zMu), o = .returned (v.map (sv z)) ∧ Q v M' ∧ zIn z D cc M' t.heap) ∧ va_F (fun q => z ≤ q) st t
def zPx (z : Nat) (D : va_G) (cc : zCC) (As : List Value) (M : zMu) : Array Value → State → Prop := va_Pc (As.map (sv z)) (fun U => zIn z D cc M U.heap ∧ zK D cc U)
/-- a method's contract -/
def zC (d mc ms : Nat) (Y : zMD) (As : List Value) (M : zMu) (Q : Option Value → zMu → Prop) : Prop :=
  ∀ (l : Launch) (z : Nat) (D : va_G) (cc : zCC), Met l Y.1 (zwd Y) (zrm d mc ms) (zPx z D cc As M) (zQx z D cc Q) mc ms (fun q => z ≤ q)
def zb (mc ms : Nat) (Q : Option Value → zMu → Prop) : zBt := (fun _ _ _ => True, fun z D cc below args s => MQ below (zQx z D cc Q) args s mc ms (fun q => z ≤ q))
def zN (Y : zMD) (pc : Nat) (i : Instr) (len pc' : Nat) : Prop := decode Y.2.1 pc = .ok (i, len) ∧ pc + len = pc'
def zB (Y : zMD) (pc : Nat) (i : Instr) (off : Int) (len pc' tgt : Nat) : Prop := decode Y.2.1 pc = .ok (i, len) ∧ pc + len = pc' ∧ (pc : Int) + off = (tgt : Int)
theorem isNest_on {w : Cond} (h : isNest w = true) : w.onTables = true := by
  cases w <;> first | rfl | (simp [isNest] at h)
theorem isNest_warm {w : Cond} (h : isNest w = true) {s U : State} (hW : s.WarmedH U.vm) (hZ : va_Nw w s) : va_Nw w U := by
  cases w <;> first | exact va_Nw.warmF hW hZ | exact va_Nw.warmM hW hZ | (simp [isNest] at h)
theorem lw_nest_is {w : Cond} (h : w ∈ lw_nest) : isNest w = true := (List.mem_filter.mp h).2
theorem zK.warm {D : va_G} {cc : zCC} {s U : State} (hW : s.WarmedH U.vm) (h : zK D cc s) : zK D cc U :=
  ⟨va_K.moved hW.alike h.1, fun w hw => isNest_warm (lw_nest_is hw) hW (h.2.1 w hw), va_AO.moved hW.alike h.2.2⟩
theorem zK.calling {D : va_G} {cc : zCC} {U : State} {g : JFrame} {mk : MethodId} {a : Array Value} (h : zK D cc U) : zK D cc (U.calling g mk a) :=
  ⟨va_K.moved (u := U) (U := U.calling g mk a) (Vm.Alike.refl U.vm) h.1, fun w hw => va_Nw.same (u := U) (U := U.calling g mk a) (isNest_on (lw_nest_is hw)) rfl (h.2.1 w hw), va_AO.moved (u := U) (U := U.calling g mk a) (Vm.Alike.refl U.vm) h.2.2⟩
theorem zPx_blind {z : Nat} {D : va_G} {cc : zCC} {As : List Value} {M : zMu} : FrameBlind (zPx z D cc As M) := fun _ _ _ _ h => ⟨h.1, h.2.1, h.2.2.calling⟩
theorem lw_good_in {Y : zMD} (h : Cond.code Y.1 Y.2.1 Y.2.2.1 Y.2.2.2 ∈ lw_good) : GoodIn lw_good (zwd Y) := by
  intro w hw
  rcases List.mem_cons.mp hw with rfl | hw
  · exact ⟨h, good_of_word (List.mem_filter.mp h).2⟩
  · exact ⟨hw, good_of_word (List.mem_filter.mp hw).2⟩
/-! ===== the entry ===== -/
def entL : List Value → List (Option Value)
  | [] => []
  | .long x :: vs => some (.long x) :: none :: entL vs
  | .double x :: vs => some (.double x) :: none :: entL vs
  | v :: vs => some v :: entL vs
theorem entL_args (z : Nat) : ∀ (As : List Value) (k i : Nat) (v : Value), (entL As)[i]? = some (some v) → (k + i, sv z v) ∈ lv_args k (As.map (sv z))
  | [], k, i, v, h => by simp [entL] at h
  | w :: vs, k, i, v, h => by
    cases w with
    | long x =>
      match i, h with
      | 0, h => simp [entL] at h; subst h; exact List.mem_cons_self
      | 1, h => simp [entL] at h
      | i + 2, h =>
        have h2 := entL_args z vs (k + 2) i v (by simpa [entL] using h)
        rw [show k + (i + 2) = k + 2 + i by omega]
        exact List.mem_cons_of_mem _ h2
    | double x =>
      match i, h with
      | 0, h => simp [entL] at h; subst h; exact List.mem_cons_self
      | 1, h => simp [entL] at h
      | i + 2, h =>
        have h2 := entL_args z vs (k + 2) i v (by simpa [entL] using h)
        rw [show k + (i + 2) = k + 2 + i by omega]
        exact List.mem_cons_of_mem _ h2
    | _ =>
      match i, h with
      | 0, h => simp [entL] at h; subst h; exact List.mem_cons_self
      | i + 1, h =>
        have h2 := entL_args z vs (k + 1) i v (by simpa [entL] using h)
        rw [show k + (i + 1) = k + 1 + i by omega]
        exact List.mem_cons_of_mem _ h2
theorem entL_len (z : Nat) : ∀ As : List Value, (lg_sl (As.map (sv z))).length = (entL As).length
  | [] => rfl
  | w :: vs => by
    have ih := entL_len z vs
    have h0 : lg_sl (List.map (sv z) (w :: vs)) = (if (sv z w).category = 2 then [Slot.val (sv z w), Slot.second] else [Slot.val (sv z w)]) ++ lg_sl (vs.map (sv z)) := by
      simp [lg_sl]
    rw [h0, List.length_append, ih]
    cases w <;> simp [entL, sv, Value.category] <;> omega
theorem zC_of {d mc ms : Nat} {Y : zMD} {As : List Value} {M : zMu} {Q : Option Value → zMu → Prop} {L : List (Option Value)} (hp : plainName Y.1.cls = true) (hlen : (entL As).length ≤ Y.2.2.1) (hL : entL As ++ List.replicate (Y.2.2.1 - (entL As).length) none = L)
    (h : zE (zrm d mc ms) (zb mc ms Q) Y 0 L [] 0 0 M) : zC d mc ms Y As M Q := by
  intro l z D cc
  refine Met.ofW (cc := Y.2.1) (maxL := Y.2.2.1) (ret := Y.2.2.2) hp rfl ?_
  intro p e s m args below meth c s₁ B hml hv
  obtain ⟨rfl, hI, hK⟩ := hv
  have hts := atoms_spec (ws := zwd Y) B.pre
  have hl := lv_entry (As.map (sv z)) (n := Y.2.2.1) (by rw [entL_len]; exact hlen)
  rw [lg_entry_eq]
  generalize (lg_sl (As.map (sv z)) ++ List.replicate (Y.2.2.1 - (lg_sl (As.map (sv z))).length) Slot.unset).toArray = ls at hl ⊢
  refine h l z D cc p e s m _ below meth c s.heap [] ls ⟨B.exec, B.bytes, hml, B.returns, B.notSynchronized, findClass_of_methodNamed B.named, fun w hw => hts w (List.mem_cons_of_mem _ hw), fun hi => by rw [(name_of_methodNamed B.named B.method).1]; exact hi⟩ trivial hK hI (by rw [hI.1]; omega) va_S.rf ⟨⟨hl.1, hl.2.1, fun q hq => by cases hq⟩, fun i v hi => ?_⟩
  subst hL
  have hi2 : (entL As)[i]? = some (some v) := by
    by_cases hlt : i < (entL As).length
    · rwa [List.getElem?_append_left hlt] at hi
    · rw [List.getElem?_append_right (by omega)] at hi
      obtain ⟨h1, h2⟩ := List.getElem?_eq_some_iff.mp hi
      simp at h2
  have h3 := entL_args z As 0 i v hi2
  rw [Nat.zero_add] at h3
  exact hl.2.2 _ h3

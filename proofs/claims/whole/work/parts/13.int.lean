/-! ===== whole numbers: every int of the machine is iI of an Int ===== -/
def iI (x : Int) : Int32 := Int32.ofInt x
def jJ (x : Int) : Int64 := Int64.ofInt x
abbrev rg (x : Int) : Prop := -2147483648 ≤ x ∧ x ≤ 2147483647
abbrev rj (x : Int) : Prop := -9223372036854775808 ≤ x ∧ x ≤ 9223372036854775807
theorem iI_toInt {x : Int} (h : rg x) : (iI x).toInt = x := Int32.toInt_ofInt_of_le (by omega) (by omega)
theorem jJ_toInt {x : Int} (h : rj x) : (jJ x).toInt = x := Int64.toInt_ofInt_of_le (by omega) (by omega)
theorem iI_of (x : Int32) : ∃ v : Int, x = iI v ∧ rg v := by
  refine ⟨x.toInt, (Int32.ofInt_toInt x).symm, ?_⟩
  have h1 := Int32.le_toInt x
  have h2 := Int32.toInt_lt x
  exact ⟨by omega, by omega⟩
theorem iI_add (a b : Int) : iI a + iI b = iI (a + b) := (Int32.ofInt_add a b).symm
theorem iI_sub (a b : Int) : iI a - iI b = iI (a - b) := (Int32.ofInt_sub a b).symm
theorem iI_mul (a b : Int) : iI a * iI b = iI (a * b) := (Int32.ofInt_mul a b).symm
theorem iI_le {a b : Int} (ha : rg a) (hb : rg b) : iI a ≤ iI b ↔ a ≤ b := by rw [Int32.le_iff_toInt_le, iI_toInt ha, iI_toInt hb]
theorem iI_lt {a b : Int} (ha : rg a) (hb : rg b) : iI a < iI b ↔ a < b := by rw [Int32.lt_iff_toInt_lt, iI_toInt ha, iI_toInt hb]
theorem iI_eq {a b : Int} (ha : rg a) (hb : rg b) : iI a = iI b ↔ a = b := by rw [← Int32.toInt_inj, iI_toInt ha, iI_toInt hb]
theorem iI_z : (0 : Int32) = iI 0 := by decide +kernel
theorem iI_clamp {x : Int} (h : rg x) : (iI x).toNatClampNeg = x.toNat := by
  show (iI x).toInt.toNat = x.toNat
  rw [iI_toInt h]
theorem iI_in {x : Int} {n : Nat} (h : 0 ≤ x ∧ x < (n : Int)) (hn : n ≤ 2147483647) : vp_in (iI x) n := by
  have hr : rg x := ⟨by omega, by omega⟩
  rw [vp_in_iff, iI_toInt hr]
  omega
theorem iI_divN {a b : Int} (ha : 0 ≤ a ∧ a ≤ 2147483647) (hb : 0 < b ∧ b ≤ 2147483647) : iI a / iI b = iI (a / b) := by
  have h1 : (iI a / iI b).toInt = (iI a).toInt.tdiv (iI b).toInt := Int32.toInt_div_of_ne_right _ _ (by
    intro h
    have := congrArg Int32.toInt h
    rw [iI_toInt ⟨by omega, by omega⟩] at this
    have h2 : (-1 : Int32).toInt = -1 := by decide +kernel
    omega)
  rw [iI_toInt ⟨by omega, by omega⟩, iI_toInt ⟨by omega, by omega⟩, Int.tdiv_eq_ediv_of_nonneg ha.1] at h1
  rw [← Int32.toInt_inj, h1, iI_toInt]
  have h3 : 0 ≤ a / b := Int.ediv_nonneg ha.1 (by omega)
  have h4 : a / b ≤ a := Int.ediv_le_self b ha.1
  exact ⟨by omega, by omega⟩
theorem iI_remN {a b : Int} (ha : 0 ≤ a ∧ a ≤ 2147483647) (hb : 0 < b ∧ b ≤ 2147483647) : iI a - iI a / iI b * iI b = iI (a % b) := by
  rw [iI_divN ha hb, iI_mul, iI_sub]
  congr 1
  have := Int.emod_def a b
  rw [Int.mul_comm] at this
  omega
theorem jJ_add (a b : Int) : jJ a + jJ b = jJ (a + b) := (Int64.ofInt_add a b).symm
theorem jJ_mul (a b : Int) : jJ a * jJ b = jJ (a * b) := (Int64.ofInt_mul a b).symm
theorem jJ_sub (a b : Int) : jJ a - jJ b = jJ (a - b) := (Int64.ofInt_sub a b).symm
theorem jJ_divN {a b : Int} (ha : 0 ≤ a ∧ a ≤ 9223372036854775807) (hb : 0 < b ∧ b ≤ 9223372036854775807) : jJ a / jJ b = jJ (a / b) := by
  have h1 : (jJ a / jJ b).toInt = (jJ a).toInt.tdiv (jJ b).toInt := Int64.toInt_div_of_ne_right _ _ (by
    intro h
    have := congrArg Int64.toInt h
    rw [jJ_toInt ⟨by omega, by omega⟩] at this
    have h2 : (-1 : Int64).toInt = -1 := by decide +kernel
    omega)
  rw [jJ_toInt ⟨by omega, by omega⟩, jJ_toInt ⟨by omega, by omega⟩, Int.tdiv_eq_ediv_of_nonneg ha.1] at h1
  rw [← Int64.toInt_inj, h1, jJ_toInt]
  have h3 : 0 ≤ a / b := Int.ediv_nonneg ha.1 (by omega)
  have h4 : a / b ≤ a := Int.ediv_le_self b ha.1
  exact ⟨by omega, by omega⟩
theorem jJ_remN {a b : Int} (ha : 0 ≤ a ∧ a ≤ 9223372036854775807) (hb : 0 < b ∧ b ≤ 9223372036854775807) : jJ a - jJ a / jJ b * jJ b = jJ (a % b) := by
  rw [jJ_divN ha hb, jJ_mul, jJ_sub]
  congr 1
  have := Int.emod_def a b
  rw [Int.mul_comm] at this
  omega
theorem jJ_le {a b : Int} (ha : rj a) (hb : rj b) : jJ a ≤ jJ b ↔ a ≤ b := by rw [Int64.le_iff_toInt_le, jJ_toInt ha, jJ_toInt hb]
theorem jJ_lt {a b : Int} (ha : rj a) (hb : rj b) : jJ a < jJ b ↔ a < b := by rw [Int64.lt_iff_toInt_lt, jJ_toInt ha, jJ_toInt hb]
theorem jJ_eq {a b : Int} (ha : rj a) (hb : rj b) : jJ a = jJ b ↔ a = b := by rw [← Int64.toInt_inj, jJ_toInt ha, jJ_toInt hb]
theorem iI_l {x : Int} (h : rg x) : (iI x).toInt64 = jJ x := by
  rw [← Int64.toInt_inj, jJ_toInt ⟨by omega, by omega⟩, Int32.toInt_toInt64, iI_toInt h]
theorem jJ_i (x : Int) : (jJ x).toInt32 = iI x := Int64.toInt32_ofInt
theorem jJ_cmp {a b : Int} (ha : rj a) (hb : rj b) : lg_cmp (jJ a) (jJ b) = iI (if b < a then 1 else if a = b then 0 else -1) := by
  unfold lg_cmp
  simp only [gt_iff_lt, jJ_lt hb ha, jJ_eq ha hb]
  split
  · rfl
  · split
    · rfl
    · rfl
theorem iI_bv {n : Nat} : (iI (n : Int)).toBitVec = BitVec.ofNat 32 n := by
  show BitVec.ofInt 32 (n : Int) = _
  exact BitVec.ofInt_natCast 32 n
theorem iI_nat (n : Nat) : iI (n : Int) = nI n := Int32.ofInt_eq_ofNat
/-! a memory of Ints -/
def iup (f : Int → Int) (k x : Int) : Int → Int := fun j => if j = k then x else f j
def vst (V : Nat → Int → Int) (a : Nat) (k x : Int) : Nat → Int → Int := zup V a (iup (V a) k x)
theorem iup_s (f : Int → Int) (k x : Int) : iup f k x k = x := by simp [iup]
theorem iup_n {f : Int → Int} {k x j : Int} (h : j ≠ k) : iup f k x j = f j := by simp [iup, h]
theorem vst_s (V : Nat → Int → Int) (a : Nat) (k x : Int) : vst V a k x a k = x := by simp [vst, zup, iup]
theorem vst_n {V : Nat → Int → Int} {a : Nat} {k x j : Int} (h : j ≠ k) : vst V a k x a j = V a j := by simp [vst, zup, iup, h]
theorem vst_o {V : Nat → Int → Int} {a b : Nat} {k x : Int} (h : b ≠ a) : vst V a k x b = V b := by simp [vst, zup, h]
def mk (S : List zSh) (V : Nat → Int → Int) (F : Nat → Nat → Option Nat) : zMu := (S, fun a k => iI (V a (k : Int)), fun a k => jJ (V a (k : Int)), F)
theorem zE_congr {R : Room} {B : zBt} {Y : zMD} {pc : Nat} {L : List (Option Value)} {st : List Value} {cu su : Nat} {M M' : zMu} (hs : M'.1 = M.1) (h : ∀ (cc : zCC) (z a : Nat) (sh : zSh), M.1[a]? = some sh → zce cc z M' a sh = zce cc z M a sh) (k : zE R B Y pc L st cu su M') : zE R B Y pc L st cu su M := by
  intro l z D cc p e s m args below meth c H locs ls hX hP hK hI hz hS hL
  refine k l z D cc p e s m args below meth c H locs ls hX hP hK ⟨by rw [hs]; exact hI.1, ?_⟩ hz hS hL
  have e : zwl cc z M' = zwl cc z M := by
    apply List.ext_getElem?
    intro i
    simp only [zwl, List.getElem?_mapIdx, hs]
    cases h1 : M.1[i]? with
    | none => rfl
    | some sh => simp [h cc z i sh h1]
  rw [e]
  exact hI.2
section YR
variable {R : Room} {B : zBt} {Y : zMD} {pc pc' : Nat} {L : List (Option Value)} {st : List Value} {cu su : Nat} {M : zMu}
theorem y_iconst {n : Int} (hd : zN Y pc (.iconst n) 1 pc') (k : zE R B Y pc' L (.int (iI n) :: st) cu su M) : zE R B Y pc L st cu su M := z_iconst hd rfl k
theorem y_bipush {n : Int} (hd : zN Y pc (.bipush n) 2 pc') (hv : (Int8.ofInt n).toInt32 = iI n) (k : zE R B Y pc' L (.int (iI n) :: st) cu su M) : zE R B Y pc L st cu su M := z_bipush hd hv k
theorem y_sipush {n : Int} (hd : zN Y pc (.sipush n) 3 pc') (hv : (Int16.ofInt n).toInt32 = iI n) (k : zE R B Y pc' L (.int (iI n) :: st) cu su M) : zE R B Y pc L st cu su M := z_sipush hd hv k
theorem y_ldc {i : Nat} {v : Int32} {n : Int} (hd : zN Y pc (.ldc i) 2 pc') (hc : Cond.constant Y.1.cls i v ∈ lw_good) (hv : v = iI n) (k : zE R B Y pc' L (.int (iI n) :: st) cu su M) : zE R B Y pc L st cu su M := z_ldc hd (hv ▸ hc) k
theorem y_ldcw {i : Nat} {v : Int32} {n : Int} (hd : zN Y pc (.ldc_w i) 3 pc') (hc : Cond.constant Y.1.cls i v ∈ lw_good) (hv : v = iI n) (k : zE R B Y pc' L (.int (iI n) :: st) cu su M) : zE R B Y pc L st cu su M := z_ldcw hd (hv ▸ hc) k
theorem y_ldc2 {i : Nat} {v : Int64} {n : Int} (hd : zN Y pc (.ldc2_w i) 3 pc') (hc : Cond.constantLong Y.1.cls i v ∈ lw_good) (hv : v = jJ n) (k : zE R B Y pc' L (.long (jJ n) :: st) cu su M) : zE R B Y pc L st cu su M := z_ldc2 hd (hv ▸ hc) k
theorem y_lconst {n : Fin 2} {v : Int} (hd : zN Y pc (.lconst n) 1 pc') (hv : Int64.ofNat (n : Nat) = jJ v) (k : zE R B Y pc' L (.long (jJ v) :: st) cu su M) : zE R B Y pc L st cu su M := z_lconst hd hv k
theorem y_iadd {x y : Int} (hd : zN Y pc .iadd 1 pc') (k : zE R B Y pc' L (.int (iI (x + y)) :: st) cu su M) : zE R B Y pc L (.int (iI y) :: .int (iI x) :: st) cu su M := z_iadd hd (by rw [iI_add]; exact k)
theorem y_isub {x y : Int} (hd : zN Y pc .isub 1 pc') (k : zE R B Y pc' L (.int (iI (x - y)) :: st) cu su M) : zE R B Y pc L (.int (iI y) :: .int (iI x) :: st) cu su M := z_isub hd (by rw [iI_sub]; exact k)
theorem y_imul {x y : Int} (hd : zN Y pc .imul 1 pc') (k : zE R B Y pc' L (.int (iI (x * y)) :: st) cu su M) : zE R B Y pc L (.int (iI y) :: .int (iI x) :: st) cu su M := z_imul hd (by rw [iI_mul]; exact k)
theorem y_idiv {x y : Int} (hd : zN Y pc .idiv 1 pc') (hx : 0 ≤ x ∧ x ≤ 2147483647) (hy : 0 < y ∧ y ≤ 2147483647) (k : zE R B Y pc' L (.int (iI (x / y)) :: st) cu su M) : zE R B Y pc L (.int (iI y) :: .int (iI x) :: st) cu su M := z_idiv hd (fun h => by rw [iI_z, iI_eq ⟨by omega, by omega⟩ ⟨by omega, by omega⟩] at h; omega) (by rw [iI_divN hx hy]; exact k)
theorem y_irem {x y : Int} (hd : zN Y pc .irem 1 pc') (hx : 0 ≤ x ∧ x ≤ 2147483647) (hy : 0 < y ∧ y ≤ 2147483647) (k : zE R B Y pc' L (.int (iI (x % y)) :: st) cu su M) : zE R B Y pc L (.int (iI y) :: .int (iI x) :: st) cu su M := z_irem hd (fun h => by rw [iI_z, iI_eq ⟨by omega, by omega⟩ ⟨by omega, by omega⟩] at h; omega) (by rw [iI_remN hx hy]; exact k)
theorem y_ladd {x y : Int} (hd : zN Y pc .ladd 1 pc') (k : zE R B Y pc' L (.long (jJ (x + y)) :: st) cu su M) : zE R B Y pc L (.long (jJ y) :: .long (jJ x) :: st) cu su M := z_ladd hd (by rw [jJ_add]; exact k)
theorem y_lmul {x y : Int} (hd : zN Y pc .lmul 1 pc') (k : zE R B Y pc' L (.long (jJ (x * y)) :: st) cu su M) : zE R B Y pc L (.long (jJ y) :: .long (jJ x) :: st) cu su M := z_lmul hd (by rw [jJ_mul]; exact k)
theorem jJ_z : (0 : Int64) = jJ 0 := by decide +kernel
theorem y_ldiv {x y : Int} (hd : zN Y pc .ldiv 1 pc') (hx : 0 ≤ x ∧ x ≤ 9223372036854775807) (hy : 0 < y ∧ y ≤ 9223372036854775807) (k : zE R B Y pc' L (.long (jJ (x / y)) :: st) cu su M) : zE R B Y pc L (.long (jJ y) :: .long (jJ x) :: st) cu su M := z_ldiv hd (fun h => by rw [jJ_z, jJ_eq ⟨by omega, by omega⟩ ⟨by omega, by omega⟩] at h; omega) (by rw [jJ_divN hx hy]; exact k)
theorem y_lrem {x y : Int} (hd : zN Y pc .lrem 1 pc') (hx : 0 ≤ x ∧ x ≤ 9223372036854775807) (hy : 0 < y ∧ y ≤ 9223372036854775807) (k : zE R B Y pc' L (.long (jJ (x % y)) :: st) cu su M) : zE R B Y pc L (.long (jJ y) :: .long (jJ x) :: st) cu su M := z_lrem hd (fun h => by rw [jJ_z, jJ_eq ⟨by omega, by omega⟩ ⟨by omega, by omega⟩] at h; omega) (by rw [jJ_remN hx hy]; exact k)
theorem y_lcmp {x y : Int} (hd : zN Y pc .lcmp 1 pc') (hx : rj x) (hy : rj y) (k : zE R B Y pc' L (.int (iI (if y < x then 1 else if x = y then 0 else -1)) :: st) cu su M) : zE R B Y pc L (.long (jJ y) :: .long (jJ x) :: st) cu su M := z_lcmp hd (by rw [jJ_cmp hx hy]; exact k)
theorem y_i2l {x : Int} (hd : zN Y pc .i2l 1 pc') (hx : rg x) (k : zE R B Y pc' L (.long (jJ x) :: st) cu su M) : zE R B Y pc L (.int (iI x) :: st) cu su M := z_i2l hd (by rw [iI_l hx]; exact k)
theorem y_l2i {x : Int} (hd : zN Y pc .l2i 1 pc') (k : zE R B Y pc' L (.int (iI x) :: st) cu su M) : zE R B Y pc L (.long (jJ x) :: st) cu su M := z_l2i hd (by rw [jJ_i]; exact k)
theorem y_iinc {i : Nat} {n x : Int} {L' : List (Option Value)} (hd : zN Y pc (.iinc i n) 3 pc') (hx : L[i]? = some (some (.int (iI x)))) (hn : i < Y.2.2.1) (hs : zSt L i = true) (hl : L.set i (some (.int (iI (x + n)))) = L') (k : zE R B Y pc' L' st cu su M) : zE R B Y pc L st cu su M := z_iinc hd hx (iI_add x n) hn hs hl k
theorem y_if_eq {x : Int} {off : Int} {tgt : Nat} (hd : zB Y pc (.ifCond .eq off) off 3 pc' tgt) (hx : rg x) (kt : x = 0 → zE R B Y tgt L st cu su M) (kf : x ≠ 0 → zE R B Y pc' L st cu su M) : zE R B Y pc L (.int (iI x) :: st) cu su M := z_if_eq hd (fun h => kt (by rw [iI_z] at h; first | (rw [iI_eq hx ⟨by omega, by omega⟩] at h; omega) | (rw [iI_lt hx ⟨by omega, by omega⟩] at h; omega) | (rw [iI_lt ⟨by omega, by omega⟩ hx] at h; omega) | (rw [iI_le hx ⟨by omega, by omega⟩] at h; omega) | (rw [iI_le ⟨by omega, by omega⟩ hx] at h; omega))) (fun h => kf (by rw [iI_z] at h; first | (rw [iI_eq hx ⟨by omega, by omega⟩] at h; omega) | (rw [iI_lt hx ⟨by omega, by omega⟩] at h; omega) | (rw [iI_lt ⟨by omega, by omega⟩ hx] at h; omega) | (rw [iI_le hx ⟨by omega, by omega⟩] at h; omega) | (rw [iI_le ⟨by omega, by omega⟩ hx] at h; omega)))
theorem y_if_ne {x : Int} {off : Int} {tgt : Nat} (hd : zB Y pc (.ifCond .ne off) off 3 pc' tgt) (hx : rg x) (kt : x ≠ 0 → zE R B Y tgt L st cu su M) (kf : x = 0 → zE R B Y pc' L st cu su M) : zE R B Y pc L (.int (iI x) :: st) cu su M := z_if_ne hd (fun h => kt (by rw [iI_z] at h; first | (rw [iI_eq hx ⟨by omega, by omega⟩] at h; omega) | (rw [iI_lt hx ⟨by omega, by omega⟩] at h; omega) | (rw [iI_lt ⟨by omega, by omega⟩ hx] at h; omega) | (rw [iI_le hx ⟨by omega, by omega⟩] at h; omega) | (rw [iI_le ⟨by omega, by omega⟩ hx] at h; omega))) (fun h => kf (by rw [iI_z] at h; first | (rw [iI_eq hx ⟨by omega, by omega⟩] at h; omega) | (rw [iI_lt hx ⟨by omega, by omega⟩] at h; omega) | (rw [iI_lt ⟨by omega, by omega⟩ hx] at h; omega) | (rw [iI_le hx ⟨by omega, by omega⟩] at h; omega) | (rw [iI_le ⟨by omega, by omega⟩ hx] at h; omega)))
theorem y_if_lt {x : Int} {off : Int} {tgt : Nat} (hd : zB Y pc (.ifCond .lt off) off 3 pc' tgt) (hx : rg x) (kt : x < 0 → zE R B Y tgt L st cu su M) (kf : 0 ≤ x → zE R B Y pc' L st cu su M) : zE R B Y pc L (.int (iI x) :: st) cu su M := z_if_lt hd (fun h => kt (by rw [iI_z] at h; first | (rw [iI_eq hx ⟨by omega, by omega⟩] at h; omega) | (rw [iI_lt hx ⟨by omega, by omega⟩] at h; omega) | (rw [iI_lt ⟨by omega, by omega⟩ hx] at h; omega) | (rw [iI_le hx ⟨by omega, by omega⟩] at h; omega) | (rw [iI_le ⟨by omega, by omega⟩ hx] at h; omega))) (fun h => kf (by rw [iI_z] at h; first | (rw [iI_eq hx ⟨by omega, by omega⟩] at h; omega) | (rw [iI_lt hx ⟨by omega, by omega⟩] at h; omega) | (rw [iI_lt ⟨by omega, by omega⟩ hx] at h; omega) | (rw [iI_le hx ⟨by omega, by omega⟩] at h; omega) | (rw [iI_le ⟨by omega, by omega⟩ hx] at h; omega)))
theorem y_if_ge {x : Int} {off : Int} {tgt : Nat} (hd : zB Y pc (.ifCond .ge off) off 3 pc' tgt) (hx : rg x) (kt : 0 ≤ x → zE R B Y tgt L st cu su M) (kf : x < 0 → zE R B Y pc' L st cu su M) : zE R B Y pc L (.int (iI x) :: st) cu su M := z_if_ge hd (fun h => kt (by rw [iI_z] at h; first | (rw [iI_eq hx ⟨by omega, by omega⟩] at h; omega) | (rw [iI_lt hx ⟨by omega, by omega⟩] at h; omega) | (rw [iI_lt ⟨by omega, by omega⟩ hx] at h; omega) | (rw [iI_le hx ⟨by omega, by omega⟩] at h; omega) | (rw [iI_le ⟨by omega, by omega⟩ hx] at h; omega))) (fun h => kf (by rw [iI_z] at h; first | (rw [iI_eq hx ⟨by omega, by omega⟩] at h; omega) | (rw [iI_lt hx ⟨by omega, by omega⟩] at h; omega) | (rw [iI_lt ⟨by omega, by omega⟩ hx] at h; omega) | (rw [iI_le hx ⟨by omega, by omega⟩] at h; omega) | (rw [iI_le ⟨by omega, by omega⟩ hx] at h; omega)))
theorem y_if_gt {x : Int} {off : Int} {tgt : Nat} (hd : zB Y pc (.ifCond .gt off) off 3 pc' tgt) (hx : rg x) (kt : 0 < x → zE R B Y tgt L st cu su M) (kf : x ≤ 0 → zE R B Y pc' L st cu su M) : zE R B Y pc L (.int (iI x) :: st) cu su M := z_if_gt hd (fun h => kt (by rw [iI_z] at h; first | (rw [iI_eq hx ⟨by omega, by omega⟩] at h; omega) | (rw [iI_lt hx ⟨by omega, by omega⟩] at h; omega) | (rw [iI_lt ⟨by omega, by omega⟩ hx] at h; omega) | (rw [iI_le hx ⟨by omega, by omega⟩] at h; omega) | (rw [iI_le ⟨by omega, by omega⟩ hx] at h; omega))) (fun h => kf (by rw [iI_z] at h; first | (rw [iI_eq hx ⟨by omega, by omega⟩] at h; omega) | (rw [iI_lt hx ⟨by omega, by omega⟩] at h; omega) | (rw [iI_lt ⟨by omega, by omega⟩ hx] at h; omega) | (rw [iI_le hx ⟨by omega, by omega⟩] at h; omega) | (rw [iI_le ⟨by omega, by omega⟩ hx] at h; omega)))
theorem y_if_le {x : Int} {off : Int} {tgt : Nat} (hd : zB Y pc (.ifCond .le off) off 3 pc' tgt) (hx : rg x) (kt : x ≤ 0 → zE R B Y tgt L st cu su M) (kf : 0 < x → zE R B Y pc' L st cu su M) : zE R B Y pc L (.int (iI x) :: st) cu su M := z_if_le hd (fun h => kt (by rw [iI_z] at h; first | (rw [iI_eq hx ⟨by omega, by omega⟩] at h; omega) | (rw [iI_lt hx ⟨by omega, by omega⟩] at h; omega) | (rw [iI_lt ⟨by omega, by omega⟩ hx] at h; omega) | (rw [iI_le hx ⟨by omega, by omega⟩] at h; omega) | (rw [iI_le ⟨by omega, by omega⟩ hx] at h; omega))) (fun h => kf (by rw [iI_z] at h; first | (rw [iI_eq hx ⟨by omega, by omega⟩] at h; omega) | (rw [iI_lt hx ⟨by omega, by omega⟩] at h; omega) | (rw [iI_lt ⟨by omega, by omega⟩ hx] at h; omega) | (rw [iI_le hx ⟨by omega, by omega⟩] at h; omega) | (rw [iI_le ⟨by omega, by omega⟩ hx] at h; omega)))
theorem y_icmp_eq {x y : Int} {off : Int} {tgt : Nat} (hd : zB Y pc (.if_icmp .eq off) off 3 pc' tgt) (hx : rg x) (hy : rg y) (kt : x = y → zE R B Y tgt L st cu su M) (kf : x ≠ y → zE R B Y pc' L st cu su M) : zE R B Y pc L (.int (iI y) :: .int (iI x) :: st) cu su M := z_icmp_eq hd (fun h => kt (by first | (rw [iI_eq hx hy] at h; omega) | (rw [iI_lt hx hy] at h; omega) | (rw [iI_lt hy hx] at h; omega) | (rw [iI_le hx hy] at h; omega) | (rw [iI_le hy hx] at h; omega))) (fun h => kf (by first | (rw [iI_eq hx hy] at h; omega) | (rw [iI_lt hx hy] at h; omega) | (rw [iI_lt hy hx] at h; omega) | (rw [iI_le hx hy] at h; omega) | (rw [iI_le hy hx] at h; omega)))
theorem y_icmp_ne {x y : Int} {off : Int} {tgt : Nat} (hd : zB Y pc (.if_icmp .ne off) off 3 pc' tgt) (hx : rg x) (hy : rg y) (kt : x ≠ y → zE R B Y tgt L st cu su M) (kf : x = y → zE R B Y pc' L st cu su M) : zE R B Y pc L (.int (iI y) :: .int (iI x) :: st) cu su M := z_icmp_ne hd (fun h => kt (by first | (rw [iI_eq hx hy] at h; omega) | (rw [iI_lt hx hy] at h; omega) | (rw [iI_lt hy hx] at h; omega) | (rw [iI_le hx hy] at h; omega) | (rw [iI_le hy hx] at h; omega))) (fun h => kf (by first | (rw [iI_eq hx hy] at h; omega) | (rw [iI_lt hx hy] at h; omega) | (rw [iI_lt hy hx] at h; omega) | (rw [iI_le hx hy] at h; omega) | (rw [iI_le hy hx] at h; omega)))
theorem y_icmp_lt {x y : Int} {off : Int} {tgt : Nat} (hd : zB Y pc (.if_icmp .lt off) off 3 pc' tgt) (hx : rg x) (hy : rg y) (kt : x < y → zE R B Y tgt L st cu su M) (kf : y ≤ x → zE R B Y pc' L st cu su M) : zE R B Y pc L (.int (iI y) :: .int (iI x) :: st) cu su M := z_icmp_lt hd (fun h => kt (by first | (rw [iI_eq hx hy] at h; omega) | (rw [iI_lt hx hy] at h; omega) | (rw [iI_lt hy hx] at h; omega) | (rw [iI_le hx hy] at h; omega) | (rw [iI_le hy hx] at h; omega))) (fun h => kf (by first | (rw [iI_eq hx hy] at h; omega) | (rw [iI_lt hx hy] at h; omega) | (rw [iI_lt hy hx] at h; omega) | (rw [iI_le hx hy] at h; omega) | (rw [iI_le hy hx] at h; omega)))
theorem y_icmp_ge {x y : Int} {off : Int} {tgt : Nat} (hd : zB Y pc (.if_icmp .ge off) off 3 pc' tgt) (hx : rg x) (hy : rg y) (kt : y ≤ x → zE R B Y tgt L st cu su M) (kf : x < y → zE R B Y pc' L st cu su M) : zE R B Y pc L (.int (iI y) :: .int (iI x) :: st) cu su M := z_icmp_ge hd (fun h => kt (by first | (rw [iI_eq hx hy] at h; omega) | (rw [iI_lt hx hy] at h; omega) | (rw [iI_lt hy hx] at h; omega) | (rw [iI_le hx hy] at h; omega) | (rw [iI_le hy hx] at h; omega))) (fun h => kf (by first | (rw [iI_eq hx hy] at h; omega) | (rw [iI_lt hx hy] at h; omega) | (rw [iI_lt hy hx] at h; omega) | (rw [iI_le hx hy] at h; omega) | (rw [iI_le hy hx] at h; omega)))
theorem y_icmp_gt {x y : Int} {off : Int} {tgt : Nat} (hd : zB Y pc (.if_icmp .gt off) off 3 pc' tgt) (hx : rg x) (hy : rg y) (kt : y < x → zE R B Y tgt L st cu su M) (kf : x ≤ y → zE R B Y pc' L st cu su M) : zE R B Y pc L (.int (iI y) :: .int (iI x) :: st) cu su M := z_icmp_gt hd (fun h => kt (by first | (rw [iI_eq hx hy] at h; omega) | (rw [iI_lt hx hy] at h; omega) | (rw [iI_lt hy hx] at h; omega) | (rw [iI_le hx hy] at h; omega) | (rw [iI_le hy hx] at h; omega))) (fun h => kf (by first | (rw [iI_eq hx hy] at h; omega) | (rw [iI_lt hx hy] at h; omega) | (rw [iI_lt hy hx] at h; omega) | (rw [iI_le hx hy] at h; omega) | (rw [iI_le hy hx] at h; omega)))
theorem y_icmp_le {x y : Int} {off : Int} {tgt : Nat} (hd : zB Y pc (.if_icmp .le off) off 3 pc' tgt) (hx : rg x) (hy : rg y) (kt : x ≤ y → zE R B Y tgt L st cu su M) (kf : y < x → zE R B Y pc' L st cu su M) : zE R B Y pc L (.int (iI y) :: .int (iI x) :: st) cu su M := z_icmp_le hd (fun h => kt (by first | (rw [iI_eq hx hy] at h; omega) | (rw [iI_lt hx hy] at h; omega) | (rw [iI_lt hy hx] at h; omega) | (rw [iI_le hx hy] at h; omega) | (rw [iI_le hy hx] at h; omega))) (fun h => kf (by first | (rw [iI_eq hx hy] at h; omega) | (rw [iI_lt hx hy] at h; omega) | (rw [iI_lt hy hx] at h; omega) | (rw [iI_le hx hy] at h; omega) | (rw [iI_le hy hx] at h; omega)))
theorem y_tsIn {dflt lo hi : Int} {offs : Array Int} {len : Nat} {x : Int} {off : Int} {tgt : Nat} (hd : zN Y pc (.tableswitch dflt lo hi offs) len pc') (hx : rg x) (h1 : lo ≤ x) (h2 : x ≤ hi) (ho : offs[(x - lo).toNat]? = some off) (ht : (pc : Int) + off = (tgt : Int)) (k : zE R B Y tgt L st cu su M) : zE R B Y pc L (.int (iI x) :: st) cu su M := z_tsIn hd (by rw [iI_toInt hx]; omega) (by rw [iI_toInt hx]; omega) (by rw [iI_toInt hx]; exact ho) ht k
theorem y_tsOut {dflt lo hi : Int} {offs : Array Int} {len : Nat} {x : Int} {tgt : Nat} (hd : zN Y pc (.tableswitch dflt lo hi offs) len pc') (hx : rg x) (h : x < lo ∨ hi < x) (ht : (pc : Int) + dflt = (tgt : Int)) (k : zE R B Y tgt L st cu su M) : zE R B Y pc L (.int (iI x) :: st) cu su M := z_tsOut hd (by rw [iI_toInt hx]; exact h) ht k
theorem y_zret {d mc ms : Nat} {Q : Option Value → zMu → Prop} {x : Int} (hd : zN Y pc .ireturn 1 pc') (hr : Y.2.2.2 = some .boolean) (hn : x = 0 ∨ x = 1) (h1 : cu ≤ mc) (h2 : su ≤ ms) (hq : Q (some (.int (iI x))) M) : zE (zrm d mc ms) (zb mc ms Q) Y pc L [.int (iI x)] cu su M := z_zret hd hr (by rcases hn with rfl | rfl <;> decide +kernel) h1 h2 hq
end YR
theorem nar01 {x : Int} (h : x = 0 ∨ x = 1) : narrow .boolean (.int (iI x)) = .int (iI x) := by rcases h with rfl | rfl <;> decide +kernel
theorem fit01 {x : Int} (h : x = 0 ∨ x = 1) : fits .boolean (.int (iI x)) = true := by rcases h with rfl | rfl <;> decide +kernel
section YM
variable {R : Room} {B : zBt} {Y : zMD} {pc pc' : Nat} {L : List (Option Value)} {st : List Value} {cu su : Nat} {S : List zSh} {V : Nat → Int → Int} {F : Nat → Nat → Option Nat}
theorem y_getI {a ci k index : Nat} {fin : Bool} {fty : FieldType} {j : Int} (f : zFl Y.1.cls index ci k 0 fin fty) (hd : zN Y pc (.getfield index) 3 pc') (hj : ((k : Nat) : Int) = j) (hs : S[a]? = some (.inl ci)) (kk : zE R B Y pc' L (.int (iI (V a j)) :: st) cu su (mk S V F)) : zE R B Y pc L (.ref a :: st) cu su (mk S V F) := by
  subst hj
  exact z_getI f hd hs kk
theorem y_getJ {a ci k index : Nat} {fin : Bool} {fty : FieldType} {j : Int} (f : zFl Y.1.cls index ci k 1 fin fty) (hd : zN Y pc (.getfield index) 3 pc') (hj : ((k : Nat) : Int) = j) (hs : S[a]? = some (.inl ci)) (kk : zE R B Y pc' L (.long (jJ (V a j)) :: st) cu su (mk S V F)) : zE R B Y pc L (.ref a :: st) cu su (mk S V F) := by
  subst hj
  exact z_getJ f hd hs kk
theorem y_getR {a ci k b index : Nat} {fin : Bool} {fty : FieldType} (f : zFl Y.1.cls index ci k 2 fin fty) (hd : zN Y pc (.getfield index) 3 pc') (hs : S[a]? = some (.inl ci)) (hb : F a k = some b) (kk : zE R B Y pc' L (.ref b :: st) cu su (mk S V F)) : zE R B Y pc L (.ref a :: st) cu su (mk S V F) :=
  z_getR f hd hs hb kk
theorem zfv_o {z : Nat} {a j u k : Nat} {x : Int} (hj : j ≠ k) : zfv z (mk S (vst V a (k : Int) x) F) a j u = zfv z (mk S V F) a j u := by
  have h : vst V a (k : Int) x a (j : Int) = V a (j : Int) := vst_n (by omega)
  unfold zfv mk
  simp only [h]
theorem y_putI {a ci k index : Nat} {x j : Int} (f : zFl Y.1.cls index ci k 0 false .int) (hd : zN Y pc (.putfield index) 3 pc') (hj : ((k : Nat) : Int) = j) (hs : S[a]? = some (.inl ci)) (kk : zE R B Y pc' L st cu su (mk S (vst V a j x) F)) : zE R B Y pc L (.int (iI x) :: .ref a :: st) cu su (mk S V F) := by
  subst hj
  refine z_put (M' := mk S (vst V a (k : Int) x) F) f (Or.inl rfl) hd hs (fun _ => rfl) (fun _ => rfl) rfl (fun z => ?_) (fun z j u hj => zfv_o hj) (fun b hb => ?_) kk
  · show Value.int (iI (vst V a (k : Int) x a (k : Int))) = _
    rw [vst_s]
    rfl
  · simp only [mk, vst_o hb]
    exact ⟨trivial, trivial, trivial⟩
theorem y_putZ {a ci k index : Nat} {x j : Int} (f : zFl Y.1.cls index ci k 0 false .boolean) (hd : zN Y pc (.putfield index) 3 pc') (hj : ((k : Nat) : Int) = j) (hs : S[a]? = some (.inl ci)) (hx : x = 0 ∨ x = 1) (kk : zE R B Y pc' L st cu su (mk S (vst V a j x) F)) : zE R B Y pc L (.int (iI x) :: .ref a :: st) cu su (mk S V F) := by
  subst hj
  refine z_put (M' := mk S (vst V a (k : Int) x) F) f (Or.inl rfl) hd hs (fun _ => nar01 hx) (fun _ => fit01 hx) rfl (fun z => ?_) (fun z j u hj => zfv_o hj) (fun b hb => ?_) kk
  · show Value.int (iI (vst V a (k : Int) x a (k : Int))) = _
    rw [vst_s]
    rfl
  · simp only [mk, vst_o hb]
    exact ⟨trivial, trivial, trivial⟩
theorem y_putJ {a ci k index : Nat} {x j : Int} (f : zFl Y.1.cls index ci k 1 false .long) (hd : zN Y pc (.putfield index) 3 pc') (hj : ((k : Nat) : Int) = j) (hs : S[a]? = some (.inl ci)) (kk : zE R B Y pc' L st cu su (mk S (vst V a j x) F)) : zE R B Y pc L (.long (jJ x) :: .ref a :: st) cu su (mk S V F) := by
  subst hj
  refine z_put (M' := mk S (vst V a (k : Int) x) F) f (Or.inl rfl) hd hs (fun _ => rfl) (fun _ => rfl) rfl (fun z => ?_) (fun z j u hj => zfv_o hj) (fun b hb => ?_) kk
  · show Value.long (jJ (vst V a (k : Int) x a (k : Int))) = _
    rw [vst_s]
    rfl
  · simp only [mk, vst_o hb]
    exact ⟨trivial, trivial, trivial⟩
theorem y_iald {a n : Nat} {i : Int} (hd : zN Y pc .iaload 1 pc') (hs : S[a]? = some (.inr (0, n))) (hn : Nat.ble n 2147483647 = true) (hi : 0 ≤ i ∧ i < (n : Int)) (kk : zE R B Y pc' L (.int (iI (V a i)) :: st) cu su (mk S V F)) : zE R B Y pc L (.int (iI i) :: .ref a :: st) cu su (mk S V F) := by
  have hn := Nat.le_of_ble_eq_true hn
  refine z_iald hd hs (iI_in hi hn) ?_
  rw [iI_clamp ⟨by omega, by omega⟩, Int.toNat_of_nonneg hi.1]
  exact kk
theorem y_zald {a n : Nat} {i : Int} (hd : zN Y pc .baload 1 pc') (hs : S[a]? = some (.inr (1, n))) (hn : Nat.ble n 2147483647 = true) (hi : 0 ≤ i ∧ i < (n : Int)) (kk : zE R B Y pc' L (.int (iI (V a i)) :: st) cu su (mk S V F)) : zE R B Y pc L (.int (iI i) :: .ref a :: st) cu su (mk S V F) := by
  have hn := Nat.le_of_ble_eq_true hn
  refine z_zald hd hs (iI_in hi hn) ?_
  rw [iI_clamp ⟨by omega, by omega⟩, Int.toNat_of_nonneg hi.1]
  exact kk
theorem mk_arr {a t n : Nat} {i x : Int} (ht : t = 0 ∨ t = 1) (hs : S[a]? = some (.inr (t, n))) (hi : 0 ≤ i) : ∀ (cc : zCC) (z b : Nat) (sh : zSh), S[b]? = some sh → zce cc z (mk S (vst V a i x) F) b sh = zce cc z (S, zup (fun a k => iI (V a (k : Int))) a (upd ((fun a k => iI (V a ((k : Nat) : Int))) a) i.toNat (iI x)), fun a k => jJ (V a (k : Int)), F) b sh := by
  intro cc z b sh hb
  by_cases hab : b = a
  · subst hab
    cases hs.symm.trans hb
    have h : (fun k : Nat => iI (vst V b i x b (k : Int))) = upd (fun k : Nat => iI (V b (k : Int))) i.toNat (iI x) := by
      funext k
      by_cases hk : (k : Int) = i
      · have hk2 : k = i.toNat := by omega
        rw [hk, vst_s, hk2]
        simp [upd]
      · have hk2 : k ≠ i.toNat := by omega
        rw [vst_n hk]
        simp [upd, hk2]
    rcases ht with rfl | rfl
    · simp only [zce, mk, zup_s, h]
    · simp only [zce, mk, zup_s, h]
  · refine congrFun (zce_congr ?_ ?_ ?_) sh
    · simp only [mk, vst_o hab, zup_n _ _ hab]
    · simp only [mk, vst_o hab]
    · rfl
theorem y_iast {a n : Nat} {i x : Int} (hd : zN Y pc .iastore 1 pc') (hs : S[a]? = some (.inr (0, n))) (hn : Nat.ble n 2147483647 = true) (hi : 0 ≤ i ∧ i < (n : Int)) (kk : zE R B Y pc' L st cu su (mk S (vst V a i x) F)) : zE R B Y pc L (.int (iI x) :: .int (iI i) :: .ref a :: st) cu su (mk S V F) := by
  have hn := Nat.le_of_ble_eq_true hn
  refine z_iast hd hs (iI_in hi hn) ?_
  rw [iI_clamp ⟨by omega, by omega⟩]
  exact zE_congr (M' := mk S (vst V a i x) F) rfl (mk_arr (Or.inl rfl) hs hi.1) kk
theorem vp_nar_01 {x : Int} (h : x = 0 ∨ x = 1) : vp_nar .boolean (iI x) = iI x := by rcases h with rfl | rfl <;> decide +kernel
theorem y_zast {a n : Nat} {i x : Int} (hd : zN Y pc .bastore 1 pc') (hs : S[a]? = some (.inr (1, n))) (hn : Nat.ble n 2147483647 = true) (hi : 0 ≤ i ∧ i < (n : Int)) (hx : x = 0 ∨ x = 1) (kk : zE R B Y pc' L st cu su (mk S (vst V a i x) F)) : zE R B Y pc L (.int (iI x) :: .int (iI i) :: .ref a :: st) cu su (mk S V F) := by
  have hn := Nat.le_of_ble_eq_true hn
  refine z_zast hd hs (iI_in hi hn) ?_
  rw [iI_clamp ⟨by omega, by omega⟩, vp_nar_01 hx]
  exact zE_congr (M' := mk S (vst V a i x) F) rfl (mk_arr (Or.inr rfl) hs hi.1) kk
theorem y_aald {a n b : Nat} {i : Int} (hd : zN Y pc .aaload 1 pc') (hs : S[a]? = some (.inr (2, n))) (hn : Nat.ble n 2147483647 = true) (hi : 0 ≤ i ∧ i < (n : Int)) (hb : F a i.toNat = some b) (kk : zE R B Y pc' L (.ref b :: st) cu su (mk S V F)) : zE R B Y pc L (.int (iI i) :: .ref a :: st) cu su (mk S V F) := by
  have hn := Nat.le_of_ble_eq_true hn
  exact z_aald hd hs (iI_in hi hn) (by rw [iI_clamp ⟨by omega, by omega⟩]; exact hb) kk
theorem y_alen {a t n : Nat} {v : Int} (hd : zN Y pc .arraylength 1 pc') (hs : S[a]? = some (.inr (t, n))) (hv : ((n : Nat) : Int) = v) (kk : zE R B Y pc' L (.int (iI v) :: st) cu su (mk S V F)) : zE R B Y pc L (.ref a :: st) cu su (mk S V F) := z_alen hd hs (by rw [← hv]; exact Int32.ofInt_eq_ofNat.symm) kk
def icp (f g : Int → Int) (sp dp n : Int) : Int → Int := fun k => if dp ≤ k ∧ k < dp + n then f (sp + (k - dp)) else g k
theorem y_copy {a b na nb index : Nat} {sp dp n : Int} (hd : zN Y pc (.invokestatic index) 3 pc') (w1 : Cond.methodLink Y.1.cls index arraycopyName ∈ lw_good) (ha : S[a]? = some (.inr (0, na))) (hb : S[b]? = some (.inr (0, nb))) (hna : Nat.ble na 2147483647 = true) (hnb : Nat.ble nb 2147483647 = true) (h1 : 0 ≤ sp) (h2 : 0 ≤ dp) (h3 : 0 ≤ n) (h4 : sp + n ≤ (na : Int)) (h5 : dp + n ≤ (nb : Int))
    (hf : 1 ≤ R.frames) (hw : (st.map fun v => v.category).sum + (nativeFrameWords "java/lang/System" "arraycopy" 5 + 11) ≤ R.locals)
    (kk : zE R B Y pc' L st cu su (mk S (zup V b (icp (V a) (V b) sp dp n)) F)) : zE R B Y pc L (.int (iI n) :: .int (iI dp) :: .ref b :: .int (iI sp) :: .ref a :: st) cu su (mk S V F) := by
  have hna := Nat.le_of_ble_eq_true hna
  have hnb := Nat.le_of_ble_eq_true hnb
  have c1 : ∀ x : Int, 0 ≤ x → x ≤ 2147483647 → ¬ iI x < 0 := by
    intro x hx hx2 h
    rw [iI_z, iI_lt ⟨by omega, by omega⟩ ⟨by omega, by omega⟩] at h
    omega
  refine z_copy hd w1 wCopN wCopS wSysI ha hb (c1 _ h1 (by omega)) (c1 _ h2 (by omega)) (c1 _ h3 (by omega)) (by rw [iI_clamp ⟨by omega, by omega⟩, iI_clamp ⟨by omega, by omega⟩]; omega) (by rw [iI_clamp ⟨by omega, by omega⟩, iI_clamp ⟨by omega, by omega⟩]; omega) hf hw ?_
  rw [iI_clamp ⟨by omega, by omega⟩, iI_clamp ⟨by omega, by omega⟩, iI_clamp ⟨by omega, by omega⟩]
  refine zE_congr (M' := mk S (zup V b (icp (V a) (V b) sp dp n)) F) rfl (fun cc z q sh hq => ?_) kk
  by_cases hqb : q = b
  · subst hqb
    cases hb.symm.trans hq
    have h : (fun k : Nat => iI (zup V q (icp (V a) (V q) sp dp n) q (k : Int))) = va_cpy (fun k : Nat => iI (V a (k : Int))) (fun k : Nat => iI (V q (k : Int))) sp.toNat dp.toNat n.toNat := by
      funext k
      rw [zup_s]
      unfold icp va_cpy
      by_cases hk : dp ≤ (k : Int) ∧ (k : Int) < dp + n
      · rw [if_pos hk, if_pos ⟨by omega, by omega⟩]
        congr 2
        omega
      · rw [if_neg hk, if_neg (by omega)]
    simp only [zce, mk, zup_s] at h ⊢
    rw [h]
  · refine congrFun (zce_congr ?_ ?_ ?_) sh
    · simp only [mk, zup_n _ _ hqb]
    · simp only [mk, zup_n _ _ hqb]
    · rfl
end YM
theorem hRok {d D maxL mc ms : Nat} (h : d + 1 ≤ D) (hm : Nat.ble maxL 21 = true) : d + 1 ≤ (zrm D mc ms).frames ∧ 8 + (maxL + 11) + 40 * d ≤ (zrm D mc ms).locals := by
  have hm := Nat.le_of_ble_eq_true hm
  exact ⟨h, by show _ ≤ 40 * D; omega⟩

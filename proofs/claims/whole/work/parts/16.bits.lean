/-! ===== bits ===== -/
def bAnd (x y : Int) : Int := ((x.toNat &&& y.toNat : Nat) : Int)
def bOr (x y : Int) : Int := ((x.toNat ||| y.toNat : Nat) : Int)
def s1 (n : Int) : Int := ((2 ^ n.toNat : Nat) : Int)
def bShr (x n : Int) : Int := ((x.toNat / 2 ^ n.toNat : Nat) : Int)
def bDif (x p : Int) : Int := ((x.toNat ^^^ (x.toNat &&& p.toNat) : Nat) : Int)
/-- bit n of x -/
def tb (x n : Int) : Bool := x.toNat.testBit n.toNat
theorem iI_nn {x : Int} (h : 0 ≤ x) : iI x = nI x.toNat := by
  have := iI_nat x.toNat
  rwa [Int.toNat_of_nonneg h] at this
theorem fa_and_ (a b : Nat) : nI a &&& nI b = nI (a &&& b) := by
  apply Int32.toBitVec_inj.1
  show BitVec.ofNat 32 a &&& BitVec.ofNat 32 b = BitVec.ofNat 32 (a &&& b)
  apply BitVec.eq_of_getLsbD_eq
  intro i hi
  simp [hi]
theorem fa_or_ (a b : Nat) : nI a ||| nI b = nI (a ||| b) := by
  apply Int32.toBitVec_inj.1
  show BitVec.ofNat 32 a ||| BitVec.ofNat 32 b = BitVec.ofNat 32 (a ||| b)
  apply BitVec.eq_of_getLsbD_eq
  intro i hi
  simp [hi]
theorem iI_and {x y : Int} (hx : 0 ≤ x) (hy : 0 ≤ y) : iI x &&& iI y = iI (bAnd x y) := by
  rw [iI_nn hx, iI_nn hy, fa_and_]
  exact (iI_nat _).symm
theorem iI_or {x y : Int} (hx : 0 ≤ x) (hy : 0 ≤ y) : iI x ||| iI y = iI (bOr x y) := by
  rw [iI_nn hx, iI_nn hy, fa_or_]
  exact (iI_nat _).symm
theorem s1_pos (n : Int) : 1 ≤ s1 n := by
  have : 0 < 2 ^ n.toNat := Nat.two_pow_pos _
  unfold s1
  omega
theorem s1_le {n : Int} (h : n ≤ 30) : s1 n ≤ 1073741824 := by
  have : 2 ^ n.toNat ≤ 2 ^ 30 := Nat.pow_le_pow_right (by decide) (by omega)
  unfold s1
  omega
theorem iI_amt {n : Int} (h : 0 ≤ n ∧ n ≤ 31) : (((iI n &&& 31).toBitVec).smod 32).toNat = n.toNat := by
  obtain ⟨k, hk⟩ : ∃ k : Nat, n = (k : Int) := ⟨n.toNat, by omega⟩
  subst hk
  have hk : k ≤ 31 := by omega
  have key : ∀ k : Nat, k ≤ 31 → (((iI (k : Int) &&& 31).toBitVec).smod 32).toNat = k := by decide +kernel
  rw [key k hk]
  rfl
theorem iI_shl1 {n : Int} (h : 0 ≤ n ∧ n ≤ 30) : iI 1 <<< (iI n &&& 31) = iI (s1 n) := by
  have h1 := pk_shlN (n := 1) (iI n &&& 31) n.toNat (iI_amt ⟨h.1, by omega⟩) (by
    have : 2 ^ n.toNat ≤ 2 ^ 30 := Nat.pow_le_pow_right (by decide) (by omega)
    omega)
  rw [show iI 1 = nI 1 from iI_nat 1, h1, Nat.one_mul]
  exact (iI_nat _).symm
theorem iI_shr {x n : Int} (hx : 0 ≤ x ∧ x ≤ 2147483647) (h : 0 ≤ n ∧ n ≤ 31) : iI x >>> (iI n &&& 31) = iI (bShr x n) := by
  rw [iI_nn hx.1, pk_shrN (by omega) _ n.toNat (iI_amt h)]
  exact (iI_nat _).symm
theorem iI_not (p : Int) : iI p ^^^ iI (-1) = iI (-1 - p) := by
  rw [← iI_sub]
  apply Int32.toBitVec_inj.1
  show BitVec.ofInt 32 p ^^^ BitVec.ofInt 32 (-1) = BitVec.ofInt 32 (-1) - BitVec.ofInt 32 p
  have h1 : BitVec.ofInt 32 (-1) = BitVec.allOnes 32 := by decide
  rw [h1, BitVec.xor_allOnes, ← BitVec.allOnes_sub_eq_not]
theorem iI_dif {x p : Int} (hx : 0 ≤ x) (hp : 0 ≤ p) : iI x &&& iI (-1 - p) = iI (bDif x p) := by
  rw [← iI_not, iI_nn hx, iI_nn hp]
  rw [show iI (bDif x p) = nI (x.toNat ^^^ (x.toNat &&& p.toNat)) from iI_nat _]
  apply Int32.toBitVec_inj.1
  show BitVec.ofNat 32 x.toNat &&& (BitVec.ofNat 32 p.toNat ^^^ BitVec.ofInt 32 (-1)) = BitVec.ofNat 32 (x.toNat ^^^ (x.toNat &&& p.toNat))
  have h1 : BitVec.ofInt 32 (-1) = BitVec.allOnes 32 := by decide
  rw [h1]
  apply BitVec.eq_of_getLsbD_eq
  intro i hi
  rw [BitVec.getLsbD_and, BitVec.getLsbD_xor, BitVec.getLsbD_allOnes, BitVec.getLsbD_ofNat, BitVec.getLsbD_ofNat, BitVec.getLsbD_ofNat, Nat.testBit_xor, Nat.testBit_and]
  generalize x.toNat.testBit i = u
  generalize p.toNat.testBit i = v
  cases u <;> cases v <;> simp [hi]
theorem bAnd_s1 (x n : Int) : bAnd x (s1 n) = 0 ↔ tb x n = false := by
  unfold bAnd s1 tb
  rw [Int.toNat_natCast]
  have e : (x.toNat &&& 2 ^ n.toNat = 0) ↔ x.toNat.testBit n.toNat = false := by
    constructor
    · intro h
      have h1 : (x.toNat &&& 2 ^ n.toNat).testBit n.toNat = false := by rw [h]; simp
      rw [Nat.testBit_and] at h1
      simpa using h1
    · intro h
      apply Nat.eq_of_testBit_eq
      intro i
      rw [Nat.testBit_and]
      by_cases hi : n.toNat = i
      · subst hi
        simp [h]
      · simp [Nat.testBit_two_pow_of_ne hi]
  rw [← e]
  generalize x.toNat &&& 2 ^ n.toNat = u
  omega
theorem bAnd_nn (x y : Int) : 0 ≤ bAnd x y := by unfold bAnd; omega
theorem bAnd_le {x y : Int} (h : 0 ≤ y) : bAnd x y ≤ y := by
  have : x.toNat &&& y.toNat ≤ y.toNat := Nat.and_le_right
  unfold bAnd
  omega
theorem bAnd_le1 {x y : Int} (h : 0 ≤ x) : bAnd x y ≤ x := by
  have : x.toNat &&& y.toNat ≤ x.toNat := Nat.and_le_left
  unfold bAnd
  omega
theorem bOr_nn (x y : Int) : 0 ≤ bOr x y := by unfold bOr; omega
theorem bOr_lt {x y : Int} (k : Nat) (hx : x < (2 ^ k : Nat)) (hy : y < (2 ^ k : Nat)) : bOr x y < (2 ^ k : Nat) := by
  have hp : 0 < 2 ^ k := Nat.two_pow_pos k
  have h : x.toNat ||| y.toNat < 2 ^ k := Nat.or_lt_two_pow (by omega) (by omega)
  unfold bOr
  omega
theorem bDif_nn (x y : Int) : 0 ≤ bDif x y := by unfold bDif; omega
theorem bDif_le {x y : Int} (h : 0 ≤ x) : bDif x y ≤ x := by
  have h2 : x.toNat ^^^ (x.toNat &&& y.toNat) ≤ x.toNat := by
    have e : x.toNat ^^^ (x.toNat &&& y.toNat) = x.toNat &&& (x.toNat ^^^ (x.toNat &&& y.toNat)) := by
      apply Nat.eq_of_testBit_eq
      intro i
      simp only [Nat.testBit_xor, Nat.testBit_and]
      cases x.toNat.testBit i <;> cases y.toNat.testBit i <;> rfl
    rw [e]
    exact Nat.and_le_left
  unfold bDif
  omega
theorem tb_or (x n k : Int) (hn : 0 ≤ n) (hk : 0 ≤ k) : tb (bOr x (s1 n)) k = (tb x k || decide (k = n)) := by
  unfold tb bOr s1
  rw [Int.toNat_natCast, Int.toNat_natCast, Nat.testBit_or]
  by_cases h : n.toNat = k.toNat
  · have : k = n := by omega
    subst this
    simp
  · have : ¬ k = n := by omega
    simp [Nat.testBit_two_pow_of_ne h, this]
theorem tb_dif (x n k : Int) (hn : 0 ≤ n) (hk : 0 ≤ k) : tb (bDif x (s1 n)) k = (tb x k && !decide (k = n)) := by
  unfold tb bDif s1
  rw [Int.toNat_natCast, Int.toNat_natCast, Nat.testBit_xor, Nat.testBit_and]
  by_cases h : n.toNat = k.toNat
  · have : k = n := by omega
    subst this
    simp
  · have : ¬ k = n := by omega
    simp [Nat.testBit_two_pow_of_ne h, this]
theorem tb_0 (k : Int) : tb 0 k = false := by simp [tb]
/-- the bit as the number 0 or 1 -/
theorem bShr_1 (x n : Int) : bAnd (bShr x n) 1 = if tb x n then 1 else 0 := by
  unfold bAnd bShr tb
  rw [Int.toNat_natCast]
  have h : (1 : Int).toNat = 2 ^ 1 - 1 := rfl
  rw [h, Nat.and_two_pow_sub_one_eq_mod, Nat.testBit_eq_decide_div_mod_eq]
  have := Nat.mod_two_eq_zero_or_one (x.toNat / 2 ^ n.toNat)
  rw [show 2 ^ 1 = 2 from rfl]
  split <;> simp_all <;> omega
theorem jJ_mask {x : Int} (h : 0 ≤ x) : jJ x &&& jJ 2147483647 = jJ (x % 2147483648) := by
  obtain ⟨k, rfl⟩ : ∃ k : Nat, x = (k : Int) := ⟨x.toNat, by omega⟩
  have e1 : jJ (k : Int) = Int64.ofNat k := Int64.ofInt_eq_ofNat
  have e2 : jJ 2147483647 = Int64.ofNat (2 ^ 31 - 1) := Int64.ofInt_eq_ofNat (n := 2147483647)
  have e3 : jJ ((k : Int) % 2147483648) = Int64.ofNat (k % 2 ^ 31) := by
    have : ((k : Int) % 2147483648) = ((k % 2 ^ 31 : Nat) : Int) := by omega
    rw [this]
    exact Int64.ofInt_eq_ofNat
  rw [e1, e2, e3]
  have h2 : Int64.ofNat k &&& Int64.ofNat (2 ^ 31 - 1) = Int64.ofNat (k &&& (2 ^ 31 - 1)) := by
    apply Int64.toBitVec_inj.1
    show BitVec.ofNat 64 k &&& BitVec.ofNat 64 (2 ^ 31 - 1) = BitVec.ofNat 64 (k &&& (2 ^ 31 - 1))
    apply BitVec.eq_of_getLsbD_eq
    intro i hi
    rw [BitVec.getLsbD_and, BitVec.getLsbD_ofNat, BitVec.getLsbD_ofNat, BitVec.getLsbD_ofNat, Nat.testBit_and]
    simp [hi]
  rw [h2, Nat.and_two_pow_sub_one_eq_mod]
section YB
variable {R : Room} {B : zBt} {Y : zMD} {pc pc' : Nat} {L : List (Option Value)} {st : List Value} {cu su : Nat} {M : zMu}
theorem y_iand {x y : Int} (hd : zN Y pc .iand 1 pc') (hx : 0 ≤ x) (hy : 0 ≤ y) (k : zE R B Y pc' L (.int (iI (bAnd x y)) :: st) cu su M) : zE R B Y pc L (.int (iI y) :: .int (iI x) :: st) cu su M := z_iand hd (by rw [iI_and hx hy]; exact k)
theorem y_iandn {x y : Int} (hd : zN Y pc .iand 1 pc') (hx : 0 ≤ x) (hy : 0 ≤ y) (k : zE R B Y pc' L (.int (iI (bDif x y)) :: st) cu su M) : zE R B Y pc L (.int (iI (-1 - y)) :: .int (iI x) :: st) cu su M := z_iand hd (by rw [iI_dif hx hy]; exact k)
theorem y_inot {x : Int} (hd : zN Y pc .ixor 1 pc') (k : zE R B Y pc' L (.int (iI (-1 - x)) :: st) cu su M) : zE R B Y pc L (.int (iI (-1)) :: .int (iI x) :: st) cu su M := z_ixor hd (by rw [iI_not]; exact k)
theorem y_ior {x y : Int} (hd : zN Y pc .ior 1 pc') (hx : 0 ≤ x) (hy : 0 ≤ y) (k : zE R B Y pc' L (.int (iI (bOr x y)) :: st) cu su M) : zE R B Y pc L (.int (iI y) :: .int (iI x) :: st) cu su M := z_ior hd (by rw [iI_or hx hy]; exact k)
theorem y_shl1 {n : Int} (hd : zN Y pc .ishl 1 pc') (hn : 0 ≤ n ∧ n ≤ 30) (k : zE R B Y pc' L (.int (iI (s1 n)) :: st) cu su M) : zE R B Y pc L (.int (iI n) :: .int (iI 1) :: st) cu su M := z_ishl hd (by rw [iI_shl1 hn]; exact k)
theorem y_ishr {x n : Int} (hd : zN Y pc .ishr 1 pc') (hx : 0 ≤ x ∧ x ≤ 2147483647) (hn : 0 ≤ n ∧ n ≤ 31) (k : zE R B Y pc' L (.int (iI (bShr x n)) :: st) cu su M) : zE R B Y pc L (.int (iI n) :: .int (iI x) :: st) cu su M := z_ishr hd (by rw [iI_shr hx hn]; exact k)
theorem y_lmask {x : Int} (hd : zN Y pc .land 1 pc') (hx : 0 ≤ x) (k : zE R B Y pc' L (.long (jJ (x % 2147483648)) :: st) cu su M) : zE R B Y pc L (.long (jJ 2147483647) :: .long (jJ x) :: st) cu su M := z_land hd (by rw [jJ_mask hx]; exact k)
end YB

/-! ===== Integer.bitCount, numberOfTrailingZeros ===== -/
theorem iI_amtu {n : Int} (h : 0 ≤ n ∧ n ≤ 31) : (((iI n).toUInt32 &&& Int32.toUInt32 31).toBitVec % 32).toNat = n.toNat := by
  obtain ⟨k, rfl⟩ : ∃ k : Nat, n = (k : Int) := ⟨n.toNat, by omega⟩
  have key : ∀ k : Nat, k ≤ 31 → (((iI (k : Int)).toUInt32 &&& Int32.toUInt32 31).toBitVec % 32).toNat = k := by decide +kernel
  rw [key k (by omega)]
  rfl
theorem iI_ushr {x n : Int} (hx : 0 ≤ x ∧ x ≤ 2147483647) (h : 0 ≤ n ∧ n ≤ 31) : ((iI x).toUInt32 >>> ((iI n).toUInt32 &&& Int32.toUInt32 31)).toInt32 = iI (bShr x n) := by
  rw [iI_nn hx.1, pk_ushrN (by omega) _ n.toNat (iI_amtu h)]
  exact (iI_nat _).symm
theorem y_iushr {R : Room} {B : zBt} {Y : zMD} {pc pc' : Nat} {L : List (Option Value)} {st : List Value} {cu su : Nat} {M : zMu} {x n : Int} (hd : zN Y pc .iushr 1 pc') (hx : 0 ≤ x ∧ x ≤ 2147483647) (hn : 0 ≤ n ∧ n ≤ 31) (k : zE R B Y pc' L (.int (iI (bShr x n)) :: st) cu su M) : zE R B Y pc L (.int (iI n) :: .int (iI x) :: st) cu su M := z_iushr hd (by rw [iI_ushr hx hn]; exact k)
theorem and_split8 (a c : Nat) {b d : Nat} (hb : b < 256) (hd : d < 256) : (256 * a + b) &&& (256 * c + d) = 256 * (a &&& c) + (b &&& d) := by
  have hbd : b &&& d < 2 ^ 8 := Nat.lt_of_le_of_lt Nat.and_le_left hb
  apply Nat.eq_of_testBit_eq
  intro i
  have e1 := Nat.testBit_two_pow_mul_add a (show b < 2 ^ 8 from hb) i
  have e2 := Nat.testBit_two_pow_mul_add c (show d < 2 ^ 8 from hd) i
  have e3 := Nat.testBit_two_pow_mul_add (a &&& c) hbd i
  rw [show (2 : Nat) ^ 8 = 256 from rfl] at e1 e2 e3
  rw [Nat.testBit_and, e1, e2, e3]
  by_cases h : i < 8
  · simp [h, Nat.testBit_and]
  · simp [h, Nat.testBit_and]
theorem bc_5 {x y m : Nat} (h : x < 256) : ((256 * y + x) / 2) &&& (256 * m + 85) = 256 * ((y / 2) &&& m) + ((x / 2) &&& 85) := by
  have e : (256 * y + x) / 2 = 256 * (y / 2) + (x / 2 + 128 * (y % 2)) := by omega
  have k : ∀ x, x < 256 → ∀ t, t < 2 → (x / 2 + 128 * t) &&& 85 = (x / 2) &&& 85 := by decide +kernel
  rw [e, and_split8 _ _ (by omega) (by omega), k x h _ (Nat.mod_lt _ (by omega))]
theorem bc_3 {x y m : Nat} (h : x < 256) : ((256 * y + x) / 4) &&& (256 * m + 51) = 256 * ((y / 4) &&& m) + ((x / 4) &&& 51) := by
  have e : (256 * y + x) / 4 = 256 * (y / 4) + (x / 4 + 64 * (y % 4)) := by omega
  have k : ∀ x, x < 256 → ∀ t, t < 4 → (x / 4 + 64 * t) &&& 51 = (x / 4) &&& 51 := by decide +kernel
  rw [e, and_split8 _ _ (by omega) (by omega), k x h _ (Nat.mod_lt _ (by omega))]
def bcA (x : Nat) : Nat := x - ((x / 2) &&& 1431655765)
def bcB (a : Nat) : Nat := (a &&& 858993459) + ((a / 4) &&& 858993459)
def bcC (b : Nat) : Nat := (b + b / 16) &&& 252645135
def bcN (x : Nat) : Nat := let c := bcC (bcB (bcA x)); let d := c + c / 256; (d + d / 65536) &&& 63
def popN (x : Nat) : Nat → Nat
  | 0 => 0
  | n + 1 => popN x n + (if x.testBit n then 1 else 0)
def b_a (x : Nat) : Nat := x - ((x / 2) &&& 85)
def b_b (a : Nat) : Nat := (a &&& 51) + ((a / 4) &&& 51)
def b_c (b : Nat) : Nat := (b + b / 16) &&& 15
theorem byte_ok : ∀ x, x < 256 → (x / 2) &&& 85 ≤ x ∧ b_a x < 256 ∧ b_b (b_a x) ≤ 68 ∧ b_b (b_a x) % 16 ≤ 4 ∧ b_c (b_b (b_a x)) = popN x 8 ∧ popN x 8 ≤ 8 := by decide +kernel
theorem bcA_4 {x0 x1 x2 x3 : Nat} (h0 : x0 < 256) (h1 : x1 < 256) (h2 : x2 < 256) (h3 : x3 < 256) : bcA (256 * (256 * (256 * x3 + x2) + x1) + x0) = 256 * (256 * (256 * b_a x3 + b_a x2) + b_a x1) + b_a x0 := by
  have e : (1431655765 : Nat) = 256 * (256 * (256 * 85 + 85) + 85) + 85 := rfl
  have z : x3 / 2 &&& 85 = x3 / 2 &&& 85 := rfl
  unfold bcA b_a
  rw [e, bc_5 h0, bc_5 h1, bc_5 h2]
  have b0 := (byte_ok x0 h0).1
  have b1 := (byte_ok x1 h1).1
  have b2 := (byte_ok x2 h2).1
  have b3 := (byte_ok x3 h3).1
  omega
theorem bcB_4 {x0 x1 x2 x3 : Nat} (h0 : x0 < 256) (h1 : x1 < 256) (h2 : x2 < 256) (h3 : x3 < 256) : bcB (256 * (256 * (256 * x3 + x2) + x1) + x0) = 256 * (256 * (256 * b_b x3 + b_b x2) + b_b x1) + b_b x0 := by
  have e : (858993459 : Nat) = 256 * (256 * (256 * 51 + 51) + 51) + 51 := rfl
  unfold bcB b_b
  rw [e, bc_3 h0, bc_3 h1, bc_3 h2, and_split8 _ _ h0 (by omega), and_split8 _ _ h1 (by omega), and_split8 _ _ h2 (by omega)]
  omega
theorem bcC_4 {x0 x1 x2 x3 : Nat} (h0 : x0 ≤ 68) (h1 : x1 ≤ 68 ∧ x1 % 16 ≤ 4) (h2 : x2 ≤ 68 ∧ x2 % 16 ≤ 4) (h3 : x3 ≤ 68 ∧ x3 % 16 ≤ 4) : bcC (256 * (256 * (256 * x3 + x2) + x1) + x0) = 256 * (256 * (256 * b_c x3 + b_c x2) + b_c x1) + b_c x0 := by
  have e : (252645135 : Nat) = 256 * (256 * (256 * 15 + 15) + 15) + 15 := rfl
  have k : ∀ x, x ≤ 68 → ∀ t, t ≤ 4 → (x + x / 16 + 16 * t) &&& 15 = (x + x / 16) &&& 15 := by decide +kernel
  unfold bcC b_c
  have e2 : 256 * (256 * (256 * x3 + x2) + x1) + x0 + (256 * (256 * (256 * x3 + x2) + x1) + x0) / 16 = 256 * (256 * (256 * (x3 + x3 / 16) + (x2 + x2 / 16 + 16 * (x3 % 16))) + (x1 + x1 / 16 + 16 * (x2 % 16))) + (x0 + x0 / 16 + 16 * (x1 % 16)) := by omega
  rw [e2, e, and_split8 _ _ (by omega) (by omega), and_split8 _ _ (by omega) (by omega), and_split8 _ _ (by omega) (by omega), k _ h0 _ h1.2, k _ h1.1 _ h2.2, k _ h2.1 _ h3.2]
theorem popN_split {x y : Nat} (h : x < 256) : ∀ n, popN (256 * y + x) (8 + n) = popN x 8 + popN y n
  | 0 => by
    have e : ∀ i, i < 8 → (256 * y + x).testBit i = x.testBit i := fun i hi => by
      have e1 := Nat.testBit_two_pow_mul_add y (show x < 2 ^ 8 from h) i
      rw [show (2 : Nat) ^ 8 = 256 from rfl] at e1
      rw [e1, if_pos hi]
    simp only [popN, e 0 (by decide), e 1 (by decide), e 2 (by decide), e 3 (by decide), e 4 (by decide), e 5 (by decide), e 6 (by decide), e 7 (by decide)]
    rfl
  | n + 1 => by
    have e1 := Nat.testBit_two_pow_mul_add y (show x < 2 ^ 8 from h) (8 + n)
    rw [show (2 : Nat) ^ 8 = 256 from rfl, if_neg (by omega), show 8 + n - 8 = n by omega] at e1
    show popN (256 * y + x) (8 + n) + (if (256 * y + x).testBit (8 + n) = true then 1 else 0) = popN x 8 + (popN y n + _)
    rw [popN_split h n, e1]
    omega
theorem bcN_pop {x : Nat} (h : x < 4294967296) : bcN x = popN x 32 := by
  obtain ⟨x0, x1, x2, x3, h0, h1, h2, h3, rfl⟩ : ∃ x0 x1 x2 x3, x0 < 256 ∧ x1 < 256 ∧ x2 < 256 ∧ x3 < 256 ∧ x = 256 * (256 * (256 * x3 + x2) + x1) + x0 := ⟨x % 256, x / 256 % 256, x / 65536 % 256, x / 16777216 % 256, by omega, by omega, by omega, by omega, by omega⟩
  obtain ⟨-, a0, b0, b0', c0, d0⟩ := byte_ok x0 h0
  obtain ⟨-, a1, b1, b1', c1, d1⟩ := byte_ok x1 h1
  obtain ⟨-, a2, b2, b2', c2, d2⟩ := byte_ok x2 h2
  obtain ⟨-, a3, b3, b3', c3, d3⟩ := byte_ok x3 h3
  unfold bcN
  rw [bcA_4 h0 h1 h2 h3, bcB_4 a0 a1 a2 a3, bcC_4 b0 ⟨b1, b1'⟩ ⟨b2, b2'⟩ ⟨b3, b3'⟩, c0, c1, c2, c3]
  have e := popN_split (x := x0) (y := 256 * (256 * x3 + x2) + x1) h0 24
  have e2 := popN_split (x := x1) (y := 256 * x3 + x2) h1 16
  have e3 := popN_split (x := x2) (y := x3) h2 8
  rw [show 8 + 24 = 32 from rfl] at e
  rw [show 8 + 16 = 24 from rfl] at e2
  rw [show 8 + 8 = 16 from rfl] at e3
  rw [e, e2, e3, show (63 : Nat) = 2 ^ 6 - 1 from rfl, Nat.and_two_pow_sub_one_eq_mod]
  clear e e2 e3 c0 c1 c2 c3 b0 b0' b1 b1' b2 b2' b3 b3' a0 a1 a2 a3
  generalize popN x0 8 = p0 at *
  generalize popN x1 8 = p1 at *
  generalize popN x2 8 = p2 at *
  generalize popN x3 8 = p3 at *
  show (256 * (256 * (256 * p3 + p2) + p1) + p0 + (256 * (256 * (256 * p3 + p2) + p1) + p0) / 256 + (256 * (256 * (256 * p3 + p2) + p1) + p0 + (256 * (256 * (256 * p3 + p2) + p1) + p0) / 256) / 65536) % 2 ^ 6 = _
  have q1 : (256 * (256 * (256 * p3 + p2) + p1) + p0) / 256 = 256 * (256 * p3 + p2) + p1 := by omega
  rw [q1]
  have q2 : (256 * (256 * (256 * p3 + p2) + p1) + p0 + (256 * (256 * p3 + p2) + p1)) / 65536 = 256 * p3 + p2 + p3 := by omega
  rw [q2]
  omega
theorem bShr_nn (x n : Int) : 0 ≤ bShr x n := Int.natCast_nonneg _
section
variable {V : Nat → Int → Int} {b : Bool}
theorem bAnd_nat (x y : Nat) : bAnd (x : Int) (y : Int) = ((x &&& y : Nat) : Int) := by simp [bAnd]
theorem bShr_nat (x n : Nat) : bShr (x : Int) (n : Int) = ((x / 2 ^ n : Nat) : Int) := by simp [bShr]
theorem ct_J6_bitCount {x : Int} (hx : 0 ≤ x ∧ x ≤ 2147483647) : yC 1 mJ6_bitCount_0f7a4 [.int (iI x)] V b (pR b V (fun q => q = (popN x.toNat 32 : Nat))) := by
  obtain ⟨n, rfl⟩ : ∃ n : Nat, x = (n : Int) := ⟨x.toNat, by omega⟩
  have hn : n < 4294967296 := by omega
  have e1 : bAnd (bShr (n : Int) 1) 1431655765 = ((n / 2 &&& 1431655765 : Nat) : Int) := by
    rw [show (1 : Int) = ((1 : Nat) : Int) from rfl, bShr_nat]; exact bAnd_nat _ 1431655765
  have l1 : n / 2 &&& 1431655765 ≤ n / 2 := Nat.and_le_left
  have eA : (n : Int) - bAnd (bShr (n : Int) 1) 1431655765 = (bcA n : Nat) := by rw [e1]; unfold bcA; omega
  have lA : bcA n ≤ n := by unfold bcA; omega
  have e2 : bAnd (bcA n : Int) 858993459 = ((bcA n &&& 858993459 : Nat) : Int) := bAnd_nat _ 858993459
  have e3 : bAnd (bShr (bcA n : Int) 2) 858993459 = ((bcA n / 4 &&& 858993459 : Nat) : Int) := by
    rw [show (2 : Int) = ((2 : Nat) : Int) from rfl, bShr_nat]; exact bAnd_nat _ 858993459
  have l2 : bcA n &&& 858993459 ≤ 858993459 := Nat.and_le_right
  have l3 : bcA n / 4 &&& 858993459 ≤ 858993459 := Nat.and_le_right
  have eB : bAnd (bcA n : Int) 858993459 + bAnd (bShr (bcA n : Int) 2) 858993459 = (bcB (bcA n) : Nat) := by rw [e2, e3]; unfold bcB; omega
  have lB : bcB (bcA n) ≤ 1717986918 := by unfold bcB; omega
  have e4 : bShr (bcB (bcA n) : Int) 4 = ((bcB (bcA n) / 16 : Nat) : Int) := by rw [show (4 : Int) = ((4 : Nat) : Int) from rfl, bShr_nat]
  have eC : bAnd ((bcB (bcA n) : Int) + bShr (bcB (bcA n) : Int) 4) 252645135 = (bcC (bcB (bcA n)) : Nat) := by
    rw [e4, ← Int.natCast_add]
    exact bAnd_nat _ 252645135
  have lC : bcC (bcB (bcA n)) ≤ 252645135 := by unfold bcC; exact Nat.and_le_right
  have e5 : bShr (bcC (bcB (bcA n)) : Int) 8 = ((bcC (bcB (bcA n)) / 256 : Nat) : Int) := by rw [show (8 : Int) = ((8 : Nat) : Int) from rfl, bShr_nat]
  have eD : (bcC (bcB (bcA n)) : Int) + bShr (bcC (bcB (bcA n)) : Int) 8 = ((bcC (bcB (bcA n)) + bcC (bcB (bcA n)) / 256 : Nat) : Int) := by rw [e5]; omega
  have e6 : ∀ d : Nat, bShr (d : Int) 16 = ((d / 65536 : Nat) : Int) := fun d => by rw [show (16 : Int) = ((16 : Nat) : Int) from rfl, bShr_nat]
  have eE : ∀ d : Nat, (d : Int) + bShr (d : Int) 16 = ((d + d / 65536 : Nat) : Int) := fun d => by rw [e6]; omega
  have eF : ∀ d : Nat, bAnd (d : Int) 63 = ((d &&& 63 : Nat) : Int) := fun d => bAnd_nat _ 63
  have hfin := bcN_pop hn
  have nn1 := bAnd_nn (bShr (n : Int) 1) 1431655765
  refine zC_of (by decide +kernel) (Nat.le_of_ble_eq_true rfl) rfl ?_
  refine z_iload_n dJ6_bitCount_0f7a4_0 rfl ?_
  refine z_iload_n dJ6_bitCount_0f7a4_1 rfl ?_
  refine y_iconst dJ6_bitCount_0f7a4_2 ?_
  refine y_iushr dJ6_bitCount_0f7a4_3 (by omega) (by omega) ?_
  refine y_ldcw (n := 1431655765) dJ6_bitCount_0f7a4_4 cJ6_265 (by decide +kernel) ?_
  refine y_iand dJ6_bitCount_0f7a4_7 (bShr_nn _ _) (by omega) ?_
  refine y_isub dJ6_bitCount_0f7a4_8 ?_
  rw [eA]
  refine z_istore_n dJ6_bitCount_0f7a4_9 (by decide) rfl rfl ?_
  refine z_iload_n dJ6_bitCount_0f7a4_10 rfl ?_
  refine y_ldcw (n := 858993459) dJ6_bitCount_0f7a4_11 cJ6_266 (by decide +kernel) ?_
  refine y_iand dJ6_bitCount_0f7a4_14 (by omega) (by omega) ?_
  refine z_iload_n dJ6_bitCount_0f7a4_15 rfl ?_
  refine y_iconst dJ6_bitCount_0f7a4_16 ?_
  refine y_iushr dJ6_bitCount_0f7a4_17 (by omega) (by omega) ?_
  refine y_ldcw (n := 858993459) dJ6_bitCount_0f7a4_18 cJ6_266 (by decide +kernel) ?_
  refine y_iand dJ6_bitCount_0f7a4_21 (bShr_nn _ _) (by omega) ?_
  refine y_iadd dJ6_bitCount_0f7a4_22 ?_
  rw [eB]
  refine z_istore_n dJ6_bitCount_0f7a4_23 (by decide) rfl rfl ?_
  refine z_iload_n dJ6_bitCount_0f7a4_24 rfl ?_
  refine z_iload_n dJ6_bitCount_0f7a4_25 rfl ?_
  refine y_iconst dJ6_bitCount_0f7a4_26 ?_
  refine y_iushr dJ6_bitCount_0f7a4_27 (by omega) (by omega) ?_
  refine y_iadd dJ6_bitCount_0f7a4_28 ?_
  refine y_ldcw (n := 252645135) dJ6_bitCount_0f7a4_29 cJ6_267 (by decide +kernel) ?_
  refine y_iand dJ6_bitCount_0f7a4_32 (by rw [e4]; omega) (by omega) ?_
  rw [eC]
  refine z_istore_n dJ6_bitCount_0f7a4_33 (by decide) rfl rfl ?_
  refine z_iload_n dJ6_bitCount_0f7a4_34 rfl ?_
  refine z_iload_n dJ6_bitCount_0f7a4_35 rfl ?_
  refine y_bipush dJ6_bitCount_0f7a4_36 (by decide +kernel) ?_
  refine y_iushr dJ6_bitCount_0f7a4_38 (by omega) (by omega) ?_
  refine y_iadd dJ6_bitCount_0f7a4_39 ?_
  rw [eD]
  refine z_istore_n dJ6_bitCount_0f7a4_40 (by decide) rfl rfl ?_
  refine z_iload_n dJ6_bitCount_0f7a4_41 rfl ?_
  refine z_iload_n dJ6_bitCount_0f7a4_42 rfl ?_
  refine y_bipush dJ6_bitCount_0f7a4_43 (by decide +kernel) ?_
  refine y_iushr dJ6_bitCount_0f7a4_45 (by omega) (by omega) ?_
  refine y_iadd dJ6_bitCount_0f7a4_46 ?_
  rw [eE]
  refine z_istore_n dJ6_bitCount_0f7a4_47 (by decide) rfl rfl ?_
  refine z_iload_n dJ6_bitCount_0f7a4_48 rfl ?_
  refine y_bipush dJ6_bitCount_0f7a4_49 (by decide +kernel) ?_
  refine y_iand dJ6_bitCount_0f7a4_51 (by omega) (by omega) ?_
  rw [eF]
  exact z_iret dJ6_bitCount_0f7a4_52 rfl (Nat.le_refl 0) (Nat.le_refl 0) ⟨_, rfl, rfl, by rw [Int.toNat_natCast, ← hfin]; rfl⟩
theorem tz_rows : (iI (-1 - 1) &&& iI (1 - 1) = iI 0) ∧ (iI (-1 - 2) &&& iI (2 - 1) = iI 1) ∧ (iI (-1 - 4) &&& iI (4 - 1) = iI 3) ∧ (iI (-1 - 8) &&& iI (8 - 1) = iI 7) := by decide +kernel
theorem ct_tz_1 : yC 1 mJ6_numberOfTrailingZeros_0f7a4 [.int (iI 1)] V b (pR b V (fun q => q = 0)) := by
  refine zC_of (by decide +kernel) (Nat.le_of_ble_eq_true rfl) rfl ?_
  refine z_iload_n dJ6_numberOfTrailingZeros_0f7a4_0 rfl ?_
  refine y_iconst dJ6_numberOfTrailingZeros_0f7a4_1 ?_
  refine y_inot dJ6_numberOfTrailingZeros_0f7a4_2 ?_
  refine z_iload_n dJ6_numberOfTrailingZeros_0f7a4_3 rfl ?_
  refine y_iconst dJ6_numberOfTrailingZeros_0f7a4_4 ?_
  refine y_isub dJ6_numberOfTrailingZeros_0f7a4_5 ?_
  refine z_iand dJ6_numberOfTrailingZeros_0f7a4_6 ?_
  rw [show iI (-1 - 1) &&& iI (1 - 1) = iI 0 by decide +kernel]
  refine z_istore_n dJ6_numberOfTrailingZeros_0f7a4_7 (by decide) rfl rfl ?_
  refine z_iload_n dJ6_numberOfTrailingZeros_0f7a4_8 rfl ?_
  refine y_if_gt dJ6_numberOfTrailingZeros_0f7a4_9 (by omega) (fun c_9 => ?_) (fun c_9 => ?_)
  · omega
  · refine z_iload_n dJ6_numberOfTrailingZeros_0f7a4_12 rfl ?_
    refine y_bipush dJ6_numberOfTrailingZeros_0f7a4_13 (by decide +kernel) ?_
    refine y_iand dJ6_numberOfTrailingZeros_0f7a4_15 (by omega) (by omega) ?_
    exact z_iret dJ6_numberOfTrailingZeros_0f7a4_16 rfl (Nat.le_refl 0) (Nat.le_refl 0) ⟨_, rfl, rfl, by decide +kernel⟩
theorem ct_tz_2 : yC 1 mJ6_numberOfTrailingZeros_0f7a4 [.int (iI 2)] V b (pR b V (fun q => q = 1)) := by
  refine zC_of (by decide +kernel) (Nat.le_of_ble_eq_true rfl) rfl ?_
  refine z_iload_n dJ6_numberOfTrailingZeros_0f7a4_0 rfl ?_
  refine y_iconst dJ6_numberOfTrailingZeros_0f7a4_1 ?_
  refine y_inot dJ6_numberOfTrailingZeros_0f7a4_2 ?_
  refine z_iload_n dJ6_numberOfTrailingZeros_0f7a4_3 rfl ?_
  refine y_iconst dJ6_numberOfTrailingZeros_0f7a4_4 ?_
  refine y_isub dJ6_numberOfTrailingZeros_0f7a4_5 ?_
  refine z_iand dJ6_numberOfTrailingZeros_0f7a4_6 ?_
  rw [show iI (-1 - 2) &&& iI (2 - 1) = iI 1 by decide +kernel]
  refine z_istore_n dJ6_numberOfTrailingZeros_0f7a4_7 (by decide) rfl rfl ?_
  refine z_iload_n dJ6_numberOfTrailingZeros_0f7a4_8 rfl ?_
  refine y_if_gt dJ6_numberOfTrailingZeros_0f7a4_9 (by omega) (fun c_9 => ?_) (fun c_9 => ?_)
  · refine y_iconst dJ6_numberOfTrailingZeros_0f7a4_17 ?_
    refine z_istore_n dJ6_numberOfTrailingZeros_0f7a4_18 (by decide) rfl rfl ?_
    refine z_iload_n dJ6_numberOfTrailingZeros_0f7a4_19 rfl ?_
    refine y_ldcw (n := 65536) dJ6_numberOfTrailingZeros_0f7a4_20 cJ6_264 (by decide +kernel) ?_
    refine y_icmp_le dJ6_numberOfTrailingZeros_0f7a4_23 (by omega) (by omega) (fun c_23 => ?_) (fun c_23 => ?_)
    · refine z_iload_n dJ6_numberOfTrailingZeros_0f7a4_34 rfl ?_
      refine y_sipush dJ6_numberOfTrailingZeros_0f7a4_35 (by decide +kernel) ?_
      refine y_icmp_le dJ6_numberOfTrailingZeros_0f7a4_38 (by omega) (by omega) (fun c_38 => ?_) (fun c_38 => ?_)
      · refine z_iload_n dJ6_numberOfTrailingZeros_0f7a4_49 rfl ?_
        refine y_bipush dJ6_numberOfTrailingZeros_0f7a4_50 (by decide +kernel) ?_
        refine y_icmp_le dJ6_numberOfTrailingZeros_0f7a4_52 (by omega) (by omega) (fun c_52 => ?_) (fun c_52 => ?_)
        · refine z_iload_n dJ6_numberOfTrailingZeros_0f7a4_62 rfl ?_
          refine y_iconst dJ6_numberOfTrailingZeros_0f7a4_63 ?_
          refine y_icmp_le dJ6_numberOfTrailingZeros_0f7a4_64 (by omega) (by omega) (fun c_64 => ?_) (fun c_64 => ?_)
          · refine z_iload_n dJ6_numberOfTrailingZeros_0f7a4_74 rfl ?_
            refine z_iload_n dJ6_numberOfTrailingZeros_0f7a4_75 rfl ?_
            refine y_iconst dJ6_numberOfTrailingZeros_0f7a4_76 ?_
            refine y_iushr dJ6_numberOfTrailingZeros_0f7a4_77 (by omega) (by omega) ?_
            refine y_iadd dJ6_numberOfTrailingZeros_0f7a4_78 ?_
            exact z_iret dJ6_numberOfTrailingZeros_0f7a4_79 rfl (Nat.le_refl 0) (Nat.le_refl 0) ⟨_, rfl, rfl, by decide +kernel⟩
          · omega
        · omega
      · omega
    · omega
  · omega
theorem ct_tz_4 : yC 1 mJ6_numberOfTrailingZeros_0f7a4 [.int (iI 4)] V b (pR b V (fun q => q = 2)) := by
  refine zC_of (by decide +kernel) (Nat.le_of_ble_eq_true rfl) rfl ?_
  refine z_iload_n dJ6_numberOfTrailingZeros_0f7a4_0 rfl ?_
  refine y_iconst dJ6_numberOfTrailingZeros_0f7a4_1 ?_
  refine y_inot dJ6_numberOfTrailingZeros_0f7a4_2 ?_
  refine z_iload_n dJ6_numberOfTrailingZeros_0f7a4_3 rfl ?_
  refine y_iconst dJ6_numberOfTrailingZeros_0f7a4_4 ?_
  refine y_isub dJ6_numberOfTrailingZeros_0f7a4_5 ?_
  refine z_iand dJ6_numberOfTrailingZeros_0f7a4_6 ?_
  rw [show iI (-1 - 4) &&& iI (4 - 1) = iI 3 by decide +kernel]
  refine z_istore_n dJ6_numberOfTrailingZeros_0f7a4_7 (by decide) rfl rfl ?_
  refine z_iload_n dJ6_numberOfTrailingZeros_0f7a4_8 rfl ?_
  refine y_if_gt dJ6_numberOfTrailingZeros_0f7a4_9 (by omega) (fun c_9 => ?_) (fun c_9 => ?_)
  · refine y_iconst dJ6_numberOfTrailingZeros_0f7a4_17 ?_
    refine z_istore_n dJ6_numberOfTrailingZeros_0f7a4_18 (by decide) rfl rfl ?_
    refine z_iload_n dJ6_numberOfTrailingZeros_0f7a4_19 rfl ?_
    refine y_ldcw (n := 65536) dJ6_numberOfTrailingZeros_0f7a4_20 cJ6_264 (by decide +kernel) ?_
    refine y_icmp_le dJ6_numberOfTrailingZeros_0f7a4_23 (by omega) (by omega) (fun c_23 => ?_) (fun c_23 => ?_)
    · refine z_iload_n dJ6_numberOfTrailingZeros_0f7a4_34 rfl ?_
      refine y_sipush dJ6_numberOfTrailingZeros_0f7a4_35 (by decide +kernel) ?_
      refine y_icmp_le dJ6_numberOfTrailingZeros_0f7a4_38 (by omega) (by omega) (fun c_38 => ?_) (fun c_38 => ?_)
      · refine z_iload_n dJ6_numberOfTrailingZeros_0f7a4_49 rfl ?_
        refine y_bipush dJ6_numberOfTrailingZeros_0f7a4_50 (by decide +kernel) ?_
        refine y_icmp_le dJ6_numberOfTrailingZeros_0f7a4_52 (by omega) (by omega) (fun c_52 => ?_) (fun c_52 => ?_)
        · refine z_iload_n dJ6_numberOfTrailingZeros_0f7a4_62 rfl ?_
          refine y_iconst dJ6_numberOfTrailingZeros_0f7a4_63 ?_
          refine y_icmp_le dJ6_numberOfTrailingZeros_0f7a4_64 (by omega) (by omega) (fun c_64 => ?_) (fun c_64 => ?_)
          · refine z_iload_n dJ6_numberOfTrailingZeros_0f7a4_74 rfl ?_
            refine z_iload_n dJ6_numberOfTrailingZeros_0f7a4_75 rfl ?_
            refine y_iconst dJ6_numberOfTrailingZeros_0f7a4_76 ?_
            refine y_iushr dJ6_numberOfTrailingZeros_0f7a4_77 (by omega) (by omega) ?_
            refine y_iadd dJ6_numberOfTrailingZeros_0f7a4_78 ?_
            exact z_iret dJ6_numberOfTrailingZeros_0f7a4_79 rfl (Nat.le_refl 0) (Nat.le_refl 0) ⟨_, rfl, rfl, by decide +kernel⟩
          · omega
        · omega
      · omega
    · omega
  · omega
theorem ct_tz_8 : yC 1 mJ6_numberOfTrailingZeros_0f7a4 [.int (iI 8)] V b (pR b V (fun q => q = 3)) := by
  refine zC_of (by decide +kernel) (Nat.le_of_ble_eq_true rfl) rfl ?_
  refine z_iload_n dJ6_numberOfTrailingZeros_0f7a4_0 rfl ?_
  refine y_iconst dJ6_numberOfTrailingZeros_0f7a4_1 ?_
  refine y_inot dJ6_numberOfTrailingZeros_0f7a4_2 ?_
  refine z_iload_n dJ6_numberOfTrailingZeros_0f7a4_3 rfl ?_
  refine y_iconst dJ6_numberOfTrailingZeros_0f7a4_4 ?_
  refine y_isub dJ6_numberOfTrailingZeros_0f7a4_5 ?_
  refine z_iand dJ6_numberOfTrailingZeros_0f7a4_6 ?_
  rw [show iI (-1 - 8) &&& iI (8 - 1) = iI 7 by decide +kernel]
  refine z_istore_n dJ6_numberOfTrailingZeros_0f7a4_7 (by decide) rfl rfl ?_
  refine z_iload_n dJ6_numberOfTrailingZeros_0f7a4_8 rfl ?_
  refine y_if_gt dJ6_numberOfTrailingZeros_0f7a4_9 (by omega) (fun c_9 => ?_) (fun c_9 => ?_)
  · refine y_iconst dJ6_numberOfTrailingZeros_0f7a4_17 ?_
    refine z_istore_n dJ6_numberOfTrailingZeros_0f7a4_18 (by decide) rfl rfl ?_
    refine z_iload_n dJ6_numberOfTrailingZeros_0f7a4_19 rfl ?_
    refine y_ldcw (n := 65536) dJ6_numberOfTrailingZeros_0f7a4_20 cJ6_264 (by decide +kernel) ?_
    refine y_icmp_le dJ6_numberOfTrailingZeros_0f7a4_23 (by omega) (by omega) (fun c_23 => ?_) (fun c_23 => ?_)
    · refine z_iload_n dJ6_numberOfTrailingZeros_0f7a4_34 rfl ?_
      refine y_sipush dJ6_numberOfTrailingZeros_0f7a4_35 (by decide +kernel) ?_
      refine y_icmp_le dJ6_numberOfTrailingZeros_0f7a4_38 (by omega) (by omega) (fun c_38 => ?_) (fun c_38 => ?_)
      · refine z_iload_n dJ6_numberOfTrailingZeros_0f7a4_49 rfl ?_
        refine y_bipush dJ6_numberOfTrailingZeros_0f7a4_50 (by decide +kernel) ?_
        refine y_icmp_le dJ6_numberOfTrailingZeros_0f7a4_52 (by omega) (by omega) (fun c_52 => ?_) (fun c_52 => ?_)
        · refine z_iload_n dJ6_numberOfTrailingZeros_0f7a4_62 rfl ?_
          refine y_iconst dJ6_numberOfTrailingZeros_0f7a4_63 ?_
          refine y_icmp_le dJ6_numberOfTrailingZeros_0f7a4_64 (by omega) (by omega) (fun c_64 => ?_) (fun c_64 => ?_)
          · omega
          · refine y_iinc dJ6_numberOfTrailingZeros_0f7a4_67 rfl (by decide) rfl rfl ?_
            refine z_iload_n dJ6_numberOfTrailingZeros_0f7a4_70 rfl ?_
            refine y_iconst dJ6_numberOfTrailingZeros_0f7a4_71 ?_
            refine y_iushr dJ6_numberOfTrailingZeros_0f7a4_72 (by omega) (by omega) ?_
            rw [show bShr 7 2 = 1 by decide +kernel]
            refine z_istore_n dJ6_numberOfTrailingZeros_0f7a4_73 (by decide) rfl rfl ?_
            refine z_iload_n dJ6_numberOfTrailingZeros_0f7a4_74 rfl ?_
            refine z_iload_n dJ6_numberOfTrailingZeros_0f7a4_75 rfl ?_
            refine y_iconst dJ6_numberOfTrailingZeros_0f7a4_76 ?_
            refine y_iushr dJ6_numberOfTrailingZeros_0f7a4_77 (by omega) (by omega) ?_
            refine y_iadd dJ6_numberOfTrailingZeros_0f7a4_78 ?_
            exact z_iret dJ6_numberOfTrailingZeros_0f7a4_79 rfl (Nat.le_refl 0) (Nat.le_refl 0) ⟨_, rfl, rfl, by decide +kernel⟩
        · omega
      · omega
    · omega
  · omega
end

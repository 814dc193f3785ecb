section ZR
variable {R : Room} {B : zBt} {Y : zMD} {pc pc' : Nat} {L : List (Option Value)} {st : List Value} {cu su : Nat} {M : zMu}
theorem z_iadd {x y : Int32} (hd : zN Y pc .iadd 1 pc') (k : zE R B Y pc' L (.int (x + y) :: st) cu su M) : zE R B Y pc L (.int y :: .int x :: st) cu su M := by
  obtain ⟨hd, rfl⟩ := hd
  intro l z D cc p e s m args below meth c H locs ls hX hP hK hI hz hS hL
  exact lv_iadd hX.1 hX.2.1 hd (k l z D cc p e s m args below meth c H locs ls hX hP hK hI hz hS hL)
theorem z_isub {x y : Int32} (hd : zN Y pc .isub 1 pc') (k : zE R B Y pc' L (.int (x - y) :: st) cu su M) : zE R B Y pc L (.int y :: .int x :: st) cu su M := by
  obtain ⟨hd, rfl⟩ := hd
  intro l z D cc p e s m args below meth c H locs ls hX hP hK hI hz hS hL
  exact lv_isub hX.1 hX.2.1 hd (k l z D cc p e s m args below meth c H locs ls hX hP hK hI hz hS hL)
theorem z_imul {x y : Int32} (hd : zN Y pc .imul 1 pc') (k : zE R B Y pc' L (.int (x * y) :: st) cu su M) : zE R B Y pc L (.int y :: .int x :: st) cu su M := by
  obtain ⟨hd, rfl⟩ := hd
  intro l z D cc p e s m args below meth c H locs ls hX hP hK hI hz hS hL
  exact lv_imul hX.1 hX.2.1 hd (k l z D cc p e s m args below meth c H locs ls hX hP hK hI hz hS hL)
theorem z_iand {x y : Int32} (hd : zN Y pc .iand 1 pc') (k : zE R B Y pc' L (.int (x &&& y) :: st) cu su M) : zE R B Y pc L (.int y :: .int x :: st) cu su M := by
  obtain ⟨hd, rfl⟩ := hd
  intro l z D cc p e s m args below meth c H locs ls hX hP hK hI hz hS hL
  exact lv_iand hX.1 hX.2.1 hd (k l z D cc p e s m args below meth c H locs ls hX hP hK hI hz hS hL)
theorem z_ior {x y : Int32} (hd : zN Y pc .ior 1 pc') (k : zE R B Y pc' L (.int (x ||| y) :: st) cu su M) : zE R B Y pc L (.int y :: .int x :: st) cu su M := by
  obtain ⟨hd, rfl⟩ := hd
  intro l z D cc p e s m args below meth c H locs ls hX hP hK hI hz hS hL
  exact lv_ior hX.1 hX.2.1 hd (k l z D cc p e s m args below meth c H locs ls hX hP hK hI hz hS hL)
theorem z_ixor {x y : Int32} (hd : zN Y pc .ixor 1 pc') (k : zE R B Y pc' L (.int (x ^^^ y) :: st) cu su M) : zE R B Y pc L (.int y :: .int x :: st) cu su M := by
  obtain ⟨hd, rfl⟩ := hd
  intro l z D cc p e s m args below meth c H locs ls hX hP hK hI hz hS hL
  exact lv_ixor hX.1 hX.2.1 hd (k l z D cc p e s m args below meth c H locs ls hX hP hK hI hz hS hL)
theorem z_ishl {x y : Int32} (hd : zN Y pc .ishl 1 pc') (k : zE R B Y pc' L (.int (x <<< (y &&& 31)) :: st) cu su M) : zE R B Y pc L (.int y :: .int x :: st) cu su M := by
  obtain ⟨hd, rfl⟩ := hd
  intro l z D cc p e s m args below meth c H locs ls hX hP hK hI hz hS hL
  exact lv_ishl hX.1 hX.2.1 hd (k l z D cc p e s m args below meth c H locs ls hX hP hK hI hz hS hL)
theorem z_ishr {x y : Int32} (hd : zN Y pc .ishr 1 pc') (k : zE R B Y pc' L (.int (x >>> (y &&& 31)) :: st) cu su M) : zE R B Y pc L (.int y :: .int x :: st) cu su M := by
  obtain ⟨hd, rfl⟩ := hd
  intro l z D cc p e s m args below meth c H locs ls hX hP hK hI hz hS hL
  exact lv_ishr hX.1 hX.2.1 hd (k l z D cc p e s m args below meth c H locs ls hX hP hK hI hz hS hL)
theorem z_idiv {x y : Int32} (hd : zN Y pc .idiv 1 pc') (hne : ¬ y = 0) (k : zE R B Y pc' L (.int (x / y) :: st) cu su M) : zE R B Y pc L (.int y :: .int x :: st) cu su M := by
  obtain ⟨hd, rfl⟩ := hd
  intro l z D cc p e s m args below meth c H locs ls hX hP hK hI hz hS hL
  exact lv_idiv hX.1 hX.2.1 hd hne (k l z D cc p e s m args below meth c H locs ls hX hP hK hI hz hS hL)
theorem z_irem {x y : Int32} (hd : zN Y pc .irem 1 pc') (hne : ¬ y = 0) (k : zE R B Y pc' L (.int (x - x / y * y) :: st) cu su M) : zE R B Y pc L (.int y :: .int x :: st) cu su M := by
  obtain ⟨hd, rfl⟩ := hd
  intro l z D cc p e s m args below meth c H locs ls hX hP hK hI hz hS hL
  exact lv_irem hX.1 hX.2.1 hd hne (k l z D cc p e s m args below meth c H locs ls hX hP hK hI hz hS hL)
theorem z_ladd {x y : Int64} (hd : zN Y pc .ladd 1 pc') (k : zE R B Y pc' L (.long (x + y) :: st) cu su M) : zE R B Y pc L (.long y :: .long x :: st) cu su M := by
  obtain ⟨hd, rfl⟩ := hd
  intro l z D cc p e s m args below meth c H locs ls hX hP hK hI hz hS hL
  exact lv_ladd hX.1 hX.2.1 hd (k l z D cc p e s m args below meth c H locs ls hX hP hK hI hz hS hL)
theorem z_lsub {x y : Int64} (hd : zN Y pc .lsub 1 pc') (k : zE R B Y pc' L (.long (x - y) :: st) cu su M) : zE R B Y pc L (.long y :: .long x :: st) cu su M := by
  obtain ⟨hd, rfl⟩ := hd
  intro l z D cc p e s m args below meth c H locs ls hX hP hK hI hz hS hL
  exact lv_lsub hX.1 hX.2.1 hd (k l z D cc p e s m args below meth c H locs ls hX hP hK hI hz hS hL)
theorem z_lmul {x y : Int64} (hd : zN Y pc .lmul 1 pc') (k : zE R B Y pc' L (.long (x * y) :: st) cu su M) : zE R B Y pc L (.long y :: .long x :: st) cu su M := by
  obtain ⟨hd, rfl⟩ := hd
  intro l z D cc p e s m args below meth c H locs ls hX hP hK hI hz hS hL
  exact lv_lmul hX.1 hX.2.1 hd (k l z D cc p e s m args below meth c H locs ls hX hP hK hI hz hS hL)
theorem z_land {x y : Int64} (hd : zN Y pc .land 1 pc') (k : zE R B Y pc' L (.long (x &&& y) :: st) cu su M) : zE R B Y pc L (.long y :: .long x :: st) cu su M := by
  obtain ⟨hd, rfl⟩ := hd
  intro l z D cc p e s m args below meth c H locs ls hX hP hK hI hz hS hL
  exact lv_land hX.1 hX.2.1 hd (k l z D cc p e s m args below meth c H locs ls hX hP hK hI hz hS hL)
theorem z_ldiv {x y : Int64} (hd : zN Y pc .ldiv 1 pc') (hne : ¬ y = 0) (k : zE R B Y pc' L (.long (x / y) :: st) cu su M) : zE R B Y pc L (.long y :: .long x :: st) cu su M := by
  obtain ⟨hd, rfl⟩ := hd
  intro l z D cc p e s m args below meth c H locs ls hX hP hK hI hz hS hL
  exact lv_ldiv hX.1 hX.2.1 hd hne (k l z D cc p e s m args below meth c H locs ls hX hP hK hI hz hS hL)
theorem z_lrem {x y : Int64} (hd : zN Y pc .lrem 1 pc') (hne : ¬ y = 0) (k : zE R B Y pc' L (.long (x - x / y * y) :: st) cu su M) : zE R B Y pc L (.long y :: .long x :: st) cu su M := by
  obtain ⟨hd, rfl⟩ := hd
  intro l z D cc p e s m args below meth c H locs ls hX hP hK hI hz hS hL
  exact lv_lrem hX.1 hX.2.1 hd hne (k l z D cc p e s m args below meth c H locs ls hX hP hK hI hz hS hL)
theorem z_lcmp {x y : Int64} (hd : zN Y pc .lcmp 1 pc') (k : zE R B Y pc' L (.int (lg_cmp x y) :: st) cu su M) : zE R B Y pc L (.long y :: .long x :: st) cu su M := by
  obtain ⟨hd, rfl⟩ := hd
  intro l z D cc p e s m args below meth c H locs ls hX hP hK hI hz hS hL
  exact W.lcmp hX.1 hX.2.1 hd (k l z D cc p e s m args below meth c H locs ls hX hP hK hI hz hS hL)
theorem z_i2l {x : Int32} (hd : zN Y pc .i2l 1 pc') (k : zE R B Y pc' L (.long x.toInt64 :: st) cu su M) : zE R B Y pc L (.int x :: st) cu su M := by
  obtain ⟨hd, rfl⟩ := hd
  intro l z D cc p e s m args below meth c H locs ls hX hP hK hI hz hS hL
  exact lv_i2l hX.1 hX.2.1 hd rfl (k l z D cc p e s m args below meth c H locs ls hX hP hK hI hz hS hL)
theorem z_l2i {x : Int64} (hd : zN Y pc .l2i 1 pc') (k : zE R B Y pc' L (.int x.toInt32 :: st) cu su M) : zE R B Y pc L (.long x :: st) cu su M := by
  obtain ⟨hd, rfl⟩ := hd
  intro l z D cc p e s m args below meth c H locs ls hX hP hK hI hz hS hL
  exact lv_l2i hX.1 hX.2.1 hd rfl (k l z D cc p e s m args below meth c H locs ls hX hP hK hI hz hS hL)
theorem z_iushr {x y : Int32} (hd : zN Y pc .iushr 1 pc') (k : zE R B Y pc' L (.int (x.toUInt32 >>> (y.toUInt32 &&& Int32.toUInt32 31)).toInt32 :: st) cu su M) : zE R B Y pc L (.int y :: .int x :: st) cu su M := by
  obtain ⟨hd, rfl⟩ := hd
  intro l z D cc p e s m args below meth c H locs ls hX hP hK hI hz hS hL
  exact lv_iushr hX.1 hX.2.1 hd rfl (k l z D cc p e s m args below meth c H locs ls hX hP hK hI hz hS hL)
theorem z_iconst {n : Int} {v : Int32} (hd : zN Y pc (.iconst n) 1 pc') (hv : Int32.ofInt n = v) (k : zE R B Y pc' L (.int v :: st) cu su M) : zE R B Y pc L (st) cu su M := by
  obtain ⟨hd, rfl⟩ := hd
  intro l z D cc p e s m args below meth c H locs ls hX hP hK hI hz hS hL
  exact lv_iconst hX.1 hX.2.1 hd hv (k l z D cc p e s m args below meth c H locs ls hX hP hK hI hz hS hL)
theorem z_bipush {n : Int} {v : Int32} (hd : zN Y pc (.bipush n) 2 pc') (hv : (Int8.ofInt n).toInt32 = v) (k : zE R B Y pc' L (.int v :: st) cu su M) : zE R B Y pc L (st) cu su M := by
  obtain ⟨hd, rfl⟩ := hd
  intro l z D cc p e s m args below meth c H locs ls hX hP hK hI hz hS hL
  exact lv_bipush hX.1 hX.2.1 hd hv (k l z D cc p e s m args below meth c H locs ls hX hP hK hI hz hS hL)
theorem z_sipush {n : Int} {v : Int32} (hd : zN Y pc (.sipush n) 3 pc') (hv : (Int16.ofInt n).toInt32 = v) (k : zE R B Y pc' L (.int v :: st) cu su M) : zE R B Y pc L (st) cu su M := by
  obtain ⟨hd, rfl⟩ := hd
  intro l z D cc p e s m args below meth c H locs ls hX hP hK hI hz hS hL
  exact lv_sipush hX.1 hX.2.1 hd hv (k l z D cc p e s m args below meth c H locs ls hX hP hK hI hz hS hL)
theorem z_lconst {n : Fin 2} {v : Int64} (hd : zN Y pc (.lconst n) 1 pc') (hv : Int64.ofNat (n : Nat) = v) (k : zE R B Y pc' L (.long v :: st) cu su M) : zE R B Y pc L (st) cu su M := by
  obtain ⟨hd, rfl⟩ := hd
  intro l z D cc p e s m args below meth c H locs ls hX hP hK hI hz hS hL
  exact lv_lconst hX.1 hX.2.1 hd hv (k l z D cc p e s m args below meth c H locs ls hX hP hK hI hz hS hL)
theorem z_iload_n {i : Fin 4} {x : Int32} (hd : zN Y pc (.iload_n i) 1 pc') (hl : L[(i : Nat)]? = some (some (.int x))) (k : zE R B Y pc' L (.int x :: st) cu su M) : zE R B Y pc L (st) cu su M := by
  obtain ⟨hd, rfl⟩ := hd
  intro l z D cc p e s m args below meth c H locs ls hX hP hK hI hz hS hL
  exact lv_iload_n hX.1 hX.2.1 hd rfl (hL.2 _ _ hl) (k l z D cc p e s m args below meth c H locs ls hX hP hK hI hz hS hL)
theorem z_iload {i : Nat} {x : Int32} (hd : zN Y pc (.iload i) 2 pc') (hl : L[i]? = some (some (.int x))) (k : zE R B Y pc' L (.int x :: st) cu su M) : zE R B Y pc L (st) cu su M := by
  obtain ⟨hd, rfl⟩ := hd
  intro l z D cc p e s m args below meth c H locs ls hX hP hK hI hz hS hL
  exact lv_iload hX.1 hX.2.1 hd (hL.2 _ _ hl) (k l z D cc p e s m args below meth c H locs ls hX hP hK hI hz hS hL)
theorem z_lload_n {i : Fin 4} {x : Int64} (hd : zN Y pc (.lload_n i) 1 pc') (hl : L[(i : Nat)]? = some (some (.long x))) (k : zE R B Y pc' L (.long x :: st) cu su M) : zE R B Y pc L (st) cu su M := by
  obtain ⟨hd, rfl⟩ := hd
  intro l z D cc p e s m args below meth c H locs ls hX hP hK hI hz hS hL
  exact lv_lload_n hX.1 hX.2.1 hd rfl (hL.2 _ _ hl) (k l z D cc p e s m args below meth c H locs ls hX hP hK hI hz hS hL)
theorem z_lload {i : Nat} {x : Int64} (hd : zN Y pc (.lload i) 2 pc') (hl : L[i]? = some (some (.long x))) (k : zE R B Y pc' L (.long x :: st) cu su M) : zE R B Y pc L (st) cu su M := by
  obtain ⟨hd, rfl⟩ := hd
  intro l z D cc p e s m args below meth c H locs ls hX hP hK hI hz hS hL
  exact lv_lload hX.1 hX.2.1 hd (hL.2 _ _ hl) (k l z D cc p e s m args below meth c H locs ls hX hP hK hI hz hS hL)
theorem z_aload_n {i : Fin 4} {x : Nat} (hd : zN Y pc (.aload_n i) 1 pc') (hl : L[(i : Nat)]? = some (some (.ref x))) (k : zE R B Y pc' L (.ref x :: st) cu su M) : zE R B Y pc L (st) cu su M := by
  obtain ⟨hd, rfl⟩ := hd
  intro l z D cc p e s m args below meth c H locs ls hX hP hK hI hz hS hL
  exact lv_aload_n hX.1 hX.2.1 hd rfl (hL.2 _ _ hl) (k l z D cc p e s m args below meth c H locs ls hX hP hK hI hz hS hL)
theorem z_aload {i : Nat} {x : Nat} (hd : zN Y pc (.aload i) 2 pc') (hl : L[i]? = some (some (.ref x))) (k : zE R B Y pc' L (.ref x :: st) cu su M) : zE R B Y pc L (st) cu su M := by
  obtain ⟨hd, rfl⟩ := hd
  intro l z D cc p e s m args below meth c H locs ls hX hP hK hI hz hS hL
  exact lv_aload hX.1 hX.2.1 hd (hL.2 _ _ hl) (k l z D cc p e s m args below meth c H locs ls hX hP hK hI hz hS hL)
theorem z_aloadX_n {i : Fin 4} {x : Nat} (hd : zN Y pc (.aload_n i) 1 pc') (hl : L[(i : Nat)]? = some (some (.retAddr x))) (k : zE R B Y pc' L (.retAddr x :: st) cu su M) : zE R B Y pc L (st) cu su M := by
  obtain ⟨hd, rfl⟩ := hd
  intro l z D cc p e s m args below meth c H locs ls hX hP hK hI hz hS hL
  exact lv_aload_n hX.1 hX.2.1 hd rfl (hL.2 _ _ hl) (k l z D cc p e s m args below meth c H locs ls hX hP hK hI hz hS hL)
theorem z_dup {v : Value} (hd : zN Y pc .dup 1 pc') (hc : v.category = 1) (k : zE R B Y pc' L (v :: v :: st) cu su M) : zE R B Y pc L (v :: st) cu su M := by
  obtain ⟨hd, rfl⟩ := hd
  intro l z D cc p e s m args below meth c H locs ls hX hP hK hI hz hS hL
  exact lv_dup hX.1 hX.2.1 hd ((sv_cat z v).trans hc) (k l z D cc p e s m args below meth c H locs ls hX hP hK hI hz hS hL)
theorem z_pop {v : Value} (hd : zN Y pc .pop 1 pc') (hc : v.category = 1) (k : zE R B Y pc' L (st) cu su M) : zE R B Y pc L (v :: st) cu su M := by
  obtain ⟨hd, rfl⟩ := hd
  intro l z D cc p e s m args below meth c H locs ls hX hP hK hI hz hS hL
  exact lv_pop hX.1 hX.2.1 hd ((sv_cat z v).trans hc) (k l z D cc p e s m args below meth c H locs ls hX hP hK hI hz hS hL)
theorem z_dup2 {v w : Value} (hd : zN Y pc .dup2 1 pc') (hc : v.category = 1) (hc2 : w.category = 1) (k : zE R B Y pc' L (v :: w :: v :: w :: st) cu su M) : zE R B Y pc L (v :: w :: st) cu su M := by
  obtain ⟨hd, rfl⟩ := hd
  intro l z D cc p e s m args below meth c H locs ls hX hP hK hI hz hS hL
  exact lv_dup2_11 hX.1 hX.2.1 hd ((sv_cat z v).trans hc) ((sv_cat z w).trans hc2) (k l z D cc p e s m args below meth c H locs ls hX hP hK hI hz hS hL)
theorem z_ldc {i : Nat} {v : Int32} (hd : zN Y pc (.ldc i) 2 pc') (hc : Cond.constant Y.1.cls i v ∈ lw_good) (k : zE R B Y pc' L (.int v :: st) cu su M) : zE R B Y pc L (st) cu su M := by
  obtain ⟨hd, rfl⟩ := hd
  intro l z D cc p e s m args below meth c H locs ls hX hP hK hI hz hS hL
  exact lv_ldc hX.1 hX.2.1 hX.2.2.2.2.2.1 (hX.2.2.2.2.2.2.1 _ hc) hd (k l z D cc p e s m args below meth c H locs ls hX hP hK hI hz hS hL)
theorem z_ldcw {i : Nat} {v : Int32} (hd : zN Y pc (.ldc_w i) 3 pc') (hc : Cond.constant Y.1.cls i v ∈ lw_good) (k : zE R B Y pc' L (.int v :: st) cu su M) : zE R B Y pc L (st) cu su M := by
  obtain ⟨hd, rfl⟩ := hd
  intro l z D cc p e s m args below meth c H locs ls hX hP hK hI hz hS hL
  exact lv_ldcw hX.1 hX.2.1 hX.2.2.2.2.2.1 (hX.2.2.2.2.2.2.1 _ hc) hd (k l z D cc p e s m args below meth c H locs ls hX hP hK hI hz hS hL)
theorem z_ldc2 {i : Nat} {v : Int64} (hd : zN Y pc (.ldc2_w i) 3 pc') (hc : Cond.constantLong Y.1.cls i v ∈ lw_good) (k : zE R B Y pc' L (.long v :: st) cu su M) : zE R B Y pc L (st) cu su M := by
  obtain ⟨hd, rfl⟩ := hd
  intro l z D cc p e s m args below meth c H locs ls hX hP hK hI hz hS hL
  exact lv_ldc2 hX.1 hX.2.1 hX.2.2.2.2.2.1 (hX.2.2.2.2.2.2.1 _ hc) hd (k l z D cc p e s m args below meth c H locs ls hX hP hK hI hz hS hL)
theorem z_if_eq {x : Int32} {off : Int} {tgt : Nat} (hd : zB Y pc (.ifCond .eq off) off 3 pc' tgt) (kt : x = 0 → zE R B Y tgt L st cu su M) (kf : ¬ x = 0 → zE R B Y pc' L st cu su M) : zE R B Y pc L (.int x :: st) cu su M := by
  obtain ⟨hd, rfl, ht⟩ := hd
  intro l z D cc p e s m args below meth c H locs ls hX hP hK hI hz hS hL
  exact lv_if_eq hX.1 hX.2.1 hd ht (fun q => kt q l z D cc p e s m args below meth c H locs ls hX hP hK hI hz hS hL) (fun q => kf q l z D cc p e s m args below meth c H locs ls hX hP hK hI hz hS hL)
theorem z_if_ne {x : Int32} {off : Int} {tgt : Nat} (hd : zB Y pc (.ifCond .ne off) off 3 pc' tgt) (kt : ¬ x = 0 → zE R B Y tgt L st cu su M) (kf : x = 0 → zE R B Y pc' L st cu su M) : zE R B Y pc L (.int x :: st) cu su M := by
  obtain ⟨hd, rfl, ht⟩ := hd
  intro l z D cc p e s m args below meth c H locs ls hX hP hK hI hz hS hL
  exact lv_if_ne hX.1 hX.2.1 hd ht (fun q => kt q l z D cc p e s m args below meth c H locs ls hX hP hK hI hz hS hL) (fun q => kf q l z D cc p e s m args below meth c H locs ls hX hP hK hI hz hS hL)
theorem z_if_lt {x : Int32} {off : Int} {tgt : Nat} (hd : zB Y pc (.ifCond .lt off) off 3 pc' tgt) (kt : x < 0 → zE R B Y tgt L st cu su M) (kf : ¬ x < 0 → zE R B Y pc' L st cu su M) : zE R B Y pc L (.int x :: st) cu su M := by
  obtain ⟨hd, rfl, ht⟩ := hd
  intro l z D cc p e s m args below meth c H locs ls hX hP hK hI hz hS hL
  exact lv_if_lt hX.1 hX.2.1 hd ht (fun q => kt q l z D cc p e s m args below meth c H locs ls hX hP hK hI hz hS hL) (fun q => kf q l z D cc p e s m args below meth c H locs ls hX hP hK hI hz hS hL)
theorem z_if_ge {x : Int32} {off : Int} {tgt : Nat} (hd : zB Y pc (.ifCond .ge off) off 3 pc' tgt) (kt : 0 ≤ x → zE R B Y tgt L st cu su M) (kf : ¬ 0 ≤ x → zE R B Y pc' L st cu su M) : zE R B Y pc L (.int x :: st) cu su M := by
  obtain ⟨hd, rfl, ht⟩ := hd
  intro l z D cc p e s m args below meth c H locs ls hX hP hK hI hz hS hL
  exact lv_if_ge hX.1 hX.2.1 hd ht (fun q => kt q l z D cc p e s m args below meth c H locs ls hX hP hK hI hz hS hL) (fun q => kf q l z D cc p e s m args below meth c H locs ls hX hP hK hI hz hS hL)
theorem z_if_gt {x : Int32} {off : Int} {tgt : Nat} (hd : zB Y pc (.ifCond .gt off) off 3 pc' tgt) (kt : 0 < x → zE R B Y tgt L st cu su M) (kf : ¬ 0 < x → zE R B Y pc' L st cu su M) : zE R B Y pc L (.int x :: st) cu su M := by
  obtain ⟨hd, rfl, ht⟩ := hd
  intro l z D cc p e s m args below meth c H locs ls hX hP hK hI hz hS hL
  exact lv_if_gt hX.1 hX.2.1 hd ht (fun q => kt q l z D cc p e s m args below meth c H locs ls hX hP hK hI hz hS hL) (fun q => kf q l z D cc p e s m args below meth c H locs ls hX hP hK hI hz hS hL)
theorem z_if_le {x : Int32} {off : Int} {tgt : Nat} (hd : zB Y pc (.ifCond .le off) off 3 pc' tgt) (kt : x ≤ 0 → zE R B Y tgt L st cu su M) (kf : ¬ x ≤ 0 → zE R B Y pc' L st cu su M) : zE R B Y pc L (.int x :: st) cu su M := by
  obtain ⟨hd, rfl, ht⟩ := hd
  intro l z D cc p e s m args below meth c H locs ls hX hP hK hI hz hS hL
  exact lv_if_le hX.1 hX.2.1 hd ht (fun q => kt q l z D cc p e s m args below meth c H locs ls hX hP hK hI hz hS hL) (fun q => kf q l z D cc p e s m args below meth c H locs ls hX hP hK hI hz hS hL)
theorem z_icmp_eq {x y : Int32} {off : Int} {tgt : Nat} (hd : zB Y pc (.if_icmp .eq off) off 3 pc' tgt) (kt : x = y → zE R B Y tgt L st cu su M) (kf : ¬ x = y → zE R B Y pc' L st cu su M) : zE R B Y pc L (.int y :: .int x :: st) cu su M := by
  obtain ⟨hd, rfl, ht⟩ := hd
  intro l z D cc p e s m args below meth c H locs ls hX hP hK hI hz hS hL
  exact lv_icmp_eq hX.1 hX.2.1 hd ht (fun q => kt q l z D cc p e s m args below meth c H locs ls hX hP hK hI hz hS hL) (fun q => kf q l z D cc p e s m args below meth c H locs ls hX hP hK hI hz hS hL)
theorem z_icmp_ne {x y : Int32} {off : Int} {tgt : Nat} (hd : zB Y pc (.if_icmp .ne off) off 3 pc' tgt) (kt : ¬ x = y → zE R B Y tgt L st cu su M) (kf : x = y → zE R B Y pc' L st cu su M) : zE R B Y pc L (.int y :: .int x :: st) cu su M := by
  obtain ⟨hd, rfl, ht⟩ := hd
  intro l z D cc p e s m args below meth c H locs ls hX hP hK hI hz hS hL
  exact lv_icmp_ne hX.1 hX.2.1 hd ht (fun q => kt q l z D cc p e s m args below meth c H locs ls hX hP hK hI hz hS hL) (fun q => kf q l z D cc p e s m args below meth c H locs ls hX hP hK hI hz hS hL)
theorem z_icmp_lt {x y : Int32} {off : Int} {tgt : Nat} (hd : zB Y pc (.if_icmp .lt off) off 3 pc' tgt) (kt : x < y → zE R B Y tgt L st cu su M) (kf : ¬ x < y → zE R B Y pc' L st cu su M) : zE R B Y pc L (.int y :: .int x :: st) cu su M := by
  obtain ⟨hd, rfl, ht⟩ := hd
  intro l z D cc p e s m args below meth c H locs ls hX hP hK hI hz hS hL
  exact lv_icmp_lt hX.1 hX.2.1 hd ht (fun q => kt q l z D cc p e s m args below meth c H locs ls hX hP hK hI hz hS hL) (fun q => kf q l z D cc p e s m args below meth c H locs ls hX hP hK hI hz hS hL)
theorem z_icmp_ge {x y : Int32} {off : Int} {tgt : Nat} (hd : zB Y pc (.if_icmp .ge off) off 3 pc' tgt) (kt : y ≤ x → zE R B Y tgt L st cu su M) (kf : ¬ y ≤ x → zE R B Y pc' L st cu su M) : zE R B Y pc L (.int y :: .int x :: st) cu su M := by
  obtain ⟨hd, rfl, ht⟩ := hd
  intro l z D cc p e s m args below meth c H locs ls hX hP hK hI hz hS hL
  exact lv_icmp_ge hX.1 hX.2.1 hd ht (fun q => kt q l z D cc p e s m args below meth c H locs ls hX hP hK hI hz hS hL) (fun q => kf q l z D cc p e s m args below meth c H locs ls hX hP hK hI hz hS hL)
theorem z_icmp_gt {x y : Int32} {off : Int} {tgt : Nat} (hd : zB Y pc (.if_icmp .gt off) off 3 pc' tgt) (kt : y < x → zE R B Y tgt L st cu su M) (kf : ¬ y < x → zE R B Y pc' L st cu su M) : zE R B Y pc L (.int y :: .int x :: st) cu su M := by
  obtain ⟨hd, rfl, ht⟩ := hd
  intro l z D cc p e s m args below meth c H locs ls hX hP hK hI hz hS hL
  exact lv_icmp_gt hX.1 hX.2.1 hd ht (fun q => kt q l z D cc p e s m args below meth c H locs ls hX hP hK hI hz hS hL) (fun q => kf q l z D cc p e s m args below meth c H locs ls hX hP hK hI hz hS hL)
theorem z_icmp_le {x y : Int32} {off : Int} {tgt : Nat} (hd : zB Y pc (.if_icmp .le off) off 3 pc' tgt) (kt : x ≤ y → zE R B Y tgt L st cu su M) (kf : ¬ x ≤ y → zE R B Y pc' L st cu su M) : zE R B Y pc L (.int y :: .int x :: st) cu su M := by
  obtain ⟨hd, rfl, ht⟩ := hd
  intro l z D cc p e s m args below meth c H locs ls hX hP hK hI hz hS hL
  exact lv_icmp_le hX.1 hX.2.1 hd ht (fun q => kt q l z D cc p e s m args below meth c H locs ls hX hP hK hI hz hS hL) (fun q => kf q l z D cc p e s m args below meth c H locs ls hX hP hK hI hz hS hL)
theorem z_goto {off : Int} {tgt : Nat} (hd : zB Y pc (.goto off) off 3 pc' tgt) (k : zE R B Y tgt L st cu su M) : zE R B Y pc L st cu su M := by
  obtain ⟨hd, rfl, ht⟩ := hd
  intro l z D cc p e s m args below meth c H locs ls hX hP hK hI hz hS hL
  exact lv_goto hX.1 hX.2.1 hd ht (k l z D cc p e s m args below meth c H locs ls hX hP hK hI hz hS hL)
theorem z_tsIn {dflt lo hi : Int} {offs : Array Int} {len : Nat} {x : Int32} {off : Int} {tgt : Nat} (hd : zN Y pc (.tableswitch dflt lo hi offs) len pc') (h1 : ¬ x.toInt < lo) (h2 : ¬ hi < x.toInt) (ho : offs[(x.toInt - lo).toNat]? = some off) (ht : (pc : Int) + off = (tgt : Int)) (k : zE R B Y tgt L st cu su M) : zE R B Y pc L (.int x :: st) cu su M := by
  obtain ⟨hd, rfl⟩ := hd
  intro l z D cc p e s m args below meth c H locs ls hX hP hK hI hz hS hL
  exact lv_tableIn hX.1 hX.2.1 hd h1 h2 ho ht (k l z D cc p e s m args below meth c H locs ls hX hP hK hI hz hS hL)
theorem z_tsOut {dflt lo hi : Int} {offs : Array Int} {len : Nat} {x : Int32} {tgt : Nat} (hd : zN Y pc (.tableswitch dflt lo hi offs) len pc') (h : x.toInt < lo ∨ hi < x.toInt) (ht : (pc : Int) + dflt = (tgt : Int)) (k : zE R B Y tgt L st cu su M) : zE R B Y pc L (.int x :: st) cu su M := by
  obtain ⟨hd, rfl⟩ := hd
  intro l z D cc p e s m args below meth c H locs ls hX hP hK hI hz hS hL
  exact lv_tableOut hX.1 hX.2.1 hd h ht (k l z D cc p e s m args below meth c H locs ls hX hP hK hI hz hS hL)
def zLa (z : Nat) (L : List (Option Value)) : List (Nat × Value) := (List.range L.length).filterMap (fun i => (L[i]?.join).map (fun v => (i, sv z v)))
theorem zLa_mem {z : Nat} {L : List (Option Value)} {q : Nat × Value} : q ∈ zLa z L ↔ ∃ v, L[q.1]? = some (some v) ∧ q.2 = sv z v := by
  constructor
  · intro h
    obtain ⟨i, -, hi⟩ := List.mem_filterMap.mp h
    cases h1 : L[i]? with
    | none => rw [h1] at hi; cases hi
    | some o =>
      cases o with
      | none => rw [h1] at hi; cases hi
      | some v =>
        rw [h1] at hi
        cases hi
        exact ⟨v, h1, rfl⟩
  · rintro ⟨v, h1, h2⟩
    refine List.mem_filterMap.mpr ⟨q.1, List.mem_range.mpr (List.getElem?_eq_some_iff.mp h1).1, ?_⟩
    rw [h1]
    show some (q.1, sv z v) = some q
    rw [← h2]
theorem zL.has {z nL : Nat} {L : List (Option Value)} {ls : Array Slot} (h : zL z nL L ls) : lv_has ls nL (zLa z L) :=
  ⟨h.1.1, h.1.2.1, fun q hq => by obtain ⟨v, h1, h2⟩ := zLa_mem.1 hq; rw [h2]; exact h.2 _ _ h1⟩
def zSt (L : List (Option Value)) : Nat → Bool
  | 0 => true
  | j + 1 => match L[j]? with
    | some (some v) => v.category == 1
    | _ => true
theorem zSt_ok {z : Nat} {L : List (Option Value)} {i j : Nat} {w : Value} (h : zSt L i = true) (hj : L[j]? = some (some w)) (hji : ¬ j = i) : (!(j == i) && !(j + 1 == i && (sv z w).category == 2)) = true := by
  have h1 : (j == i) = false := by simpa using hji
  rw [h1]
  cases i with
  | zero => simp
  | succ i =>
    by_cases h2 : j = i
    · subst h2
      simp only [zSt, hj] at h
      have h3 : w.category = 1 := by simpa using h
      rw [sv_cat, h3]
      simp
    · have : (j + 1 == i + 1) = false := by simpa using h2
      simp [this]
theorem zL.set1 {z nL i : Nat} {L : List (Option Value)} {ls' : Array Slot} {v : Value} (hs : zSt L i = true) (h : lv_has ls' nL ((i, sv z v) :: (zLa z L).filter (fun q => !(q.1 == i) && !(q.1 + 1 == i && q.2.category == 2)))) : zL z nL (L.set i (some v)) ls' := by
  refine ⟨⟨h.1, h.2.1, fun q hq => by cases hq⟩, fun j w hj => ?_⟩
  by_cases hji : j = i
  · subst hji
    have hlt : j < (L.set j (some v)).length := (List.getElem?_eq_some_iff.mp hj).1
    rw [List.getElem?_set_self (by simpa using hlt)] at hj
    cases hj
    exact h.2.2 (j, sv z v) List.mem_cons_self
  · rw [List.getElem?_set_ne (Ne.symm hji)] at hj
    refine h.2.2 (j, sv z w) (List.mem_cons_of_mem _ (List.mem_filter.mpr ⟨zLa_mem.2 ⟨w, hj, rfl⟩, ?_⟩))
    exact zSt_ok hs hj hji
theorem zL.set2 {z nL i : Nat} {L : List (Option Value)} {ls' : Array Slot} {v : Value} (hs : zSt L i = true) (h : lv_has ls' nL ((i, sv z v) :: (zLa z L).filter (fun q => !(q.1 == i) && (!(q.1 == i + 1) && !(q.1 + 1 == i && q.2.category == 2))))) : zL z nL ((L.set i (some v)).set (i + 1) none) ls' := by
  refine ⟨⟨h.1, h.2.1, fun q hq => by cases hq⟩, fun j w hj => ?_⟩
  by_cases hj1 : j = i + 1
  · subst hj1
    have hlt : i + 1 < ((L.set i (some v)).set (i + 1) none).length := (List.getElem?_eq_some_iff.mp hj).1
    rw [List.getElem?_set_self (by simpa using hlt)] at hj
    cases hj
  · rw [List.getElem?_set_ne (Ne.symm hj1)] at hj
    by_cases hji : j = i
    · subst hji
      have hlt : j < (L.set j (some v)).length := (List.getElem?_eq_some_iff.mp hj).1
      rw [List.getElem?_set_self (by simpa using hlt)] at hj
      cases hj
      exact h.2.2 (j, sv z v) List.mem_cons_self
    · rw [List.getElem?_set_ne (Ne.symm hji)] at hj
      refine h.2.2 (j, sv z w) (List.mem_cons_of_mem _ (List.mem_filter.mpr ⟨zLa_mem.2 ⟨w, hj, rfl⟩, ?_⟩))
      have h1 := zSt_ok (z := z) hs hj hji
      simp only [Bool.and_eq_true] at h1 ⊢
      exact ⟨h1.1, by simpa using hj1, h1.2⟩
theorem z_istore_n {i : Fin 4} {x : Int32} {L' : List (Option Value)} (hd : zN Y pc (.istore_n i) 1 pc') (hn : (i : Nat) < Y.2.2.1) (hs : zSt L (i : Nat) = true) (hl : L.set (i : Nat) (some (.int x)) = L') (k : zE R B Y pc' L' st cu su M) : zE R B Y pc L (.int x :: st) cu su M := by
  obtain ⟨hd, rfl⟩ := hd
  subst hl
  intro l z D cc p e s m args below meth c H locs ls hX hP hK hI hz hS hL
  exact lv_istore_n hX.1 hX.2.1 hd rfl hL.has hn rfl (fun ls' h' => k l z D cc p e s m args below meth c H locs ls' hX hP hK hI hz hS (hL.1.1 ▸ zL.set1 (v := .int x) hs (hL.1.1 ▸ h')))
theorem z_istore {i : Nat} {x : Int32} {L' : List (Option Value)} (hd : zN Y pc (.istore i) 2 pc') (hn : i < Y.2.2.1) (hs : zSt L i = true) (hl : L.set i (some (.int x)) = L') (k : zE R B Y pc' L' st cu su M) : zE R B Y pc L (.int x :: st) cu su M := by
  obtain ⟨hd, rfl⟩ := hd
  subst hl
  intro l z D cc p e s m args below meth c H locs ls hX hP hK hI hz hS hL
  exact lv_istore hX.1 hX.2.1 hd hL.has hn rfl (fun ls' h' => k l z D cc p e s m args below meth c H locs ls' hX hP hK hI hz hS (hL.1.1 ▸ zL.set1 (v := .int x) hs (hL.1.1 ▸ h')))
theorem z_astore_n {i : Fin 4} {x : Nat} {L' : List (Option Value)} (hd : zN Y pc (.astore_n i) 1 pc') (hn : (i : Nat) < Y.2.2.1) (hs : zSt L (i : Nat) = true) (hl : L.set (i : Nat) (some (.ref x)) = L') (k : zE R B Y pc' L' st cu su M) : zE R B Y pc L (.ref x :: st) cu su M := by
  obtain ⟨hd, rfl⟩ := hd
  subst hl
  intro l z D cc p e s m args below meth c H locs ls hX hP hK hI hz hS hL
  exact lv_astore_n hX.1 hX.2.1 hd rfl hL.has hn rfl (fun ls' h' => k l z D cc p e s m args below meth c H locs ls' hX hP hK hI hz hS (hL.1.1 ▸ zL.set1 (v := .ref x) hs (hL.1.1 ▸ h')))
theorem z_astore {i : Nat} {x : Nat} {L' : List (Option Value)} (hd : zN Y pc (.astore i) 2 pc') (hn : i < Y.2.2.1) (hs : zSt L i = true) (hl : L.set i (some (.ref x)) = L') (k : zE R B Y pc' L' st cu su M) : zE R B Y pc L (.ref x :: st) cu su M := by
  obtain ⟨hd, rfl⟩ := hd
  subst hl
  intro l z D cc p e s m args below meth c H locs ls hX hP hK hI hz hS hL
  exact lv_astore hX.1 hX.2.1 hd hL.has hn rfl (fun ls' h' => k l z D cc p e s m args below meth c H locs ls' hX hP hK hI hz hS (hL.1.1 ▸ zL.set1 (v := .ref x) hs (hL.1.1 ▸ h')))
theorem z_lstore_n {i : Fin 4} {x : Int64} {L' : List (Option Value)} (hd : zN Y pc (.lstore_n i) 1 pc') (hn : (i : Nat) + 1 < Y.2.2.1) (hs : zSt L (i : Nat) = true) (hl : (L.set (i : Nat) (some (.long x))).set ((i : Nat) + 1) none = L') (k : zE R B Y pc' L' st cu su M) : zE R B Y pc L (.long x :: st) cu su M := by
  obtain ⟨hd, rfl⟩ := hd
  subst hl
  intro l z D cc p e s m args below meth c H locs ls hX hP hK hI hz hS hL
  exact lv_lstore_n hX.1 hX.2.1 hd rfl hL.has hn rfl (fun ls' h' => k l z D cc p e s m args below meth c H locs ls' hX hP hK hI hz hS (hL.1.1 ▸ zL.set2 (v := .long x) hs (hL.1.1 ▸ h')))
theorem z_lstore {i : Nat} {x : Int64} {L' : List (Option Value)} (hd : zN Y pc (.lstore i) 2 pc') (hn : i + 1 < Y.2.2.1) (hs : zSt L i = true) (hl : (L.set i (some (.long x))).set (i + 1) none = L') (k : zE R B Y pc' L' st cu su M) : zE R B Y pc L (.long x :: st) cu su M := by
  obtain ⟨hd, rfl⟩ := hd
  subst hl
  intro l z D cc p e s m args below meth c H locs ls hX hP hK hI hz hS hL
  exact lv_lstore hX.1 hX.2.1 hd hL.has hn rfl (fun ls' h' => k l z D cc p e s m args below meth c H locs ls' hX hP hK hI hz hS (hL.1.1 ▸ zL.set2 (v := .long x) hs (hL.1.1 ▸ h')))
theorem z_iinc {i : Nat} {n : Int} {x v : Int32} {L' : List (Option Value)} (hd : zN Y pc (.iinc i n) 3 pc') (hx : L[i]? = some (some (.int x))) (hv : x + Int32.ofInt n = v) (hn : i < Y.2.2.1) (hs : zSt L i = true) (hl : L.set i (some (.int v)) = L') (k : zE R B Y pc' L' st cu su M) : zE R B Y pc L st cu su M := by
  obtain ⟨hd, rfl⟩ := hd
  subst hl
  intro l z D cc p e s m args below meth c H locs ls hX hP hK hI hz hS hL
  obtain ⟨q, hq⟩ := List.getElem?_of_mem (zLa_mem (z := z) (q := (i, .int x)).2 ⟨.int x, hx, rfl⟩)
  exact lv_iinc hX.1 hX.2.1 hd hL.has hq hv hn rfl (fun ls' h' => k l z D cc p e s m args below meth c H locs ls' hX hP hK hI hz hS (hL.1.1 ▸ zL.set1 (v := .int v) hs (hL.1.1 ▸ h')))
theorem z_iret {d mc ms : Nat} {Q : Option Value → zMu → Prop} {x : Int32} (hd : zN Y pc .ireturn 1 pc') (hr : Y.2.2.2 = some .int) (h1 : cu ≤ mc) (h2 : su ≤ ms) (hq : Q (some (.int x)) M) : zE (zrm d mc ms) (zb mc ms Q) Y pc L [.int x] cu su M := by
  obtain ⟨hd, rfl⟩ := hd
  intro l z D cc p e s m args below meth c H locs ls hX hP hK hI hz hS hL
  refine W.widen h1 h2 (W.iret hX.1 hX.2.1 (hX.2.2.2.1.trans hr) (fun t ht hW => ⟨⟨some (.int x), M, rfl, hq, by rw [ht]; exact hI⟩, hS.F ht⟩) hS.2.2 hd hX.2.2.2.2.1)
theorem z_zret {d mc ms : Nat} {Q : Option Value → zMu → Prop} {x : Int32} (hd : zN Y pc .ireturn 1 pc') (hr : Y.2.2.2 = some .boolean) (hn : narrow .boolean (.int x) = .int x) (h1 : cu ≤ mc) (h2 : su ≤ ms) (hq : Q (some (.int x)) M) : zE (zrm d mc ms) (zb mc ms Q) Y pc L [.int x] cu su M := by
  obtain ⟨hd, rfl⟩ := hd
  intro l z D cc p e s m args below meth c H locs ls hX hP hK hI hz hS hL
  refine W.widen h1 h2 (W.zret hX.1 hX.2.1 (hX.2.2.2.1.trans hr) hn (fun t ht hW => ⟨⟨some (.int x), M, rfl, hq, by rw [ht]; exact hI⟩, hS.F ht⟩) hS.2.2 hd hX.2.2.2.2.1)
theorem z_vret {d mc ms : Nat} {Q : Option Value → zMu → Prop} (hd : zN Y pc .return_ 1 pc') (hr : Y.2.2.2 = none) (h1 : cu ≤ mc) (h2 : su ≤ ms) (hq : Q none M) : zE (zrm d mc ms) (zb mc ms Q) Y pc L [] cu su M := by
  obtain ⟨hd, rfl⟩ := hd
  intro l z D cc p e s m args below meth c H locs ls hX hP hK hI hz hS hL
  refine W.widen h1 h2 (W.vret hX.1 hX.2.1 (hX.2.2.2.1.trans hr) (fun t ht hW => ⟨⟨none, M, rfl, hq, by rw [ht]; exact hI⟩, hS.F ht⟩) hS.2.2 hd hX.2.2.2.2.1)
theorem z_aret {d mc ms : Nat} {Q : Option Value → zMu → Prop} {a : Nat} {C : String} (hd : zN Y pc .areturn 1 pc') (hr : Y.2.2.2 = some (.object C)) (h1 : cu ≤ mc) (h2 : su ≤ ms) (hq : Q (some (.ref a)) M) : zE (zrm d mc ms) (zb mc ms Q) Y pc L [.ref a] cu su M := by
  obtain ⟨hd, rfl⟩ := hd
  intro l z D cc p e s m args below meth c H locs ls hX hP hK hI hz hS hL
  refine W.widen h1 h2 (W.aret hX.1 hX.2.1 (hX.2.2.2.1.trans hr) (Or.inl ⟨_, rfl⟩) (Or.inr ⟨_, rfl⟩) (fun t ht hW => ⟨⟨some (.ref a), M, rfl, hq, by rw [ht]; exact hI⟩, hS.F ht⟩) hS.2.2 hd hX.2.2.2.2.1)
end ZR

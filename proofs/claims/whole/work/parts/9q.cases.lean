/-! ===== the law: its cases ===== -/
abbrev LL (bb : Nat) (i : Int) : List (Option Value) := [some (.retAddr bb), some (.ref 0), some (.ref 134), some (.int (iI i))]
section
variable {V : Nat → Int → Int} {b : Bool} {n i : Int} {bb Lb cu su : Nat} {xs : Nat → Int32}
theorem lc_feed (h : RR V b n) (hn : n + 1 ≤ 64) (hL : Lb ≤ 256) (hi : 0 ≤ i ∧ i + 4 ≤ (Lb : Int)) (hc : cu ≤ room_1.cells) (hs : su ≤ room_1.slots) (kk : ∀ (V' : Nat → Int → Int) (b' : Bool), RR V' b' (n + 1) → zE room_1 (lwB bb Lb xs) mL_law 964 (LL bb i) [] cu su (mk S0 V' (Fs b'))) : zE room_1 (lwB bb Lb xs) mL_law 168 (LL bb i) [] cu su (mk S0 V (Fs b)) := by
  have hnr := h.1
  have hnw := (RR_P h).2.2.1
  have hpc := (RR_P h).2.1
  refine z_aload_n dL_law_168 rfl ?_
  refine z_aloadX_n dL_law_169 rfl ?_
  refine z_iload_n dL_law_170 rfl ?_
  refine y_iconst dL_law_171 ?_
  refine y_iadd dL_law_172 ?_
  refine z_sld dL_law_173 (by omega) hL ?_
  refine l_callI (ct_X10_feed (sx_rg xs (i + 1)) (RR_tX h).1) kL_13 dL_law_174 rfl rfl rfl rfl ⟨Nat.le_of_ble_eq_true rfl, Nat.le_of_ble_eq_true rfl⟩ (Nat.le_of_ble_eq_true rfl) hc hs (fun q V1 hx => ?_)
  have xo : ∀ a : Nat, 134 ≤ a → V1 a = V a := xo_feed hx
  obtain ⟨m1, m2, m3, m4, m5, m6, m7, m8, m9, m10, m11, m12, m13, m14⟩ := mmN_c (mmN_0 h) xo
  refine z_aload_n dL_law_177 rfl ?_
  refine z_aloadX_n dL_law_178 rfl ?_
  refine z_iload_n dL_law_179 rfl ?_
  refine y_iconst dL_law_180 ?_
  refine y_iadd dL_law_181 ?_
  refine z_sld dL_law_182 (by omega) hL ?_
  refine l_callI (ct_X11_feed (sx_rg xs (i + 1)) m6.1) kL_17 dL_law_183 rfl rfl rfl rfl ⟨Nat.le_of_ble_eq_true rfl, Nat.le_of_ble_eq_true rfl⟩ (Nat.le_of_ble_eq_true rfl) hc hs (fun q' V2 hm => ?_)
  have hr : q' = q ∧ RR V2 b (n + 1) := rr_feed h hn hx hm
  exact z_icmp_eq dL_law_186 (fun _ => kk V2 b hr.2) (fun hne => absurd (by rw [hr.1]) hne)
theorem lc_yard (h : RR V b n) (hn : n + 1 ≤ 64) (hL : Lb ≤ 256) (hi : 0 ≤ i ∧ i + 4 ≤ (Lb : Int)) (hc : cu ≤ room_1.cells) (hs : su ≤ room_1.slots) (kk : ∀ (V' : Nat → Int → Int) (b' : Bool), RR V' b' (n + 1) → zE room_1 (lwB bb Lb xs) mL_law 964 (LL bb i) [] cu su (mk S0 V' (Fs b'))) : zE room_1 (lwB bb Lb xs) mL_law 191 (LL bb i) [] cu su (mk S0 V (Fs b)) := by
  have hnr := h.1
  have hnw := (RR_P h).2.2.1
  have hpc := (RR_P h).2.1
  have htu : tuR V (yD b) := by
    rcases yD_Y b with hy | hy <;> rw [hy]
    · exact h.2.2.1.2.2.1
    · exact h.2.2.1.2.2.2
  refine z_aload_n dL_law_191 rfl ?_
  refine l_callY (ct_X10_yard (RR_tX h) htu (RR_cN h) (RR_wN h) (RR_p6 h) (rd0M_0 V)) kL_18 dL_law_192 rfl rfl rfl rfl ⟨Nat.le_of_ble_eq_true rfl, Nat.le_of_ble_eq_true rfl⟩ (Nat.le_of_ble_eq_true rfl) hc hs (fun q V1 b1 hx => ?_)
  have xo : ∀ a : Nat, 134 ≤ a → V1 a = V a := xo_yard hx
  obtain ⟨m1, m2, m3, m4, m5, m6, m7, m8, m9, m10, m11, m12, m13, m14⟩ := mmN_c (mmN_0 h) xo
  refine z_aload_n dL_law_195 rfl ?_
  refine l_callI (ct_X11_yard m6) kL_22 dL_law_196 rfl rfl rfl rfl ⟨Nat.le_of_ble_eq_true rfl, Nat.le_of_ble_eq_true rfl⟩ (Nat.le_of_ble_eq_true rfl) hc hs (fun q' V2 hm => ?_)
  have hr : q' = q ∧ RR V2 b1 (n + 1) := rr_yard h hn hx hm xo
  exact z_icmp_eq dL_law_199 (fun _ => kk V2 b1 hr.2) (fun hne => absurd (by rw [hr.1]) hne)
theorem lc_fault (h : RR V b n) (hn : n + 1 ≤ 64) (hL : Lb ≤ 256) (hi : 0 ≤ i ∧ i + 4 ≤ (Lb : Int)) (hc : cu ≤ room_1.cells) (hs : su ≤ room_1.slots) (kk : ∀ (V' : Nat → Int → Int) (b' : Bool), RR V' b' (n + 1) → zE room_1 (lwB bb Lb xs) mL_law 964 (LL bb i) [] cu su (mk S0 V' (Fs b'))) : zE room_1 (lwB bb Lb xs) mL_law 204 (LL bb i) [] cu su (mk S0 V (Fs b)) := by
  have hnr := h.1
  have hnw := (RR_P h).2.2.1
  have hpc := (RR_P h).2.1
  refine z_aload_n dL_law_204 rfl ?_
  refine l_callR (ct_X10_fault) kL_23 dL_law_205 rfl rfl rfl rfl ⟨Nat.le_of_ble_eq_true rfl, Nat.le_of_ble_eq_true rfl⟩ (Nat.le_of_ble_eq_true rfl) hc hs (fun q hx => ?_)
  obtain ⟨m1, m2, m3, m4, m5, m6, m7, m8, m9, m10, m11, m12, m13, m14⟩ := mmN_0 h
  refine z_aload_n dL_law_208 rfl ?_
  refine l_callR (ct_X11_fault) kL_26 dL_law_209 rfl rfl rfl rfl ⟨Nat.le_of_ble_eq_true rfl, Nat.le_of_ble_eq_true rfl⟩ (Nat.le_of_ble_eq_true rfl) hc hs (fun q' hm => ?_)
  have hr : q' = q := (by rw [hm, hx]; exact (RR_T h).2.2.2.symm)
  exact z_icmp_eq dL_law_212 (fun _ => kk V b (RR_up h hn)) (fun hne => absurd (by rw [hr]) hne)
theorem lc_told (h : RR V b n) (hn : n + 1 ≤ 64) (hL : Lb ≤ 256) (hi : 0 ≤ i ∧ i + 4 ≤ (Lb : Int)) (hc : cu ≤ room_1.cells) (hs : su ≤ room_1.slots) (kk : ∀ (V' : Nat → Int → Int) (b' : Bool), RR V' b' (n + 1) → zE room_1 (lwB bb Lb xs) mL_law 964 (LL bb i) [] cu su (mk S0 V' (Fs b'))) : zE room_1 (lwB bb Lb xs) mL_law 217 (LL bb i) [] cu su (mk S0 V (Fs b)) := by
  have hnr := h.1
  have hnw := (RR_P h).2.2.1
  have hpc := (RR_P h).2.1
  refine z_aload_n dL_law_217 rfl ?_
  refine z_aloadX_n dL_law_218 rfl ?_
  refine z_iload_n dL_law_219 rfl ?_
  refine y_iconst dL_law_220 ?_
  refine y_iadd dL_law_221 ?_
  refine z_sld dL_law_222 (by omega) hL ?_
  refine l_callR (ct_X10_told (sx_rg xs (i + 1))) kL_27 dL_law_223 rfl rfl rfl rfl ⟨Nat.le_of_ble_eq_true rfl, Nat.le_of_ble_eq_true rfl⟩ (Nat.le_of_ble_eq_true rfl) hc hs (fun q hx => ?_)
  obtain ⟨m1, m2, m3, m4, m5, m6, m7, m8, m9, m10, m11, m12, m13, m14⟩ := mmN_0 h
  refine z_aload_n dL_law_226 rfl ?_
  refine z_aloadX_n dL_law_227 rfl ?_
  refine z_iload_n dL_law_228 rfl ?_
  refine y_iconst dL_law_229 ?_
  refine y_iadd dL_law_230 ?_
  refine z_sld dL_law_231 (by omega) hL ?_
  refine l_callR (ct_X11_told (sx_rg xs (i + 1))) kL_30 dL_law_232 rfl rfl rfl rfl ⟨Nat.le_of_ble_eq_true rfl, Nat.le_of_ble_eq_true rfl⟩ (Nat.le_of_ble_eq_true rfl) hc hs (fun q' hm => ?_)
  have hr : q' = q := (by rw [hm, hx]; exact rr_told h)
  exact z_icmp_eq dL_law_235 (fun _ => kk V b (RR_up h hn)) (fun hne => absurd (by rw [hr]) hne)
theorem lc_wagon (h : RR V b n) (hn : n + 1 ≤ 64) (hL : Lb ≤ 256) (hi : 0 ≤ i ∧ i + 4 ≤ (Lb : Int)) (hc : cu ≤ room_1.cells) (hs : su ≤ room_1.slots) (kk : ∀ (V' : Nat → Int → Int) (b' : Bool), RR V' b' (n + 1) → zE room_1 (lwB bb Lb xs) mL_law 964 (LL bb i) [] cu su (mk S0 V' (Fs b'))) : zE room_1 (lwB bb Lb xs) mL_law 240 (LL bb i) [] cu su (mk S0 V (Fs b)) := by
  have hnr := h.1
  have hnw := (RR_P h).2.2.1
  have hpc := (RR_P h).2.1
  refine z_aload_n dL_law_240 rfl ?_
  refine z_aloadX_n dL_law_241 rfl ?_
  refine z_iload_n dL_law_242 rfl ?_
  refine y_iconst dL_law_243 ?_
  refine y_iadd dL_law_244 ?_
  refine z_sld dL_law_245 (by omega) hL ?_
  refine z_aloadX_n dL_law_246 rfl ?_
  refine z_iload_n dL_law_247 rfl ?_
  refine y_iconst dL_law_248 ?_
  refine y_iadd dL_law_249 ?_
  refine z_sld dL_law_250 (by omega) hL ?_
  refine l_callR (ct_X10_wagon (sx_rg xs (i + 1)) (sx_rg xs (i + 2)) (RR_YS h) (RR_cN h) (RR_wN h)) kL_31 dL_law_251 rfl rfl rfl rfl ⟨Nat.le_of_ble_eq_true rfl, Nat.le_of_ble_eq_true rfl⟩ (Nat.le_of_ble_eq_true rfl) hc hs (fun q hx => ?_)
  obtain ⟨m1, m2, m3, m4, m5, m6, m7, m8, m9, m10, m11, m12, m13, m14⟩ := mmN_0 h
  refine z_aload_n dL_law_254 rfl ?_
  refine z_aloadX_n dL_law_255 rfl ?_
  refine z_iload_n dL_law_256 rfl ?_
  refine y_iconst dL_law_257 ?_
  refine y_iadd dL_law_258 ?_
  refine z_sld dL_law_259 (by omega) hL ?_
  refine z_aloadX_n dL_law_260 rfl ?_
  refine z_iload_n dL_law_261 rfl ?_
  refine y_iconst dL_law_262 ?_
  refine y_iadd dL_law_263 ?_
  refine z_sld dL_law_264 (by omega) hL ?_
  refine l_callR (ct_X11_wagon (sx_rg xs (i + 1)) (sx_rg xs (i + 2)) m1 m2) kL_35 dL_law_265 rfl rfl rfl rfl ⟨Nat.le_of_ble_eq_true rfl, Nat.le_of_ble_eq_true rfl⟩ (Nat.le_of_ble_eq_true rfl) hc hs (fun q' hm => ?_)
  have hr : q' = q := rr_wagon h hx hm
  exact z_icmp_eq dL_law_268 (fun _ => kk V b (RR_up h hn)) (fun hne => absurd (by rw [hr]) hne)
theorem lc_road (h : RR V b n) (hn : n + 1 ≤ 64) (hL : Lb ≤ 256) (hi : 0 ≤ i ∧ i + 4 ≤ (Lb : Int)) (hc : cu ≤ room_1.cells) (hs : su ≤ room_1.slots) (kk : ∀ (V' : Nat → Int → Int) (b' : Bool), RR V' b' (n + 1) → zE room_1 (lwB bb Lb xs) mL_law 964 (LL bb i) [] cu su (mk S0 V' (Fs b'))) : zE room_1 (lwB bb Lb xs) mL_law 273 (LL bb i) [] cu su (mk S0 V (Fs b)) := by
  have hnr := h.1
  have hnw := (RR_P h).2.2.1
  have hpc := (RR_P h).2.1
  refine z_aload_n dL_law_273 rfl ?_
  refine z_aloadX_n dL_law_274 rfl ?_
  refine z_iload_n dL_law_275 rfl ?_
  refine y_iconst dL_law_276 ?_
  refine y_iadd dL_law_277 ?_
  refine z_sld dL_law_278 (by omega) hL ?_
  refine z_aloadX_n dL_law_279 rfl ?_
  refine z_iload_n dL_law_280 rfl ?_
  refine y_iconst dL_law_281 ?_
  refine y_iadd dL_law_282 ?_
  refine z_sld dL_law_283 (by omega) hL ?_
  refine l_callR (ct_X10_road (sx_rg xs (i + 1)) (sx_rg xs (i + 2)) (RR_YS h)) kL_36 dL_law_284 rfl rfl rfl rfl ⟨Nat.le_of_ble_eq_true rfl, Nat.le_of_ble_eq_true rfl⟩ (Nat.le_of_ble_eq_true rfl) hc hs (fun q hx => ?_)
  obtain ⟨m1, m2, m3, m4, m5, m6, m7, m8, m9, m10, m11, m12, m13, m14⟩ := mmN_0 h
  refine z_aload_n dL_law_287 rfl ?_
  refine z_aloadX_n dL_law_288 rfl ?_
  refine z_iload_n dL_law_289 rfl ?_
  refine y_iconst dL_law_290 ?_
  refine y_iadd dL_law_291 ?_
  refine z_sld dL_law_292 (by omega) hL ?_
  refine z_aloadX_n dL_law_293 rfl ?_
  refine z_iload_n dL_law_294 rfl ?_
  refine y_iconst dL_law_295 ?_
  refine y_iadd dL_law_296 ?_
  refine z_sld dL_law_297 (by omega) hL ?_
  refine l_callR (ct_X11_road (sx_rg xs (i + 1)) (sx_rg xs (i + 2)) m1) kL_39 dL_law_298 rfl rfl rfl rfl ⟨Nat.le_of_ble_eq_true rfl, Nat.le_of_ble_eq_true rfl⟩ (Nat.le_of_ble_eq_true rfl) hc hs (fun q' hm => ?_)
  have hr : q' = q := rr_road h hx hm
  exact z_icmp_eq dL_law_301 (fun _ => kk V b (RR_up h hn)) (fun hne => absurd (by rw [hr]) hne)
theorem lc_at (h : RR V b n) (hn : n + 1 ≤ 64) (hL : Lb ≤ 256) (hi : 0 ≤ i ∧ i + 4 ≤ (Lb : Int)) (hc : cu ≤ room_1.cells) (hs : su ≤ room_1.slots) (kk : ∀ (V' : Nat → Int → Int) (b' : Bool), RR V' b' (n + 1) → zE room_1 (lwB bb Lb xs) mL_law 964 (LL bb i) [] cu su (mk S0 V' (Fs b'))) : zE room_1 (lwB bb Lb xs) mL_law 306 (LL bb i) [] cu su (mk S0 V (Fs b)) := by
  have hnr := h.1
  have hnw := (RR_P h).2.2.1
  have hpc := (RR_P h).2.1
  refine z_aload_n dL_law_306 rfl ?_
  refine z_aloadX_n dL_law_307 rfl ?_
  refine z_iload_n dL_law_308 rfl ?_
  refine y_iconst dL_law_309 ?_
  refine y_iadd dL_law_310 ?_
  refine z_sld dL_law_311 (by omega) hL ?_
  refine z_aloadX_n dL_law_312 rfl ?_
  refine z_iload_n dL_law_313 rfl ?_
  refine y_iconst dL_law_314 ?_
  refine y_iadd dL_law_315 ?_
  refine z_sld dL_law_316 (by omega) hL ?_
  refine l_callR (ct_X10_at (sx_rg xs (i + 1)) (sx_rg xs (i + 2)) (RR_YS h) (RR_cN h)) kL_40 dL_law_317 rfl rfl rfl rfl ⟨Nat.le_of_ble_eq_true rfl, Nat.le_of_ble_eq_true rfl⟩ (Nat.le_of_ble_eq_true rfl) hc hs (fun q hx => ?_)
  obtain ⟨m1, m2, m3, m4, m5, m6, m7, m8, m9, m10, m11, m12, m13, m14⟩ := mmN_0 h
  refine z_aload_n dL_law_320 rfl ?_
  refine z_aloadX_n dL_law_321 rfl ?_
  refine z_iload_n dL_law_322 rfl ?_
  refine y_iconst dL_law_323 ?_
  refine y_iadd dL_law_324 ?_
  refine z_sld dL_law_325 (by omega) hL ?_
  refine z_aloadX_n dL_law_326 rfl ?_
  refine z_iload_n dL_law_327 rfl ?_
  refine y_iconst dL_law_328 ?_
  refine y_iadd dL_law_329 ?_
  refine z_sld dL_law_330 (by omega) hL ?_
  refine l_callR (ct_X11_at (sx_rg xs (i + 1)) (sx_rg xs (i + 2)) m1 m2) kL_43 dL_law_331 rfl rfl rfl rfl ⟨Nat.le_of_ble_eq_true rfl, Nat.le_of_ble_eq_true rfl⟩ (Nat.le_of_ble_eq_true rfl) hc hs (fun q' hm => ?_)
  have hr : q' = q := rr_at h hx hm
  exact z_icmp_eq dL_law_334 (fun _ => kk V b (RR_up h hn)) (fun hne => absurd (by rw [hr]) hne)
theorem lc_enemies (h : RR V b n) (hn : n + 1 ≤ 64) (hL : Lb ≤ 256) (hi : 0 ≤ i ∧ i + 4 ≤ (Lb : Int)) (hc : cu ≤ room_1.cells) (hs : su ≤ room_1.slots) (kk : ∀ (V' : Nat → Int → Int) (b' : Bool), RR V' b' (n + 1) → zE room_1 (lwB bb Lb xs) mL_law 964 (LL bb i) [] cu su (mk S0 V' (Fs b'))) : zE room_1 (lwB bb Lb xs) mL_law 339 (LL bb i) [] cu su (mk S0 V (Fs b)) := by
  have hnr := h.1
  have hnw := (RR_P h).2.2.1
  have hpc := (RR_P h).2.1
  refine z_aload_n dL_law_339 rfl ?_
  refine z_aloadX_n dL_law_340 rfl ?_
  refine z_iload_n dL_law_341 rfl ?_
  refine y_iconst dL_law_342 ?_
  refine y_iadd dL_law_343 ?_
  refine z_sld dL_law_344 (by omega) hL ?_
  refine z_aloadX_n dL_law_345 rfl ?_
  refine z_iload_n dL_law_346 rfl ?_
  refine y_iconst dL_law_347 ?_
  refine y_iadd dL_law_348 ?_
  refine z_sld dL_law_349 (by omega) hL ?_
  refine l_callR (ct_X10_enemies (sx_rg xs (i + 1)) (sx_rg xs (i + 2)) (RR_YS h)) kL_44 dL_law_350 rfl rfl rfl rfl ⟨Nat.le_of_ble_eq_true rfl, Nat.le_of_ble_eq_true rfl⟩ (Nat.le_of_ble_eq_true rfl) hc hs (fun q hx => ?_)
  obtain ⟨m1, m2, m3, m4, m5, m6, m7, m8, m9, m10, m11, m12, m13, m14⟩ := mmN_0 h
  refine z_aload_n dL_law_353 rfl ?_
  refine z_aloadX_n dL_law_354 rfl ?_
  refine z_iload_n dL_law_355 rfl ?_
  refine y_iconst dL_law_356 ?_
  refine y_iadd dL_law_357 ?_
  refine z_sld dL_law_358 (by omega) hL ?_
  refine z_aloadX_n dL_law_359 rfl ?_
  refine z_iload_n dL_law_360 rfl ?_
  refine y_iconst dL_law_361 ?_
  refine y_iadd dL_law_362 ?_
  refine z_sld dL_law_363 (by omega) hL ?_
  refine l_callR (ct_X11_enemies (sx_rg xs (i + 1)) (sx_rg xs (i + 2)) m1) kL_47 dL_law_364 rfl rfl rfl rfl ⟨Nat.le_of_ble_eq_true rfl, Nat.le_of_ble_eq_true rfl⟩ (Nat.le_of_ble_eq_true rfl) hc hs (fun q' hm => ?_)
  have hr : q' = q := rr_enemies h hx hm
  exact z_icmp_eq dL_law_367 (fun _ => kk V b (RR_up h hn)) (fun hne => absurd (by rw [hr]) hne)
theorem lc_cut (h : RR V b n) (hn : n + 1 ≤ 64) (hL : Lb ≤ 256) (hi : 0 ≤ i ∧ i + 4 ≤ (Lb : Int)) (hc : cu ≤ room_1.cells) (hs : su ≤ room_1.slots) (kk : ∀ (V' : Nat → Int → Int) (b' : Bool), RR V' b' (n + 1) → zE room_1 (lwB bb Lb xs) mL_law 964 (LL bb i) [] cu su (mk S0 V' (Fs b'))) : zE room_1 (lwB bb Lb xs) mL_law 372 (LL bb i) [] cu su (mk S0 V (Fs b)) := by
  have hnr := h.1
  have hnw := (RR_P h).2.2.1
  have hpc := (RR_P h).2.1
  have hcu := RR_cu h
  refine z_aload_n dL_law_372 rfl ?_
  refine z_aloadX_n dL_law_373 rfl ?_
  refine z_iload_n dL_law_374 rfl ?_
  refine y_iconst dL_law_375 ?_
  refine y_iadd dL_law_376 ?_
  refine z_sld dL_law_377 (by omega) hL ?_
  refine z_aloadX_n dL_law_378 rfl ?_
  refine z_iload_n dL_law_379 rfl ?_
  refine y_iconst dL_law_380 ?_
  refine y_iadd dL_law_381 ?_
  refine z_sld dL_law_382 (by omega) hL ?_
  refine l_callI (ct_X10_cut (sx_rg xs (i + 1)) (sx_rg xs (i + 2)) (RR_YS h) (RR_cN h) (RR_wN h) ⟨by omega, by omega⟩ (by omega) (by omega) hnw hpc) kL_48 dL_law_383 rfl rfl rfl rfl ⟨Nat.le_of_ble_eq_true rfl, Nat.le_of_ble_eq_true rfl⟩ (Nat.le_of_ble_eq_true rfl) hc hs (fun q V1 hx => ?_)
  have xo : ∀ a : Nat, 134 ≤ a → V1 a = V a := xo_cut h hx
  obtain ⟨m1, m2, m3, m4, m5, m6, m7, m8, m9, m10, m11, m12, m13, m14⟩ := mmN_c (mmN_0 h) xo
  refine z_aload_n dL_law_386 rfl ?_
  refine z_aloadX_n dL_law_387 rfl ?_
  refine z_iload_n dL_law_388 rfl ?_
  refine y_iconst dL_law_389 ?_
  refine y_iadd dL_law_390 ?_
  refine z_sld dL_law_391 (by omega) hL ?_
  refine z_aloadX_n dL_law_392 rfl ?_
  refine z_iload_n dL_law_393 rfl ?_
  refine y_iconst dL_law_394 ?_
  refine y_iadd dL_law_395 ?_
  refine z_sld dL_law_396 (by omega) hL ?_
  refine l_callI (ct_X11_cut (sx_rg xs (i + 1)) (sx_rg xs (i + 2)) m1 m2 m3 m4) kL_51 dL_law_397 rfl rfl rfl rfl ⟨Nat.le_of_ble_eq_true rfl, Nat.le_of_ble_eq_true rfl⟩ (Nat.le_of_ble_eq_true rfl) hc hs (fun q' V2 hm => ?_)
  have hr : q' = q ∧ RR V2 b (n + 1) := rr_cut h hn hx hm
  exact z_icmp_eq dL_law_400 (fun _ => kk V2 b hr.2) (fun hne => absurd (by rw [hr.1]) hne)
theorem lc_pull (h : RR V b n) (hn : n + 1 ≤ 64) (hL : Lb ≤ 256) (hi : 0 ≤ i ∧ i + 4 ≤ (Lb : Int)) (hc : cu ≤ room_1.cells) (hs : su ≤ room_1.slots) (kk : ∀ (V' : Nat → Int → Int) (b' : Bool), RR V' b' (n + 1) → zE room_1 (lwB bb Lb xs) mL_law 964 (LL bb i) [] cu su (mk S0 V' (Fs b'))) : zE room_1 (lwB bb Lb xs) mL_law 405 (LL bb i) [] cu su (mk S0 V (Fs b)) := by
  have hnr := h.1
  have hnw := (RR_P h).2.2.1
  have hpc := (RR_P h).2.1
  have hS := RR_SR h
  have h7x : ∀ r : Int, 0 ≤ r → r ≤ 3 → V 5 4 + V 5 r ≤ 7 := fun r r0 r1 => by
    have e1 : V 5 4 = V 137 0 := hS.2.1
    have e2 : V 5 r = V 137 (8 + r) := (hS.2.2.1 r r0 (by omega)).1
    rw [e1, e2]
    exact (stI_c (RR_sI h) (RR_7 h) r r0 (by omega)).2
  refine z_aload_n dL_law_405 rfl ?_
  refine z_aloadX_n dL_law_406 rfl ?_
  refine z_iload_n dL_law_407 rfl ?_
  refine y_iconst dL_law_408 ?_
  refine y_iadd dL_law_409 ?_
  refine z_sld dL_law_410 (by omega) hL ?_
  refine l_callI (ct_X10_pull (sx_rg xs (i + 1)) (RR_YS h) (RR_cN h) hnw hpc h7x) kL_52 dL_law_411 rfl rfl rfl rfl ⟨Nat.le_of_ble_eq_true rfl, Nat.le_of_ble_eq_true rfl⟩ (Nat.le_of_ble_eq_true rfl) hc hs (fun q V1 hx => ?_)
  have xo : ∀ a : Nat, 134 ≤ a → V1 a = V a := xo_pull h hx
  obtain ⟨m1, m2, m3, m4, m5, m6, m7, m8, m9, m10, m11, m12, m13, m14⟩ := mmN_c (mmN_0 h) xo
  refine z_aload_n dL_law_414 rfl ?_
  refine z_aloadX_n dL_law_415 rfl ?_
  refine z_iload_n dL_law_416 rfl ?_
  refine y_iconst dL_law_417 ?_
  refine y_iadd dL_law_418 ?_
  refine z_sld dL_law_419 (by omega) hL ?_
  refine l_callI (ct_X11_pull (sx_rg xs (i + 1)) m1 m2 m3 m5) kL_55 dL_law_420 rfl rfl rfl rfl ⟨Nat.le_of_ble_eq_true rfl, Nat.le_of_ble_eq_true rfl⟩ (Nat.le_of_ble_eq_true rfl) hc hs (fun q' V2 hm => ?_)
  have hr : q' = q ∧ RR V2 b (n + 1) := rr_pull h hn hx hm
  exact z_icmp_eq dL_law_423 (fun _ => kk V2 b hr.2) (fun hne => absurd (by rw [hr.1]) hne)
theorem lc_peace (h : RR V b n) (hn : n + 1 ≤ 64) (hL : Lb ≤ 256) (hi : 0 ≤ i ∧ i + 4 ≤ (Lb : Int)) (hc : cu ≤ room_1.cells) (hs : su ≤ room_1.slots) (kk : ∀ (V' : Nat → Int → Int) (b' : Bool), RR V' b' (n + 1) → zE room_1 (lwB bb Lb xs) mL_law 964 (LL bb i) [] cu su (mk S0 V' (Fs b'))) : zE room_1 (lwB bb Lb xs) mL_law 428 (LL bb i) [] cu su (mk S0 V (Fs b)) := by
  have hnr := h.1
  have hnw := (RR_P h).2.2.1
  have hpc := (RR_P h).2.1
  refine z_aload_n dL_law_428 rfl ?_
  refine z_aloadX_n dL_law_429 rfl ?_
  refine z_iload_n dL_law_430 rfl ?_
  refine y_iconst dL_law_431 ?_
  refine y_iadd dL_law_432 ?_
  refine z_sld dL_law_433 (by omega) hL ?_
  refine z_aloadX_n dL_law_434 rfl ?_
  refine z_iload_n dL_law_435 rfl ?_
  refine y_iconst dL_law_436 ?_
  refine y_iadd dL_law_437 ?_
  refine z_sld dL_law_438 (by omega) hL ?_
  refine l_callI (ct_X10_peace (sx_rg xs (i + 1)) (sx_rg xs (i + 2)) (RR_YS h) (RR_cN h) (RR_wN h) (RR_p6 h) hnw hpc) kL_56 dL_law_439 rfl rfl rfl rfl ⟨Nat.le_of_ble_eq_true rfl, Nat.le_of_ble_eq_true rfl⟩ (Nat.le_of_ble_eq_true rfl) hc hs (fun q V1 hx => ?_)
  have xo : ∀ a : Nat, 134 ≤ a → V1 a = V a := xo_peace h hx
  obtain ⟨m1, m2, m3, m4, m5, m6, m7, m8, m9, m10, m11, m12, m13, m14⟩ := mmN_c (mmN_0 h) xo
  refine z_aload_n dL_law_442 rfl ?_
  refine z_aloadX_n dL_law_443 rfl ?_
  refine z_iload_n dL_law_444 rfl ?_
  refine y_iconst dL_law_445 ?_
  refine y_iadd dL_law_446 ?_
  refine z_sld dL_law_447 (by omega) hL ?_
  refine z_aloadX_n dL_law_448 rfl ?_
  refine z_iload_n dL_law_449 rfl ?_
  refine y_iconst dL_law_450 ?_
  refine y_iadd dL_law_451 ?_
  refine z_sld dL_law_452 (by omega) hL ?_
  refine l_callI (ct_X11_peace (sx_rg xs (i + 1)) (sx_rg xs (i + 2)) m1 m2 m3) kL_59 dL_law_453 rfl rfl rfl rfl ⟨Nat.le_of_ble_eq_true rfl, Nat.le_of_ble_eq_true rfl⟩ (Nat.le_of_ble_eq_true rfl) hc hs (fun q' V2 hm => ?_)
  have hr : q' = q ∧ RR V2 b (n + 1) := rr_peace h hn hx hm
  exact z_icmp_eq dL_law_456 (fun _ => kk V2 b hr.2) (fun hne => absurd (by rw [hr.1]) hne)
theorem lc_drift (h : RR V b n) (hn : n + 1 ≤ 64) (hL : Lb ≤ 256) (hi : 0 ≤ i ∧ i + 4 ≤ (Lb : Int)) (hc : cu ≤ room_1.cells) (hs : su ≤ room_1.slots) (kk : ∀ (V' : Nat → Int → Int) (b' : Bool), RR V' b' (n + 1) → zE room_1 (lwB bb Lb xs) mL_law 964 (LL bb i) [] cu su (mk S0 V' (Fs b'))) : zE room_1 (lwB bb Lb xs) mL_law 461 (LL bb i) [] cu su (mk S0 V (Fs b)) := by
  have hnr := h.1
  have hnw := (RR_P h).2.2.1
  have hpc := (RR_P h).2.1
  have hcu := RR_cu h
  have hS := RR_SR h
  have hI := RR_sI h
  have hDI : DI (yN b) 100000 V := by
    refine ⟨RR_cN h, RR_wN h, RR_YS h, ⟨by omega, by omega⟩, by omega, by omega, ?_, (RR_S h).2⟩
    have e4 : V 5 4 = V 137 0 := hS.2.1
    have e0 : V 5 0 = V 137 (8 + 0) := (hS.2.2.1 0 (by omega) (by omega)).1
    have e1 : V 5 1 = V 137 (8 + 1) := (hS.2.2.1 1 (by omega) (by omega)).1
    have e2 : V 5 2 = V 137 (8 + 2) := (hS.2.2.1 2 (by omega) (by omega)).1
    have e3 : V 5 3 = V 137 (8 + 3) := (hS.2.2.1 3 (by omega) (by omega)).1
    have ht := hI.2.1
    have h7 := RR_7 h
    unfold totN at ht
    simp only [Int.reduceAdd] at e0 e1 e2 e3
    unfold tot
    omega
  refine z_aload_n dL_law_461 rfl ?_
  refine z_aloadX_n dL_law_462 rfl ?_
  refine z_iload_n dL_law_463 rfl ?_
  refine y_iconst dL_law_464 ?_
  refine y_iadd dL_law_465 ?_
  refine z_sld dL_law_466 (by omega) hL ?_
  refine l_callI (ct_X10_drift (sx_rg xs (i + 1)) hDI hnw hpc) kL_60 dL_law_467 rfl rfl rfl rfl ⟨Nat.le_of_ble_eq_true rfl, Nat.le_of_ble_eq_true rfl⟩ (Nat.le_of_ble_eq_true rfl) hc hs (fun q V1 hx => ?_)
  have xo : ∀ a : Nat, 134 ≤ a → V1 a = V a := xo_drift h hx
  obtain ⟨m1, m2, m3, m4, m5, m6, m7, m8, m9, m10, m11, m12, m13, m14⟩ := mmN_c (mmN_0 h) xo
  refine z_aload_n dL_law_470 rfl ?_
  refine z_aloadX_n dL_law_471 rfl ?_
  refine z_iload_n dL_law_472 rfl ?_
  refine y_iconst dL_law_473 ?_
  refine y_iadd dL_law_474 ?_
  refine z_sld dL_law_475 (by omega) hL ?_
  refine l_callI (ct_X11_drift (sx_rg xs (i + 1)) m10 m3) kL_63 dL_law_476 rfl rfl rfl rfl ⟨Nat.le_of_ble_eq_true rfl, Nat.le_of_ble_eq_true rfl⟩ (Nat.le_of_ble_eq_true rfl) hc hs (fun q' V2 hm => ?_)
  have hr : q' = q ∧ RR V2 b (n + 1) := rr_drift h hn hx hm
  exact z_icmp_eq dL_law_479 (fun _ => kk V2 b hr.2) (fun hne => absurd (by rw [hr.1]) hne)
theorem lc_undo (h : RR V b n) (hn : n + 1 ≤ 64) (hL : Lb ≤ 256) (hi : 0 ≤ i ∧ i + 4 ≤ (Lb : Int)) (hc : cu ≤ room_1.cells) (hs : su ≤ room_1.slots) (kk : ∀ (V' : Nat → Int → Int) (b' : Bool), RR V' b' (n + 1) → zE room_1 (lwB bb Lb xs) mL_law 964 (LL bb i) [] cu su (mk S0 V' (Fs b'))) : zE room_1 (lwB bb Lb xs) mL_law 484 (LL bb i) [] cu su (mk S0 V (Fs b)) := by
  have hnr := h.1
  have hnw := (RR_P h).2.2.1
  have hpc := (RR_P h).2.1
  refine z_aload_n dL_law_484 rfl ?_
  refine l_callI (ct_X10_undo hnw hpc) kL_64 dL_law_485 rfl rfl rfl rfl ⟨Nat.le_of_ble_eq_true rfl, Nat.le_of_ble_eq_true rfl⟩ (Nat.le_of_ble_eq_true rfl) hc hs (fun q V1 hx => ?_)
  have xo : ∀ a : Nat, 134 ≤ a → V1 a = V a := xo_undo hx
  obtain ⟨m1, m2, m3, m4, m5, m6, m7, m8, m9, m10, m11, m12, m13, m14⟩ := mmN_c (mmN_0 h) xo
  refine z_aload_n dL_law_488 rfl ?_
  refine l_callI (ct_X11_undo m3) kL_67 dL_law_489 rfl rfl rfl rfl ⟨Nat.le_of_ble_eq_true rfl, Nat.le_of_ble_eq_true rfl⟩ (Nat.le_of_ble_eq_true rfl) hc hs (fun q' V2 hm => ?_)
  have hr : q' = q ∧ RR V2 b (n + 1) := rr_undo h hn hx hm
  exact z_icmp_eq dL_law_492 (fun _ => kk V2 b hr.2) (fun hne => absurd (by rw [hr.1]) hne)
theorem lc_plan (h : RR V b n) (hn : n + 1 ≤ 64) (hL : Lb ≤ 256) (hi : 0 ≤ i ∧ i + 4 ≤ (Lb : Int)) (hc : cu ≤ room_1.cells) (hs : su ≤ room_1.slots) (kk : ∀ (V' : Nat → Int → Int) (b' : Bool), RR V' b' (n + 1) → zE room_1 (lwB bb Lb xs) mL_law 964 (LL bb i) [] cu su (mk S0 V' (Fs b'))) : zE room_1 (lwB bb Lb xs) mL_law 497 (LL bb i) [] cu su (mk S0 V (Fs b)) := by
  have hnr := h.1
  have hnw := (RR_P h).2.2.1
  have hpc := (RR_P h).2.1
  obtain ⟨R, hR⟩ : ∃ R : Nat, (R : Int) = V 135 0 := ⟨(V 135 0).toNat, by have := (RR_MS h).1; omega⟩
  obtain ⟨m, hm0⟩ : ∃ m : Nat, (m : Int) = V 137 0 := ⟨(V 137 0).toNat, by have := (RR_NS h).1; omega⟩
  obtain ⟨w1, w2, w3⟩ := RR_Rm h hR hm0
  refine z_aload_n dL_law_497 rfl ?_
  refine z_aloadX_n dL_law_498 rfl ?_
  refine z_iload_n dL_law_499 rfl ?_
  refine y_iconst dL_law_500 ?_
  refine y_iadd dL_law_501 ?_
  refine z_sld dL_law_502 (by omega) hL ?_
  refine l_callI (ct_X10_plan (sx_rg xs (i + 1)) (RR_YS h) (RR_cN h) (RR_wN h) (RR_X h).1) kL_68 dL_law_503 rfl rfl rfl rfl ⟨Nat.le_of_ble_eq_true rfl, Nat.le_of_ble_eq_true rfl⟩ (Nat.le_of_ble_eq_true rfl) hc hs (fun q V1 hx => ?_)
  have xo : ∀ a : Nat, 134 ≤ a → V1 a = V a := xo_plan hx
  obtain ⟨m1, m2, m3, m4, m5, m6, m7, m8, m9, m10, m11, m12, m13, m14⟩ := mmN_c (mmN_0 h) xo
  refine z_aload_n dL_law_506 rfl ?_
  refine z_aloadX_n dL_law_507 rfl ?_
  refine z_iload_n dL_law_508 rfl ?_
  refine y_iconst dL_law_509 ?_
  refine y_iadd dL_law_510 ?_
  refine z_sld dL_law_511 (by omega) hL ?_
  refine l_callI (ct_X11_plan (sx_rg xs (i + 1)) (by rw [xo 135 (by omega)]; exact hR) (by rw [xo 137 (by omega)]; exact hm0) w3 m1 m2) kL_71 dL_law_512 rfl rfl rfl rfl ⟨Nat.le_of_ble_eq_true rfl, Nat.le_of_ble_eq_true rfl⟩ (Nat.le_of_ble_eq_true rfl) hc hs (fun q' V2 hm => ?_)
  have hr : q' = q ∧ RR V2 b (n + 1) := rr_plan h hn hR hm0 hx (by rw [xo 135 (by omega), xo 137 (by omega)] at hm; exact hm)
  exact z_icmp_eq dL_law_515 (fun _ => kk V2 b hr.2) (fun hne => absurd (by rw [hr.1]) hne)
theorem lc_leastRoads (h : RR V b n) (hn : n + 1 ≤ 64) (hL : Lb ≤ 256) (hi : 0 ≤ i ∧ i + 4 ≤ (Lb : Int)) (hc : cu ≤ room_1.cells) (hs : su ≤ room_1.slots) (kk : ∀ (V' : Nat → Int → Int) (b' : Bool), RR V' b' (n + 1) → zE room_1 (lwB bb Lb xs) mL_law 964 (LL bb i) [] cu su (mk S0 V' (Fs b'))) : zE room_1 (lwB bb Lb xs) mL_law 520 (LL bb i) [] cu su (mk S0 V (Fs b)) := by
  have hnr := h.1
  have hnw := (RR_P h).2.2.1
  have hpc := (RR_P h).2.1
  obtain ⟨W, hW⟩ : ∃ W : Nat, (W : Int) = V 135 5 := ⟨(V 135 5).toNat, by have := (RR_MS h).2.1; omega⟩
  obtain ⟨L, hLt⟩ : ∃ L : Nat, (L : Int) = V 135 33 := ⟨(V 135 33).toNat, by have := (RR_Y h).2.2.1; omega⟩
  have hY3 := (RR_Y h).2.2.1
  have hY2 := (RR_Y h).2.1
  refine z_aload_n dL_law_520 rfl ?_
  refine z_aloadX_n dL_law_521 rfl ?_
  refine z_iload_n dL_law_522 rfl ?_
  refine y_iconst dL_law_523 ?_
  refine y_iadd dL_law_524 ?_
  refine z_sld dL_law_525 (by omega) hL ?_
  refine l_callI (ct_X10_leastRoads (sx_rg xs (i + 1)) (by omega) (RR_tr h)) kL_72 dL_law_526 rfl rfl rfl rfl ⟨Nat.le_of_ble_eq_true rfl, Nat.le_of_ble_eq_true rfl⟩ (Nat.le_of_ble_eq_true rfl) hc hs (fun q V1 hx => ?_)
  have xo : ∀ a : Nat, 134 ≤ a → V1 a = V a := xo_leastRoads hx
  obtain ⟨m1, m2, m3, m4, m5, m6, m7, m8, m9, m10, m11, m12, m13, m14⟩ := mmN_c (mmN_0 h) xo
  refine z_aload_n dL_law_529 rfl ?_
  refine z_aloadX_n dL_law_530 rfl ?_
  refine z_iload_n dL_law_531 rfl ?_
  refine y_iconst dL_law_532 ?_
  refine y_iadd dL_law_533 ?_
  refine z_sld dL_law_534 (by omega) hL ?_
  refine l_callI (ct_X11_leastRoads (T := V (yN b + 5)) (l0 := V (yN b + 6)) (sx_rg xs (i + 1)) (by rw [xo 135 (by omega)]; exact hW) (by rw [xo 135 (by omega)]; exact hLt) (by omega) (by omega) (by rw [xo 135 (by omega)]; exact RR_trH h hW hLt) (RR_tr h).1 (RR_tr h).2) kL_75 dL_law_535 rfl rfl rfl rfl ⟨Nat.le_of_ble_eq_true rfl, Nat.le_of_ble_eq_true rfl⟩ (Nat.le_of_ble_eq_true rfl) hc hs (fun q' V2 hm => ?_)
  have hr : q' = q ∧ RR V2 b (n + 1) := rr_leastRoads h hn hW hx hm
  exact z_icmp_eq dL_law_538 (fun _ => kk V2 b hr.2) (fun hne => absurd (by rw [hr.1]) hne)
theorem lc_safe (h : RR V b n) (hn : n + 1 ≤ 64) (hL : Lb ≤ 256) (hi : 0 ≤ i ∧ i + 4 ≤ (Lb : Int)) (hc : cu ≤ room_1.cells) (hs : su ≤ room_1.slots) (kk : ∀ (V' : Nat → Int → Int) (b' : Bool), RR V' b' (n + 1) → zE room_1 (lwB bb Lb xs) mL_law 964 (LL bb i) [] cu su (mk S0 V' (Fs b'))) : zE room_1 (lwB bb Lb xs) mL_law 543 (LL bb i) [] cu su (mk S0 V (Fs b)) := by
  have hnr := h.1
  have hnw := (RR_P h).2.2.1
  have hpc := (RR_P h).2.1
  refine z_aload_n dL_law_543 rfl ?_
  refine z_aloadX_n dL_law_544 rfl ?_
  refine z_iload_n dL_law_545 rfl ?_
  refine y_iconst dL_law_546 ?_
  refine y_iadd dL_law_547 ?_
  refine z_sld dL_law_548 (by omega) hL ?_
  refine z_aloadX_n dL_law_549 rfl ?_
  refine z_iload_n dL_law_550 rfl ?_
  refine y_iconst dL_law_551 ?_
  refine y_iadd dL_law_552 ?_
  refine z_sld dL_law_553 (by omega) hL ?_
  refine z_aloadX_n dL_law_554 rfl ?_
  refine z_iload_n dL_law_555 rfl ?_
  refine y_iconst dL_law_556 ?_
  refine y_iadd dL_law_557 ?_
  refine z_sld dL_law_558 (by omega) hL ?_
  refine l_callR (ct_X10_safe (sx_rg xs (i + 1)) (sx_rg xs (i + 2)) (sx_rg xs (i + 3)) (RR_YS h) (RR_YW h)) kL_76 dL_law_559 rfl rfl rfl rfl ⟨Nat.le_of_ble_eq_true rfl, Nat.le_of_ble_eq_true rfl⟩ (Nat.le_of_ble_eq_true rfl) hc hs (fun q hx => ?_)
  obtain ⟨m1, m2, m3, m4, m5, m6, m7, m8, m9, m10, m11, m12, m13, m14⟩ := mmN_0 h
  refine z_aload_n dL_law_562 rfl ?_
  refine z_aloadX_n dL_law_563 rfl ?_
  refine z_iload_n dL_law_564 rfl ?_
  refine y_iconst dL_law_565 ?_
  refine y_iadd dL_law_566 ?_
  refine z_sld dL_law_567 (by omega) hL ?_
  refine z_aloadX_n dL_law_568 rfl ?_
  refine z_iload_n dL_law_569 rfl ?_
  refine y_iconst dL_law_570 ?_
  refine y_iadd dL_law_571 ?_
  refine z_sld dL_law_572 (by omega) hL ?_
  refine z_aloadX_n dL_law_573 rfl ?_
  refine z_iload_n dL_law_574 rfl ?_
  refine y_iconst dL_law_575 ?_
  refine y_iadd dL_law_576 ?_
  refine z_sld dL_law_577 (by omega) hL ?_
  refine l_callR (ct_X11_safe (sx_rg xs (i + 1)) (sx_rg xs (i + 2)) (sx_rg xs (i + 3)) m1 (fun w w0 w1 => by
      obtain ⟨g1, g2, g3⟩ := (RR_Y h).2.2.2.2.1 w w0 w1
      exact ⟨g2.2, g3.2⟩)) kL_80 dL_law_578 rfl rfl rfl rfl ⟨Nat.le_of_ble_eq_true rfl, Nat.le_of_ble_eq_true rfl⟩ (Nat.le_of_ble_eq_true rfl) hc hs (fun q' hm => ?_)
  have hr : q' = q := rr_safe h hx hm
  exact z_icmp_eq dL_law_581 (fun _ => kk V b (RR_up h hn)) (fun hne => absurd (by rw [hr]) hne)
theorem lc_foremen (h : RR V b n) (hn : n + 1 ≤ 64) (hL : Lb ≤ 256) (hi : 0 ≤ i ∧ i + 4 ≤ (Lb : Int)) (hc : cu ≤ room_1.cells) (hs : su ≤ room_1.slots) (kk : ∀ (V' : Nat → Int → Int) (b' : Bool), RR V' b' (n + 1) → zE room_1 (lwB bb Lb xs) mL_law 964 (LL bb i) [] cu su (mk S0 V' (Fs b'))) : zE room_1 (lwB bb Lb xs) mL_law 586 (LL bb i) [] cu su (mk S0 V (Fs b)) := by
  have hnr := h.1
  have hnw := (RR_P h).2.2.1
  have hpc := (RR_P h).2.1
  obtain ⟨R, hR⟩ : ∃ R : Nat, (R : Int) = V 135 0 := ⟨(V 135 0).toNat, by have := (RR_MS h).1; omega⟩
  refine z_aload_n dL_law_586 rfl ?_
  refine z_aloadX_n dL_law_587 rfl ?_
  refine z_iload_n dL_law_588 rfl ?_
  refine y_iconst dL_law_589 ?_
  refine y_iadd dL_law_590 ?_
  refine z_sld dL_law_591 (by omega) hL ?_
  refine l_callI (ct_X10_foremen (sx_rg xs (i + 1)) (RR_YS h) (RR_cN h) (RR_wN h)) kL_81 dL_law_592 rfl rfl rfl rfl ⟨Nat.le_of_ble_eq_true rfl, Nat.le_of_ble_eq_true rfl⟩ (Nat.le_of_ble_eq_true rfl) hc hs (fun q V1 hx => ?_)
  have xo : ∀ a : Nat, 134 ≤ a → V1 a = V a := xo_foremen hx
  obtain ⟨m1, m2, m3, m4, m5, m6, m7, m8, m9, m10, m11, m12, m13, m14⟩ := mmN_c (mmN_0 h) xo
  refine z_aload_n dL_law_595 rfl ?_
  refine z_aloadX_n dL_law_596 rfl ?_
  refine z_iload_n dL_law_597 rfl ?_
  refine y_iconst dL_law_598 ?_
  refine y_iadd dL_law_599 ?_
  refine z_sld dL_law_600 (by omega) hL ?_
  refine l_callI (ct_X11_foremen (sx_rg xs (i + 1)) (by rw [xo 135 (by omega)]; exact hR) m1 m2) kL_84 dL_law_601 rfl rfl rfl rfl ⟨Nat.le_of_ble_eq_true rfl, Nat.le_of_ble_eq_true rfl⟩ (Nat.le_of_ble_eq_true rfl) hc hs (fun q' V2 hm => ?_)
  have hr : q' = q ∧ RR V2 b (n + 1) := rr_foremen h hn hR hx (by rw [xo 135 (by omega), xo 137 (by omega)] at hm; exact hm)
  exact z_icmp_eq dL_law_604 (fun _ => kk V2 b hr.2) (fun hne => absurd (by rw [hr.1]) hne)
theorem lc_fewest (h : RR V b n) (hn : n + 1 ≤ 64) (hL : Lb ≤ 256) (hi : 0 ≤ i ∧ i + 4 ≤ (Lb : Int)) (hc : cu ≤ room_1.cells) (hs : su ≤ room_1.slots) (kk : ∀ (V' : Nat → Int → Int) (b' : Bool), RR V' b' (n + 1) → zE room_1 (lwB bb Lb xs) mL_law 964 (LL bb i) [] cu su (mk S0 V' (Fs b'))) : zE room_1 (lwB bb Lb xs) mL_law 609 (LL bb i) [] cu su (mk S0 V (Fs b)) := by
  have hnr := h.1
  have hnw := (RR_P h).2.2.1
  have hpc := (RR_P h).2.1
  refine z_aload_n dL_law_609 rfl ?_
  refine z_aloadX_n dL_law_610 rfl ?_
  refine z_iload_n dL_law_611 rfl ?_
  refine y_iconst dL_law_612 ?_
  refine y_iadd dL_law_613 ?_
  refine z_sld dL_law_614 (by omega) hL ?_
  refine l_callR (ct_X10_fewest (sx_rg xs (i + 1)) (RR_YS h) (RR_cN h) (RR_wN h) (RR_p6 h)) kL_85 dL_law_615 rfl rfl rfl rfl ⟨Nat.le_of_ble_eq_true rfl, Nat.le_of_ble_eq_true rfl⟩ (Nat.le_of_ble_eq_true rfl) hc hs (fun q hx => ?_)
  obtain ⟨m1, m2, m3, m4, m5, m6, m7, m8, m9, m10, m11, m12, m13, m14⟩ := mmN_0 h
  refine z_aload_n dL_law_618 rfl ?_
  refine z_aloadX_n dL_law_619 rfl ?_
  refine z_iload_n dL_law_620 rfl ?_
  refine y_iconst dL_law_621 ?_
  refine y_iadd dL_law_622 ?_
  refine z_sld dL_law_623 (by omega) hL ?_
  refine l_callR (ct_X11_fewest (sx_rg xs (i + 1)) m1 m2) kL_88 dL_law_624 rfl rfl rfl rfl ⟨Nat.le_of_ble_eq_true rfl, Nat.le_of_ble_eq_true rfl⟩ (Nat.le_of_ble_eq_true rfl) hc hs (fun q' hm => ?_)
  have hr : q' = q := rr_fewest h hx hm
  exact z_icmp_eq dL_law_627 (fun _ => kk V b (RR_up h hn)) (fun hne => absurd (by rw [hr]) hne)
theorem lc_rusted (h : RR V b n) (hn : n + 1 ≤ 64) (hL : Lb ≤ 256) (hi : 0 ≤ i ∧ i + 4 ≤ (Lb : Int)) (hc : cu ≤ room_1.cells) (hs : su ≤ room_1.slots) (kk : ∀ (V' : Nat → Int → Int) (b' : Bool), RR V' b' (n + 1) → zE room_1 (lwB bb Lb xs) mL_law 964 (LL bb i) [] cu su (mk S0 V' (Fs b'))) : zE room_1 (lwB bb Lb xs) mL_law 632 (LL bb i) [] cu su (mk S0 V (Fs b)) := by
  have hnr := h.1
  have hnw := (RR_P h).2.2.1
  have hpc := (RR_P h).2.1
  refine z_aload_n dL_law_632 rfl ?_
  refine z_aloadX_n dL_law_633 rfl ?_
  refine z_iload_n dL_law_634 rfl ?_
  refine y_iconst dL_law_635 ?_
  refine y_iadd dL_law_636 ?_
  refine z_sld dL_law_637 (by omega) hL ?_
  refine z_aloadX_n dL_law_638 rfl ?_
  refine z_iload_n dL_law_639 rfl ?_
  refine y_iconst dL_law_640 ?_
  refine y_iadd dL_law_641 ?_
  refine z_sld dL_law_642 (by omega) hL ?_
  refine l_callR (ct_X10_rusted (sx_rg xs (i + 1)) (sx_rg xs (i + 2))) kL_89 dL_law_643 rfl rfl rfl rfl ⟨Nat.le_of_ble_eq_true rfl, Nat.le_of_ble_eq_true rfl⟩ (Nat.le_of_ble_eq_true rfl) hc hs (fun q hx => ?_)
  obtain ⟨m1, m2, m3, m4, m5, m6, m7, m8, m9, m10, m11, m12, m13, m14⟩ := mmN_0 h
  refine z_aload_n dL_law_646 rfl ?_
  refine z_aloadX_n dL_law_647 rfl ?_
  refine z_iload_n dL_law_648 rfl ?_
  refine y_iconst dL_law_649 ?_
  refine y_iadd dL_law_650 ?_
  refine z_sld dL_law_651 (by omega) hL ?_
  refine z_aloadX_n dL_law_652 rfl ?_
  refine z_iload_n dL_law_653 rfl ?_
  refine y_iconst dL_law_654 ?_
  refine y_iadd dL_law_655 ?_
  refine z_sld dL_law_656 (by omega) hL ?_
  refine l_callR (ct_X11_rusted (sx_rg xs (i + 1)) (sx_rg xs (i + 2))) kL_92 dL_law_657 rfl rfl rfl rfl ⟨Nat.le_of_ble_eq_true rfl, Nat.le_of_ble_eq_true rfl⟩ (Nat.le_of_ble_eq_true rfl) hc hs (fun q' hm => ?_)
  have hr : q' = q := (by rcases hx with z | z <;> rcases hm with w | w; rw [z.2, w.2]; exact absurd w.1 z.1; exact absurd z.1 w.1; rw [z.2, w.2])
  exact z_icmp_eq dL_law_660 (fun _ => kk V b (RR_up h hn)) (fun hne => absurd (by rw [hr]) hne)
theorem lc_couple (h : RR V b n) (hn : n + 1 ≤ 64) (hL : Lb ≤ 256) (hi : 0 ≤ i ∧ i + 4 ≤ (Lb : Int)) (hc : cu ≤ room_1.cells) (hs : su ≤ room_1.slots) (kk : ∀ (V' : Nat → Int → Int) (b' : Bool), RR V' b' (n + 1) → zE room_1 (lwB bb Lb xs) mL_law 964 (LL bb i) [] cu su (mk S0 V' (Fs b'))) : zE room_1 (lwB bb Lb xs) mL_law 665 (LL bb i) [] cu su (mk S0 V (Fs b)) := by
  have hnr := h.1
  have hnw := (RR_P h).2.2.1
  have hpc := (RR_P h).2.1
  have hC := RR_C h
  refine z_aload_n dL_law_665 rfl ?_
  refine z_aloadX_n dL_law_666 rfl ?_
  refine z_iload_n dL_law_667 rfl ?_
  refine y_iconst dL_law_668 ?_
  refine y_iadd dL_law_669 ?_
  refine z_sld dL_law_670 (by omega) hL ?_
  refine z_aloadX_n dL_law_671 rfl ?_
  refine z_iload_n dL_law_672 rfl ?_
  refine y_iconst dL_law_673 ?_
  refine y_iadd dL_law_674 ?_
  refine z_sld dL_law_675 (by omega) hL ?_
  refine z_aloadX_n dL_law_676 rfl ?_
  refine z_iload_n dL_law_677 rfl ?_
  refine y_iconst dL_law_678 ?_
  refine y_iadd dL_law_679 ?_
  refine z_sld dL_law_680 (by omega) hL ?_
  refine y_if_eq dL_law_681 (sx_rg xs _) (fun c681 => ?_) (fun c681 => ?_)
  · have hb681 : True := trivial
    refine y_iconst dL_law_688 ?_
    refine l_callI (ct_X10_couple (sx_rg xs (i + 1)) (sx_rg xs (i + 2)) (k := 0) ⟨by omega, by omega⟩ (by have := hC.1; have := hC.2.1.1; omega) hC.2.2.1.1 hC.2.2.2.1.1) kL_93 dL_law_689 rfl rfl rfl rfl ⟨Nat.le_of_ble_eq_true rfl, Nat.le_of_ble_eq_true rfl⟩ (Nat.le_of_ble_eq_true rfl) hc hs (fun q V1 hx => ?_)
    have xo : ∀ a : Nat, 134 ≤ a → V1 a = V a := xo_couple hx
    obtain ⟨m1, m2, m3, m4, m5, m6, m7, m8, m9, m10, m11, m12, m13, m14⟩ := mmN_c (mmN_0 h) xo
    refine z_aload_n dL_law_692 rfl ?_
    refine z_aloadX_n dL_law_693 rfl ?_
    refine z_iload_n dL_law_694 rfl ?_
    refine y_iconst dL_law_695 ?_
    refine y_iadd dL_law_696 ?_
    refine z_sld dL_law_697 (by omega) hL ?_
    refine z_aloadX_n dL_law_698 rfl ?_
    refine z_iload_n dL_law_699 rfl ?_
    refine y_iconst dL_law_700 ?_
    refine y_iadd dL_law_701 ?_
    refine z_sld dL_law_702 (by omega) hL ?_
    refine z_aloadX_n dL_law_703 rfl ?_
    refine z_iload_n dL_law_704 rfl ?_
    refine y_iconst dL_law_705 ?_
    refine y_iadd dL_law_706 ?_
    refine z_sld dL_law_707 (by omega) hL ?_
    refine y_if_eq dL_law_708 (sx_rg xs _) (fun c708 => ?_) (fun c708 => ?_)
    · have hb708 : True := trivial
      refine y_iconst dL_law_715 ?_
      refine l_callI (ct_X11_couple (sx_rg xs (i + 1)) (sx_rg xs (i + 2)) (k := 0) ⟨by omega, by omega⟩ m7.1) kL_97 dL_law_716 rfl rfl rfl rfl ⟨Nat.le_of_ble_eq_true rfl, Nat.le_of_ble_eq_true rfl⟩ (Nat.le_of_ble_eq_true rfl) hc hs (fun q' V2 hm => ?_)
      have hr : q' = q ∧ RR V2 b (n + 1) := rr_couple h hn hx hm
      exact z_icmp_eq dL_law_719 (fun _ => kk V2 b hr.2) (fun hne => absurd (by rw [hr.1]) hne)
    · have hb708 : True := trivial
      refine y_iconst dL_law_711 ?_
      refine z_goto dL_law_712 ?_
      exfalso; omega
  · have hb681 : True := trivial
    refine y_iconst dL_law_684 ?_
    refine z_goto dL_law_685 ?_
    refine l_callI (ct_X10_couple (sx_rg xs (i + 1)) (sx_rg xs (i + 2)) (k := 1) ⟨by omega, by omega⟩ (by have := hC.1; have := hC.2.1.1; omega) hC.2.2.1.1 hC.2.2.2.1.1) kL_93 dL_law_689 rfl rfl rfl rfl ⟨Nat.le_of_ble_eq_true rfl, Nat.le_of_ble_eq_true rfl⟩ (Nat.le_of_ble_eq_true rfl) hc hs (fun q V1 hx => ?_)
    have xo : ∀ a : Nat, 134 ≤ a → V1 a = V a := xo_couple hx
    obtain ⟨m1, m2, m3, m4, m5, m6, m7, m8, m9, m10, m11, m12, m13, m14⟩ := mmN_c (mmN_0 h) xo
    refine z_aload_n dL_law_692 rfl ?_
    refine z_aloadX_n dL_law_693 rfl ?_
    refine z_iload_n dL_law_694 rfl ?_
    refine y_iconst dL_law_695 ?_
    refine y_iadd dL_law_696 ?_
    refine z_sld dL_law_697 (by omega) hL ?_
    refine z_aloadX_n dL_law_698 rfl ?_
    refine z_iload_n dL_law_699 rfl ?_
    refine y_iconst dL_law_700 ?_
    refine y_iadd dL_law_701 ?_
    refine z_sld dL_law_702 (by omega) hL ?_
    refine z_aloadX_n dL_law_703 rfl ?_
    refine z_iload_n dL_law_704 rfl ?_
    refine y_iconst dL_law_705 ?_
    refine y_iadd dL_law_706 ?_
    refine z_sld dL_law_707 (by omega) hL ?_
    refine y_if_eq dL_law_708 (sx_rg xs _) (fun c708 => ?_) (fun c708 => ?_)
    · have hb708 : True := trivial
      refine y_iconst dL_law_715 ?_
      exfalso; omega
    · have hb708 : True := trivial
      refine y_iconst dL_law_711 ?_
      refine z_goto dL_law_712 ?_
      refine l_callI (ct_X11_couple (sx_rg xs (i + 1)) (sx_rg xs (i + 2)) (k := 1) ⟨by omega, by omega⟩ m7.1) kL_97 dL_law_716 rfl rfl rfl rfl ⟨Nat.le_of_ble_eq_true rfl, Nat.le_of_ble_eq_true rfl⟩ (Nat.le_of_ble_eq_true rfl) hc hs (fun q' V2 hm => ?_)
      have hr : q' = q ∧ RR V2 b (n + 1) := rr_couple h hn hx hm
      exact z_icmp_eq dL_law_719 (fun _ => kk V2 b hr.2) (fun hne => absurd (by rw [hr.1]) hne)
theorem lc_laws (h : RR V b n) (hn : n + 1 ≤ 64) (hL : Lb ≤ 256) (hi : 0 ≤ i ∧ i + 4 ≤ (Lb : Int)) (hc : cu ≤ room_1.cells) (hs : su ≤ room_1.slots) (kk : ∀ (V' : Nat → Int → Int) (b' : Bool), RR V' b' (n + 1) → zE room_1 (lwB bb Lb xs) mL_law 964 (LL bb i) [] cu su (mk S0 V' (Fs b'))) : zE room_1 (lwB bb Lb xs) mL_law 724 (LL bb i) [] cu su (mk S0 V (Fs b)) := by
  have hnr := h.1
  have hnw := (RR_P h).2.2.1
  have hpc := (RR_P h).2.1
  have hC := RR_C h
  refine z_aload_n dL_law_724 rfl ?_
  refine z_aloadX_n dL_law_725 rfl ?_
  refine z_iload_n dL_law_726 rfl ?_
  refine y_iconst dL_law_727 ?_
  refine y_iadd dL_law_728 ?_
  refine z_sld dL_law_729 (by omega) hL ?_
  refine l_callR (ct_X10_laws (sx_rg xs (i + 1)) (by have := hC.2.2.2.1; omega) (by have := hC.2.2.1; omega)) kL_98 dL_law_730 rfl rfl rfl rfl ⟨Nat.le_of_ble_eq_true rfl, Nat.le_of_ble_eq_true rfl⟩ (Nat.le_of_ble_eq_true rfl) hc hs (fun q hx => ?_)
  obtain ⟨m1, m2, m3, m4, m5, m6, m7, m8, m9, m10, m11, m12, m13, m14⟩ := mmN_0 h
  refine z_aload_n dL_law_733 rfl ?_
  refine z_aloadX_n dL_law_734 rfl ?_
  refine z_iload_n dL_law_735 rfl ?_
  refine y_iconst dL_law_736 ?_
  refine y_iadd dL_law_737 ?_
  refine z_sld dL_law_738 (by omega) hL ?_
  refine l_callR (ct_X11_laws (sx_rg xs (i + 1)) m7) kL_101 dL_law_739 rfl rfl rfl rfl ⟨Nat.le_of_ble_eq_true rfl, Nat.le_of_ble_eq_true rfl⟩ (Nat.le_of_ble_eq_true rfl) hc hs (fun q' hm => ?_)
  have hr : q' = q := rr_laws h hx hm
  exact z_icmp_eq dL_law_742 (fun _ => kk V b (RR_up h hn)) (fun hne => absurd (by rw [hr]) hne)
theorem lc_next (h : RR V b n) (hn : n + 1 ≤ 64) (hL : Lb ≤ 256) (hi : 0 ≤ i ∧ i + 4 ≤ (Lb : Int)) (hc : cu ≤ room_1.cells) (hs : su ≤ room_1.slots) (kk : ∀ (V' : Nat → Int → Int) (b' : Bool), RR V' b' (n + 1) → zE room_1 (lwB bb Lb xs) mL_law 964 (LL bb i) [] cu su (mk S0 V' (Fs b'))) : zE room_1 (lwB bb Lb xs) mL_law 747 (LL bb i) [] cu su (mk S0 V (Fs b)) := by
  have hnr := h.1
  have hnw := (RR_P h).2.2.1
  have hpc := (RR_P h).2.1
  have hC := RR_C h
  refine z_aload_n dL_law_747 rfl ?_
  refine l_callR (ct_X10_next (by have := hC.2.2.1; omega)) kL_102 dL_law_748 rfl rfl rfl rfl ⟨Nat.le_of_ble_eq_true rfl, Nat.le_of_ble_eq_true rfl⟩ (Nat.le_of_ble_eq_true rfl) hc hs (fun q hx => ?_)
  obtain ⟨m1, m2, m3, m4, m5, m6, m7, m8, m9, m10, m11, m12, m13, m14⟩ := mmN_0 h
  refine z_aload_n dL_law_751 rfl ?_
  refine l_callR (ct_X11_next m7) kL_105 dL_law_752 rfl rfl rfl rfl ⟨Nat.le_of_ble_eq_true rfl, Nat.le_of_ble_eq_true rfl⟩ (Nat.le_of_ble_eq_true rfl) hc hs (fun q' hm => ?_)
  have hr : q' = q := rr_next h hx hm
  exact z_icmp_eq dL_law_755 (fun _ => kk V b (RR_up h hn)) (fun hne => absurd (by rw [hr]) hne)
theorem lc_chalk (h : RR V b n) (hn : n + 1 ≤ 64) (hL : Lb ≤ 256) (hi : 0 ≤ i ∧ i + 4 ≤ (Lb : Int)) (hc : cu ≤ room_1.cells) (hs : su ≤ room_1.slots) (kk : ∀ (V' : Nat → Int → Int) (b' : Bool), RR V' b' (n + 1) → zE room_1 (lwB bb Lb xs) mL_law 964 (LL bb i) [] cu su (mk S0 V' (Fs b'))) : zE room_1 (lwB bb Lb xs) mL_law 760 (LL bb i) [] cu su (mk S0 V (Fs b)) := by
  have hnr := h.1
  have hnw := (RR_P h).2.2.1
  have hpc := (RR_P h).2.1
  refine z_aload_n dL_law_760 rfl ?_
  refine z_aloadX_n dL_law_761 rfl ?_
  refine z_iload_n dL_law_762 rfl ?_
  refine y_iconst dL_law_763 ?_
  refine y_iadd dL_law_764 ?_
  refine z_sld dL_law_765 (by omega) hL ?_
  refine z_aloadX_n dL_law_766 rfl ?_
  refine z_iload_n dL_law_767 rfl ?_
  refine y_iconst dL_law_768 ?_
  refine y_iadd dL_law_769 ?_
  refine z_sld dL_law_770 (by omega) hL ?_
  refine z_aloadX_n dL_law_771 rfl ?_
  refine z_iload_n dL_law_772 rfl ?_
  refine y_iconst dL_law_773 ?_
  refine y_iadd dL_law_774 ?_
  refine z_sld dL_law_775 (by omega) hL ?_
  refine l_callI (ct_X10_chalk (sx_rg xs (i + 1)) (sx_rg xs (i + 2)) (sx_rg xs (i + 3)) (RR_YS h) (RR_H h).2.1) kL_106 dL_law_776 rfl rfl rfl rfl ⟨Nat.le_of_ble_eq_true rfl, Nat.le_of_ble_eq_true rfl⟩ (Nat.le_of_ble_eq_true rfl) hc hs (fun q V1 hx => ?_)
  have xo : ∀ a : Nat, 134 ≤ a → V1 a = V a := xo_note (Or.inl rfl) hx
  obtain ⟨m1, m2, m3, m4, m5, m6, m7, m8, m9, m10, m11, m12, m13, m14⟩ := mmN_c (mmN_0 h) xo
  refine z_aload_n dL_law_779 rfl ?_
  refine z_aloadX_n dL_law_780 rfl ?_
  refine z_iload_n dL_law_781 rfl ?_
  refine y_iconst dL_law_782 ?_
  refine y_iadd dL_law_783 ?_
  refine z_sld dL_law_784 (by omega) hL ?_
  refine z_aloadX_n dL_law_785 rfl ?_
  refine z_iload_n dL_law_786 rfl ?_
  refine y_iconst dL_law_787 ?_
  refine y_iadd dL_law_788 ?_
  refine z_sld dL_law_789 (by omega) hL ?_
  refine z_aloadX_n dL_law_790 rfl ?_
  refine z_iload_n dL_law_791 rfl ?_
  refine y_iconst dL_law_792 ?_
  refine y_iadd dL_law_793 ?_
  refine z_sld dL_law_794 (by omega) hL ?_
  refine l_callI (ct_X11_chalk (sx_rg xs (i + 1)) (sx_rg xs (i + 2)) (sx_rg xs (i + 3)) m1 m8) kL_109 dL_law_795 rfl rfl rfl rfl ⟨Nat.le_of_ble_eq_true rfl, Nat.le_of_ble_eq_true rfl⟩ (Nat.le_of_ble_eq_true rfl) hc hs (fun q' V2 hm => ?_)
  have hr : q' = q ∧ RR V2 b (n + 1) := rr_chalk h hn hx hm
  exact z_icmp_eq dL_law_798 (fun _ => kk V2 b hr.2) (fun hne => absurd (by rw [hr.1]) hne)
theorem lc_fit (h : RR V b n) (hn : n + 1 ≤ 64) (hL : Lb ≤ 256) (hi : 0 ≤ i ∧ i + 4 ≤ (Lb : Int)) (hc : cu ≤ room_1.cells) (hs : su ≤ room_1.slots) (kk : ∀ (V' : Nat → Int → Int) (b' : Bool), RR V' b' (n + 1) → zE room_1 (lwB bb Lb xs) mL_law 964 (LL bb i) [] cu su (mk S0 V' (Fs b'))) : zE room_1 (lwB bb Lb xs) mL_law 803 (LL bb i) [] cu su (mk S0 V (Fs b)) := by
  have hnr := h.1
  have hnw := (RR_P h).2.2.1
  have hpc := (RR_P h).2.1
  obtain ⟨R, hR⟩ : ∃ R : Nat, (R : Int) = V 135 0 := ⟨(V 135 0).toNat, by have := (RR_MS h).1; omega⟩
  obtain ⟨m, hm0⟩ : ∃ m : Nat, (m : Int) = V 137 0 := ⟨(V 137 0).toNat, by have := (RR_NS h).1; omega⟩
  obtain ⟨nC, hnC⟩ : ∃ nC : Nat, (nC : Int) = V 134 14 := ⟨(V 134 14).toNat, by have := (RR_H h).1; have := (RR_H h).2.1; omega⟩
  obtain ⟨w1, w2, w3⟩ := RR_Rm h hR hm0
  have hM0 := (RR_MS h).1
  have hch : chS V := ⟨(RR_H h).2.1, fun k k0 k1 => by
    obtain ⟨g1, g2, g3, g4, g5, g6⟩ := (RR_H h).2.2 k k0 k1
    rw [g1, g2, g3]
    exact ⟨by omega, g5, by omega⟩⟩
  refine z_aload_n dL_law_803 rfl ?_
  refine z_aloadX_n dL_law_804 rfl ?_
  refine z_iload_n dL_law_805 rfl ?_
  refine y_iconst dL_law_806 ?_
  refine y_iadd dL_law_807 ?_
  refine z_sld dL_law_808 (by omega) hL ?_
  refine l_callI (ct_X10_fit (sx_rg xs (i + 1)) (RR_YS h) (RR_cN h) (RR_wN h) hch (RR_X h).2) kL_110 dL_law_809 rfl rfl rfl rfl ⟨Nat.le_of_ble_eq_true rfl, Nat.le_of_ble_eq_true rfl⟩ (Nat.le_of_ble_eq_true rfl) hc hs (fun q V1 hx => ?_)
  have xo : ∀ a : Nat, 134 ≤ a → V1 a = V a := xo_fit hx
  obtain ⟨m1, m2, m3, m4, m5, m6, m7, m8, m9, m10, m11, m12, m13, m14⟩ := mmN_c (mmN_0 h) xo
  refine z_aload_n dL_law_812 rfl ?_
  refine z_aloadX_n dL_law_813 rfl ?_
  refine z_iload_n dL_law_814 rfl ?_
  refine y_iconst dL_law_815 ?_
  refine y_iadd dL_law_816 ?_
  refine z_sld dL_law_817 (by omega) hL ?_
  refine l_callI (ct_X11_fit (sx_rg xs (i + 1)) (by rw [xo 135 (by omega)]; exact hR) (by rw [xo 137 (by omega)]; exact hm0) (by rw [xo 134 (by omega)]; exact hnC) w3 m1 m2 m11 m12) kL_113 dL_law_818 rfl rfl rfl rfl ⟨Nat.le_of_ble_eq_true rfl, Nat.le_of_ble_eq_true rfl⟩ (Nat.le_of_ble_eq_true rfl) hc hs (fun q' V2 hm => ?_)
  have hr : q' = q ∧ RR V2 b (n + 1) := rr_fit h hn hR hm0 hnC hx (by rw [xo 135 (by omega), xo 137 (by omega), xo 143 (by omega)] at hm; exact hm)
  exact z_icmp_eq dL_law_821 (fun _ => kk V2 b hr.2) (fun hne => absurd (by rw [hr.1]) hne)
theorem lc_write (h : RR V b n) (hn : n + 1 ≤ 64) (hL : Lb ≤ 256) (hi : 0 ≤ i ∧ i + 4 ≤ (Lb : Int)) (hc : cu ≤ room_1.cells) (hs : su ≤ room_1.slots) (kk : ∀ (V' : Nat → Int → Int) (b' : Bool), RR V' b' (n + 1) → zE room_1 (lwB bb Lb xs) mL_law 964 (LL bb i) [] cu su (mk S0 V' (Fs b'))) : zE room_1 (lwB bb Lb xs) mL_law 826 (LL bb i) [] cu su (mk S0 V (Fs b)) := by
  have hnr := h.1
  have hnw := (RR_P h).2.2.1
  have hpc := (RR_P h).2.1
  refine z_aload_n dL_law_826 rfl ?_
  refine z_aloadX_n dL_law_827 rfl ?_
  refine z_iload_n dL_law_828 rfl ?_
  refine y_iconst dL_law_829 ?_
  refine y_iadd dL_law_830 ?_
  refine z_sld dL_law_831 (by omega) hL ?_
  refine z_aloadX_n dL_law_832 rfl ?_
  refine z_iload_n dL_law_833 rfl ?_
  refine y_iconst dL_law_834 ?_
  refine y_iadd dL_law_835 ?_
  refine z_sld dL_law_836 (by omega) hL ?_
  refine z_aloadX_n dL_law_837 rfl ?_
  refine z_iload_n dL_law_838 rfl ?_
  refine y_iconst dL_law_839 ?_
  refine y_iadd dL_law_840 ?_
  refine z_sld dL_law_841 (by omega) hL ?_
  refine l_callI (ct_X10_write (sx_rg xs (i + 1)) (sx_rg xs (i + 2)) (sx_rg xs (i + 3)) (RR_YS h) (RR_B h).2.1) kL_114 dL_law_842 rfl rfl rfl rfl ⟨Nat.le_of_ble_eq_true rfl, Nat.le_of_ble_eq_true rfl⟩ (Nat.le_of_ble_eq_true rfl) hc hs (fun q V1 hx => ?_)
  have xo : ∀ a : Nat, 134 ≤ a → V1 a = V a := xo_note (Or.inr rfl) hx
  obtain ⟨m1, m2, m3, m4, m5, m6, m7, m8, m9, m10, m11, m12, m13, m14⟩ := mmN_c (mmN_0 h) xo
  refine z_aload_n dL_law_845 rfl ?_
  refine z_aloadX_n dL_law_846 rfl ?_
  refine z_iload_n dL_law_847 rfl ?_
  refine y_iconst dL_law_848 ?_
  refine y_iadd dL_law_849 ?_
  refine z_sld dL_law_850 (by omega) hL ?_
  refine z_aloadX_n dL_law_851 rfl ?_
  refine z_iload_n dL_law_852 rfl ?_
  refine y_iconst dL_law_853 ?_
  refine y_iadd dL_law_854 ?_
  refine z_sld dL_law_855 (by omega) hL ?_
  refine z_aloadX_n dL_law_856 rfl ?_
  refine z_iload_n dL_law_857 rfl ?_
  refine y_iconst dL_law_858 ?_
  refine y_iadd dL_law_859 ?_
  refine z_sld dL_law_860 (by omega) hL ?_
  refine l_callI (ct_X11_write (sx_rg xs (i + 1)) (sx_rg xs (i + 2)) (sx_rg xs (i + 3)) m1 m9) kL_117 dL_law_861 rfl rfl rfl rfl ⟨Nat.le_of_ble_eq_true rfl, Nat.le_of_ble_eq_true rfl⟩ (Nat.le_of_ble_eq_true rfl) hc hs (fun q' V2 hm => ?_)
  have hr : q' = q ∧ RR V2 b (n + 1) := rr_write h hn hx hm
  exact z_icmp_eq dL_law_864 (fun _ => kk V2 b hr.2) (fun hne => absurd (by rw [hr.1]) hne)
theorem lc_tear (h : RR V b n) (hn : n + 1 ≤ 64) (hL : Lb ≤ 256) (hi : 0 ≤ i ∧ i + 4 ≤ (Lb : Int)) (hc : cu ≤ room_1.cells) (hs : su ≤ room_1.slots) (kk : ∀ (V' : Nat → Int → Int) (b' : Bool), RR V' b' (n + 1) → zE room_1 (lwB bb Lb xs) mL_law 964 (LL bb i) [] cu su (mk S0 V' (Fs b'))) : zE room_1 (lwB bb Lb xs) mL_law 869 (LL bb i) [] cu su (mk S0 V (Fs b)) := by
  have hnr := h.1
  have hnw := (RR_P h).2.2.1
  have hpc := (RR_P h).2.1
  refine z_aload_n dL_law_869 rfl ?_
  refine l_callI (ct_X10_tear) kL_118 dL_law_870 rfl rfl rfl rfl ⟨Nat.le_of_ble_eq_true rfl, Nat.le_of_ble_eq_true rfl⟩ (Nat.le_of_ble_eq_true rfl) hc hs (fun q V1 hx => ?_)
  have xo : ∀ a : Nat, 134 ≤ a → V1 a = V a := xo_tear hx
  obtain ⟨m1, m2, m3, m4, m5, m6, m7, m8, m9, m10, m11, m12, m13, m14⟩ := mmN_c (mmN_0 h) xo
  refine z_aload_n dL_law_873 rfl ?_
  refine l_callI (ct_X11_tear) kL_121 dL_law_874 rfl rfl rfl rfl ⟨Nat.le_of_ble_eq_true rfl, Nat.le_of_ble_eq_true rfl⟩ (Nat.le_of_ble_eq_true rfl) hc hs (fun q' V2 hm => ?_)
  have hr : q' = q ∧ RR V2 b (n + 1) := rr_tear h hn hx hm
  exact z_icmp_eq dL_law_877 (fun _ => kk V2 b hr.2) (fun hne => absurd (by rw [hr.1]) hne)
theorem lc_judge (h : RR V b n) (hn : n + 1 ≤ 64) (hL : Lb ≤ 256) (hi : 0 ≤ i ∧ i + 4 ≤ (Lb : Int)) (hc : cu ≤ room_1.cells) (hs : su ≤ room_1.slots) (kk : ∀ (V' : Nat → Int → Int) (b' : Bool), RR V' b' (n + 1) → zE room_1 (lwB bb Lb xs) mL_law 964 (LL bb i) [] cu su (mk S0 V' (Fs b'))) : zE room_1 (lwB bb Lb xs) mL_law 882 (LL bb i) [] cu su (mk S0 V (Fs b)) := by
  have hnr := h.1
  have hnw := (RR_P h).2.2.1
  have hpc := (RR_P h).2.1
  have hB := RR_B h
  have hM0 := (RR_MS h).1
  refine z_aload_n dL_law_882 rfl ?_
  refine l_callR (ct_X10_judge (RR_cN h) (RR_wN h) hB.2.1 (fun k k0 k1 => by
      obtain ⟨g1, g2, g3, g4, g5, g6⟩ := hB.2.2 k k0 k1
      rw [g1, g2, g3]
      exact ⟨by omega, g5, g6⟩)) kL_122 dL_law_883 rfl rfl rfl rfl ⟨Nat.le_of_ble_eq_true rfl, Nat.le_of_ble_eq_true rfl⟩ (Nat.le_of_ble_eq_true rfl) hc hs (fun q hx => ?_)
  obtain ⟨m1, m2, m3, m4, m5, m6, m7, m8, m9, m10, m11, m12, m13, m14⟩ := mmN_0 h
  refine z_aload_n dL_law_886 rfl ?_
  refine l_callR (ct_X11_judge m1 m2 m9 (fun k k0 k1 => by
      obtain ⟨g1, g2, g3, g4, g5, g6⟩ := hB.2.2 k k0 (by have := hB.1; omega)
      exact ⟨g4, g5, g6⟩)) kL_125 dL_law_887 rfl rfl rfl rfl ⟨Nat.le_of_ble_eq_true rfl, Nat.le_of_ble_eq_true rfl⟩ (Nat.le_of_ble_eq_true rfl) hc hs (fun q' hm => ?_)
  have hr : q' = q := rr_judge h hx hm
  exact z_icmp_eq dL_law_890 (fun _ => kk V b (RR_up h hn)) (fun hne => absurd (by rw [hr]) hne)
theorem lc_seed (h : RR V b n) (hn : n + 1 ≤ 64) (hL : Lb ≤ 256) (hi : 0 ≤ i ∧ i + 4 ≤ (Lb : Int)) (hc : cu ≤ room_1.cells) (hs : su ≤ room_1.slots) (kk : ∀ (V' : Nat → Int → Int) (b' : Bool), RR V' b' (n + 1) → zE room_1 (lwB bb Lb xs) mL_law 964 (LL bb i) [] cu su (mk S0 V' (Fs b'))) : zE room_1 (lwB bb Lb xs) mL_law 895 (LL bb i) [] cu su (mk S0 V (Fs b)) := by
  have hnr := h.1
  have hnw := (RR_P h).2.2.1
  have hpc := (RR_P h).2.1
  refine z_aload_n dL_law_895 rfl ?_
  refine z_aloadX_n dL_law_896 rfl ?_
  refine z_iload_n dL_law_897 rfl ?_
  refine y_iconst dL_law_898 ?_
  refine y_iadd dL_law_899 ?_
  refine z_sld dL_law_900 (by omega) hL ?_
  refine l_callI (ct_X10_seed (sx_rg xs (i + 1))) kL_126 dL_law_901 rfl rfl rfl rfl ⟨Nat.le_of_ble_eq_true rfl, Nat.le_of_ble_eq_true rfl⟩ (Nat.le_of_ble_eq_true rfl) hc hs (fun q V1 hx => ?_)
  have xo : ∀ a : Nat, 134 ≤ a → V1 a = V a := xo_seed hx
  obtain ⟨m1, m2, m3, m4, m5, m6, m7, m8, m9, m10, m11, m12, m13, m14⟩ := mmN_c (mmN_0 h) xo
  refine z_aload_n dL_law_904 rfl ?_
  refine z_aloadX_n dL_law_905 rfl ?_
  refine z_iload_n dL_law_906 rfl ?_
  refine y_iconst dL_law_907 ?_
  refine y_iadd dL_law_908 ?_
  refine z_sld dL_law_909 (by omega) hL ?_
  refine l_callI (ct_X11_seed (sx_rg xs (i + 1))) kL_129 dL_law_910 rfl rfl rfl rfl ⟨Nat.le_of_ble_eq_true rfl, Nat.le_of_ble_eq_true rfl⟩ (Nat.le_of_ble_eq_true rfl) hc hs (fun q' V2 hm => ?_)
  have hr : q' = q ∧ RR V2 b (n + 1) := rr_seed h hn (sx_rg xs (i + 1)).2 hx hm
  exact z_icmp_eq dL_law_913 (fun _ => kk V2 b hr.2) (fun hne => absurd (by rw [hr.1]) hne)
theorem lc_keep (h : RR V b n) (hn : n + 1 ≤ 64) (hL : Lb ≤ 256) (hi : 0 ≤ i ∧ i + 4 ≤ (Lb : Int)) (hc : cu ≤ room_1.cells) (hs : su ≤ room_1.slots) (kk : ∀ (V' : Nat → Int → Int) (b' : Bool), RR V' b' (n + 1) → zE room_1 (lwB bb Lb xs) mL_law 964 (LL bb i) [] cu su (mk S0 V' (Fs b'))) : zE room_1 (lwB bb Lb xs) mL_law 918 (LL bb i) [] cu su (mk S0 V (Fs b)) := by
  have hnr := h.1
  have hnw := (RR_P h).2.2.1
  have hpc := (RR_P h).2.1
  refine z_aload_n dL_law_918 rfl ?_
  refine z_aloadX_n dL_law_919 rfl ?_
  refine z_iload_n dL_law_920 rfl ?_
  refine y_iconst dL_law_921 ?_
  refine y_iadd dL_law_922 ?_
  refine z_sld dL_law_923 (by omega) hL ?_
  refine l_callI (ct_X10_keep (sx_rg xs (i + 1))) kL_130 dL_law_924 rfl rfl rfl rfl ⟨Nat.le_of_ble_eq_true rfl, Nat.le_of_ble_eq_true rfl⟩ (Nat.le_of_ble_eq_true rfl) hc hs (fun q V1 hx => ?_)
  have xo : ∀ a : Nat, 134 ≤ a → V1 a = V a := xo_keep hx
  obtain ⟨m1, m2, m3, m4, m5, m6, m7, m8, m9, m10, m11, m12, m13, m14⟩ := mmN_c (mmN_0 h) xo
  refine z_aload_n dL_law_927 rfl ?_
  refine z_aloadX_n dL_law_928 rfl ?_
  refine z_iload_n dL_law_929 rfl ?_
  refine y_iconst dL_law_930 ?_
  refine y_iadd dL_law_931 ?_
  refine z_sld dL_law_932 (by omega) hL ?_
  refine l_callI (ct_X11_keep (sx_rg xs (i + 1))) kL_133 dL_law_933 rfl rfl rfl rfl ⟨Nat.le_of_ble_eq_true rfl, Nat.le_of_ble_eq_true rfl⟩ (Nat.le_of_ble_eq_true rfl) hc hs (fun q' V2 hm => ?_)
  have hr : q' = q ∧ RR V2 b (n + 1) := rr_keep h hn hx hm
  exact z_icmp_eq dL_law_936 (fun _ => kk V2 b hr.2) (fun hne => absurd (by rw [hr.1]) hne)
theorem lc_goBack (h : RR V b n) (hn : n + 1 ≤ 64) (hL : Lb ≤ 256) (hi : 0 ≤ i ∧ i + 4 ≤ (Lb : Int)) (hc : cu ≤ room_1.cells) (hs : su ≤ room_1.slots) (kk : ∀ (V' : Nat → Int → Int) (b' : Bool), RR V' b' (n + 1) → zE room_1 (lwB bb Lb xs) mL_law 964 (LL bb i) [] cu su (mk S0 V' (Fs b'))) : zE room_1 (lwB bb Lb xs) mL_law 941 (LL bb i) [] cu su (mk S0 V (Fs b)) := by
  have hnr := h.1
  have hnw := (RR_P h).2.2.1
  have hpc := (RR_P h).2.1
  have hk : ∀ i : Int, 0 ≤ V (imP i) 2 ∧ V (imP i) 2 ≤ 1 := fun i => by
    have h0 := (RR_I h).2 0 (by omega) (by omega)
    have h1 := (RR_I h).2 1 (by omega) (by omega)
    have a0 := (RR_I h).1 0
    have a1 := (RR_I h).1 1
    rcases imP_rg i with hi | hi <;> rw [hi]
    · have e : V 89 2 = V 140 0 := h0.1
      omega
    · have e : V 94 2 = V 140 1 := h1.1
      omega
  refine z_aload_n dL_law_941 rfl ?_
  refine z_aloadX_n dL_law_942 rfl ?_
  refine z_iload_n dL_law_943 rfl ?_
  refine y_iconst dL_law_944 ?_
  refine y_iadd dL_law_945 ?_
  refine z_sld dL_law_946 (by omega) hL ?_
  refine l_callI (ct_X10_goBack (sx_rg xs (i + 1)) hk) kL_134 dL_law_947 rfl rfl rfl rfl ⟨Nat.le_of_ble_eq_true rfl, Nat.le_of_ble_eq_true rfl⟩ (Nat.le_of_ble_eq_true rfl) hc hs (fun q V1 hx => ?_)
  have xo : ∀ a : Nat, 134 ≤ a → V1 a = V a := xo_goBack hx
  obtain ⟨m1, m2, m3, m4, m5, m6, m7, m8, m9, m10, m11, m12, m13, m14⟩ := mmN_c (mmN_0 h) xo
  refine z_aload_n dL_law_950 rfl ?_
  refine z_aloadX_n dL_law_951 rfl ?_
  refine z_iload_n dL_law_952 rfl ?_
  refine y_iconst dL_law_953 ?_
  refine y_iadd dL_law_954 ?_
  refine z_sld dL_law_955 (by omega) hL ?_
  refine l_callI (ct_X11_goBack (sx_rg xs (i + 1)) m13 m14) kL_137 dL_law_956 rfl rfl rfl rfl ⟨Nat.le_of_ble_eq_true rfl, Nat.le_of_ble_eq_true rfl⟩ (Nat.le_of_ble_eq_true rfl) hc hs (fun q' V2 hm => ?_)
  have hr : q' = q ∧ RR V2 b (n + 1) := rr_goBack h hn hx hm
  exact z_icmp_eq dL_law_959 (fun _ => kk V2 b hr.2) (fun hne => absurd (by rw [hr.1]) hne)
end

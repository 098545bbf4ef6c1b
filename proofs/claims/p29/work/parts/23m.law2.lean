abbrev mi_lw (L : Nat) (xs : Nat → Int32) : MI := (x, code, 7, ret, 11, 452, 600000, 7302250, some (L, xs, true))
set_option maxRecDepth 100000 in
set_option maxHeartbeats 4000000 in
theorem jb_lw_lanes_430 {lay : List LK} {q0 : Nat} {x1 : Int} {q2 : Nat}  (s0 : Int) (hq0 : sub lay q0 blkLines) (hq2 : lay[q2]? = some (0, 16, 0, 0)) (h : Hp) : J mi_lw_lanes encI (Same lay) lay 1 16 430 [] [vi s0] h (lw_lanes_b430 q0 x1 q2 s0 h) := by
  unfold lw_lanes_b430
  exact j_retZ rfl rfl rfl dL_lanes_430 rfl ⟨Nat.le_refl _, Nat.le_refl _⟩ rfl

set_option maxRecDepth 100000 in
set_option maxHeartbeats 4000000 in
theorem jb_lw_lanes_429 {lay : List LK} {q0 : Nat} {x1 : Int} {q2 : Nat}  (hq0 : sub lay q0 blkLines) (hq2 : lay[q2]? = some (0, 16, 0, 0)) (h : Hp) : J mi_lw_lanes encI (Same lay) lay 1 16 429 [] [] h (lw_lanes_b429 q0 x1 q2 h) := by
  unfold lw_lanes_b429
  refine j_iconst (x := 0) dL_lanes_429 rfl (by decide) ?_
  exact jb_lw_lanes_430 _ hq0 hq2 _

set_option maxRecDepth 100000 in
set_option maxHeartbeats 4000000 in
theorem jl_lw_lanes_372 {lay : List LK} {q0 : Nat} {x1 : Int} {q2 : Nat}  (x4 x5 : Int) (hq0 : sub lay q0 blkLines) (hq2 : lay[q2]? = some (0, 16, 0, 0))  : ∀ (n : Nat) (x6 : Int) (h : Hp), J mi_lw_lanes encI (Same lay) lay 1 16 372 [(0, vr q0), (1, vi x1), (2, vr q2), (4, vi x4), (5, vi x5), (6, vi x6)] [] h (iter1 (lw_lanes_f372 q0 x1 q2 x4 x5) n x6 h) := by
  refine j_iter1 (lf := fun x6 => [(0, vr q0), (1, vi x1), (2, vr q2), (4, vi x4), (5, vi x5), (6, vi x6)]) (fun k372 hk372 x6 h => ?_)
  unfold lw_lanes_f372
  refine j_iload 5 dL_lanes_372 rfl ?_
  refine j_iload_n 1 dL_lanes_374 rfl ?_
  refine j_icmp_ge (tgt := 405) dL_lanes_375 (by decide) ?_ ?_
  · refine j_aload_n 0 dL_lanes_378 rfl ?_
    refine j_iload 5 dL_lanes_379 rfl ?_
    refine j_bipush (x := 10) dL_lanes_381 (by decide) (by decide) ?_
    refine j_cV (stk := []) [vi x6, vi 10] q0 dL_lanes_383 mv_dl_dimension lm_L_45 (sub_k hq0 0 rfl rfl) zc_5 (ct_dl_dimension hq0 h) rfl rfl ⟨⟨Nat.le_of_ble_eq_true rfl, Nat.le_of_ble_eq_true rfl⟩, Nat.le_of_ble_eq_true rfl, Nat.le_of_ble_eq_true rfl⟩ (Nat.le_of_ble_eq_true rfl) rfl rfl (fun r1 h1 _ => ?_)
    refine j_aload_n 2 dL_lanes_386 rfl ?_
    refine j_aload_n 0 dL_lanes_387 rfl ?_
    refine j_iload 5 dL_lanes_388 rfl ?_
    refine j_cS (stk := [vr q2, vi r1]) [vr q0, vi x6] dL_lanes_390 mv_lw_unit lm_L_52 (ct_lw_unit hq0 h1) rfl rfl ⟨⟨Nat.le_of_ble_eq_true rfl, Nat.le_of_ble_eq_true rfl⟩, Nat.le_of_ble_eq_true rfl, Nat.le_of_ble_eq_true rfl⟩ (Nat.le_of_ble_eq_true rfl) rfl rfl (fun r2 h2 _ => ?_)
    refine j_iald dL_lanes_393 hq2 rfl ?_
    refine j_icmp_eq (tgt := 399) dL_lanes_394 (by decide) ?_ ?_
    · refine j_iinc 5 (lv' := [(6, vi (x6 + 1)), (0, vr q0), (1, vi x1), (2, vr q2), (4, vi x4), (5, vi x5)]) dL_lanes_399 rfl (Nat.le_of_ble_eq_true rfl) rfl ?_
      refine j_goto (tgt := 372) dL_lanes_402 (by decide) ?_
      refine j_sub [1, 2, 3, 4, 5, 0] rfl ?_
      exact hk372 _ _
    · refine j_iconst (x := 0) dL_lanes_397 rfl (by decide) ?_
      exact j_retZ bz0.symm rfl rfl dL_lanes_398 rfl ⟨Nat.le_refl _, Nat.le_refl _⟩ rfl
  · refine j_aload_n 0 dL_lanes_405 rfl ?_
    refine j_iconst (x := 2) dL_lanes_406 rfl (by decide) ?_
    refine j_cV (stk := []) [vi 2] q0 dL_lanes_407 mv_dl_count lm_L_42 (sub_k hq0 0 rfl rfl) zc_5 (ct_dl_count hq0 h) rfl rfl ⟨⟨Nat.le_of_ble_eq_true rfl, Nat.le_of_ble_eq_true rfl⟩, Nat.le_of_ble_eq_true rfl, Nat.le_of_ble_eq_true rfl⟩ (Nat.le_of_ble_eq_true rfl) rfl rfl (fun r3 h3 _ => ?_)
    refine j_iload 3 dL_lanes_410 rfl ?_
    refine j_icmp_ne (tgt := 429) dL_lanes_412 (by decide) ?_ ?_
    · refine j_aload_n 0 dL_lanes_415 rfl ?_
      refine j_iconst (x := 3) dL_lanes_416 rfl (by decide) ?_
      refine j_cV (stk := []) [vi 3] q0 dL_lanes_417 mv_dl_count lm_L_42 (sub_k hq0 0 rfl rfl) zc_5 (ct_dl_count hq0 h3) rfl rfl ⟨⟨Nat.le_of_ble_eq_true rfl, Nat.le_of_ble_eq_true rfl⟩, Nat.le_of_ble_eq_true rfl, Nat.le_of_ble_eq_true rfl⟩ (Nat.le_of_ble_eq_true rfl) rfl rfl (fun r4 h4 _ => ?_)
      refine j_iload 4 dL_lanes_420 rfl ?_
      refine j_icmp_ne (tgt := 429) dL_lanes_422 (by decide) ?_ ?_
      · refine j_iconst (x := 1) dL_lanes_425 rfl (by decide) ?_
        refine j_goto (tgt := 430) dL_lanes_426 (by decide) ?_
        refine j_sub [] rfl ?_
        exact jb_lw_lanes_430 _ hq0 hq2 _
      · refine j_sub [] rfl ?_
        exact jb_lw_lanes_429 hq0 hq2 _
    · refine j_sub [] rfl ?_
      exact jb_lw_lanes_429 hq0 hq2 _

set_option maxRecDepth 100000 in
set_option maxHeartbeats 4000000 in
theorem jb_lw_lanes_361 {lay : List LK} {q0 : Nat} {x1 : Int} {q2 : Nat} {k58 : Int → Int → Int → Hp → O Int} (x3 x4 x6 s0 : Int) (hq0 : sub lay q0 blkLines) (hq2 : lay[q2]? = some (0, 16, 0, 0)) (hk58 : ∀ (x3 x5 x6 : Int) (h : Hp), J mi_lw_lanes encI (Same lay) lay 1 16 58 [(0, vr q0), (1, vi x1), (2, vr q2), (3, vi x3), (4, vi x4), (5, vi x5), (6, vi x6)] [] h (k58 x3 x5 x6 h))(h : Hp) : J mi_lw_lanes encI (Same lay) lay 1 16 361 [(0, vr q0), (1, vi x1), (2, vr q2), (3, vi x3), (4, vi x4), (6, vi x6)] [vi s0] h (lw_lanes_b361 q0 x1 q2 k58 x3 x4 x6 s0 h) := by
  unfold lw_lanes_b361
  refine j_istore (lv' := [(5, vi s0), (0, vr q0), (1, vi x1), (2, vr q2), (3, vi x3), (4, vi x4), (6, vi x6)]) dL_lanes_361 (Nat.le_of_ble_eq_true rfl) rfl ?_
  refine j_iinc 6 (lv' := [(6, vi (x6 + 1)), (5, vi s0), (0, vr q0), (1, vi x1), (2, vr q2), (3, vi x3), (4, vi x4)]) dL_lanes_363 rfl (Nat.le_of_ble_eq_true rfl) rfl ?_
  refine j_goto (tgt := 58) dL_lanes_366 (by decide) ?_
  refine j_sub [2, 3, 4, 5, 6, 1, 0] rfl ?_
  exact hk58 _ _ _ _

set_option maxRecDepth 100000 in
set_option maxHeartbeats 4000000 in
theorem jl_lw_lanes_311 {lay : List LK} {q0 : Nat} {x1 : Int} {q2 : Nat} {k58 : Int → Int → Int → Hp → O Int} (x3 x4 x5 x6 x7 : Int) (hq0 : sub lay q0 blkLines) (hq2 : lay[q2]? = some (0, 16, 0, 0)) (hk58 : ∀ (x3 x5 x6 : Int) (h : Hp), J mi_lw_lanes encI (Same lay) lay 1 16 58 [(0, vr q0), (1, vi x1), (2, vr q2), (3, vi x3), (4, vi x4), (5, vi x5), (6, vi x6)] [] h (k58 x3 x5 x6 h)) : ∀ (n : Nat) (x9 : Int) (h : Hp), J mi_lw_lanes encI (Same lay) lay 1 16 311 [(0, vr q0), (1, vi x1), (2, vr q2), (3, vi x3), (4, vi x4), (5, vi x5), (6, vi x6), (7, vi x7), (9, vi x9)] [] h (iter1 (lw_lanes_f311 q0 x1 q2 k58 x3 x4 x5 x6 x7) n x9 h) := by
  refine j_iter1 (lf := fun x9 => [(0, vr q0), (1, vi x1), (2, vr q2), (3, vi x3), (4, vi x4), (5, vi x5), (6, vi x6), (7, vi x7), (9, vi x9)]) (fun k311 hk311 x9 h => ?_)
  unfold lw_lanes_f311
  refine j_aload_n 0 dL_lanes_311 rfl ?_
  refine j_iload 7 dL_lanes_312 rfl ?_
  refine j_iload 8 dL_lanes_314 rfl ?_
  refine j_iload_n 3 dL_lanes_316 rfl ?_
  refine j_aload_n 2 dL_lanes_317 rfl ?_
  refine j_cS (stk := []) [vr q0, vi x7, vi x9, vi x3, vr q2] dL_lanes_318 mv_lw_isTaken lm_L_59 (ct_lw_isTaken hq0 hq2 (by decide) h) rfl rfl ⟨⟨Nat.le_of_ble_eq_true rfl, Nat.le_of_ble_eq_true rfl⟩, Nat.le_of_ble_eq_true rfl, Nat.le_of_ble_eq_true rfl⟩ (Nat.le_of_ble_eq_true rfl) rfl rfl (fun r1 h1 _ => ?_)
  refine j_if_eq (tgt := 330) dL_lanes_321 (by decide) ?_ ?_
  · refine j_aload_n 2 dL_lanes_330 rfl ?_
    refine j_iload 7 dL_lanes_331 rfl ?_
    refine j_iload 8 dL_lanes_333 rfl ?_
    refine j_iast dL_lanes_335 hq2 rfl (fun h2 _ => ?_)
    refine j_iload_n 3 dL_lanes_336 rfl ?_
    refine j_iconst (x := 1) dL_lanes_337 rfl (by decide) ?_
    refine j_iload 7 dL_lanes_338 rfl ?_
    refine j_ishl1 dL_lanes_340 ?_
    refine j_ior dL_lanes_341 ?_
    refine j_istore_n (lv' := [(3, vi (orI x3 (pw2 x7))), (0, vr q0), (1, vi x1), (2, vr q2), (4, vi x4), (5, vi x5), (6, vi x6), (7, vi x7), (9, vi x9)]) dL_lanes_342 (Nat.le_of_ble_eq_true rfl) rfl ?_
    refine j_iload 8 dL_lanes_343 rfl ?_
    refine j_iconst (x := 1) dL_lanes_345 rfl (by decide) ?_
    refine j_iadd dL_lanes_346 ?_
    refine j_iload 5 dL_lanes_347 rfl ?_
    refine j_icmp_le (tgt := 359) dL_lanes_349 (by decide) ?_ ?_
    · refine j_iload 8 dL_lanes_352 rfl ?_
      refine j_iconst (x := 1) dL_lanes_354 rfl (by decide) ?_
      refine j_iadd dL_lanes_355 ?_
      refine j_goto (tgt := 361) dL_lanes_356 (by decide) ?_
      refine j_sub [1, 2, 3, 0, 4, 6] rfl ?_
      exact jb_lw_lanes_361 _ _ _ _ hq0 hq2 hk58 _
    · refine j_iload 5 dL_lanes_359 rfl ?_
      refine j_sub [1, 2, 3, 0, 4, 6] rfl ?_
      exact jb_lw_lanes_361 _ _ _ _ hq0 hq2 hk58 _
  · refine j_iinc 8 (lv' := [(9, vi (x9 + 1)), (0, vr q0), (1, vi x1), (2, vr q2), (3, vi x3), (4, vi x4), (5, vi x5), (6, vi x6), (7, vi x7)]) dL_lanes_324 rfl (Nat.le_of_ble_eq_true rfl) rfl ?_
    refine j_goto (tgt := 311) dL_lanes_327 (by decide) ?_
    refine j_sub [1, 2, 3, 4, 5, 6, 7, 8, 0] rfl ?_
    exact hk311 _ _

set_option maxRecDepth 100000 in
set_option maxHeartbeats 4000000 in
theorem jb_lw_lanes_303 {lay : List LK} {q0 : Nat} {x1 : Int} {q2 : Nat} {k221 : Int → Int → Hp → O Int} (x3 x4 x5 x6 x7 x10 s0 : Int) (hq0 : sub lay q0 blkLines) (hq2 : lay[q2]? = some (0, 16, 0, 0)) (hk221 : ∀ (x9 x10 : Int) (h : Hp), J mi_lw_lanes encI (Same lay) lay 1 16 221 [(0, vr q0), (1, vi x1), (2, vr q2), (3, vi x3), (4, vi x4), (5, vi x5), (6, vi x6), (7, vi x7), (9, vi x9), (10, vi x10)] [] h (k221 x9 x10 h))(h : Hp) : J mi_lw_lanes encI (Same lay) lay 1 16 303 [(0, vr q0), (1, vi x1), (2, vr q2), (3, vi x3), (4, vi x4), (5, vi x5), (6, vi x6), (7, vi x7), (10, vi x10)] [vi s0] h (lw_lanes_b303 q0 x1 q2 k221 x3 x4 x5 x6 x7 x10 s0 h) := by
  unfold lw_lanes_b303
  refine j_istore (lv' := [(9, vi s0), (0, vr q0), (1, vi x1), (2, vr q2), (3, vi x3), (4, vi x4), (5, vi x5), (6, vi x6), (7, vi x7), (10, vi x10)]) dL_lanes_303 (Nat.le_of_ble_eq_true rfl) rfl ?_
  refine j_iinc 9 (lv' := [(10, vi (x10 + 1)), (9, vi s0), (0, vr q0), (1, vi x1), (2, vr q2), (3, vi x3), (4, vi x4), (5, vi x5), (6, vi x6), (7, vi x7)]) dL_lanes_305 rfl (Nat.le_of_ble_eq_true rfl) rfl ?_
  refine j_goto (tgt := 221) dL_lanes_308 (by decide) ?_
  refine j_sub [2, 3, 4, 5, 6, 7, 8, 9, 1, 0] rfl ?_
  exact hk221 _ _ _

set_option maxRecDepth 100000 in
set_option maxHeartbeats 4000000 in
theorem jb_lw_lanes_301 {lay : List LK} {q0 : Nat} {x1 : Int} {q2 : Nat} {k221 : Int → Int → Hp → O Int} (x3 x4 x5 x6 x7 x9 x10 : Int) (hq0 : sub lay q0 blkLines) (hq2 : lay[q2]? = some (0, 16, 0, 0)) (hk221 : ∀ (x9 x10 : Int) (h : Hp), J mi_lw_lanes encI (Same lay) lay 1 16 221 [(0, vr q0), (1, vi x1), (2, vr q2), (3, vi x3), (4, vi x4), (5, vi x5), (6, vi x6), (7, vi x7), (9, vi x9), (10, vi x10)] [] h (k221 x9 x10 h))(h : Hp) : J mi_lw_lanes encI (Same lay) lay 1 16 301 [(0, vr q0), (1, vi x1), (2, vr q2), (3, vi x3), (4, vi x4), (5, vi x5), (6, vi x6), (7, vi x7), (9, vi x9), (10, vi x10)] [] h (lw_lanes_b301 q0 x1 q2 k221 x3 x4 x5 x6 x7 x9 x10 h) := by
  unfold lw_lanes_b301
  refine j_iload 8 dL_lanes_301 rfl ?_
  refine j_sub [0, 1, 2, 3, 4, 5, 6, 7, 9] rfl ?_
  exact jb_lw_lanes_303 _ _ _ _ _ _ _ hq0 hq2 hk221 _

set_option maxRecDepth 100000 in
set_option maxHeartbeats 4000000 in
theorem jb_lw_lanes_276 {lay : List LK} {q0 : Nat} {x1 : Int} {q2 : Nat} {k221 : Int → Int → Hp → O Int} (x3 x4 x5 x6 x7 x9 x10 s0 : Int) (hq0 : sub lay q0 blkLines) (hq2 : lay[q2]? = some (0, 16, 0, 0)) (hk221 : ∀ (x9 x10 : Int) (h : Hp), J mi_lw_lanes encI (Same lay) lay 1 16 221 [(0, vr q0), (1, vi x1), (2, vr q2), (3, vi x3), (4, vi x4), (5, vi x5), (6, vi x6), (7, vi x7), (9, vi x9), (10, vi x10)] [] h (k221 x9 x10 h))(h : Hp) : J mi_lw_lanes encI (Same lay) lay 1 16 276 [(0, vr q0), (1, vi x1), (2, vr q2), (3, vi x3), (4, vi x4), (5, vi x5), (6, vi x6), (7, vi x7), (9, vi x9), (10, vi x10)] [vi s0] h (lw_lanes_b276 q0 x1 q2 k221 x3 x4 x5 x6 x7 x9 x10 s0 h) := by
  unfold lw_lanes_b276
  refine j_istore (lv' := [(11, vi s0), (0, vr q0), (1, vi x1), (2, vr q2), (3, vi x3), (4, vi x4), (5, vi x5), (6, vi x6), (7, vi x7), (9, vi x9), (10, vi x10)]) dL_lanes_276 (Nat.le_of_ble_eq_true rfl) rfl ?_
  refine j_iload 0 dL_lanes_278 rfl ?_
  refine j_if_eq (tgt := 301) dL_lanes_280 (by decide) ?_ ?_
  · refine j_sub [1, 2, 3, 4, 5, 6, 7, 8, 9, 10] rfl ?_
    exact jb_lw_lanes_301 _ _ _ _ _ _ _ hq0 hq2 hk221 _
  · refine j_aload_n 3 dL_lanes_283 rfl ?_
    refine j_iload 10 dL_lanes_284 rfl ?_
    refine j_iald dL_lanes_286 hq2 rfl ?_
    refine j_iload 9 dL_lanes_287 rfl ?_
    refine j_icmp_lt (tgt := 301) dL_lanes_289 (by decide) ?_ ?_
    · refine j_sub [1, 2, 3, 4, 5, 6, 7, 8, 9, 10] rfl ?_
      exact jb_lw_lanes_301 _ _ _ _ _ _ _ hq0 hq2 hk221 _
    · refine j_aload_n 3 dL_lanes_292 rfl ?_
      refine j_iload 10 dL_lanes_293 rfl ?_
      refine j_iald dL_lanes_295 hq2 rfl ?_
      refine j_iconst (x := 1) dL_lanes_296 rfl (by decide) ?_
      refine j_iadd dL_lanes_297 ?_
      refine j_goto (tgt := 303) dL_lanes_298 (by decide) ?_
      refine j_sub [1, 2, 3, 4, 5, 6, 7, 8, 10] rfl ?_
      exact jb_lw_lanes_303 _ _ _ _ _ _ _ hq0 hq2 hk221 _

set_option maxRecDepth 100000 in
set_option maxHeartbeats 4000000 in
theorem jb_lw_lanes_275 {lay : List LK} {q0 : Nat} {x1 : Int} {q2 : Nat} {k221 : Int → Int → Hp → O Int} (x3 x4 x5 x6 x7 x9 x10 : Int) (hq0 : sub lay q0 blkLines) (hq2 : lay[q2]? = some (0, 16, 0, 0)) (hk221 : ∀ (x9 x10 : Int) (h : Hp), J mi_lw_lanes encI (Same lay) lay 1 16 221 [(0, vr q0), (1, vi x1), (2, vr q2), (3, vi x3), (4, vi x4), (5, vi x5), (6, vi x6), (7, vi x7), (9, vi x9), (10, vi x10)] [] h (k221 x9 x10 h))(h : Hp) : J mi_lw_lanes encI (Same lay) lay 1 16 275 [(0, vr q0), (1, vi x1), (2, vr q2), (3, vi x3), (4, vi x4), (5, vi x5), (6, vi x6), (7, vi x7), (9, vi x9), (10, vi x10)] [] h (lw_lanes_b275 q0 x1 q2 k221 x3 x4 x5 x6 x7 x9 x10 h) := by
  unfold lw_lanes_b275
  refine j_iconst (x := 0) dL_lanes_275 rfl (by decide) ?_
  exact jb_lw_lanes_276 _ _ _ _ _ _ _ _ hq0 hq2 hk221 _

set_option maxRecDepth 100000 in
set_option maxHeartbeats 4000000 in
theorem jl_lw_lanes_221 {lay : List LK} {q0 : Nat} {x1 : Int} {q2 : Nat} {k58 : Int → Int → Int → Hp → O Int} (x3 x4 x5 x6 x7 : Int) (hq0 : sub lay q0 blkLines) (hq2 : lay[q2]? = some (0, 16, 0, 0)) (hk58 : ∀ (x3 x5 x6 : Int) (h : Hp), J mi_lw_lanes encI (Same lay) lay 1 16 58 [(0, vr q0), (1, vi x1), (2, vr q2), (3, vi x3), (4, vi x4), (5, vi x5), (6, vi x6)] [] h (k58 x3 x5 x6 h)) : ∀ (n : Nat) (x9 x10 : Int) (h : Hp), J mi_lw_lanes encI (Same lay) lay 1 16 221 [(0, vr q0), (1, vi x1), (2, vr q2), (3, vi x3), (4, vi x4), (5, vi x5), (6, vi x6), (7, vi x7), (9, vi x9), (10, vi x10)] [] h (iter2 (lw_lanes_f221 q0 x1 q2 k58 x3 x4 x5 x6 x7) n x9 x10 h) := by
  refine j_iter2 (lf := fun x9 x10 => [(0, vr q0), (1, vi x1), (2, vr q2), (3, vi x3), (4, vi x4), (5, vi x5), (6, vi x6), (7, vi x7), (9, vi x9), (10, vi x10)]) (fun k221 hk221 x9 x10 h => ?_)
  unfold lw_lanes_f221
  refine j_iload 9 dL_lanes_221 rfl ?_
  refine j_iload_n 1 dL_lanes_223 rfl ?_
  refine j_icmp_ge (tgt := 311) dL_lanes_224 (by decide) ?_ ?_
  · refine j_iload_n 3 dL_lanes_227 rfl ?_
    refine j_iload 9 dL_lanes_228 rfl ?_
    refine j_ishr dL_lanes_230 ?_
    refine j_iconst (x := 1) dL_lanes_231 rfl (by decide) ?_
    refine j_iand 1 2 dL_lanes_232 (by decide) (by decide) rfl (by decide) ?_
    refine j_iconst (x := 1) dL_lanes_233 rfl (by decide) ?_
    refine j_icmp_ne (tgt := 275) dL_lanes_234 (by decide) ?_ ?_
    · refine j_aload_n 0 dL_lanes_237 rfl ?_
      refine j_iload 7 dL_lanes_238 rfl ?_
      refine j_iconst (x := 0) dL_lanes_240 rfl (by decide) ?_
      refine j_cS (stk := []) [vr q0, vi x7, vi 0] dL_lanes_241 mv_lw_span lm_L_56 (ct_lw_span hq0 h) rfl rfl ⟨⟨Nat.le_of_ble_eq_true rfl, Nat.le_of_ble_eq_true rfl⟩, Nat.le_of_ble_eq_true rfl, Nat.le_of_ble_eq_true rfl⟩ (Nat.le_of_ble_eq_true rfl) rfl rfl (fun r1 h1 _ => ?_)
      refine j_aload_n 0 dL_lanes_244 rfl ?_
      refine j_iload 9 dL_lanes_245 rfl ?_
      refine j_iconst (x := 0) dL_lanes_247 rfl (by decide) ?_
      refine j_cS (stk := [vi r1]) [vr q0, vi x10, vi 0] dL_lanes_248 mv_lw_span lm_L_56 (ct_lw_span hq0 h1) rfl rfl ⟨⟨Nat.le_of_ble_eq_true rfl, Nat.le_of_ble_eq_true rfl⟩, Nat.le_of_ble_eq_true rfl, Nat.le_of_ble_eq_true rfl⟩ (Nat.le_of_ble_eq_true rfl) rfl rfl (fun r2 h2 _ => ?_)
      refine j_icmp_gt (tgt := 275) dL_lanes_251 (by decide) ?_ ?_
      · exact jb_lw_lanes_275 _ _ _ _ _ _ _ hq0 hq2 hk221 _
      · refine j_aload_n 0 dL_lanes_254 rfl ?_
        refine j_iload 7 dL_lanes_255 rfl ?_
        refine j_iconst (x := 1) dL_lanes_257 rfl (by decide) ?_
        refine j_cS (stk := []) [vr q0, vi x7, vi 1] dL_lanes_258 mv_lw_span lm_L_56 (ct_lw_span hq0 h2) rfl rfl ⟨⟨Nat.le_of_ble_eq_true rfl, Nat.le_of_ble_eq_true rfl⟩, Nat.le_of_ble_eq_true rfl, Nat.le_of_ble_eq_true rfl⟩ (Nat.le_of_ble_eq_true rfl) rfl rfl (fun r3 h3 _ => ?_)
        refine j_aload_n 0 dL_lanes_261 rfl ?_
        refine j_iload 9 dL_lanes_262 rfl ?_
        refine j_iconst (x := 1) dL_lanes_264 rfl (by decide) ?_
        refine j_cS (stk := [vi r3]) [vr q0, vi x10, vi 1] dL_lanes_265 mv_lw_span lm_L_56 (ct_lw_span hq0 h3) rfl rfl ⟨⟨Nat.le_of_ble_eq_true rfl, Nat.le_of_ble_eq_true rfl⟩, Nat.le_of_ble_eq_true rfl, Nat.le_of_ble_eq_true rfl⟩ (Nat.le_of_ble_eq_true rfl) rfl rfl (fun r4 h4 _ => ?_)
        refine j_icmp_lt (tgt := 275) dL_lanes_268 (by decide) ?_ ?_
        · exact jb_lw_lanes_275 _ _ _ _ _ _ _ hq0 hq2 hk221 _
        · refine j_iconst (x := 1) dL_lanes_271 rfl (by decide) ?_
          refine j_goto (tgt := 276) dL_lanes_272 (by decide) ?_
          exact jb_lw_lanes_276 _ _ _ _ _ _ _ _ hq0 hq2 hk221 _
    · exact jb_lw_lanes_275 _ _ _ _ _ _ _ hq0 hq2 hk221 _
  · refine j_sub [0, 1, 2, 3, 4, 5, 6, 7, 8] rfl ?_
    exact jl_lw_lanes_311 _ _ _ _ _ hq0 hq2 hk58 fuel _ _

set_option maxRecDepth 100000 in
set_option maxHeartbeats 4000000 in
theorem jb_lw_lanes_203 {lay : List LK} {q0 : Nat} {x1 : Int} {q2 : Nat} {k74 : Int → Int → Int → Hp → O Int} (x3 x4 x5 x6 x7 x8 x9 : Int) (hq0 : sub lay q0 blkLines) (hq2 : lay[q2]? = some (0, 16, 0, 0)) (hk74 : ∀ (x7 x8 x9 : Int) (h : Hp), J mi_lw_lanes encI (Same lay) lay 1 16 74 [(0, vr q0), (1, vi x1), (2, vr q2), (3, vi x3), (4, vi x4), (5, vi x5), (6, vi x6), (7, vi x7), (8, vi x8), (9, vi x9)] [] h (k74 x7 x8 x9 h))(h : Hp) : J mi_lw_lanes encI (Same lay) lay 1 16 203 [(0, vr q0), (1, vi x1), (2, vr q2), (3, vi x3), (4, vi x4), (5, vi x5), (6, vi x6), (7, vi x7), (8, vi x8), (9, vi x9)] [] h (lw_lanes_b203 q0 x1 q2 k74 x3 x4 x5 x6 x7 x8 x9 h) := by
  unfold lw_lanes_b203
  refine j_iinc 9 (lv' := [(9, vi (x9 + 1)), (0, vr q0), (1, vi x1), (2, vr q2), (3, vi x3), (4, vi x4), (5, vi x5), (6, vi x6), (7, vi x7), (8, vi x8)]) dL_lanes_203 rfl (Nat.le_of_ble_eq_true rfl) rfl ?_
  refine j_goto (tgt := 74) dL_lanes_206 (by decide) ?_
  refine j_sub [1, 2, 3, 4, 5, 6, 7, 8, 9, 0] rfl ?_
  exact hk74 _ _ _ _

set_option maxRecDepth 100000 in
set_option maxHeartbeats 4000000 in
theorem jb_lw_lanes_201 {lay : List LK} {q0 : Nat} {x1 : Int} {q2 : Nat} {k74 : Int → Int → Int → Hp → O Int} (x3 x4 x5 x6 x8 x9 s0 : Int) (hq0 : sub lay q0 blkLines) (hq2 : lay[q2]? = some (0, 16, 0, 0)) (hk74 : ∀ (x7 x8 x9 : Int) (h : Hp), J mi_lw_lanes encI (Same lay) lay 1 16 74 [(0, vr q0), (1, vi x1), (2, vr q2), (3, vi x3), (4, vi x4), (5, vi x5), (6, vi x6), (7, vi x7), (8, vi x8), (9, vi x9)] [] h (k74 x7 x8 x9 h))(h : Hp) : J mi_lw_lanes encI (Same lay) lay 1 16 201 [(0, vr q0), (1, vi x1), (2, vr q2), (3, vi x3), (4, vi x4), (5, vi x5), (6, vi x6), (8, vi x8), (9, vi x9)] [vi s0] h (lw_lanes_b201 q0 x1 q2 k74 x3 x4 x5 x6 x8 x9 s0 h) := by
  unfold lw_lanes_b201
  refine j_istore (lv' := [(7, vi s0), (0, vr q0), (1, vi x1), (2, vr q2), (3, vi x3), (4, vi x4), (5, vi x5), (6, vi x6), (8, vi x8), (9, vi x9)]) dL_lanes_201 (Nat.le_of_ble_eq_true rfl) rfl ?_
  refine j_sub [1, 2, 3, 4, 5, 6, 7, 0, 8, 9] rfl ?_
  exact jb_lw_lanes_203 _ _ _ _ _ _ _ hq0 hq2 hk74 _

set_option maxRecDepth 100000 in
set_option maxHeartbeats 4000000 in
theorem jb_lw_lanes_199 {lay : List LK} {q0 : Nat} {x1 : Int} {q2 : Nat} {k74 : Int → Int → Int → Hp → O Int} (x3 x4 x5 x6 x7 x8 x9 : Int) (hq0 : sub lay q0 blkLines) (hq2 : lay[q2]? = some (0, 16, 0, 0)) (hk74 : ∀ (x7 x8 x9 : Int) (h : Hp), J mi_lw_lanes encI (Same lay) lay 1 16 74 [(0, vr q0), (1, vi x1), (2, vr q2), (3, vi x3), (4, vi x4), (5, vi x5), (6, vi x6), (7, vi x7), (8, vi x8), (9, vi x9)] [] h (k74 x7 x8 x9 h))(h : Hp) : J mi_lw_lanes encI (Same lay) lay 1 16 199 [(0, vr q0), (1, vi x1), (2, vr q2), (3, vi x3), (4, vi x4), (5, vi x5), (6, vi x6), (7, vi x7), (8, vi x8), (9, vi x9)] [] h (lw_lanes_b199 q0 x1 q2 k74 x3 x4 x5 x6 x7 x8 x9 h) := by
  unfold lw_lanes_b199
  refine j_iload 7 dL_lanes_199 rfl ?_
  refine j_sub [0, 1, 2, 3, 4, 5, 6, 8, 9] rfl ?_
  exact jb_lw_lanes_201 _ _ _ _ _ _ _ hq0 hq2 hk74 _

set_option maxRecDepth 100000 in
set_option maxHeartbeats 4000000 in
theorem jb_lw_lanes_194 {lay : List LK} {q0 : Nat} {x1 : Int} {q2 : Nat} {k74 : Int → Int → Int → Hp → O Int} (x3 x4 x5 x6 x8 x9 : Int) (hq0 : sub lay q0 blkLines) (hq2 : lay[q2]? = some (0, 16, 0, 0)) (hk74 : ∀ (x7 x8 x9 : Int) (h : Hp), J mi_lw_lanes encI (Same lay) lay 1 16 74 [(0, vr q0), (1, vi x1), (2, vr q2), (3, vi x3), (4, vi x4), (5, vi x5), (6, vi x6), (7, vi x7), (8, vi x8), (9, vi x9)] [] h (k74 x7 x8 x9 h))(h : Hp) : J mi_lw_lanes encI (Same lay) lay 1 16 194 [(0, vr q0), (1, vi x1), (2, vr q2), (3, vi x3), (4, vi x4), (5, vi x5), (6, vi x6), (8, vi x8), (9, vi x9)] [] h (lw_lanes_b194 q0 x1 q2 k74 x3 x4 x5 x6 x8 x9 h) := by
  unfold lw_lanes_b194
  refine j_iload 8 dL_lanes_194 rfl ?_
  refine j_goto (tgt := 201) dL_lanes_196 (by decide) ?_
  exact jb_lw_lanes_201 _ _ _ _ _ _ _ hq0 hq2 hk74 _

set_option maxRecDepth 100000 in
set_option maxHeartbeats 4000000 in
theorem jb_lw_lanes_148 {lay : List LK} {q0 : Nat} {x1 : Int} {q2 : Nat} {k74 : Int → Int → Int → Hp → O Int} (x3 x4 x5 x6 x7 x9 x10 s0 : Int) (hq0 : sub lay q0 blkLines) (hq2 : lay[q2]? = some (0, 16, 0, 0)) (hk74 : ∀ (x7 x8 x9 : Int) (h : Hp), J mi_lw_lanes encI (Same lay) lay 1 16 74 [(0, vr q0), (1, vi x1), (2, vr q2), (3, vi x3), (4, vi x4), (5, vi x5), (6, vi x6), (7, vi x7), (8, vi x8), (9, vi x9)] [] h (k74 x7 x8 x9 h))(h : Hp) : J mi_lw_lanes encI (Same lay) lay 1 16 148 [(0, vr q0), (1, vi x1), (2, vr q2), (3, vi x3), (4, vi x4), (5, vi x5), (6, vi x6), (7, vi x7), (9, vi x9), (10, vi x10)] [vi s0] h (lw_lanes_b148 q0 x1 q2 k74 x3 x4 x5 x6 x7 x9 x10 s0 h) := by
  unfold lw_lanes_b148
  refine j_istore (lv' := [(8, vi s0), (0, vr q0), (1, vi x1), (2, vr q2), (3, vi x3), (4, vi x4), (5, vi x5), (6, vi x6), (7, vi x7), (9, vi x9), (10, vi x10)]) dL_lanes_148 (Nat.le_of_ble_eq_true rfl) rfl ?_
  refine j_iload 8 dL_lanes_150 rfl ?_
  refine j_if_lt (tgt := 194) dL_lanes_152 (by decide) ?_ ?_
  · refine j_sub [1, 2, 3, 4, 5, 6, 7, 0, 9] rfl ?_
    exact jb_lw_lanes_194 _ _ _ _ _ _ hq0 hq2 hk74 _
  · refine j_iload 10 dL_lanes_155 rfl ?_
    refine j_iload 0 dL_lanes_157 rfl ?_
    refine j_icmp_ne (tgt := 199) dL_lanes_159 (by decide) ?_ ?_
    · refine j_iload 10 dL_lanes_162 rfl ?_
      refine j_sipush (x := 1000) dL_lanes_164 (by decide) (by decide) ?_
      refine j_aload_n 1 dL_lanes_167 rfl ?_
      refine j_iload 8 dL_lanes_168 rfl ?_
      refine j_iconst (x := 1) dL_lanes_170 rfl (by decide) ?_
      refine j_cS (stk := [vi 1000, vi x10]) [vr q0, vi x7, vi 1] dL_lanes_171 mv_lw_span lm_L_56 (ct_lw_span hq0 h) rfl rfl ⟨⟨Nat.le_of_ble_eq_true rfl, Nat.le_of_ble_eq_true rfl⟩, Nat.le_of_ble_eq_true rfl, Nat.le_of_ble_eq_true rfl⟩ (Nat.le_of_ble_eq_true rfl) rfl rfl (fun r1 h1 _ => ?_)
      refine j_aload_n 1 dL_lanes_174 rfl ?_
      refine j_iload 8 dL_lanes_175 rfl ?_
      refine j_iconst (x := 0) dL_lanes_177 rfl (by decide) ?_
      refine j_cS (stk := [vi r1, vi 1000, vi x10]) [vr q0, vi x7, vi 0] dL_lanes_178 mv_lw_span lm_L_56 (ct_lw_span hq0 h1) rfl rfl ⟨⟨Nat.le_of_ble_eq_true rfl, Nat.le_of_ble_eq_true rfl⟩, Nat.le_of_ble_eq_true rfl, Nat.le_of_ble_eq_true rfl⟩ (Nat.le_of_ble_eq_true rfl) rfl rfl (fun r2 h2 _ => ?_)
      refine j_isub dL_lanes_181 ?_
      refine j_imul dL_lanes_182 ?_
      refine j_aload_n 1 dL_lanes_183 rfl ?_
      refine j_iload 8 dL_lanes_184 rfl ?_
      refine j_iconst (x := 0) dL_lanes_186 rfl (by decide) ?_
      refine j_cS (stk := [vi (1000 * (r1 - r2)), vi x10]) [vr q0, vi x7, vi 0] dL_lanes_187 mv_lw_span lm_L_56 (ct_lw_span hq0 h2) rfl rfl ⟨⟨Nat.le_of_ble_eq_true rfl, Nat.le_of_ble_eq_true rfl⟩, Nat.le_of_ble_eq_true rfl, Nat.le_of_ble_eq_true rfl⟩ (Nat.le_of_ble_eq_true rfl) rfl rfl (fun r3 h3 _ => ?_)
      refine j_iadd dL_lanes_190 ?_
      refine j_icmp_ge (tgt := 199) dL_lanes_191 (by decide) ?_ ?_
      · refine j_sub [1, 2, 3, 4, 5, 6, 7, 0, 9] rfl ?_
        exact jb_lw_lanes_194 _ _ _ _ _ _ hq0 hq2 hk74 _
      · refine j_sub [1, 2, 3, 4, 5, 6, 7, 8, 0, 9] rfl ?_
        exact jb_lw_lanes_199 _ _ _ _ _ _ _ hq0 hq2 hk74 _
    · refine j_sub [1, 2, 3, 4, 5, 6, 7, 8, 0, 9] rfl ?_
      exact jb_lw_lanes_199 _ _ _ _ _ _ _ hq0 hq2 hk74 _

set_option maxRecDepth 100000 in
set_option maxHeartbeats 4000000 in
theorem jb_lw_lanes_141 {lay : List LK} {q0 : Nat} {x1 : Int} {q2 : Nat} {k74 : Int → Int → Int → Hp → O Int} (x3 x4 x5 x6 x7 x9 x10 : Int) (hq0 : sub lay q0 blkLines) (hq2 : lay[q2]? = some (0, 16, 0, 0)) (hk74 : ∀ (x7 x8 x9 : Int) (h : Hp), J mi_lw_lanes encI (Same lay) lay 1 16 74 [(0, vr q0), (1, vi x1), (2, vr q2), (3, vi x3), (4, vi x4), (5, vi x5), (6, vi x6), (7, vi x7), (8, vi x8), (9, vi x9)] [] h (k74 x7 x8 x9 h))(h : Hp) : J mi_lw_lanes encI (Same lay) lay 1 16 141 [(0, vr q0), (1, vi x1), (2, vr q2), (3, vi x3), (4, vi x4), (5, vi x5), (6, vi x6), (7, vi x7), (9, vi x9), (10, vi x10)] [] h (lw_lanes_b141 q0 x1 q2 k74 x3 x4 x5 x6 x7 x9 x10 h) := by
  unfold lw_lanes_b141
  refine j_iload 9 dL_lanes_141 rfl ?_
  refine j_goto (tgt := 148) dL_lanes_143 (by decide) ?_
  exact jb_lw_lanes_148 _ _ _ _ _ _ _ _ hq0 hq2 hk74 _

set_option maxRecDepth 100000 in
set_option maxHeartbeats 4000000 in
theorem jl_lw_lanes_74 {lay : List LK} {q0 : Nat} {x1 : Int} {q2 : Nat} {k58 : Int → Int → Int → Hp → O Int} (x3 x4 x5 x6 : Int) (hq0 : sub lay q0 blkLines) (hq2 : lay[q2]? = some (0, 16, 0, 0)) (hk58 : ∀ (x3 x5 x6 : Int) (h : Hp), J mi_lw_lanes encI (Same lay) lay 1 16 58 [(0, vr q0), (1, vi x1), (2, vr q2), (3, vi x3), (4, vi x4), (5, vi x5), (6, vi x6)] [] h (k58 x3 x5 x6 h)) : ∀ (n : Nat) (x7 x8 x9 : Int) (h : Hp), J mi_lw_lanes encI (Same lay) lay 1 16 74 [(0, vr q0), (1, vi x1), (2, vr q2), (3, vi x3), (4, vi x4), (5, vi x5), (6, vi x6), (7, vi x7), (8, vi x8), (9, vi x9)] [] h (iter3 (lw_lanes_f74 q0 x1 q2 k58 x3 x4 x5 x6) n x7 x8 x9 h) := by
  refine j_iter3 (lf := fun x7 x8 x9 => [(0, vr q0), (1, vi x1), (2, vr q2), (3, vi x3), (4, vi x4), (5, vi x5), (6, vi x6), (7, vi x7), (8, vi x8), (9, vi x9)]) (fun k74 hk74 x7 x8 x9 h => ?_)
  unfold lw_lanes_f74
  refine j_iload 9 dL_lanes_74 rfl ?_
  refine j_iload_n 1 dL_lanes_76 rfl ?_
  refine j_icmp_ge (tgt := 209) dL_lanes_77 (by decide) ?_ ?_
  · refine j_aload_n 0 dL_lanes_80 rfl ?_
    refine j_iload 9 dL_lanes_81 rfl ?_
    refine j_cS (stk := []) [vr q0, vi x9] dL_lanes_83 mv_lw_unit lm_L_52 (ct_lw_unit hq0 h) rfl rfl ⟨⟨Nat.le_of_ble_eq_true rfl, Nat.le_of_ble_eq_true rfl⟩, Nat.le_of_ble_eq_true rfl, Nat.le_of_ble_eq_true rfl⟩ (Nat.le_of_ble_eq_true rfl) rfl rfl (fun r1 h1 _ => ?_)
    refine j_iload 9 dL_lanes_86 rfl ?_
    refine j_icmp_ne (tgt := 203) dL_lanes_88 (by decide) ?_ ?_
    · refine j_iload_n 3 dL_lanes_91 rfl ?_
      refine j_iload 9 dL_lanes_92 rfl ?_
      refine j_ishr dL_lanes_94 ?_
      refine j_iconst (x := 1) dL_lanes_95 rfl (by decide) ?_
      refine j_iand 1 2 dL_lanes_96 (by decide) (by decide) rfl (by decide) ?_
      refine j_if_ne (tgt := 203) dL_lanes_97 (by decide) ?_ ?_
      · refine j_sipush (x := 1000) dL_lanes_100 (by decide) (by decide) ?_
        refine j_aload_n 0 dL_lanes_103 rfl ?_
        refine j_iload 9 dL_lanes_104 rfl ?_
        refine j_iconst (x := 1) dL_lanes_106 rfl (by decide) ?_
        refine j_cS (stk := [vi 1000]) [vr q0, vi x9, vi 1] dL_lanes_107 mv_lw_span lm_L_56 (ct_lw_span hq0 h1) rfl rfl ⟨⟨Nat.le_of_ble_eq_true rfl, Nat.le_of_ble_eq_true rfl⟩, Nat.le_of_ble_eq_true rfl, Nat.le_of_ble_eq_true rfl⟩ (Nat.le_of_ble_eq_true rfl) rfl rfl (fun r2 h2 _ => ?_)
        refine j_aload_n 0 dL_lanes_110 rfl ?_
        refine j_iload 9 dL_lanes_111 rfl ?_
        refine j_iconst (x := 0) dL_lanes_113 rfl (by decide) ?_
        refine j_cS (stk := [vi r2, vi 1000]) [vr q0, vi x9, vi 0] dL_lanes_114 mv_lw_span lm_L_56 (ct_lw_span hq0 h2) rfl rfl ⟨⟨Nat.le_of_ble_eq_true rfl, Nat.le_of_ble_eq_true rfl⟩, Nat.le_of_ble_eq_true rfl, Nat.le_of_ble_eq_true rfl⟩ (Nat.le_of_ble_eq_true rfl) rfl rfl (fun r3 h3 _ => ?_)
        refine j_isub dL_lanes_117 ?_
        refine j_imul dL_lanes_118 ?_
        refine j_aload_n 0 dL_lanes_119 rfl ?_
        refine j_iload 9 dL_lanes_120 rfl ?_
        refine j_iconst (x := 0) dL_lanes_122 rfl (by decide) ?_
        refine j_cS (stk := [vi (1000 * (r2 - r3))]) [vr q0, vi x9, vi 0] dL_lanes_123 mv_lw_span lm_L_56 (ct_lw_span hq0 h3) rfl rfl ⟨⟨Nat.le_of_ble_eq_true rfl, Nat.le_of_ble_eq_true rfl⟩, Nat.le_of_ble_eq_true rfl, Nat.le_of_ble_eq_true rfl⟩ (Nat.le_of_ble_eq_true rfl) rfl rfl (fun r4 h4 _ => ?_)
        refine j_iadd dL_lanes_126 ?_
        refine j_istore (lv' := [(10, vi ((1000 * (r2 - r3)) + r4)), (0, vr q0), (1, vi x1), (2, vr q2), (3, vi x3), (4, vi x4), (5, vi x5), (6, vi x6), (7, vi x7), (8, vi x8), (9, vi x9)]) dL_lanes_127 (Nat.le_of_ble_eq_true rfl) rfl ?_
        refine j_iload 8 dL_lanes_129 rfl ?_
        refine j_if_lt (tgt := 141) dL_lanes_131 (by decide) ?_ ?_
        · refine j_sub [1, 2, 3, 4, 5, 6, 7, 8, 10, 0] rfl ?_
          exact jb_lw_lanes_141 _ _ _ _ _ _ _ hq0 hq2 hk74 _
        · refine j_iload 0 dL_lanes_134 rfl ?_
          refine j_iload 9 dL_lanes_136 rfl ?_
          refine j_icmp_ge (tgt := 146) dL_lanes_138 (by decide) ?_ ?_
          · refine j_sub [1, 2, 3, 4, 5, 6, 7, 8, 10, 0] rfl ?_
            exact jb_lw_lanes_141 _ _ _ _ _ _ _ hq0 hq2 hk74 _
          · refine j_iload 9 dL_lanes_146 rfl ?_
            refine j_sub [1, 2, 3, 4, 5, 6, 7, 8, 10, 0] rfl ?_
            exact jb_lw_lanes_148 _ _ _ _ _ _ _ _ hq0 hq2 hk74 _
      · exact jb_lw_lanes_203 _ _ _ _ _ _ _ hq0 hq2 hk74 _
    · exact jb_lw_lanes_203 _ _ _ _ _ _ _ hq0 hq2 hk74 _
  · refine j_aload_n 0 dL_lanes_209 rfl ?_
    refine j_iload 7 dL_lanes_210 rfl ?_
    refine j_iconst (x := 2) dL_lanes_212 rfl (by decide) ?_
    refine j_cS (stk := []) [vr q0, vi x7, vi 2] dL_lanes_213 mv_lw_span lm_L_56 (ct_lw_span hq0 h) rfl rfl ⟨⟨Nat.le_of_ble_eq_true rfl, Nat.le_of_ble_eq_true rfl⟩, Nat.le_of_ble_eq_true rfl, Nat.le_of_ble_eq_true rfl⟩ (Nat.le_of_ble_eq_true rfl) rfl rfl (fun r5 h5 _ => ?_)
    refine j_istore (lv' := [(9, vi r5), (0, vr q0), (1, vi x1), (2, vr q2), (3, vi x3), (4, vi x4), (5, vi x5), (6, vi x6), (7, vi x7), (8, vi x8)]) dL_lanes_216 (Nat.le_of_ble_eq_true rfl) rfl ?_
    refine j_iconst (x := 0) dL_lanes_218 rfl (by decide) ?_
    refine j_istore (lv' := [(10, vi 0), (9, vi r5), (0, vr q0), (1, vi x1), (2, vr q2), (3, vi x3), (4, vi x4), (5, vi x5), (6, vi x6), (7, vi x7), (8, vi x8)]) dL_lanes_219 (Nat.le_of_ble_eq_true rfl) rfl ?_
    refine j_sub [2, 3, 4, 5, 6, 7, 8, 9, 1, 0] rfl ?_
    exact jl_lw_lanes_221 _ _ _ _ _ hq0 hq2 hk58 fuel _ _ _

set_option maxRecDepth 100000 in
set_option maxHeartbeats 4000000 in
theorem jl_lw_lanes_58 {lay : List LK} {q0 : Nat} {x1 : Int} {q2 : Nat}  (x4 : Int) (hq0 : sub lay q0 blkLines) (hq2 : lay[q2]? = some (0, 16, 0, 0))  : ∀ (n : Nat) (x3 x5 x6 : Int) (h : Hp), J mi_lw_lanes encI (Same lay) lay 1 16 58 [(0, vr q0), (1, vi x1), (2, vr q2), (3, vi x3), (4, vi x4), (5, vi x5), (6, vi x6)] [] h (iter3 (lw_lanes_f58 q0 x1 q2 x4) n x3 x5 x6 h) := by
  refine j_iter3 (lf := fun x3 x5 x6 => [(0, vr q0), (1, vi x1), (2, vr q2), (3, vi x3), (4, vi x4), (5, vi x5), (6, vi x6)]) (fun k58 hk58 x3 x5 x6 h => ?_)
  unfold lw_lanes_f58
  refine j_iload 6 dL_lanes_58 rfl ?_
  refine j_iload 4 dL_lanes_60 rfl ?_
  refine j_icmp_ge (tgt := 369) dL_lanes_62 (by decide) ?_ ?_
  · refine j_iconst (x := (-1)) dL_lanes_65 rfl (by decide) ?_
    refine j_istore (lv' := [(7, vi (-1)), (0, vr q0), (1, vi x1), (2, vr q2), (3, vi x3), (4, vi x4), (5, vi x5), (6, vi x6)]) dL_lanes_66 (Nat.le_of_ble_eq_true rfl) rfl ?_
    refine j_iconst (x := 0) dL_lanes_68 rfl (by decide) ?_
    refine j_istore (lv' := [(8, vi 0), (7, vi (-1)), (0, vr q0), (1, vi x1), (2, vr q2), (3, vi x3), (4, vi x4), (5, vi x5), (6, vi x6)]) dL_lanes_69 (Nat.le_of_ble_eq_true rfl) rfl ?_
    refine j_iconst (x := 0) dL_lanes_71 rfl (by decide) ?_
    refine j_istore (lv' := [(9, vi 0), (8, vi 0), (7, vi (-1)), (0, vr q0), (1, vi x1), (2, vr q2), (3, vi x3), (4, vi x4), (5, vi x5), (6, vi x6)]) dL_lanes_72 (Nat.le_of_ble_eq_true rfl) rfl ?_
    refine j_sub [3, 4, 5, 6, 7, 8, 9, 2, 1, 0] rfl ?_
    exact jl_lw_lanes_74 _ _ _ _ hq0 hq2 hk58 fuel _ _ _ _
  · refine j_iconst (x := 0) dL_lanes_369 rfl (by decide) ?_
    refine j_istore (lv' := [(6, vi 0), (0, vr q0), (1, vi x1), (2, vr q2), (3, vi x3), (4, vi x4), (5, vi x5)]) dL_lanes_370 (Nat.le_of_ble_eq_true rfl) rfl ?_
    refine j_sub [1, 2, 3, 5, 6, 0] rfl ?_
    exact jl_lw_lanes_372 _ _ hq0 hq2 fuel _ _

set_option maxRecDepth 100000 in
set_option maxHeartbeats 4000000 in
theorem jb_lw_lanes_43 {lay : List LK} {q0 : Nat} {x1 : Int} {q2 : Nat} {k19 : Int → Int → Hp → O Int} (x3 x5 s0 s1 : Int) (hq0 : sub lay q0 blkLines) (hq2 : lay[q2]? = some (0, 16, 0, 0)) (hk19 : ∀ (x4 x5 : Int) (h : Hp), J mi_lw_lanes encI (Same lay) lay 1 16 19 [(0, vr q0), (1, vi x1), (2, vr q2), (3, vi x3), (4, vi x4), (5, vi x5)] [] h (k19 x4 x5 h))(h : Hp) : J mi_lw_lanes encI (Same lay) lay 1 16 43 [(0, vr q0), (1, vi x1), (2, vr q2), (3, vi x3), (5, vi x5)] [vi s0, vi s1] h (lw_lanes_b43 q0 x1 q2 k19 x3 x5 s0 s1 h) := by
  unfold lw_lanes_b43
  refine j_iadd dL_lanes_43 ?_
  refine j_istore (lv' := [(4, vi (s1 + s0)), (0, vr q0), (1, vi x1), (2, vr q2), (3, vi x3), (5, vi x5)]) dL_lanes_44 (Nat.le_of_ble_eq_true rfl) rfl ?_
  refine j_iinc 5 (lv' := [(5, vi (x5 + 1)), (4, vi (s1 + s0)), (0, vr q0), (1, vi x1), (2, vr q2), (3, vi x3)]) dL_lanes_46 rfl (Nat.le_of_ble_eq_true rfl) rfl ?_
  refine j_goto (tgt := 19) dL_lanes_49 (by decide) ?_
  refine j_sub [2, 3, 4, 5, 1, 0] rfl ?_
  exact hk19 _ _ _

set_option maxRecDepth 100000 in
set_option maxHeartbeats 4000000 in
theorem jl_lw_lanes_19 {lay : List LK} {q0 : Nat} {x1 : Int} {q2 : Nat}  (x3 : Int) (hq0 : sub lay q0 blkLines) (hq2 : lay[q2]? = some (0, 16, 0, 0))  : ∀ (n : Nat) (x4 x5 : Int) (h : Hp), J mi_lw_lanes encI (Same lay) lay 1 16 19 [(0, vr q0), (1, vi x1), (2, vr q2), (3, vi x3), (4, vi x4), (5, vi x5)] [] h (iter2 (lw_lanes_f19 q0 x1 q2 x3) n x4 x5 h) := by
  refine j_iter2 (lf := fun x4 x5 => [(0, vr q0), (1, vi x1), (2, vr q2), (3, vi x3), (4, vi x4), (5, vi x5)]) (fun k19 hk19 x4 x5 h => ?_)
  unfold lw_lanes_f19
  refine j_iload 5 dL_lanes_19 rfl ?_
  refine j_iload_n 1 dL_lanes_21 rfl ?_
  refine j_icmp_ge (tgt := 52) dL_lanes_22 (by decide) ?_ ?_
  · refine j_iload 4 dL_lanes_25 rfl ?_
    refine j_aload_n 0 dL_lanes_27 rfl ?_
    refine j_iload 5 dL_lanes_28 rfl ?_
    refine j_cS (stk := [vi x4]) [vr q0, vi x5] dL_lanes_30 mv_lw_unit lm_L_52 (ct_lw_unit hq0 h) rfl rfl ⟨⟨Nat.le_of_ble_eq_true rfl, Nat.le_of_ble_eq_true rfl⟩, Nat.le_of_ble_eq_true rfl, Nat.le_of_ble_eq_true rfl⟩ (Nat.le_of_ble_eq_true rfl) rfl rfl (fun r1 h1 _ => ?_)
    refine j_iload 5 dL_lanes_33 rfl ?_
    refine j_icmp_ne (tgt := 42) dL_lanes_35 (by decide) ?_ ?_
    · refine j_iconst (x := 1) dL_lanes_38 rfl (by decide) ?_
      refine j_goto (tgt := 43) dL_lanes_39 (by decide) ?_
      refine j_sub [0, 1, 2, 3, 5] rfl ?_
      exact jb_lw_lanes_43 _ _ _ _ hq0 hq2 hk19 _
    · refine j_iconst (x := 0) dL_lanes_42 rfl (by decide) ?_
      refine j_sub [0, 1, 2, 3, 5] rfl ?_
      exact jb_lw_lanes_43 _ _ _ _ hq0 hq2 hk19 _
  · refine j_iconst (x := 0) dL_lanes_52 rfl (by decide) ?_
    refine j_istore (lv' := [(5, vi 0), (0, vr q0), (1, vi x1), (2, vr q2), (3, vi x3), (4, vi x4)]) dL_lanes_53 (Nat.le_of_ble_eq_true rfl) rfl ?_
    refine j_iconst (x := 0) dL_lanes_55 rfl (by decide) ?_
    refine j_istore (lv' := [(6, vi 0), (5, vi 0), (0, vr q0), (1, vi x1), (2, vr q2), (3, vi x3), (4, vi x4)]) dL_lanes_56 (Nat.le_of_ble_eq_true rfl) rfl ?_
    refine j_sub [2, 3, 4, 5, 6, 1, 0] rfl ?_
    exact jl_lw_lanes_58 _ hq0 hq2 fuel _ _ _ _

set_option maxRecDepth 100000 in
set_option maxHeartbeats 4000000 in
theorem jb_lw_lanes_11 {lay : List LK} {q0 : Nat} {x1 : Int} {q2 : Nat}  (hq0 : sub lay q0 blkLines) (hq2 : lay[q2]? = some (0, 16, 0, 0)) (h : Hp) : J mi_lw_lanes encI (Same lay) lay 1 16 11 [(0, vr q0), (1, vi x1), (2, vr q2)] [] h (lw_lanes_b11 q0 x1 q2 h) := by
  unfold lw_lanes_b11
  refine j_iconst (x := 0) dL_lanes_11 rfl (by decide) ?_
  refine j_istore_n (lv' := [(3, vi 0), (0, vr q0), (1, vi x1), (2, vr q2)]) dL_lanes_12 (Nat.le_of_ble_eq_true rfl) rfl ?_
  refine j_iconst (x := 0) dL_lanes_13 rfl (by decide) ?_
  refine j_istore (lv' := [(4, vi 0), (3, vi 0), (0, vr q0), (1, vi x1), (2, vr q2)]) dL_lanes_14 (Nat.le_of_ble_eq_true rfl) rfl ?_
  refine j_iconst (x := 0) dL_lanes_16 rfl (by decide) ?_
  refine j_istore (lv' := [(5, vi 0), (4, vi 0), (3, vi 0), (0, vr q0), (1, vi x1), (2, vr q2)]) dL_lanes_17 (Nat.le_of_ble_eq_true rfl) rfl ?_
  refine j_sub [3, 4, 5, 2, 1, 0] rfl ?_
  exact jl_lw_lanes_19 _ hq0 hq2 fuel _ _ _

set_option maxRecDepth 100000 in
set_option maxHeartbeats 4000000 in
theorem jb_lw_witnesses_310 {lay : List LK} {q0 : Nat} {q2 : Nat}  (s0 : Int) (hq0 : sub lay q0 blkLines) (hq2 : lay[q2]? = some (0, 16, 0, 0)) (h : Hp) : J mi_lw_witnesses encI (Same lay) lay 1 16 310 [] [vi s0] h (lw_witnesses_b310 q0 q2 s0 h) := by
  unfold lw_witnesses_b310
  exact j_retZ rfl rfl rfl dL_witnesses_310 rfl ⟨Nat.le_refl _, Nat.le_refl _⟩ rfl

set_option maxRecDepth 100000 in
set_option maxHeartbeats 4000000 in
theorem jl_lw_witnesses_266 {lay : List LK} {q0 : Nat} {q2 : Nat}  (x1 : Int) (hq0 : sub lay q0 blkLines) (hq2 : lay[q2]? = some (0, 16, 0, 0))  : ∀ (n : Nat) (x3 : Int) (h : Hp), J mi_lw_witnesses encI (Same lay) lay 1 16 266 [(0, vr q0), (1, vi x1), (2, vr q2), (3, vi x3)] [] h (iter1 (lw_witnesses_f266 q0 q2 x1) n x3 h) := by
  refine j_iter1 (lf := fun x3 => [(0, vr q0), (1, vi x1), (2, vr q2), (3, vi x3)]) (fun k266 hk266 x3 h => ?_)
  unfold lw_witnesses_f266
  refine j_iload_n 3 dL_witnesses_266 rfl ?_
  refine j_aload_n 0 dL_witnesses_267 rfl ?_
  refine j_iconst (x := 1) dL_witnesses_268 rfl (by decide) ?_
  refine j_cV (stk := [vi x3]) [vi 1] q0 dL_witnesses_269 mv_dl_count lm_L_42 (sub_k hq0 0 rfl rfl) zc_5 (ct_dl_count hq0 h) rfl rfl ⟨⟨Nat.le_of_ble_eq_true rfl, Nat.le_of_ble_eq_true rfl⟩, Nat.le_of_ble_eq_true rfl, Nat.le_of_ble_eq_true rfl⟩ (Nat.le_of_ble_eq_true rfl) rfl rfl (fun r1 h1 _ => ?_)
  refine j_icmp_ge (tgt := 296) dL_witnesses_272 (by decide) ?_ ?_
  · refine j_aload_n 0 dL_witnesses_275 rfl ?_
    refine j_iload_n 3 dL_witnesses_276 rfl ?_
    refine j_bipush (x := 12) dL_witnesses_277 (by decide) (by decide) ?_
    refine j_cV (stk := []) [vi x3, vi 12] q0 dL_witnesses_279 mv_dl_dimension lm_L_45 (sub_k hq0 0 rfl rfl) zc_5 (ct_dl_dimension hq0 h1) rfl rfl ⟨⟨Nat.le_of_ble_eq_true rfl, Nat.le_of_ble_eq_true rfl⟩, Nat.le_of_ble_eq_true rfl, Nat.le_of_ble_eq_true rfl⟩ (Nat.le_of_ble_eq_true rfl) rfl rfl (fun r2 h2 _ => ?_)
    refine j_aload_n 2 dL_witnesses_282 rfl ?_
    refine j_iload_n 3 dL_witnesses_283 rfl ?_
    refine j_iald dL_witnesses_284 hq2 rfl ?_
    refine j_icmp_eq (tgt := 290) dL_witnesses_285 (by decide) ?_ ?_
    · refine j_iinc 3 (lv' := [(3, vi (x3 + 1)), (0, vr q0), (1, vi x1), (2, vr q2)]) dL_witnesses_290 rfl (Nat.le_of_ble_eq_true rfl) rfl ?_
      refine j_goto (tgt := 266) dL_witnesses_293 (by decide) ?_
      refine j_sub [1, 2, 3, 0] rfl ?_
      exact hk266 _ _
    · refine j_iconst (x := 0) dL_witnesses_288 rfl (by decide) ?_
      exact j_retZ bz0.symm rfl rfl dL_witnesses_289 rfl ⟨Nat.le_refl _, Nat.le_refl _⟩ rfl
  · refine j_aload_n 0 dL_witnesses_296 rfl ?_
    refine j_iconst (x := 4) dL_witnesses_297 rfl (by decide) ?_
    refine j_cV (stk := []) [vi 4] q0 dL_witnesses_298 mv_dl_count lm_L_42 (sub_k hq0 0 rfl rfl) zc_5 (ct_dl_count hq0 h1) rfl rfl ⟨⟨Nat.le_of_ble_eq_true rfl, Nat.le_of_ble_eq_true rfl⟩, Nat.le_of_ble_eq_true rfl, Nat.le_of_ble_eq_true rfl⟩ (Nat.le_of_ble_eq_true rfl) rfl rfl (fun r3 h3 _ => ?_)
    refine j_iload_n 1 dL_witnesses_301 rfl ?_
    refine j_icmp_ne (tgt := 309) dL_witnesses_302 (by decide) ?_ ?_
    · refine j_iconst (x := 1) dL_witnesses_305 rfl (by decide) ?_
      refine j_goto (tgt := 310) dL_witnesses_306 (by decide) ?_
      refine j_sub [] rfl ?_
      exact jb_lw_witnesses_310 _ hq0 hq2 _
    · refine j_iconst (x := 0) dL_witnesses_309 rfl (by decide) ?_
      refine j_sub [] rfl ?_
      exact jb_lw_witnesses_310 _ hq0 hq2 _

set_option maxRecDepth 100000 in
set_option maxHeartbeats 4000000 in
theorem jb_lw_witnesses_256 {lay : List LK} {q0 : Nat} {q2 : Nat}  (hq0 : sub lay q0 blkLines) (hq2 : lay[q2]? = some (0, 16, 0, 0)) (h : Hp) : J mi_lw_witnesses encI (Same lay) lay 1 16 256 [] [] h (lw_witnesses_b256 q0 q2 h) := by
  unfold lw_witnesses_b256
  refine j_iconst (x := 0) dL_witnesses_256 rfl (by decide) ?_
  exact j_retZ bz0.symm rfl rfl dL_witnesses_257 rfl ⟨Nat.le_refl _, Nat.le_refl _⟩ rfl

set_option maxRecDepth 100000 in
set_option maxHeartbeats 4000000 in
theorem jb_lw_witnesses_210 {lay : List LK} {q0 : Nat} {q2 : Nat} {k128 : Int → Int → Hp → O Int} (x1 x3 x4 x5 x6 x7 s0 s1 s2 : Int) (hq0 : sub lay q0 blkLines) (hq2 : lay[q2]? = some (0, 16, 0, 0)) (hk128 : ∀ (x6 x7 : Int) (h : Hp), J mi_lw_witnesses encI (Same lay) lay 1 16 128 [(0, vr q0), (1, vi x1), (2, vr q2), (3, vi x3), (4, vi x4), (5, vi x5), (6, vi x6), (7, vi x7)] [] h (k128 x6 x7 h))(h : Hp) : J mi_lw_witnesses encI (Same lay) lay 1 16 210 [(0, vr q0), (1, vi x1), (2, vr q2), (3, vi x3), (4, vi x4), (5, vi x5), (6, vi x6), (7, vi x7)] [vi s0, vi s1, vi s2, vr q2] h (lw_witnesses_b210 q0 q2 k128 x1 x3 x4 x5 x6 x7 s0 s1 s2 h) := by
  unfold lw_witnesses_b210
  refine j_iadd dL_witnesses_210 ?_
  refine j_iast dL_witnesses_211 hq2 rfl (fun h1 _ => ?_)
  refine j_iinc 7 (lv' := [(7, vi (x7 + 1)), (0, vr q0), (1, vi x1), (2, vr q2), (3, vi x3), (4, vi x4), (5, vi x5), (6, vi x6)]) dL_witnesses_212 rfl (Nat.le_of_ble_eq_true rfl) rfl ?_
  refine j_goto (tgt := 128) dL_witnesses_215 (by decide) ?_
  refine j_sub [1, 2, 3, 4, 5, 6, 7, 0] rfl ?_
  exact hk128 _ _ _

set_option maxRecDepth 100000 in
set_option maxHeartbeats 4000000 in
theorem jb_lw_witnesses_192 {lay : List LK} {q0 : Nat} {q2 : Nat} {k128 : Int → Int → Hp → O Int} (x1 x3 x4 x5 x7 x8 s0 s1 : Int) (hq0 : sub lay q0 blkLines) (hq2 : lay[q2]? = some (0, 16, 0, 0)) (hk128 : ∀ (x6 x7 : Int) (h : Hp), J mi_lw_witnesses encI (Same lay) lay 1 16 128 [(0, vr q0), (1, vi x1), (2, vr q2), (3, vi x3), (4, vi x4), (5, vi x5), (6, vi x6), (7, vi x7)] [] h (k128 x6 x7 h))(h : Hp) : J mi_lw_witnesses encI (Same lay) lay 1 16 192 [(0, vr q0), (1, vi x1), (2, vr q2), (3, vi x3), (4, vi x4), (5, vi x5), (7, vi x7), (8, vi x8)] [vi s0, vi s1] h (lw_witnesses_b192 q0 q2 k128 x1 x3 x4 x5 x7 x8 s0 s1 h) := by
  unfold lw_witnesses_b192
  refine j_iadd dL_witnesses_192 ?_
  refine j_istore (lv' := [(6, vi (s1 + s0)), (0, vr q0), (1, vi x1), (2, vr q2), (3, vi x3), (4, vi x4), (5, vi x5), (7, vi x7), (8, vi x8)]) dL_witnesses_193 (Nat.le_of_ble_eq_true rfl) rfl ?_
  refine j_aload_n 3 dL_witnesses_195 rfl ?_
  refine j_iload 7 dL_witnesses_196 rfl ?_
  refine j_dup2 dL_witnesses_198 (fun _ _ => rfl) (fun _ _ => rfl) ?_
  refine j_iald dL_witnesses_199 hq2 rfl ?_
  refine j_iload 8 dL_witnesses_200 rfl ?_
  refine j_if_eq (tgt := 209) dL_witnesses_202 (by decide) ?_ ?_
  · refine j_iconst (x := 0) dL_witnesses_209 rfl (by decide) ?_
    refine j_sub [1, 2, 3, 4, 5, 6, 0, 7] rfl ?_
    exact jb_lw_witnesses_210 _ _ _ _ _ _ _ _ _ hq0 hq2 hk128 _
  · refine j_iconst (x := 1) dL_witnesses_205 rfl (by decide) ?_
    refine j_goto (tgt := 210) dL_witnesses_206 (by decide) ?_
    refine j_sub [1, 2, 3, 4, 5, 6, 0, 7] rfl ?_
    exact jb_lw_witnesses_210 _ _ _ _ _ _ _ _ _ hq0 hq2 hk128 _

set_option maxRecDepth 100000 in
set_option maxHeartbeats 4000000 in
theorem jb_lw_witnesses_178 {lay : List LK} {q0 : Nat} {q2 : Nat} {k128 : Int → Int → Hp → O Int} (x1 x3 x4 x5 x6 x7 s0 : Int) (hq0 : sub lay q0 blkLines) (hq2 : lay[q2]? = some (0, 16, 0, 0)) (hk128 : ∀ (x6 x7 : Int) (h : Hp), J mi_lw_witnesses encI (Same lay) lay 1 16 128 [(0, vr q0), (1, vi x1), (2, vr q2), (3, vi x3), (4, vi x4), (5, vi x5), (6, vi x6), (7, vi x7)] [] h (k128 x6 x7 h))(h : Hp) : J mi_lw_witnesses encI (Same lay) lay 1 16 178 [(0, vr q0), (1, vi x1), (2, vr q2), (3, vi x3), (4, vi x4), (5, vi x5), (6, vi x6), (7, vi x7)] [vi s0] h (lw_witnesses_b178 q0 q2 k128 x1 x3 x4 x5 x6 x7 s0 h) := by
  unfold lw_witnesses_b178
  refine j_istore (lv' := [(8, vi s0), (0, vr q0), (1, vi x1), (2, vr q2), (3, vi x3), (4, vi x4), (5, vi x5), (6, vi x6), (7, vi x7)]) dL_witnesses_178 (Nat.le_of_ble_eq_true rfl) rfl ?_
  refine j_iload 7 dL_witnesses_180 rfl ?_
  refine j_iload 0 dL_witnesses_182 rfl ?_
  refine j_if_eq (tgt := 191) dL_witnesses_184 (by decide) ?_ ?_
  · refine j_iconst (x := 0) dL_witnesses_191 rfl (by decide) ?_
    refine j_sub [1, 2, 3, 4, 5, 6, 8, 0] rfl ?_
    exact jb_lw_witnesses_192 _ _ _ _ _ _ _ _ hq0 hq2 hk128 _
  · refine j_iconst (x := 1) dL_witnesses_187 rfl (by decide) ?_
    refine j_goto (tgt := 192) dL_witnesses_188 (by decide) ?_
    refine j_sub [1, 2, 3, 4, 5, 6, 8, 0] rfl ?_
    exact jb_lw_witnesses_192 _ _ _ _ _ _ _ _ hq0 hq2 hk128 _

set_option maxRecDepth 100000 in
set_option maxHeartbeats 4000000 in
theorem jb_lw_witnesses_177 {lay : List LK} {q0 : Nat} {q2 : Nat} {k128 : Int → Int → Hp → O Int} (x1 x3 x4 x5 x6 x7 : Int) (hq0 : sub lay q0 blkLines) (hq2 : lay[q2]? = some (0, 16, 0, 0)) (hk128 : ∀ (x6 x7 : Int) (h : Hp), J mi_lw_witnesses encI (Same lay) lay 1 16 128 [(0, vr q0), (1, vi x1), (2, vr q2), (3, vi x3), (4, vi x4), (5, vi x5), (6, vi x6), (7, vi x7)] [] h (k128 x6 x7 h))(h : Hp) : J mi_lw_witnesses encI (Same lay) lay 1 16 177 [(0, vr q0), (1, vi x1), (2, vr q2), (3, vi x3), (4, vi x4), (5, vi x5), (6, vi x6), (7, vi x7)] [] h (lw_witnesses_b177 q0 q2 k128 x1 x3 x4 x5 x6 x7 h) := by
  unfold lw_witnesses_b177
  refine j_iconst (x := 0) dL_witnesses_177 rfl (by decide) ?_
  exact jb_lw_witnesses_178 _ _ _ _ _ _ _ hq0 hq2 hk128 _

set_option maxRecDepth 100000 in
set_option maxHeartbeats 4000000 in
theorem jl_lw_witnesses_128 {lay : List LK} {q0 : Nat} {q2 : Nat} {k9 : Int → Int → Hp → O Int} (x1 x3 x4 x5 : Int) (hq0 : sub lay q0 blkLines) (hq2 : lay[q2]? = some (0, 16, 0, 0)) (hk9 : ∀ (x1 x3 : Int) (h : Hp), J mi_lw_witnesses encI (Same lay) lay 1 16 9 [(0, vr q0), (1, vi x1), (2, vr q2), (3, vi x3)] [] h (k9 x1 x3 h)) : ∀ (n : Nat) (x6 x7 : Int) (h : Hp), J mi_lw_witnesses encI (Same lay) lay 1 16 128 [(0, vr q0), (1, vi x1), (2, vr q2), (3, vi x3), (4, vi x4), (5, vi x5), (6, vi x6), (7, vi x7)] [] h (iter2 (lw_witnesses_f128 q0 q2 k9 x1 x3 x4 x5) n x6 x7 h) := by
  refine j_iter2 (lf := fun x6 x7 => [(0, vr q0), (1, vi x1), (2, vr q2), (3, vi x3), (4, vi x4), (5, vi x5), (6, vi x6), (7, vi x7)]) (fun k128 hk128 x6 x7 h => ?_)
  unfold lw_witnesses_f128
  refine j_iload 7 dL_witnesses_128 rfl ?_
  refine j_aload_n 0 dL_witnesses_130 rfl ?_
  refine j_iconst (x := 1) dL_witnesses_131 rfl (by decide) ?_
  refine j_cV (stk := [vi x7]) [vi 1] q0 dL_witnesses_132 mv_dl_count lm_L_42 (sub_k hq0 0 rfl rfl) zc_5 (ct_dl_count hq0 h) rfl rfl ⟨⟨Nat.le_of_ble_eq_true rfl, Nat.le_of_ble_eq_true rfl⟩, Nat.le_of_ble_eq_true rfl, Nat.le_of_ble_eq_true rfl⟩ (Nat.le_of_ble_eq_true rfl) rfl rfl (fun r1 h1 _ => ?_)
  refine j_icmp_ge (tgt := 218) dL_witnesses_135 (by decide) ?_ ?_
  · refine j_aload_n 0 dL_witnesses_138 rfl ?_
    refine j_iload 7 dL_witnesses_139 rfl ?_
    refine j_bipush (x := 10) dL_witnesses_141 (by decide) (by decide) ?_
    refine j_cV (stk := []) [vi x7, vi 10] q0 dL_witnesses_143 mv_dl_dimension lm_L_45 (sub_k hq0 0 rfl rfl) zc_5 (ct_dl_dimension hq0 h1) rfl rfl ⟨⟨Nat.le_of_ble_eq_true rfl, Nat.le_of_ble_eq_true rfl⟩, Nat.le_of_ble_eq_true rfl, Nat.le_of_ble_eq_true rfl⟩ (Nat.le_of_ble_eq_true rfl) rfl rfl (fun r2 h2 _ => ?_)
    refine j_iload 5 dL_witnesses_146 rfl ?_
    refine j_icmp_ge (tgt := 177) dL_witnesses_148 (by decide) ?_ ?_
    · refine j_aload_n 0 dL_witnesses_151 rfl ?_
      refine j_iload 7 dL_witnesses_152 rfl ?_
      refine j_iconst (x := 0) dL_witnesses_154 rfl (by decide) ?_
      refine j_cV (stk := []) [vi x7, vi 0] q0 dL_witnesses_155 mv_dl_dimension lm_L_45 (sub_k hq0 0 rfl rfl) zc_5 (ct_dl_dimension hq0 h2) rfl rfl ⟨⟨Nat.le_of_ble_eq_true rfl, Nat.le_of_ble_eq_true rfl⟩, Nat.le_of_ble_eq_true rfl, Nat.le_of_ble_eq_true rfl⟩ (Nat.le_of_ble_eq_true rfl) rfl rfl (fun r3 h3 _ => ?_)
      refine j_iload_n 3 dL_witnesses_158 rfl ?_
      refine j_icmp_ge (tgt := 177) dL_witnesses_159 (by decide) ?_ ?_
      · refine j_aload_n 0 dL_witnesses_162 rfl ?_
        refine j_iload 7 dL_witnesses_163 rfl ?_
        refine j_iconst (x := 1) dL_witnesses_165 rfl (by decide) ?_
        refine j_cV (stk := []) [vi x7, vi 1] q0 dL_witnesses_166 mv_dl_dimension lm_L_45 (sub_k hq0 0 rfl rfl) zc_5 (ct_dl_dimension hq0 h3) rfl rfl ⟨⟨Nat.le_of_ble_eq_true rfl, Nat.le_of_ble_eq_true rfl⟩, Nat.le_of_ble_eq_true rfl, Nat.le_of_ble_eq_true rfl⟩ (Nat.le_of_ble_eq_true rfl) rfl rfl (fun r4 h4 _ => ?_)
        refine j_iload_n 3 dL_witnesses_169 rfl ?_
        refine j_icmp_le (tgt := 177) dL_witnesses_170 (by decide) ?_ ?_
        · refine j_iconst (x := 1) dL_witnesses_173 rfl (by decide) ?_
          refine j_goto (tgt := 178) dL_witnesses_174 (by decide) ?_
          exact jb_lw_witnesses_178 _ _ _ _ _ _ _ hq0 hq2 hk128 _
        · exact jb_lw_witnesses_177 _ _ _ _ _ _ hq0 hq2 hk128 _
      · exact jb_lw_witnesses_177 _ _ _ _ _ _ hq0 hq2 hk128 _
    · exact jb_lw_witnesses_177 _ _ _ _ _ _ hq0 hq2 hk128 _
  · refine j_iload_n 1 dL_witnesses_218 rfl ?_
    refine j_iload 6 dL_witnesses_219 rfl ?_
    refine j_iadd dL_witnesses_221 ?_
    refine j_istore_n (lv' := [(1, vi (x1 + x6)), (0, vr q0), (2, vr q2), (3, vi x3), (4, vi x4), (5, vi x5), (6, vi x6), (7, vi x7)]) dL_witnesses_222 (Nat.le_of_ble_eq_true rfl) rfl ?_
    refine j_aload_n 1 dL_witnesses_223 rfl ?_
    refine j_iload_n 3 dL_witnesses_224 rfl ?_
    refine j_iconst (x := 1) dL_witnesses_225 rfl (by decide) ?_
    refine j_cV (stk := []) [vi x3, vi 1] q0 dL_witnesses_226 mv_dl_point lm_L_20 (sub_k hq0 0 rfl rfl) zc_5 (ct_dl_point hq0 h1) rfl rfl ⟨⟨Nat.le_of_ble_eq_true rfl, Nat.le_of_ble_eq_true rfl⟩, Nat.le_of_ble_eq_true rfl, Nat.le_of_ble_eq_true rfl⟩ (Nat.le_of_ble_eq_true rfl) rfl rfl (fun r5 h5 _ => ?_)
    refine j_iload 4 dL_witnesses_229 rfl ?_
    refine j_icmp_ne (tgt := 256) dL_witnesses_231 (by decide) ?_ ?_
    · refine j_aload_n 1 dL_witnesses_234 rfl ?_
      refine j_iload_n 3 dL_witnesses_235 rfl ?_
      refine j_iconst (x := 2) dL_witnesses_236 rfl (by decide) ?_
      refine j_cV (stk := []) [vi x3, vi 2] q0 dL_witnesses_237 mv_dl_point lm_L_20 (sub_k hq0 0 rfl rfl) zc_5 (ct_dl_point hq0 h5) rfl rfl ⟨⟨Nat.le_of_ble_eq_true rfl, Nat.le_of_ble_eq_true rfl⟩, Nat.le_of_ble_eq_true rfl, Nat.le_of_ble_eq_true rfl⟩ (Nat.le_of_ble_eq_true rfl) rfl rfl (fun r6 h6 _ => ?_)
      refine j_iload 5 dL_witnesses_240 rfl ?_
      refine j_icmp_ne (tgt := 256) dL_witnesses_242 (by decide) ?_ ?_
      · refine j_aload_n 1 dL_witnesses_245 rfl ?_
        refine j_iload_n 3 dL_witnesses_246 rfl ?_
        refine j_iconst (x := 3) dL_witnesses_247 rfl (by decide) ?_
        refine j_cV (stk := []) [vi x3, vi 3] q0 dL_witnesses_248 mv_dl_point lm_L_20 (sub_k hq0 0 rfl rfl) zc_5 (ct_dl_point hq0 h6) rfl rfl ⟨⟨Nat.le_of_ble_eq_true rfl, Nat.le_of_ble_eq_true rfl⟩, Nat.le_of_ble_eq_true rfl, Nat.le_of_ble_eq_true rfl⟩ (Nat.le_of_ble_eq_true rfl) rfl rfl (fun r7 h7 _ => ?_)
        refine j_iload 6 dL_witnesses_251 rfl ?_
        refine j_icmp_eq (tgt := 258) dL_witnesses_253 (by decide) ?_ ?_
        · refine j_iinc 3 (lv' := [(3, vi (x3 + 1)), (1, vi (x1 + x6)), (0, vr q0), (2, vr q2), (4, vi x4), (5, vi x5), (6, vi x6), (7, vi x7)]) dL_witnesses_258 rfl (Nat.le_of_ble_eq_true rfl) rfl ?_
          refine j_goto (tgt := 9) dL_witnesses_261 (by decide) ?_
          refine j_sub [2, 1, 3, 0] rfl ?_
          exact hk9 _ _ _
        · refine j_sub [] rfl ?_
          exact jb_lw_witnesses_256 hq0 hq2 _
      · refine j_sub [] rfl ?_
        exact jb_lw_witnesses_256 hq0 hq2 _
    · refine j_sub [] rfl ?_
      exact jb_lw_witnesses_256 hq0 hq2 _

set_option maxRecDepth 100000 in
set_option maxHeartbeats 4000000 in
theorem jb_lw_witnesses_114 {lay : List LK} {q0 : Nat} {q2 : Nat} {k29 : Int → Int → Int → Hp → O Int} (x1 x3 x4 x6 s0 : Int) (hq0 : sub lay q0 blkLines) (hq2 : lay[q2]? = some (0, 16, 0, 0)) (hk29 : ∀ (x4 x5 x6 : Int) (h : Hp), J mi_lw_witnesses encI (Same lay) lay 1 16 29 [(0, vr q0), (1, vi x1), (2, vr q2), (3, vi x3), (4, vi x4), (5, vi x5), (6, vi x6)] [] h (k29 x4 x5 x6 h))(h : Hp) : J mi_lw_witnesses encI (Same lay) lay 1 16 114 [(0, vr q0), (1, vi x1), (2, vr q2), (3, vi x3), (4, vi x4), (6, vi x6)] [vi s0] h (lw_witnesses_b114 q0 q2 k29 x1 x3 x4 x6 s0 h) := by
  unfold lw_witnesses_b114
  refine j_istore (lv' := [(5, vi s0), (0, vr q0), (1, vi x1), (2, vr q2), (3, vi x3), (4, vi x4), (6, vi x6)]) dL_witnesses_114 (Nat.le_of_ble_eq_true rfl) rfl ?_
  refine j_iinc 6 (lv' := [(6, vi (x6 + 1)), (5, vi s0), (0, vr q0), (1, vi x1), (2, vr q2), (3, vi x3), (4, vi x4)]) dL_witnesses_116 rfl (Nat.le_of_ble_eq_true rfl) rfl ?_
  refine j_goto (tgt := 29) dL_witnesses_119 (by decide) ?_
  refine j_sub [2, 3, 4, 5, 6, 1, 0] rfl ?_
  exact hk29 _ _ _ _

set_option maxRecDepth 100000 in
set_option maxHeartbeats 4000000 in
theorem jb_lw_witnesses_112 {lay : List LK} {q0 : Nat} {q2 : Nat} {k29 : Int → Int → Int → Hp → O Int} (x1 x3 x4 x5 x6 : Int) (hq0 : sub lay q0 blkLines) (hq2 : lay[q2]? = some (0, 16, 0, 0)) (hk29 : ∀ (x4 x5 x6 : Int) (h : Hp), J mi_lw_witnesses encI (Same lay) lay 1 16 29 [(0, vr q0), (1, vi x1), (2, vr q2), (3, vi x3), (4, vi x4), (5, vi x5), (6, vi x6)] [] h (k29 x4 x5 x6 h))(h : Hp) : J mi_lw_witnesses encI (Same lay) lay 1 16 112 [(0, vr q0), (1, vi x1), (2, vr q2), (3, vi x3), (4, vi x4), (5, vi x5), (6, vi x6)] [] h (lw_witnesses_b112 q0 q2 k29 x1 x3 x4 x5 x6 h) := by
  unfold lw_witnesses_b112
  refine j_iload 5 dL_witnesses_112 rfl ?_
  refine j_sub [0, 1, 2, 3, 4, 6] rfl ?_
  exact jb_lw_witnesses_114 _ _ _ _ _ hq0 hq2 hk29 _

set_option maxRecDepth 100000 in
set_option maxHeartbeats 4000000 in
theorem jb_lw_witnesses_80 {lay : List LK} {q0 : Nat} {q2 : Nat} {k29 : Int → Int → Int → Hp → O Int} (x1 x3 x5 x6 x7 s0 s1 : Int) (hq0 : sub lay q0 blkLines) (hq2 : lay[q2]? = some (0, 16, 0, 0)) (hk29 : ∀ (x4 x5 x6 : Int) (h : Hp), J mi_lw_witnesses encI (Same lay) lay 1 16 29 [(0, vr q0), (1, vi x1), (2, vr q2), (3, vi x3), (4, vi x4), (5, vi x5), (6, vi x6)] [] h (k29 x4 x5 x6 h))(h : Hp) : J mi_lw_witnesses encI (Same lay) lay 1 16 80 [(0, vr q0), (1, vi x1), (2, vr q2), (3, vi x3), (5, vi x5), (6, vi x6), (7, vi x7)] [vi s0, vi s1] h (lw_witnesses_b80 q0 q2 k29 x1 x3 x5 x6 x7 s0 s1 h) := by
  unfold lw_witnesses_b80
  refine j_iadd dL_witnesses_80 ?_
  refine j_istore (lv' := [(4, vi (s1 + s0)), (0, vr q0), (1, vi x1), (2, vr q2), (3, vi x3), (5, vi x5), (6, vi x6), (7, vi x7)]) dL_witnesses_81 (Nat.le_of_ble_eq_true rfl) rfl ?_
  refine j_iload 7 dL_witnesses_83 rfl ?_
  refine j_if_eq (tgt := 112) dL_witnesses_85 (by decide) ?_ ?_
  · refine j_sub [1, 2, 3, 4, 0, 5, 6] rfl ?_
    exact jb_lw_witnesses_112 _ _ _ _ _ hq0 hq2 hk29 _
  · refine j_aload_n 1 dL_witnesses_88 rfl ?_
    refine j_iload 6 dL_witnesses_89 rfl ?_
    refine j_bipush (x := 10) dL_witnesses_91 (by decide) (by decide) ?_
    refine j_cV (stk := []) [vi x6, vi 10] q0 dL_witnesses_93 mv_dl_dimension lm_L_45 (sub_k hq0 0 rfl rfl) zc_5 (ct_dl_dimension hq0 h) rfl rfl ⟨⟨Nat.le_of_ble_eq_true rfl, Nat.le_of_ble_eq_true rfl⟩, Nat.le_of_ble_eq_true rfl, Nat.le_of_ble_eq_true rfl⟩ (Nat.le_of_ble_eq_true rfl) rfl rfl (fun r1 h1 _ => ?_)
    refine j_iload 5 dL_witnesses_96 rfl ?_
    refine j_icmp_le (tgt := 112) dL_witnesses_98 (by decide) ?_ ?_
    · refine j_aload_n 1 dL_witnesses_101 rfl ?_
      refine j_iload 6 dL_witnesses_102 rfl ?_
      refine j_bipush (x := 10) dL_witnesses_104 (by decide) (by decide) ?_
      refine j_cV (stk := []) [vi x6, vi 10] q0 dL_witnesses_106 mv_dl_dimension lm_L_45 (sub_k hq0 0 rfl rfl) zc_5 (ct_dl_dimension hq0 h1) rfl rfl ⟨⟨Nat.le_of_ble_eq_true rfl, Nat.le_of_ble_eq_true rfl⟩, Nat.le_of_ble_eq_true rfl, Nat.le_of_ble_eq_true rfl⟩ (Nat.le_of_ble_eq_true rfl) rfl rfl (fun r2 h2 _ => ?_)
      refine j_goto (tgt := 114) dL_witnesses_109 (by decide) ?_
      refine j_sub [1, 2, 3, 4, 0, 6] rfl ?_
      exact jb_lw_witnesses_114 _ _ _ _ _ hq0 hq2 hk29 _
    · refine j_sub [1, 2, 3, 4, 0, 5, 6] rfl ?_
      exact jb_lw_witnesses_112 _ _ _ _ _ hq0 hq2 hk29 _

set_option maxRecDepth 100000 in
set_option maxHeartbeats 4000000 in
theorem jb_lw_witnesses_66 {lay : List LK} {q0 : Nat} {q2 : Nat} {k29 : Int → Int → Int → Hp → O Int} (x1 x3 x4 x5 x6 s0 : Int) (hq0 : sub lay q0 blkLines) (hq2 : lay[q2]? = some (0, 16, 0, 0)) (hk29 : ∀ (x4 x5 x6 : Int) (h : Hp), J mi_lw_witnesses encI (Same lay) lay 1 16 29 [(0, vr q0), (1, vi x1), (2, vr q2), (3, vi x3), (4, vi x4), (5, vi x5), (6, vi x6)] [] h (k29 x4 x5 x6 h))(h : Hp) : J mi_lw_witnesses encI (Same lay) lay 1 16 66 [(0, vr q0), (1, vi x1), (2, vr q2), (3, vi x3), (4, vi x4), (5, vi x5), (6, vi x6)] [vi s0] h (lw_witnesses_b66 q0 q2 k29 x1 x3 x4 x5 x6 s0 h) := by
  unfold lw_witnesses_b66
  refine j_istore (lv' := [(7, vi s0), (0, vr q0), (1, vi x1), (2, vr q2), (3, vi x3), (4, vi x4), (5, vi x5), (6, vi x6)]) dL_witnesses_66 (Nat.le_of_ble_eq_true rfl) rfl ?_
  refine j_iload 5 dL_witnesses_68 rfl ?_
  refine j_iload 0 dL_witnesses_70 rfl ?_
  refine j_if_eq (tgt := 79) dL_witnesses_72 (by decide) ?_ ?_
  · refine j_iconst (x := 0) dL_witnesses_79 rfl (by decide) ?_
    refine j_sub [1, 2, 3, 4, 6, 7, 0] rfl ?_
    exact jb_lw_witnesses_80 _ _ _ _ _ _ _ hq0 hq2 hk29 _
  · refine j_iconst (x := 1) dL_witnesses_75 rfl (by decide) ?_
    refine j_goto (tgt := 80) dL_witnesses_76 (by decide) ?_
    refine j_sub [1, 2, 3, 4, 6, 7, 0] rfl ?_
    exact jb_lw_witnesses_80 _ _ _ _ _ _ _ hq0 hq2 hk29 _

set_option maxRecDepth 100000 in
set_option maxHeartbeats 4000000 in
theorem jb_lw_witnesses_61 {lay : List LK} {q0 : Nat} {q2 : Nat} {k29 : Int → Int → Int → Hp → O Int} (x1 x3 x4 x5 x6 : Int) (hq0 : sub lay q0 blkLines) (hq2 : lay[q2]? = some (0, 16, 0, 0)) (hk29 : ∀ (x4 x5 x6 : Int) (h : Hp), J mi_lw_witnesses encI (Same lay) lay 1 16 29 [(0, vr q0), (1, vi x1), (2, vr q2), (3, vi x3), (4, vi x4), (5, vi x5), (6, vi x6)] [] h (k29 x4 x5 x6 h))(h : Hp) : J mi_lw_witnesses encI (Same lay) lay 1 16 61 [(0, vr q0), (1, vi x1), (2, vr q2), (3, vi x3), (4, vi x4), (5, vi x5), (6, vi x6)] [] h (lw_witnesses_b61 q0 q2 k29 x1 x3 x4 x5 x6 h) := by
  unfold lw_witnesses_b61
  refine j_iconst (x := 1) dL_witnesses_61 rfl (by decide) ?_
  refine j_goto (tgt := 66) dL_witnesses_62 (by decide) ?_
  exact jb_lw_witnesses_66 _ _ _ _ _ _ hq0 hq2 hk29 _

set_option maxRecDepth 100000 in
set_option maxHeartbeats 4000000 in
theorem jl_lw_witnesses_29 {lay : List LK} {q0 : Nat} {q2 : Nat} {k9 : Int → Int → Hp → O Int} (x1 x3 : Int) (hq0 : sub lay q0 blkLines) (hq2 : lay[q2]? = some (0, 16, 0, 0)) (hk9 : ∀ (x1 x3 : Int) (h : Hp), J mi_lw_witnesses encI (Same lay) lay 1 16 9 [(0, vr q0), (1, vi x1), (2, vr q2), (3, vi x3)] [] h (k9 x1 x3 h)) : ∀ (n : Nat) (x4 x5 x6 : Int) (h : Hp), J mi_lw_witnesses encI (Same lay) lay 1 16 29 [(0, vr q0), (1, vi x1), (2, vr q2), (3, vi x3), (4, vi x4), (5, vi x5), (6, vi x6)] [] h (iter3 (lw_witnesses_f29 q0 q2 k9 x1 x3) n x4 x5 x6 h) := by
  refine j_iter3 (lf := fun x4 x5 x6 => [(0, vr q0), (1, vi x1), (2, vr q2), (3, vi x3), (4, vi x4), (5, vi x5), (6, vi x6)]) (fun k29 hk29 x4 x5 x6 h => ?_)
  unfold lw_witnesses_f29
  refine j_iload 6 dL_witnesses_29 rfl ?_
  refine j_aload_n 0 dL_witnesses_31 rfl ?_
  refine j_iconst (x := 1) dL_witnesses_32 rfl (by decide) ?_
  refine j_cV (stk := [vi x6]) [vi 1] q0 dL_witnesses_33 mv_dl_count lm_L_42 (sub_k hq0 0 rfl rfl) zc_5 (ct_dl_count hq0 h) rfl rfl ⟨⟨Nat.le_of_ble_eq_true rfl, Nat.le_of_ble_eq_true rfl⟩, Nat.le_of_ble_eq_true rfl, Nat.le_of_ble_eq_true rfl⟩ (Nat.le_of_ble_eq_true rfl) rfl rfl (fun r1 h1 _ => ?_)
  refine j_icmp_ge (tgt := 122) dL_witnesses_36 (by decide) ?_ ?_
  · refine j_aload_n 0 dL_witnesses_39 rfl ?_
    refine j_iload 6 dL_witnesses_40 rfl ?_
    refine j_iconst (x := 0) dL_witnesses_42 rfl (by decide) ?_
    refine j_cV (stk := []) [vi x6, vi 0] q0 dL_witnesses_43 mv_dl_dimension lm_L_45 (sub_k hq0 0 rfl rfl) zc_5 (ct_dl_dimension hq0 h1) rfl rfl ⟨⟨Nat.le_of_ble_eq_true rfl, Nat.le_of_ble_eq_true rfl⟩, Nat.le_of_ble_eq_true rfl, Nat.le_of_ble_eq_true rfl⟩ (Nat.le_of_ble_eq_true rfl) rfl rfl (fun r2 h2 _ => ?_)
    refine j_iload_n 3 dL_witnesses_46 rfl ?_
    refine j_icmp_eq (tgt := 61) dL_witnesses_47 (by decide) ?_ ?_
    · exact jb_lw_witnesses_61 _ _ _ _ _ hq0 hq2 hk29 _
    · refine j_aload_n 0 dL_witnesses_50 rfl ?_
      refine j_iload 6 dL_witnesses_51 rfl ?_
      refine j_iconst (x := 1) dL_witnesses_53 rfl (by decide) ?_
      refine j_cV (stk := []) [vi x6, vi 1] q0 dL_witnesses_54 mv_dl_dimension lm_L_45 (sub_k hq0 0 rfl rfl) zc_5 (ct_dl_dimension hq0 h2) rfl rfl ⟨⟨Nat.le_of_ble_eq_true rfl, Nat.le_of_ble_eq_true rfl⟩, Nat.le_of_ble_eq_true rfl, Nat.le_of_ble_eq_true rfl⟩ (Nat.le_of_ble_eq_true rfl) rfl rfl (fun r3 h3 _ => ?_)
      refine j_iload_n 3 dL_witnesses_57 rfl ?_
      refine j_icmp_ne (tgt := 65) dL_witnesses_58 (by decide) ?_ ?_
      · exact jb_lw_witnesses_61 _ _ _ _ _ hq0 hq2 hk29 _
      · refine j_iconst (x := 0) dL_witnesses_65 rfl (by decide) ?_
        exact jb_lw_witnesses_66 _ _ _ _ _ _ hq0 hq2 hk29 _
  · refine j_iconst (x := 0) dL_witnesses_122 rfl (by decide) ?_
    refine j_istore (lv' := [(6, vi 0), (0, vr q0), (1, vi x1), (2, vr q2), (3, vi x3), (4, vi x4), (5, vi x5)]) dL_witnesses_123 (Nat.le_of_ble_eq_true rfl) rfl ?_
    refine j_iconst (x := 0) dL_witnesses_125 rfl (by decide) ?_
    refine j_istore (lv' := [(7, vi 0), (6, vi 0), (0, vr q0), (1, vi x1), (2, vr q2), (3, vi x3), (4, vi x4), (5, vi x5)]) dL_witnesses_126 (Nat.le_of_ble_eq_true rfl) rfl ?_
    refine j_sub [2, 3, 4, 5, 6, 7, 1, 0] rfl ?_
    exact jl_lw_witnesses_128 _ _ _ _ hq0 hq2 hk9 fuel _ _ _

set_option maxRecDepth 100000 in
set_option maxHeartbeats 4000000 in
theorem jl_lw_witnesses_9 {lay : List LK} {q0 : Nat} {q2 : Nat}  (hq0 : sub lay q0 blkLines) (hq2 : lay[q2]? = some (0, 16, 0, 0))  : ∀ (n : Nat) (x1 x3 : Int) (h : Hp), J mi_lw_witnesses encI (Same lay) lay 1 16 9 [(0, vr q0), (1, vi x1), (2, vr q2), (3, vi x3)] [] h (iter2 (lw_witnesses_f9 q0 q2) n x1 x3 h) := by
  refine j_iter2 (lf := fun x1 x3 => [(0, vr q0), (1, vi x1), (2, vr q2), (3, vi x3)]) (fun k9 hk9 x1 x3 h => ?_)
  unfold lw_witnesses_f9
  refine j_iload_n 3 dL_witnesses_9 rfl ?_
  refine j_aload_n 0 dL_witnesses_10 rfl ?_
  refine j_iconst (x := 0) dL_witnesses_11 rfl (by decide) ?_
  refine j_cV (stk := [vi x3]) [vi 0] q0 dL_witnesses_12 mv_dl_count lm_L_42 (sub_k hq0 0 rfl rfl) zc_5 (ct_dl_count hq0 h) rfl rfl ⟨⟨Nat.le_of_ble_eq_true rfl, Nat.le_of_ble_eq_true rfl⟩, Nat.le_of_ble_eq_true rfl, Nat.le_of_ble_eq_true rfl⟩ (Nat.le_of_ble_eq_true rfl) rfl rfl (fun r1 h1 _ => ?_)
  refine j_icmp_ge (tgt := 264) dL_witnesses_15 (by decide) ?_ ?_
  · refine j_iconst (x := 0) dL_witnesses_18 rfl (by decide) ?_
    refine j_istore (lv' := [(4, vi 0), (0, vr q0), (1, vi x1), (2, vr q2), (3, vi x3)]) dL_witnesses_19 (Nat.le_of_ble_eq_true rfl) rfl ?_
    refine j_sipush (x := (-999)) dL_witnesses_21 (by decide) (by decide) ?_
    refine j_istore (lv' := [(5, vi (-999)), (4, vi 0), (0, vr q0), (1, vi x1), (2, vr q2), (3, vi x3)]) dL_witnesses_24 (Nat.le_of_ble_eq_true rfl) rfl ?_
    refine j_iconst (x := 0) dL_witnesses_26 rfl (by decide) ?_
    refine j_istore (lv' := [(6, vi 0), (5, vi (-999)), (4, vi 0), (0, vr q0), (1, vi x1), (2, vr q2), (3, vi x3)]) dL_witnesses_27 (Nat.le_of_ble_eq_true rfl) rfl ?_
    refine j_sub [3, 4, 5, 6, 2, 1, 0] rfl ?_
    exact jl_lw_witnesses_29 _ _ hq0 hq2 hk9 fuel _ _ _ _
  · refine j_iconst (x := 0) dL_witnesses_264 rfl (by decide) ?_
    refine j_istore_n (lv' := [(3, vi 0), (0, vr q0), (1, vi x1), (2, vr q2)]) dL_witnesses_265 (Nat.le_of_ble_eq_true rfl) rfl ?_
    refine j_sub [1, 2, 3, 0] rfl ?_
    exact jl_lw_witnesses_266 _ hq0 hq2 fuel _ _

set_option maxRecDepth 100000 in
set_option maxHeartbeats 4000000 in
theorem jb_lw_witnesses_7 {lay : List LK} {q0 : Nat} {q2 : Nat}  (x1 : Int) (hq0 : sub lay q0 blkLines) (hq2 : lay[q2]? = some (0, 16, 0, 0)) (h : Hp) : J mi_lw_witnesses encI (Same lay) lay 1 16 7 [(0, vr q0), (1, vi x1), (2, vr q2)] [] h (lw_witnesses_b7 q0 q2 x1 h) := by
  unfold lw_witnesses_b7
  refine j_iconst (x := 0) dL_witnesses_7 rfl (by decide) ?_
  refine j_istore_n (lv' := [(3, vi 0), (0, vr q0), (1, vi x1), (2, vr q2)]) dL_witnesses_8 (Nat.le_of_ble_eq_true rfl) rfl ?_
  refine j_sub [1, 2, 3, 0] rfl ?_
  exact jl_lw_witnesses_9 hq0 hq2 fuel _ _ _

set_option maxRecDepth 100000 in
set_option maxHeartbeats 4000000 in
theorem jb_lw_isSuperfluous_93 {lay : List LK} {q0 : Nat} {x1 : Int} {q2 : Nat}  (s0 : Int) (hq0 : sub lay q0 blkLines) (hq2 : lay[q2]? = some (0, 12, 0, 0)) (h : Hp) : J mi_lw_isSuperfluous encI (Same lay) lay 1 12 93 [] [vi s0] h (lw_isSuperfluous_b93 q0 x1 q2 s0 h) := by
  unfold lw_isSuperfluous_b93
  exact j_retZ rfl rfl rfl dL_isSuperfluous_93 rfl ⟨Nat.le_refl _, Nat.le_refl _⟩ rfl

set_option maxRecDepth 100000 in
set_option maxHeartbeats 4000000 in
theorem jb_lw_isSuperfluous_92 {lay : List LK} {q0 : Nat} {x1 : Int} {q2 : Nat}  (hq0 : sub lay q0 blkLines) (hq2 : lay[q2]? = some (0, 12, 0, 0)) (h : Hp) : J mi_lw_isSuperfluous encI (Same lay) lay 1 12 92 [] [] h (lw_isSuperfluous_b92 q0 x1 q2 h) := by
  unfold lw_isSuperfluous_b92
  refine j_iconst (x := 0) dL_isSuperfluous_92 rfl (by decide) ?_
  exact jb_lw_isSuperfluous_93 _ hq0 hq2 _

set_option maxRecDepth 100000 in
set_option maxHeartbeats 4000000 in
theorem jb_lw_isSuperfluous_5 {lay : List LK} {q0 : Nat} {x1 : Int} {q2 : Nat}  (hq0 : sub lay q0 blkLines) (hq2 : lay[q2]? = some (0, 12, 0, 0)) (h : Hp) : J mi_lw_isSuperfluous encI (Same lay) lay 1 12 5 [(0, vr q0), (1, vi x1), (2, vr q2)] [] h (lw_isSuperfluous_b5 q0 x1 q2 h) := by
  unfold lw_isSuperfluous_b5
  refine j_aload_n 0 dL_isSuperfluous_5 rfl ?_
  refine j_iload_n 1 dL_isSuperfluous_6 rfl ?_
  refine j_iconst (x := 0) dL_isSuperfluous_7 rfl (by decide) ?_
  refine j_cV (stk := []) [vi x1, vi 0] q0 dL_isSuperfluous_8 mv_dl_dimension lm_L_45 (sub_k hq0 0 rfl rfl) zc_5 (ct_dl_dimension hq0 h) rfl rfl ⟨⟨Nat.le_of_ble_eq_true rfl, Nat.le_of_ble_eq_true rfl⟩, Nat.le_of_ble_eq_true rfl, Nat.le_of_ble_eq_true rfl⟩ (Nat.le_of_ble_eq_true rfl) rfl rfl (fun r1 h1 _ => ?_)
  refine j_istore_n (lv' := [(3, vi r1), (0, vr q0), (1, vi x1), (2, vr q2)]) dL_isSuperfluous_11 (Nat.le_of_ble_eq_true rfl) rfl ?_
  refine j_aload_n 1 dL_isSuperfluous_12 rfl ?_
  refine j_iload_n 2 dL_isSuperfluous_13 rfl ?_
  refine j_iconst (x := 1) dL_isSuperfluous_14 rfl (by decide) ?_
  refine j_cV (stk := []) [vi x1, vi 1] q0 dL_isSuperfluous_15 mv_dl_dimension lm_L_45 (sub_k hq0 0 rfl rfl) zc_5 (ct_dl_dimension hq0 h1) rfl rfl ⟨⟨Nat.le_of_ble_eq_true rfl, Nat.le_of_ble_eq_true rfl⟩, Nat.le_of_ble_eq_true rfl, Nat.le_of_ble_eq_true rfl⟩ (Nat.le_of_ble_eq_true rfl) rfl rfl (fun r2 h2 _ => ?_)
  refine j_istore (lv' := [(4, vi r2), (3, vi r1), (0, vr q0), (1, vi x1), (2, vr q2)]) dL_isSuperfluous_18 (Nat.le_of_ble_eq_true rfl) rfl ?_
  refine j_aload_n 2 dL_isSuperfluous_20 rfl ?_
  refine j_iload_n 1 dL_isSuperfluous_21 rfl ?_
  refine j_iload_n 3 dL_isSuperfluous_22 rfl ?_
  refine j_iconst (x := (-1)) dL_isSuperfluous_23 rfl (by decide) ?_
  refine j_aload_n 4 dL_isSuperfluous_24 rfl ?_
  refine j_cS (stk := []) [vr q0, vi r1, vi x1, vi (-1), vr q2] dL_isSuperfluous_25 mv_lw_reach lm_L_64 (ct_lw_reach hq0 hq2 (by decide) h2) rfl rfl ⟨⟨Nat.le_of_ble_eq_true rfl, Nat.le_of_ble_eq_true rfl⟩, Nat.le_of_ble_eq_true rfl, Nat.le_of_ble_eq_true rfl⟩ (Nat.le_of_ble_eq_true rfl) rfl rfl (fun _ h3 _ => ?_)
  refine j_aload_n 4 dL_isSuperfluous_28 rfl ?_
  refine j_iload 0 dL_isSuperfluous_29 rfl ?_
  refine j_iald dL_isSuperfluous_31 hq2 rfl ?_
  refine j_istore (lv' := [(5, vi (h3 q2 r2)), (4, vi r2), (3, vi r1), (0, vr q0), (1, vi x1), (2, vr q2)]) dL_isSuperfluous_32 (Nat.le_of_ble_eq_true rfl) rfl ?_
  refine j_aload_n 3 dL_isSuperfluous_34 rfl ?_
  refine j_iload 1 dL_isSuperfluous_35 rfl ?_
  refine j_iload_n 4 dL_isSuperfluous_37 rfl ?_
  refine j_iconst (x := (-1)) dL_isSuperfluous_38 rfl (by decide) ?_
  refine j_aload_n 5 dL_isSuperfluous_39 rfl ?_
  refine j_cS (stk := []) [vr q0, vi r2, vi x1, vi (-1), vr q2] dL_isSuperfluous_40 mv_lw_reach lm_L_64 (ct_lw_reach hq0 hq2 (by decide) h3) rfl rfl ⟨⟨Nat.le_of_ble_eq_true rfl, Nat.le_of_ble_eq_true rfl⟩, Nat.le_of_ble_eq_true rfl, Nat.le_of_ble_eq_true rfl⟩ (Nat.le_of_ble_eq_true rfl) rfl rfl (fun _ h4 _ => ?_)
  refine j_iload 0 dL_isSuperfluous_43 rfl ?_
  refine j_ldc (x := 1000000) dL_isSuperfluous_45 kc_L_63 (by decide) ?_
  refine j_icmp_ge (tgt := 92) dL_isSuperfluous_47 (by decide) ?_ ?_
  · refine j_iload 0 dL_isSuperfluous_50 rfl ?_
    refine j_aload_n 3 dL_isSuperfluous_52 rfl ?_
    refine j_iload_n 4 dL_isSuperfluous_53 rfl ?_
    refine j_iconst (x := 2) dL_isSuperfluous_54 rfl (by decide) ?_
    refine j_cV (stk := [vi (h3 q2 r2)]) [vi x1, vi 2] q0 dL_isSuperfluous_55 mv_dl_dimension lm_L_45 (sub_k hq0 0 rfl rfl) zc_5 (ct_dl_dimension hq0 h4) rfl rfl ⟨⟨Nat.le_of_ble_eq_true rfl, Nat.le_of_ble_eq_true rfl⟩, Nat.le_of_ble_eq_true rfl, Nat.le_of_ble_eq_true rfl⟩ (Nat.le_of_ble_eq_true rfl) rfl rfl (fun r5 h5 _ => ?_)
    refine j_aload_n 3 dL_isSuperfluous_58 rfl ?_
    refine j_iload_n 4 dL_isSuperfluous_59 rfl ?_
    refine j_iconst (x := 4) dL_isSuperfluous_60 rfl (by decide) ?_
    refine j_cV (stk := [vi r5, vi (h3 q2 r2)]) [vi x1, vi 4] q0 dL_isSuperfluous_61 mv_dl_dimension lm_L_45 (sub_k hq0 0 rfl rfl) zc_5 (ct_dl_dimension hq0 h5) rfl rfl ⟨⟨Nat.le_of_ble_eq_true rfl, Nat.le_of_ble_eq_true rfl⟩, Nat.le_of_ble_eq_true rfl, Nat.le_of_ble_eq_true rfl⟩ (Nat.le_of_ble_eq_true rfl) rfl rfl (fun r6 h6 _ => ?_)
    refine j_iadd dL_isSuperfluous_64 ?_
    refine j_icmp_gt (tgt := 92) dL_isSuperfluous_65 (by decide) ?_ ?_
    · refine j_sub [] rfl ?_
      exact jb_lw_isSuperfluous_92 hq0 hq2 _
    · refine j_aload_n 5 dL_isSuperfluous_68 rfl ?_
      refine j_iload_n 2 dL_isSuperfluous_69 rfl ?_
      refine j_iald dL_isSuperfluous_70 hq2 rfl ?_
      refine j_ineg dL_isSuperfluous_71 ?_
      refine j_aload_n 3 dL_isSuperfluous_72 rfl ?_
      refine j_iload_n 4 dL_isSuperfluous_73 rfl ?_
      refine j_iconst (x := 2) dL_isSuperfluous_74 rfl (by decide) ?_
      refine j_cV (stk := [vi (-(h6 q2 r1))]) [vi x1, vi 2] q0 dL_isSuperfluous_75 mv_dl_dimension lm_L_45 (sub_k hq0 0 rfl rfl) zc_5 (ct_dl_dimension hq0 h6) rfl rfl ⟨⟨Nat.le_of_ble_eq_true rfl, Nat.le_of_ble_eq_true rfl⟩, Nat.le_of_ble_eq_true rfl, Nat.le_of_ble_eq_true rfl⟩ (Nat.le_of_ble_eq_true rfl) rfl rfl (fun r7 h7 _ => ?_)
      refine j_aload_n 3 dL_isSuperfluous_78 rfl ?_
      refine j_iload_n 4 dL_isSuperfluous_79 rfl ?_
      refine j_iconst (x := 3) dL_isSuperfluous_80 rfl (by decide) ?_
      refine j_cV (stk := [vi r7, vi (-(h6 q2 r1))]) [vi x1, vi 3] q0 dL_isSuperfluous_81 mv_dl_dimension lm_L_45 (sub_k hq0 0 rfl rfl) zc_5 (ct_dl_dimension hq0 h7) rfl rfl ⟨⟨Nat.le_of_ble_eq_true rfl, Nat.le_of_ble_eq_true rfl⟩, Nat.le_of_ble_eq_true rfl, Nat.le_of_ble_eq_true rfl⟩ (Nat.le_of_ble_eq_true rfl) rfl rfl (fun r8 h8 _ => ?_)
      refine j_isub dL_isSuperfluous_84 ?_
      refine j_icmp_lt (tgt := 92) dL_isSuperfluous_85 (by decide) ?_ ?_
      · refine j_sub [] rfl ?_
        exact jb_lw_isSuperfluous_92 hq0 hq2 _
      · refine j_iconst (x := 1) dL_isSuperfluous_88 rfl (by decide) ?_
        refine j_goto (tgt := 93) dL_isSuperfluous_89 (by decide) ?_
        refine j_sub [] rfl ?_
        exact jb_lw_isSuperfluous_93 _ hq0 hq2 _
  · refine j_sub [] rfl ?_
    exact jb_lw_isSuperfluous_92 hq0 hq2 _

set_option maxRecDepth 100000 in
set_option maxHeartbeats 4000000 in
theorem jb_lw_tolerances_567 {FL : List LK → Prop} {lay : List LK} {q0 : Nat} {x1 : Int} {x2 : Int} {q3 : Nat} {q4 : Nat} {q5 : Nat} {x6 : Int}  (s0 : Int) (hq0 : sub lay q0 blkLines) (hq3 : lay[q3]? = some (0, 12, 0, 0)) (hq4 : lay[q4]? = some (0, 12, 0, 0)) (hq5 : lay[q5]? = some (0, 12, 0, 0)) (hFL : FL lay) (h : Hp) : J mi_lw_tolerances encI FL lay 20 240 567 [] [vi s0] h (lw_tolerances_b567 q0 x1 x2 q3 q4 q5 x6 s0 h) := by
  unfold lw_tolerances_b567
  exact j_retZ rfl rfl rfl dL_tolerances_567 rfl ⟨Nat.le_refl _, Nat.le_refl _⟩ hFL

set_option maxRecDepth 100000 in
set_option maxHeartbeats 4000000 in
theorem jb_lw_tolerances_541 {FL : List LK → Prop} {lay : List LK} {q0 : Nat} {x1 : Int} {x2 : Int} {q3 : Nat} {q4 : Nat} {q5 : Nat} {x6 : Int}  (hq0 : sub lay q0 blkLines) (hq3 : lay[q3]? = some (0, 12, 0, 0)) (hq4 : lay[q4]? = some (0, 12, 0, 0)) (hq5 : lay[q5]? = some (0, 12, 0, 0)) (hFL : FL lay) (h : Hp) : J mi_lw_tolerances encI FL lay 20 240 541 [] [] h (lw_tolerances_b541 q0 x1 x2 q3 q4 q5 x6 h) := by
  unfold lw_tolerances_b541
  refine j_iconst (x := 0) dL_tolerances_541 rfl (by decide) ?_
  exact j_retZ bz0.symm rfl rfl dL_tolerances_542 rfl ⟨Nat.le_refl _, Nat.le_refl _⟩ hFL

set_option maxRecDepth 100000 in
set_option maxHeartbeats 4000000 in
theorem jb_lw_tolerances_519 {FL : List LK → Prop} {lay : List LK} {q0 : Nat} {x1 : Int} {x2 : Int} {q3 : Nat} {q4 : Nat} {q5 : Nat} {x6 : Int} {k426 : Int → Int → Int → Hp → O Int} (x8 x9 x10 x12 x13 s0 : Int) (hq0 : sub lay q0 blkLines) (hq3 : lay[q3]? = some (0, 12, 0, 0)) (hq4 : lay[q4]? = some (0, 12, 0, 0)) (hq5 : lay[q5]? = some (0, 12, 0, 0)) (hFL : FL lay) (hk426 : ∀ (x10 x11 x12 : Int) (h : Hp), J mi_lw_tolerances encI FL lay 20 240 426 [(0, vr q0), (3, vr q3), (5, vr q5), (8, vi x8), (9, vi x9), (10, vi x10), (11, vi x11), (12, vi x12)] [] h (k426 x10 x11 x12 h))(h : Hp) : J mi_lw_tolerances encI FL lay 20 240 519 [(0, vr q0), (3, vr q3), (5, vr q5), (8, vi x8), (9, vi x9), (10, vi x10), (12, vi x12), (13, vi x13)] [vi s0] h (lw_tolerances_b519 q0 x1 x2 q3 q4 q5 x6 k426 x8 x9 x10 x12 x13 s0 h) := by
  unfold lw_tolerances_b519
  refine j_istore (lv' := [(11, vi s0), (0, vr q0), (3, vr q3), (5, vr q5), (8, vi x8), (9, vi x9), (10, vi x10), (12, vi x12), (13, vi x13)]) dL_tolerances_519 (Nat.le_of_ble_eq_true rfl) rfl ?_
  refine j_aload_n 1 dL_tolerances_521 rfl ?_
  refine j_iload 7 dL_tolerances_522 rfl ?_
  refine j_iload 4 dL_tolerances_524 rfl ?_
  refine j_iload 5 dL_tolerances_526 rfl ?_
  refine j_cV (stk := []) [vi x12, vi x8, vi x9] q0 dL_tolerances_528 mv_dl_ifExact lm_L_83 (sub_k hq0 0 rfl rfl) zc_5 (ct_dl_ifExact hq0 h) rfl rfl ⟨⟨Nat.le_of_ble_eq_true rfl, Nat.le_of_ble_eq_true rfl⟩, Nat.le_of_ble_eq_true rfl, Nat.le_of_ble_eq_true rfl⟩ (Nat.le_of_ble_eq_true rfl) rfl rfl (fun r1 h1 _ => ?_)
  refine j_iload 8 dL_tolerances_531 rfl ?_
  refine j_icmp_ne (tgt := 541) dL_tolerances_533 (by decide) ?_ ?_
  · refine j_iload 8 dL_tolerances_536 rfl ?_
    refine j_if_ge (tgt := 543) dL_tolerances_538 (by decide) ?_ ?_
    · refine j_sub [] rfl ?_
      exact jb_lw_tolerances_541 hq0 hq3 hq4 hq5 hFL _
    · refine j_iinc 7 (lv' := [(12, vi (x12 + 1)), (11, vi s0), (0, vr q0), (3, vr q3), (5, vr q5), (8, vi x8), (9, vi x9), (10, vi x10), (13, vi x13)]) dL_tolerances_543 rfl (Nat.le_of_ble_eq_true rfl) rfl ?_
      refine j_goto (tgt := 426) dL_tolerances_546 (by decide) ?_
      refine j_sub [2, 3, 4, 5, 6, 7, 1, 0] rfl ?_
      exact hk426 _ _ _ _
  · refine j_sub [] rfl ?_
    exact jb_lw_tolerances_541 hq0 hq3 hq4 hq5 hFL _

set_option maxRecDepth 100000 in
set_option maxHeartbeats 4000000 in
theorem jb_lw_tolerances_503 {FL : List LK → Prop} {lay : List LK} {q0 : Nat} {x1 : Int} {x2 : Int} {q3 : Nat} {q4 : Nat} {q5 : Nat} {x6 : Int} {k426 : Int → Int → Int → Hp → O Int} (x8 x9 x11 x12 x13 s0 : Int) (hq0 : sub lay q0 blkLines) (hq3 : lay[q3]? = some (0, 12, 0, 0)) (hq4 : lay[q4]? = some (0, 12, 0, 0)) (hq5 : lay[q5]? = some (0, 12, 0, 0)) (hFL : FL lay) (hk426 : ∀ (x10 x11 x12 : Int) (h : Hp), J mi_lw_tolerances encI FL lay 20 240 426 [(0, vr q0), (3, vr q3), (5, vr q5), (8, vi x8), (9, vi x9), (10, vi x10), (11, vi x11), (12, vi x12)] [] h (k426 x10 x11 x12 h))(h : Hp) : J mi_lw_tolerances encI FL lay 20 240 503 [(0, vr q0), (3, vr q3), (5, vr q5), (8, vi x8), (9, vi x9), (11, vi x11), (12, vi x12), (13, vi x13)] [vi s0] h (lw_tolerances_b503 q0 x1 x2 q3 q4 q5 x6 k426 x8 x9 x11 x12 x13 s0 h) := by
  unfold lw_tolerances_b503
  refine j_istore (lv' := [(10, vi s0), (0, vr q0), (3, vr q3), (5, vr q5), (8, vi x8), (9, vi x9), (11, vi x11), (12, vi x12), (13, vi x13)]) dL_tolerances_503 (Nat.le_of_ble_eq_true rfl) rfl ?_
  refine j_iload 8 dL_tolerances_505 rfl ?_
  refine j_iload 6 dL_tolerances_507 rfl ?_
  refine j_icmp_le (tgt := 517) dL_tolerances_509 (by decide) ?_ ?_
  · refine j_iload 8 dL_tolerances_512 rfl ?_
    refine j_goto (tgt := 519) dL_tolerances_514 (by decide) ?_
    refine j_sub [1, 2, 3, 4, 5, 0, 7, 8] rfl ?_
    exact jb_lw_tolerances_519 _ _ _ _ _ _ hq0 hq3 hq4 hq5 hFL hk426 _
  · refine j_iload 6 dL_tolerances_517 rfl ?_
    refine j_sub [1, 2, 3, 4, 5, 0, 7, 8] rfl ?_
    exact jb_lw_tolerances_519 _ _ _ _ _ _ hq0 hq3 hq4 hq5 hFL hk426 _

set_option maxRecDepth 100000 in
set_option maxHeartbeats 4000000 in
theorem jl_lw_tolerances_426 {FL : List LK → Prop} {lay : List LK} {q0 : Nat} {x1 : Int} {x2 : Int} {q3 : Nat} {q4 : Nat} {q5 : Nat} {x6 : Int}  (x8 x9 : Int) (hq0 : sub lay q0 blkLines) (hq3 : lay[q3]? = some (0, 12, 0, 0)) (hq4 : lay[q4]? = some (0, 12, 0, 0)) (hq5 : lay[q5]? = some (0, 12, 0, 0)) (hFL : FL lay)  : ∀ (n : Nat) (x10 x11 x12 : Int) (h : Hp), J mi_lw_tolerances encI FL lay 20 240 426 [(0, vr q0), (3, vr q3), (5, vr q5), (8, vi x8), (9, vi x9), (10, vi x10), (11, vi x11), (12, vi x12)] [] h (iter3 (lw_tolerances_f426 q0 x1 x2 q3 q4 q5 x6 x8 x9) n x10 x11 x12 h) := by
  refine j_iter3 (lf := fun x10 x11 x12 => [(0, vr q0), (3, vr q3), (5, vr q5), (8, vi x8), (9, vi x9), (10, vi x10), (11, vi x11), (12, vi x12)]) (fun k426 hk426 x10 x11 x12 h => ?_)
  unfold lw_tolerances_f426
  refine j_iload 7 dL_tolerances_426 rfl ?_
  refine j_aload_n 0 dL_tolerances_428 rfl ?_
  refine j_iconst (x := 1) dL_tolerances_429 rfl (by decide) ?_
  refine j_cV (stk := [vi x12]) [vi 1] q0 dL_tolerances_430 mv_dl_count lm_L_42 (sub_k hq0 0 rfl rfl) zc_5 (ct_dl_count hq0 h) rfl rfl ⟨⟨Nat.le_of_ble_eq_true rfl, Nat.le_of_ble_eq_true rfl⟩, Nat.le_of_ble_eq_true rfl, Nat.le_of_ble_eq_true rfl⟩ (Nat.le_of_ble_eq_true rfl) rfl rfl (fun r1 h1 _ => ?_)
  refine j_icmp_ge (tgt := 549) dL_tolerances_433 (by decide) ?_ ?_
  · refine j_aload_n 0 dL_tolerances_436 rfl ?_
    refine j_iload 3 dL_tolerances_437 rfl ?_
    refine j_iconst (x := (-1)) dL_tolerances_439 rfl (by decide) ?_
    refine j_iload 7 dL_tolerances_440 rfl ?_
    refine j_aload_n 1 dL_tolerances_442 rfl ?_
    refine j_cS (stk := []) [vr q0, vi x8, vi (-1), vi x12, vr q3] dL_tolerances_443 mv_lw_reach lm_L_64 (ct_lw_reach hq0 hq3 (by decide) h1) rfl rfl ⟨⟨Nat.le_of_ble_eq_true rfl, Nat.le_of_ble_eq_true rfl⟩, Nat.le_of_ble_eq_true rfl, Nat.le_of_ble_eq_true rfl⟩ (Nat.le_of_ble_eq_true rfl) rfl rfl (fun _ h2 _ => ?_)
    refine j_aload_n 0 dL_tolerances_446 rfl ?_
    refine j_iload 4 dL_tolerances_447 rfl ?_
    refine j_iconst (x := (-1)) dL_tolerances_449 rfl (by decide) ?_
    refine j_iload 7 dL_tolerances_450 rfl ?_
    refine j_aload 2 dL_tolerances_452 rfl ?_
    refine j_cS (stk := []) [vr q0, vi x9, vi (-1), vi x12, vr q5] dL_tolerances_454 mv_lw_reach lm_L_64 (ct_lw_reach hq0 hq5 (by decide) h2) rfl rfl ⟨⟨Nat.le_of_ble_eq_true rfl, Nat.le_of_ble_eq_true rfl⟩, Nat.le_of_ble_eq_true rfl, Nat.le_of_ble_eq_true rfl⟩ (Nat.le_of_ble_eq_true rfl) rfl rfl (fun _ h3 _ => ?_)
    refine j_aload_n 0 dL_tolerances_457 rfl ?_
    refine j_iload 3 dL_tolerances_458 rfl ?_
    refine j_iload 4 dL_tolerances_460 rfl ?_
    refine j_iconst (x := 1) dL_tolerances_462 rfl (by decide) ?_
    refine j_cV (stk := []) [vi x8, vi x9, vi 1] q0 dL_tolerances_463 mv_dl_distance lm_L_72 (sub_k hq0 0 rfl rfl) zc_5 (ct_dl_distance hq0 h3) rfl rfl ⟨⟨Nat.le_of_ble_eq_true rfl, Nat.le_of_ble_eq_true rfl⟩, Nat.le_of_ble_eq_true rfl, Nat.le_of_ble_eq_true rfl⟩ (Nat.le_of_ble_eq_true rfl) rfl rfl (fun r4 h4 _ => ?_)
    refine j_aload_n 0 dL_tolerances_466 rfl ?_
    refine j_iload 3 dL_tolerances_467 rfl ?_
    refine j_iload 4 dL_tolerances_469 rfl ?_
    refine j_iconst (x := 0) dL_tolerances_471 rfl (by decide) ?_
    refine j_cV (stk := [vi r4]) [vi x8, vi x9, vi 0] q0 dL_tolerances_472 mv_dl_distance lm_L_72 (sub_k hq0 0 rfl rfl) zc_5 (ct_dl_distance hq0 h4) rfl rfl ⟨⟨Nat.le_of_ble_eq_true rfl, Nat.le_of_ble_eq_true rfl⟩, Nat.le_of_ble_eq_true rfl, Nat.le_of_ble_eq_true rfl⟩ (Nat.le_of_ble_eq_true rfl) rfl rfl (fun r5 h5 _ => ?_)
    refine j_isub dL_tolerances_475 ?_
    refine j_aload_n 1 dL_tolerances_476 rfl ?_
    refine j_iload 4 dL_tolerances_477 rfl ?_
    refine j_iald dL_tolerances_479 hq3 rfl ?_
    refine j_isub dL_tolerances_480 ?_
    refine j_aload 2 dL_tolerances_481 rfl ?_
    refine j_iload 3 dL_tolerances_483 rfl ?_
    refine j_iald dL_tolerances_485 hq5 rfl ?_
    refine j_isub dL_tolerances_486 ?_
    refine j_istore (lv' := [(13, vi (((r4 - r5) - (h5 q3 x9)) - (h5 q5 x8))), (0, vr q0), (3, vr q3), (5, vr q5), (8, vi x8), (9, vi x9), (10, vi x10), (11, vi x11), (12, vi x12)]) dL_tolerances_487 (Nat.le_of_ble_eq_true rfl) rfl ?_
    refine j_iload 0 dL_tolerances_489 rfl ?_
    refine j_iload 7 dL_tolerances_491 rfl ?_
    refine j_icmp_le (tgt := 501) dL_tolerances_493 (by decide) ?_ ?_
    · refine j_iload 8 dL_tolerances_496 rfl ?_
      refine j_goto (tgt := 503) dL_tolerances_498 (by decide) ?_
      refine j_sub [1, 2, 3, 4, 5, 7, 8, 0] rfl ?_
      exact jb_lw_tolerances_503 _ _ _ _ _ _ hq0 hq3 hq4 hq5 hFL hk426 _
    · refine j_iload 6 dL_tolerances_501 rfl ?_
      refine j_sub [1, 2, 3, 4, 5, 7, 8, 0] rfl ?_
      exact jb_lw_tolerances_503 _ _ _ _ _ _ hq0 hq3 hq4 hq5 hFL hk426 _
  · refine j_aload_n 0 dL_tolerances_549 rfl ?_
    refine j_iload 3 dL_tolerances_550 rfl ?_
    refine j_iload 4 dL_tolerances_552 rfl ?_
    refine j_cV (stk := []) [vi x8, vi x9] q0 dL_tolerances_554 mv_dl_critical lm_L_80 (sub_k hq0 0 rfl rfl) zc_5 (ct_dl_critical hq0 h1) rfl rfl ⟨⟨Nat.le_of_ble_eq_true rfl, Nat.le_of_ble_eq_true rfl⟩, Nat.le_of_ble_eq_true rfl, Nat.le_of_ble_eq_true rfl⟩ (Nat.le_of_ble_eq_true rfl) rfl rfl (fun r6 h6 _ => ?_)
    refine j_iload 5 dL_tolerances_557 rfl ?_
    refine j_icmp_ne (tgt := 566) dL_tolerances_559 (by decide) ?_ ?_
    · refine j_iconst (x := 1) dL_tolerances_562 rfl (by decide) ?_
      refine j_goto (tgt := 567) dL_tolerances_563 (by decide) ?_
      refine j_sub [] rfl ?_
      exact jb_lw_tolerances_567 _ hq0 hq3 hq4 hq5 hFL _
    · refine j_iconst (x := 0) dL_tolerances_566 rfl (by decide) ?_
      refine j_sub [] rfl ?_
      exact jb_lw_tolerances_567 _ hq0 hq3 hq4 hq5 hFL _

set_option maxRecDepth 100000 in
set_option maxHeartbeats 4000000 in
theorem jb_lw_tolerances_414 {FL : List LK → Prop} {lay : List LK} {q0 : Nat} {x1 : Int} {x2 : Int} {q3 : Nat} {q4 : Nat} {q5 : Nat} {x6 : Int}  (s0 : Int) (hq0 : sub lay q0 blkLines) (hq3 : lay[q3]? = some (0, 12, 0, 0)) (hq4 : lay[q4]? = some (0, 12, 0, 0)) (hq5 : lay[q5]? = some (0, 12, 0, 0)) (hFL : FL lay) (h : Hp) : J mi_lw_tolerances encI FL lay 20 240 414 [] [vi s0] h (lw_tolerances_b414 q0 x1 x2 q3 q4 q5 x6 s0 h) := by
  unfold lw_tolerances_b414
  exact j_retZ rfl rfl rfl dL_tolerances_414 rfl ⟨Nat.le_refl _, Nat.le_refl _⟩ hFL

set_option maxRecDepth 100000 in
set_option maxHeartbeats 4000000 in
theorem jb_lw_tolerances_406 {FL : List LK → Prop} {lay : List LK} {q0 : Nat} {x1 : Int} {x2 : Int} {q3 : Nat} {q4 : Nat} {q5 : Nat} {x6 : Int}  (s0 s1 : Int) (hq0 : sub lay q0 blkLines) (hq3 : lay[q3]? = some (0, 12, 0, 0)) (hq4 : lay[q4]? = some (0, 12, 0, 0)) (hq5 : lay[q5]? = some (0, 12, 0, 0)) (hFL : FL lay) (h : Hp) : J mi_lw_tolerances encI FL lay 20 240 406 [] [vi s0, vi s1] h (lw_tolerances_b406 q0 x1 x2 q3 q4 q5 x6 s0 s1 h) := by
  unfold lw_tolerances_b406
  refine j_icmp_ne (tgt := 413) dL_tolerances_406 (by decide) ?_ ?_
  · refine j_iconst (x := 1) dL_tolerances_409 rfl (by decide) ?_
    refine j_goto (tgt := 414) dL_tolerances_410 (by decide) ?_
    exact jb_lw_tolerances_414 _ hq0 hq3 hq4 hq5 hFL _
  · refine j_iconst (x := 0) dL_tolerances_413 rfl (by decide) ?_
    exact jb_lw_tolerances_414 _ hq0 hq3 hq4 hq5 hFL _

set_option maxRecDepth 100000 in
set_option maxHeartbeats 4000000 in
theorem jb_lw_tolerances_384 {FL : List LK → Prop} {lay : List LK} {q0 : Nat} {x1 : Int} {x2 : Int} {q3 : Nat} {q4 : Nat} {q5 : Nat} {x6 : Int}  (x8 x9 : Int) (hq0 : sub lay q0 blkLines) (hq3 : lay[q3]? = some (0, 12, 0, 0)) (hq4 : lay[q4]? = some (0, 12, 0, 0)) (hq5 : lay[q5]? = some (0, 12, 0, 0)) (hFL : FL lay) (h : Hp) : J mi_lw_tolerances encI FL lay 20 240 384 [(0, vr q0), (8, vi x8), (9, vi x9)] [] h (lw_tolerances_b384 q0 x1 x2 q3 q4 q5 x6 x8 x9 h) := by
  unfold lw_tolerances_b384
  refine j_aload_n 0 dL_tolerances_384 rfl ?_
  refine j_iload 1 dL_tolerances_385 rfl ?_
  refine j_iload 2 dL_tolerances_387 rfl ?_
  refine j_cV (stk := []) [vi x8, vi x9] q0 dL_tolerances_389 mv_dl_critical lm_L_80 (sub_k hq0 0 rfl rfl) zc_5 (ct_dl_critical hq0 h) rfl rfl ⟨⟨Nat.le_of_ble_eq_true rfl, Nat.le_of_ble_eq_true rfl⟩, Nat.le_of_ble_eq_true rfl, Nat.le_of_ble_eq_true rfl⟩ (Nat.le_of_ble_eq_true rfl) rfl rfl (fun r1 h1 _ => ?_)
  refine j_iload 1 dL_tolerances_392 rfl ?_
  refine j_iload 2 dL_tolerances_394 rfl ?_
  refine j_icmp_ne (tgt := 403) dL_tolerances_396 (by decide) ?_ ?_
  · refine j_iconst (x := (-1)) dL_tolerances_399 rfl (by decide) ?_
    refine j_goto (tgt := 406) dL_tolerances_400 (by decide) ?_
    refine j_sub [] rfl ?_
    exact jb_lw_tolerances_406 _ _ hq0 hq3 hq4 hq5 hFL _
  · refine j_sipush (x := (-999)) dL_tolerances_403 (by decide) (by decide) ?_
    refine j_sub [] rfl ?_
    exact jb_lw_tolerances_406 _ _ hq0 hq3 hq4 hq5 hFL _

set_option maxRecDepth 100000 in
set_option maxHeartbeats 4000000 in
theorem jb_lw_tolerances_344 {FL : List LK → Prop} {lay : List LK} {q0 : Nat} {x1 : Int} {x2 : Int} {q3 : Nat} {q4 : Nat} {q5 : Nat} {x6 : Int}  (hq0 : sub lay q0 blkLines) (hq3 : lay[q3]? = some (0, 12, 0, 0)) (hq4 : lay[q4]? = some (0, 12, 0, 0)) (hq5 : lay[q5]? = some (0, 12, 0, 0)) (hFL : FL lay) (h : Hp) : J mi_lw_tolerances encI FL lay 20 240 344 [] [] h (lw_tolerances_b344 q0 x1 x2 q3 q4 q5 x6 h) := by
  unfold lw_tolerances_b344
  refine j_iconst (x := 0) dL_tolerances_344 rfl (by decide) ?_
  exact j_retZ bz0.symm rfl rfl dL_tolerances_345 rfl ⟨Nat.le_refl _, Nat.le_refl _⟩ hFL

set_option maxRecDepth 100000 in
set_option maxHeartbeats 4000000 in
theorem jb_lw_tolerances_291 {FL : List LK → Prop} {lay : List LK} {q0 : Nat} {x1 : Int} {x2 : Int} {q3 : Nat} {q4 : Nat} {q5 : Nat} {x6 : Int} {k97 : Int → Int → Hp → O Int} (x8 s0 s1 : Int) (hq0 : sub lay q0 blkLines) (hq3 : lay[q3]? = some (0, 12, 0, 0)) (hq4 : lay[q4]? = some (0, 12, 0, 0)) (hq5 : lay[q5]? = some (0, 12, 0, 0)) (hFL : FL lay) (hk97 : ∀ (x7 x8 : Int) (h : Hp), J mi_lw_tolerances encI FL lay 20 240 97 [(0, vr q0), (1, vi x1), (2, vi x2), (3, vr q3), (4, vr q4), (5, vr q5), (6, vi x6), (7, vi x7), (8, vi x8)] [] h (k97 x7 x8 h))(h : Hp) : J mi_lw_tolerances encI FL lay 20 240 291 [(0, vr q0), (1, vi x1), (2, vi x2), (3, vr q3), (4, vr q4), (5, vr q5), (6, vi x6), (8, vi x8)] [vi s0, vi s1] h (lw_tolerances_b291 q0 x1 x2 q3 q4 q5 x6 k97 x8 s0 s1 h) := by
  unfold lw_tolerances_b291
  refine j_iadd dL_tolerances_291 ?_
  refine j_istore (lv' := [(7, vi (s1 + s0)), (0, vr q0), (1, vi x1), (2, vi x2), (3, vr q3), (4, vr q4), (5, vr q5), (6, vi x6), (8, vi x8)]) dL_tolerances_292 (Nat.le_of_ble_eq_true rfl) rfl ?_
  refine j_iinc 8 (lv' := [(8, vi (x8 + 1)), (7, vi (s1 + s0)), (0, vr q0), (1, vi x1), (2, vi x2), (3, vr q3), (4, vr q4), (5, vr q5), (6, vi x6)]) dL_tolerances_294 rfl (Nat.le_of_ble_eq_true rfl) rfl ?_
  refine j_goto (tgt := 97) dL_tolerances_297 (by decide) ?_
  refine j_sub [2, 3, 4, 5, 6, 7, 8, 1, 0] rfl ?_
  exact hk97 _ _ _

set_option maxRecDepth 100000 in
set_option maxHeartbeats 4000000 in
theorem jb_lw_tolerances_274 {FL : List LK → Prop} {lay : List LK} {q0 : Nat} {x1 : Int} {x2 : Int} {q3 : Nat} {q4 : Nat} {q5 : Nat} {x6 : Int} {k97 : Int → Int → Hp → O Int} (x7 x8 x9 s0 s1 : Int) (hq0 : sub lay q0 blkLines) (hq3 : lay[q3]? = some (0, 12, 0, 0)) (hq4 : lay[q4]? = some (0, 12, 0, 0)) (hq5 : lay[q5]? = some (0, 12, 0, 0)) (hFL : FL lay) (hk97 : ∀ (x7 x8 : Int) (h : Hp), J mi_lw_tolerances encI FL lay 20 240 97 [(0, vr q0), (1, vi x1), (2, vi x2), (3, vr q3), (4, vr q4), (5, vr q5), (6, vi x6), (7, vi x7), (8, vi x8)] [] h (k97 x7 x8 h))(h : Hp) : J mi_lw_tolerances encI FL lay 20 240 274 [(0, vr q0), (1, vi x1), (2, vi x2), (3, vr q3), (4, vr q4), (5, vr q5), (6, vi x6), (7, vi x7), (8, vi x8), (9, vi x9)] [vi s0, vi s1] h (lw_tolerances_b274 q0 x1 x2 q3 q4 q5 x6 k97 x7 x8 x9 s0 s1 h) := by
  unfold lw_tolerances_b274
  refine j_icmp_eq (tgt := 279) dL_tolerances_274 (by decide) ?_ ?_
  · refine j_iload 7 dL_tolerances_279 rfl ?_
    refine j_iload 9 dL_tolerances_281 rfl ?_
    refine j_if_ge (tgt := 290) dL_tolerances_283 (by decide) ?_ ?_
    · refine j_iconst (x := 1) dL_tolerances_286 rfl (by decide) ?_
      refine j_goto (tgt := 291) dL_tolerances_287 (by decide) ?_
      refine j_sub [0, 1, 2, 3, 4, 5, 6, 8] rfl ?_
      exact jb_lw_tolerances_291 _ _ _ hq0 hq3 hq4 hq5 hFL hk97 _
    · refine j_iconst (x := 0) dL_tolerances_290 rfl (by decide) ?_
      refine j_sub [0, 1, 2, 3, 4, 5, 6, 8] rfl ?_
      exact jb_lw_tolerances_291 _ _ _ hq0 hq3 hq4 hq5 hFL hk97 _
  · refine j_iconst (x := 0) dL_tolerances_277 rfl (by decide) ?_
    exact j_retZ bz0.symm rfl rfl dL_tolerances_278 rfl ⟨Nat.le_refl _, Nat.le_refl _⟩ hFL

set_option maxRecDepth 100000 in
set_option maxHeartbeats 4000000 in
theorem jb_lw_tolerances_249 {FL : List LK → Prop} {lay : List LK} {q0 : Nat} {x1 : Int} {x2 : Int} {q3 : Nat} {q4 : Nat} {q5 : Nat} {x6 : Int} {k118 : Int → Int → Hp → O Int} (x7 x8 x9 x10 : Int) (hq0 : sub lay q0 blkLines) (hq3 : lay[q3]? = some (0, 12, 0, 0)) (hq4 : lay[q4]? = some (0, 12, 0, 0)) (hq5 : lay[q5]? = some (0, 12, 0, 0)) (hFL : FL lay) (hk118 : ∀ (x9 x10 : Int) (h : Hp), J mi_lw_tolerances encI FL lay 20 240 118 [(0, vr q0), (1, vi x1), (2, vi x2), (3, vr q3), (4, vr q4), (5, vr q5), (6, vi x6), (7, vi x7), (8, vi x8), (9, vi x9), (10, vi x10)] [] h (k118 x9 x10 h))(h : Hp) : J mi_lw_tolerances encI FL lay 20 240 249 [(0, vr q0), (1, vi x1), (2, vi x2), (3, vr q3), (4, vr q4), (5, vr q5), (6, vi x6), (7, vi x7), (8, vi x8), (9, vi x9), (10, vi x10)] [] h (lw_tolerances_b249 q0 x1 x2 q3 q4 q5 x6 k118 x7 x8 x9 x10 h) := by
  unfold lw_tolerances_b249
  refine j_iinc 10 (lv' := [(10, vi (x10 + 1)), (0, vr q0), (1, vi x1), (2, vi x2), (3, vr q3), (4, vr q4), (5, vr q5), (6, vi x6), (7, vi x7), (8, vi x8), (9, vi x9)]) dL_tolerances_249 rfl (Nat.le_of_ble_eq_true rfl) rfl ?_
  refine j_goto (tgt := 118) dL_tolerances_252 (by decide) ?_
  refine j_sub [1, 2, 3, 4, 5, 6, 7, 8, 9, 10, 0] rfl ?_
  exact hk118 _ _ _

set_option maxRecDepth 100000 in
set_option maxHeartbeats 4000000 in
theorem jb_lw_tolerances_247 {FL : List LK → Prop} {lay : List LK} {q0 : Nat} {x1 : Int} {x2 : Int} {q3 : Nat} {q4 : Nat} {q5 : Nat} {x6 : Int}  (hq0 : sub lay q0 blkLines) (hq3 : lay[q3]? = some (0, 12, 0, 0)) (hq4 : lay[q4]? = some (0, 12, 0, 0)) (hq5 : lay[q5]? = some (0, 12, 0, 0)) (hFL : FL lay) (h : Hp) : J mi_lw_tolerances encI FL lay 20 240 247 [] [] h (lw_tolerances_b247 q0 x1 x2 q3 q4 q5 x6 h) := by
  unfold lw_tolerances_b247
  refine j_iconst (x := 0) dL_tolerances_247 rfl (by decide) ?_
  exact j_retZ bz0.symm rfl rfl dL_tolerances_248 rfl ⟨Nat.le_refl _, Nat.le_refl _⟩ hFL

set_option maxRecDepth 100000 in
set_option maxHeartbeats 4000000 in
theorem jb_lw_tolerances_244 {FL : List LK → Prop} {lay : List LK} {q0 : Nat} {x1 : Int} {x2 : Int} {q3 : Nat} {q4 : Nat} {q5 : Nat} {x6 : Int} {k118 : Int → Int → Hp → O Int} (x7 x8 x9 x10 s0 s1 : Int) (hq0 : sub lay q0 blkLines) (hq3 : lay[q3]? = some (0, 12, 0, 0)) (hq4 : lay[q4]? = some (0, 12, 0, 0)) (hq5 : lay[q5]? = some (0, 12, 0, 0)) (hFL : FL lay) (hk118 : ∀ (x9 x10 : Int) (h : Hp), J mi_lw_tolerances encI FL lay 20 240 118 [(0, vr q0), (1, vi x1), (2, vi x2), (3, vr q3), (4, vr q4), (5, vr q5), (6, vi x6), (7, vi x7), (8, vi x8), (9, vi x9), (10, vi x10)] [] h (k118 x9 x10 h))(h : Hp) : J mi_lw_tolerances encI FL lay 20 240 244 [(0, vr q0), (1, vi x1), (2, vi x2), (3, vr q3), (4, vr q4), (5, vr q5), (6, vi x6), (7, vi x7), (8, vi x8), (9, vi x9), (10, vi x10)] [vi s0, vi s1] h (lw_tolerances_b244 q0 x1 x2 q3 q4 q5 x6 k118 x7 x8 x9 x10 s0 s1 h) := by
  unfold lw_tolerances_b244
  refine j_icmp_eq (tgt := 249) dL_tolerances_244 (by decide) ?_ ?_
  · exact jb_lw_tolerances_249 _ _ _ _ hq0 hq3 hq4 hq5 hFL hk118 _
  · refine j_sub [] rfl ?_
    exact jb_lw_tolerances_247 hq0 hq3 hq4 hq5 hFL _

set_option maxRecDepth 100000 in
set_option maxHeartbeats 4000000 in
theorem jb_lw_tolerances_215 {FL : List LK → Prop} {lay : List LK} {q0 : Nat} {x1 : Int} {x2 : Int} {q3 : Nat} {q4 : Nat} {q5 : Nat} {x6 : Int} {k118 : Int → Int → Hp → O Int} (x7 x8 x9 x10 x11 s0 s1 : Int) (hq0 : sub lay q0 blkLines) (hq3 : lay[q3]? = some (0, 12, 0, 0)) (hq4 : lay[q4]? = some (0, 12, 0, 0)) (hq5 : lay[q5]? = some (0, 12, 0, 0)) (hFL : FL lay) (hk118 : ∀ (x9 x10 : Int) (h : Hp), J mi_lw_tolerances encI FL lay 20 240 118 [(0, vr q0), (1, vi x1), (2, vi x2), (3, vr q3), (4, vr q4), (5, vr q5), (6, vi x6), (7, vi x7), (8, vi x8), (9, vi x9), (10, vi x10)] [] h (k118 x9 x10 h))(h : Hp) : J mi_lw_tolerances encI FL lay 20 240 215 [(0, vr q0), (1, vi x1), (2, vi x2), (3, vr q3), (4, vr q4), (5, vr q5), (6, vi x6), (7, vi x7), (8, vi x8), (9, vi x9), (10, vi x10), (11, vi x11)] [vi s0, vi s1] h (lw_tolerances_b215 q0 x1 x2 q3 q4 q5 x6 k118 x7 x8 x9 x10 x11 s0 s1 h) := by
  unfold lw_tolerances_b215
  refine j_icmp_ne (tgt := 247) dL_tolerances_215 (by decide) ?_ ?_
  · refine j_aload_n 0 dL_tolerances_218 rfl ?_
    refine j_iload 8 dL_tolerances_219 rfl ?_
    refine j_iload 10 dL_tolerances_221 rfl ?_
    refine j_iconst (x := 0) dL_tolerances_223 rfl (by decide) ?_
    refine j_cV (stk := []) [vi x8, vi x10, vi 0] q0 dL_tolerances_224 mv_dl_distance lm_L_72 (sub_k hq0 0 rfl rfl) zc_5 (ct_dl_distance hq0 h) rfl rfl ⟨⟨Nat.le_of_ble_eq_true rfl, Nat.le_of_ble_eq_true rfl⟩, Nat.le_of_ble_eq_true rfl, Nat.le_of_ble_eq_true rfl⟩ (Nat.le_of_ble_eq_true rfl) rfl rfl (fun r1 h1 _ => ?_)
    refine j_iload 11 dL_tolerances_227 rfl ?_
    refine j_if_eq (tgt := 241) dL_tolerances_229 (by decide) ?_ ?_
    · refine j_sipush (x := (-999)) dL_tolerances_241 (by decide) (by decide) ?_
      refine j_sub [0, 1, 2, 3, 4, 5, 6, 7, 8, 9, 10] rfl ?_
      exact jb_lw_tolerances_244 _ _ _ _ _ _ hq0 hq3 hq4 hq5 hFL hk118 _
    · refine j_aload 4 dL_tolerances_232 rfl ?_
      refine j_iload 8 dL_tolerances_234 rfl ?_
      refine j_iald dL_tolerances_236 hq4 rfl ?_
      refine j_ineg dL_tolerances_237 ?_
      refine j_goto (tgt := 244) dL_tolerances_238 (by decide) ?_
      refine j_sub [0, 1, 2, 3, 4, 5, 6, 7, 8, 9, 10] rfl ?_
      exact jb_lw_tolerances_244 _ _ _ _ _ _ hq0 hq3 hq4 hq5 hFL hk118 _
  · refine j_sub [] rfl ?_
    exact jb_lw_tolerances_247 hq0 hq3 hq4 hq5 hFL _

set_option maxRecDepth 100000 in
set_option maxHeartbeats 4000000 in
theorem jb_lw_tolerances_189 {FL : List LK → Prop} {lay : List LK} {q0 : Nat} {x1 : Int} {x2 : Int} {q3 : Nat} {q4 : Nat} {q5 : Nat} {x6 : Int} {k118 : Int → Int → Hp → O Int} (x7 x8 x10 x11 s0 : Int) (hq0 : sub lay q0 blkLines) (hq3 : lay[q3]? = some (0, 12, 0, 0)) (hq4 : lay[q4]? = some (0, 12, 0, 0)) (hq5 : lay[q5]? = some (0, 12, 0, 0)) (hFL : FL lay) (hk118 : ∀ (x9 x10 : Int) (h : Hp), J mi_lw_tolerances encI FL lay 20 240 118 [(0, vr q0), (1, vi x1), (2, vi x2), (3, vr q3), (4, vr q4), (5, vr q5), (6, vi x6), (7, vi x7), (8, vi x8), (9, vi x9), (10, vi x10)] [] h (k118 x9 x10 h))(h : Hp) : J mi_lw_tolerances encI FL lay 20 240 189 [(0, vr q0), (1, vi x1), (2, vi x2), (3, vr q3), (4, vr q4), (5, vr q5), (6, vi x6), (7, vi x7), (8, vi x8), (10, vi x10), (11, vi x11)] [vi s0] h (lw_tolerances_b189 q0 x1 x2 q3 q4 q5 x6 k118 x7 x8 x10 x11 s0 h) := by
  unfold lw_tolerances_b189
  refine j_istore (lv' := [(9, vi s0), (0, vr q0), (1, vi x1), (2, vi x2), (3, vr q3), (4, vr q4), (5, vr q5), (6, vi x6), (7, vi x7), (8, vi x8), (10, vi x10), (11, vi x11)]) dL_tolerances_189 (Nat.le_of_ble_eq_true rfl) rfl ?_
  refine j_aload_n 1 dL_tolerances_191 rfl ?_
  refine j_iload 9 dL_tolerances_192 rfl ?_
  refine j_iload 10 dL_tolerances_194 rfl ?_
  refine j_iconst (x := 1) dL_tolerances_196 rfl (by decide) ?_
  refine j_cV (stk := []) [vi x8, vi x10, vi 1] q0 dL_tolerances_197 mv_dl_distance lm_L_72 (sub_k hq0 0 rfl rfl) zc_5 (ct_dl_distance hq0 h) rfl rfl ⟨⟨Nat.le_of_ble_eq_true rfl, Nat.le_of_ble_eq_true rfl⟩, Nat.le_of_ble_eq_true rfl, Nat.le_of_ble_eq_true rfl⟩ (Nat.le_of_ble_eq_true rfl) rfl rfl (fun r1 h1 _ => ?_)
  refine j_iload 11 dL_tolerances_200 rfl ?_
  refine j_if_eq (tgt := 212) dL_tolerances_202 (by decide) ?_ ?_
  · refine j_sipush (x := (-999)) dL_tolerances_212 (by decide) (by decide) ?_
    refine j_sub [1, 2, 3, 4, 5, 6, 7, 8, 9, 0, 10, 11] rfl ?_
    exact jb_lw_tolerances_215 _ _ _ _ _ _ _ hq0 hq3 hq4 hq5 hFL hk118 _
  · refine j_aload_n 4 dL_tolerances_205 rfl ?_
    refine j_iload 10 dL_tolerances_206 rfl ?_
    refine j_iald dL_tolerances_208 hq3 rfl ?_
    refine j_goto (tgt := 215) dL_tolerances_209 (by decide) ?_
    refine j_sub [1, 2, 3, 4, 5, 6, 7, 8, 9, 0, 10, 11] rfl ?_
    exact jb_lw_tolerances_215 _ _ _ _ _ _ _ hq0 hq3 hq4 hq5 hFL hk118 _

set_option maxRecDepth 100000 in
set_option maxHeartbeats 4000000 in
theorem jb_lw_tolerances_187 {FL : List LK → Prop} {lay : List LK} {q0 : Nat} {x1 : Int} {x2 : Int} {q3 : Nat} {q4 : Nat} {q5 : Nat} {x6 : Int} {k118 : Int → Int → Hp → O Int} (x7 x8 x9 x10 x11 : Int) (hq0 : sub lay q0 blkLines) (hq3 : lay[q3]? = some (0, 12, 0, 0)) (hq4 : lay[q4]? = some (0, 12, 0, 0)) (hq5 : lay[q5]? = some (0, 12, 0, 0)) (hFL : FL lay) (hk118 : ∀ (x9 x10 : Int) (h : Hp), J mi_lw_tolerances encI FL lay 20 240 118 [(0, vr q0), (1, vi x1), (2, vi x2), (3, vr q3), (4, vr q4), (5, vr q5), (6, vi x6), (7, vi x7), (8, vi x8), (9, vi x9), (10, vi x10)] [] h (k118 x9 x10 h))(h : Hp) : J mi_lw_tolerances encI FL lay 20 240 187 [(0, vr q0), (1, vi x1), (2, vi x2), (3, vr q3), (4, vr q4), (5, vr q5), (6, vi x6), (7, vi x7), (8, vi x8), (9, vi x9), (10, vi x10), (11, vi x11)] [] h (lw_tolerances_b187 q0 x1 x2 q3 q4 q5 x6 k118 x7 x8 x9 x10 x11 h) := by
  unfold lw_tolerances_b187
  refine j_iload 9 dL_tolerances_187 rfl ?_
  refine j_sub [0, 1, 2, 3, 4, 5, 6, 7, 8, 10, 11] rfl ?_
  exact jb_lw_tolerances_189 _ _ _ _ _ hq0 hq3 hq4 hq5 hFL hk118 _

set_option maxRecDepth 100000 in
set_option maxHeartbeats 4000000 in
theorem jb_lw_tolerances_158 {FL : List LK → Prop} {lay : List LK} {q0 : Nat} {x1 : Int} {x2 : Int} {q3 : Nat} {q4 : Nat} {q5 : Nat} {x6 : Int} {k118 : Int → Int → Hp → O Int} (x7 x8 x9 x10 s0 : Int) (hq0 : sub lay q0 blkLines) (hq3 : lay[q3]? = some (0, 12, 0, 0)) (hq4 : lay[q4]? = some (0, 12, 0, 0)) (hq5 : lay[q5]? = some (0, 12, 0, 0)) (hFL : FL lay) (hk118 : ∀ (x9 x10 : Int) (h : Hp), J mi_lw_tolerances encI FL lay 20 240 118 [(0, vr q0), (1, vi x1), (2, vi x2), (3, vr q3), (4, vr q4), (5, vr q5), (6, vi x6), (7, vi x7), (8, vi x8), (9, vi x9), (10, vi x10)] [] h (k118 x9 x10 h))(h : Hp) : J mi_lw_tolerances encI FL lay 20 240 158 [(0, vr q0), (1, vi x1), (2, vi x2), (3, vr q3), (4, vr q4), (5, vr q5), (6, vi x6), (7, vi x7), (8, vi x8), (9, vi x9), (10, vi x10)] [vi s0] h (lw_tolerances_b158 q0 x1 x2 q3 q4 q5 x6 k118 x7 x8 x9 x10 s0 h) := by
  unfold lw_tolerances_b158
  refine j_istore (lv' := [(11, vi s0), (0, vr q0), (1, vi x1), (2, vi x2), (3, vr q3), (4, vr q4), (5, vr q5), (6, vi x6), (7, vi x7), (8, vi x8), (9, vi x9), (10, vi x10)]) dL_tolerances_158 (Nat.le_of_ble_eq_true rfl) rfl ?_
  refine j_iload 0 dL_tolerances_160 rfl ?_
  refine j_if_eq (tgt := 187) dL_tolerances_162 (by decide) ?_ ?_
  · refine j_sub [1, 2, 3, 4, 5, 6, 7, 8, 9, 10, 11, 0] rfl ?_
    exact jb_lw_tolerances_187 _ _ _ _ _ hq0 hq3 hq4 hq5 hFL hk118 _
  · refine j_iload 11 dL_tolerances_165 rfl ?_
    refine j_iload 9 dL_tolerances_167 rfl ?_
    refine j_icmp_ge (tgt := 187) dL_tolerances_169 (by decide) ?_ ?_
    · refine j_iload 10 dL_tolerances_172 rfl ?_
      refine j_if_ge (tgt := 187) dL_tolerances_174 (by decide) ?_ ?_
      · refine j_aload_n 1 dL_tolerances_177 rfl ?_
        refine j_iload 11 dL_tolerances_178 rfl ?_
        refine j_iconst (x := 4) dL_tolerances_180 rfl (by decide) ?_
        refine j_cV (stk := []) [vi x10, vi 4] q0 dL_tolerances_181 mv_dl_point lm_L_20 (sub_k hq0 0 rfl rfl) zc_5 (ct_dl_point hq0 h) rfl rfl ⟨⟨Nat.le_of_ble_eq_true rfl, Nat.le_of_ble_eq_true rfl⟩, Nat.le_of_ble_eq_true rfl, Nat.le_of_ble_eq_true rfl⟩ (Nat.le_of_ble_eq_true rfl) rfl rfl (fun r1 h1 _ => ?_)
        refine j_goto (tgt := 189) dL_tolerances_184 (by decide) ?_
        refine j_sub [1, 2, 3, 4, 5, 6, 7, 8, 9, 11, 0] rfl ?_
        exact jb_lw_tolerances_189 _ _ _ _ _ hq0 hq3 hq4 hq5 hFL hk118 _
      · refine j_sub [1, 2, 3, 4, 5, 6, 7, 8, 9, 10, 11, 0] rfl ?_
        exact jb_lw_tolerances_187 _ _ _ _ _ hq0 hq3 hq4 hq5 hFL hk118 _
    · refine j_sub [1, 2, 3, 4, 5, 6, 7, 8, 9, 10, 11, 0] rfl ?_
      exact jb_lw_tolerances_187 _ _ _ _ _ hq0 hq3 hq4 hq5 hFL hk118 _

set_option maxRecDepth 100000 in
set_option maxHeartbeats 4000000 in
theorem jl_lw_tolerances_118 {FL : List LK → Prop} {lay : List LK} {q0 : Nat} {x1 : Int} {x2 : Int} {q3 : Nat} {q4 : Nat} {q5 : Nat} {x6 : Int} {k97 : Int → Int → Hp → O Int} (x7 x8 : Int) (hq0 : sub lay q0 blkLines) (hq3 : lay[q3]? = some (0, 12, 0, 0)) (hq4 : lay[q4]? = some (0, 12, 0, 0)) (hq5 : lay[q5]? = some (0, 12, 0, 0)) (hFL : FL lay) (hk97 : ∀ (x7 x8 : Int) (h : Hp), J mi_lw_tolerances encI FL lay 20 240 97 [(0, vr q0), (1, vi x1), (2, vi x2), (3, vr q3), (4, vr q4), (5, vr q5), (6, vi x6), (7, vi x7), (8, vi x8)] [] h (k97 x7 x8 h)) : ∀ (n : Nat) (x9 x10 : Int) (h : Hp), J mi_lw_tolerances encI FL lay 20 240 118 [(0, vr q0), (1, vi x1), (2, vi x2), (3, vr q3), (4, vr q4), (5, vr q5), (6, vi x6), (7, vi x7), (8, vi x8), (9, vi x9), (10, vi x10)] [] h (iter2 (lw_tolerances_f118 q0 x1 x2 q3 q4 q5 x6 k97 x7 x8) n x9 x10 h) := by
  refine j_iter2 (lf := fun x9 x10 => [(0, vr q0), (1, vi x1), (2, vi x2), (3, vr q3), (4, vr q4), (5, vr q5), (6, vi x6), (7, vi x7), (8, vi x8), (9, vi x9), (10, vi x10)]) (fun k118 hk118 x9 x10 h => ?_)
  unfold lw_tolerances_f118
  refine j_iload 10 dL_tolerances_118 rfl ?_
  refine j_iload_n 2 dL_tolerances_120 rfl ?_
  refine j_icmp_ge (tgt := 255) dL_tolerances_121 (by decide) ?_ ?_
  · refine j_iload 8 dL_tolerances_124 rfl ?_
    refine j_iload 10 dL_tolerances_126 rfl ?_
    refine j_icmp_ne (tgt := 134) dL_tolerances_128 (by decide) ?_ ?_
    · refine j_goto (tgt := 249) dL_tolerances_131 (by decide) ?_
      exact jb_lw_tolerances_249 _ _ _ _ hq0 hq3 hq4 hq5 hFL hk118 _
    · refine j_aload_n 0 dL_tolerances_134 rfl ?_
      refine j_iload 10 dL_tolerances_135 rfl ?_
      refine j_iconst (x := (-1)) dL_tolerances_137 rfl (by decide) ?_
      refine j_iconst (x := (-1)) dL_tolerances_138 rfl (by decide) ?_
      refine j_aload 4 dL_tolerances_139 rfl ?_
      refine j_cS (stk := []) [vr q0, vi x10, vi (-1), vi (-1), vr q4] dL_tolerances_141 mv_lw_reach lm_L_64 (ct_lw_reach hq0 hq4 (by decide) h) rfl rfl ⟨⟨Nat.le_of_ble_eq_true rfl, Nat.le_of_ble_eq_true rfl⟩, Nat.le_of_ble_eq_true rfl, Nat.le_of_ble_eq_true rfl⟩ (Nat.le_of_ble_eq_true rfl) rfl rfl (fun _ h1 _ => ?_)
      refine j_aload_n 3 dL_tolerances_144 rfl ?_
      refine j_iload 10 dL_tolerances_145 rfl ?_
      refine j_iald dL_tolerances_147 hq3 rfl ?_
      refine j_ldc (x := 1000000) dL_tolerances_148 kc_L_63 (by decide) ?_
      refine j_icmp_ge (tgt := 157) dL_tolerances_150 (by decide) ?_ ?_
      · refine j_iconst (x := 1) dL_tolerances_153 rfl (by decide) ?_
        refine j_goto (tgt := 158) dL_tolerances_154 (by decide) ?_
        exact jb_lw_tolerances_158 _ _ _ _ _ hq0 hq3 hq4 hq5 hFL hk118 _
      · refine j_iconst (x := 0) dL_tolerances_157 rfl (by decide) ?_
        exact jb_lw_tolerances_158 _ _ _ _ _ hq0 hq3 hq4 hq5 hFL hk118 _
  · refine j_aload_n 0 dL_tolerances_255 rfl ?_
    refine j_iload 8 dL_tolerances_256 rfl ?_
    refine j_iconst (x := 4) dL_tolerances_258 rfl (by decide) ?_
    refine j_cV (stk := []) [vi x8, vi 4] q0 dL_tolerances_259 mv_dl_point lm_L_20 (sub_k hq0 0 rfl rfl) zc_5 (ct_dl_point hq0 h) rfl rfl ⟨⟨Nat.le_of_ble_eq_true rfl, Nat.le_of_ble_eq_true rfl⟩, Nat.le_of_ble_eq_true rfl, Nat.le_of_ble_eq_true rfl⟩ (Nat.le_of_ble_eq_true rfl) rfl rfl (fun r2 h2 _ => ?_)
    refine j_iload 9 dL_tolerances_262 rfl ?_
    refine j_if_ge (tgt := 272) dL_tolerances_264 (by decide) ?_ ?_
    · refine j_iload 7 dL_tolerances_267 rfl ?_
      refine j_goto (tgt := 274) dL_tolerances_269 (by decide) ?_
      refine j_sub [0, 1, 2, 3, 4, 5, 6, 7, 8, 9] rfl ?_
      exact jb_lw_tolerances_274 _ _ _ _ _ hq0 hq3 hq4 hq5 hFL hk97 _
    · refine j_iload 9 dL_tolerances_272 rfl ?_
      refine j_sub [0, 1, 2, 3, 4, 5, 6, 7, 8, 9] rfl ?_
      exact jb_lw_tolerances_274 _ _ _ _ _ hq0 hq3 hq4 hq5 hFL hk97 _

set_option maxRecDepth 100000 in
set_option maxHeartbeats 4000000 in
theorem jl_lw_tolerances_97 {FL : List LK → Prop} {lay : List LK} {q0 : Nat} {x1 : Int} {x2 : Int} {q3 : Nat} {q4 : Nat} {q5 : Nat} {x6 : Int}  (hq0 : sub lay q0 blkLines) (hq3 : lay[q3]? = some (0, 12, 0, 0)) (hq4 : lay[q4]? = some (0, 12, 0, 0)) (hq5 : lay[q5]? = some (0, 12, 0, 0)) (hFL : FL lay)  : ∀ (n : Nat) (x7 x8 : Int) (h : Hp), J mi_lw_tolerances encI FL lay 20 240 97 [(0, vr q0), (1, vi x1), (2, vi x2), (3, vr q3), (4, vr q4), (5, vr q5), (6, vi x6), (7, vi x7), (8, vi x8)] [] h (iter2 (lw_tolerances_f97 q0 x1 x2 q3 q4 q5 x6) n x7 x8 h) := by
  refine j_iter2 (lf := fun x7 x8 => [(0, vr q0), (1, vi x1), (2, vi x2), (3, vr q3), (4, vr q4), (5, vr q5), (6, vi x6), (7, vi x7), (8, vi x8)]) (fun k97 hk97 x7 x8 h => ?_)
  unfold lw_tolerances_f97
  refine j_iload 8 dL_tolerances_97 rfl ?_
  refine j_iload_n 2 dL_tolerances_99 rfl ?_
  refine j_icmp_ge (tgt := 300) dL_tolerances_100 (by decide) ?_ ?_
  · refine j_aload_n 0 dL_tolerances_103 rfl ?_
    refine j_iload 8 dL_tolerances_104 rfl ?_
    refine j_iconst (x := (-1)) dL_tolerances_106 rfl (by decide) ?_
    refine j_iconst (x := (-1)) dL_tolerances_107 rfl (by decide) ?_
    refine j_aload_n 3 dL_tolerances_108 rfl ?_
    refine j_cS (stk := []) [vr q0, vi x8, vi (-1), vi (-1), vr q3] dL_tolerances_109 mv_lw_reach lm_L_64 (ct_lw_reach hq0 hq3 (by decide) h) rfl rfl ⟨⟨Nat.le_of_ble_eq_true rfl, Nat.le_of_ble_eq_true rfl⟩, Nat.le_of_ble_eq_true rfl, Nat.le_of_ble_eq_true rfl⟩ (Nat.le_of_ble_eq_true rfl) rfl rfl (fun _ h1 _ => ?_)
    refine j_iconst (x := (-1)) dL_tolerances_112 rfl (by decide) ?_
    refine j_istore (lv' := [(9, vi (-1)), (0, vr q0), (1, vi x1), (2, vi x2), (3, vr q3), (4, vr q4), (5, vr q5), (6, vi x6), (7, vi x7), (8, vi x8)]) dL_tolerances_113 (Nat.le_of_ble_eq_true rfl) rfl ?_
    refine j_iconst (x := 0) dL_tolerances_115 rfl (by decide) ?_
    refine j_istore (lv' := [(10, vi 0), (9, vi (-1)), (0, vr q0), (1, vi x1), (2, vi x2), (3, vr q3), (4, vr q4), (5, vr q5), (6, vi x6), (7, vi x7), (8, vi x8)]) dL_tolerances_116 (Nat.le_of_ble_eq_true rfl) rfl ?_
    refine j_sub [2, 3, 4, 5, 6, 7, 8, 9, 10, 1, 0] rfl ?_
    exact jl_lw_tolerances_118 _ _ hq0 hq3 hq4 hq5 hFL hk97 fuel _ _ _
  · refine j_aload_n 0 dL_tolerances_300 rfl ?_
    refine j_iconst (x := 5) dL_tolerances_301 rfl (by decide) ?_
    refine j_cV (stk := []) [vi 5] q0 dL_tolerances_302 mv_dl_count lm_L_42 (sub_k hq0 0 rfl rfl) zc_5 (ct_dl_count hq0 h) rfl rfl ⟨⟨Nat.le_of_ble_eq_true rfl, Nat.le_of_ble_eq_true rfl⟩, Nat.le_of_ble_eq_true rfl, Nat.le_of_ble_eq_true rfl⟩ (Nat.le_of_ble_eq_true rfl) rfl rfl (fun r2 h2 _ => ?_)
    refine j_iload 7 dL_tolerances_305 rfl ?_
    refine j_icmp_ne (tgt := 344) dL_tolerances_307 (by decide) ?_ ?_
    · refine j_aload_n 0 dL_tolerances_310 rfl ?_
      refine j_bipush (x := 6) dL_tolerances_311 (by decide) (by decide) ?_
      refine j_cV (stk := []) [vi 6] q0 dL_tolerances_313 mv_dl_count lm_L_42 (sub_k hq0 0 rfl rfl) zc_5 (ct_dl_count hq0 h2) rfl rfl ⟨⟨Nat.le_of_ble_eq_true rfl, Nat.le_of_ble_eq_true rfl⟩, Nat.le_of_ble_eq_true rfl, Nat.le_of_ble_eq_true rfl⟩ (Nat.le_of_ble_eq_true rfl) rfl rfl (fun r3 h3 _ => ?_)
      refine j_iload 6 dL_tolerances_316 rfl ?_
      refine j_icmp_ne (tgt := 344) dL_tolerances_318 (by decide) ?_ ?_
      · refine j_aload_n 0 dL_tolerances_321 rfl ?_
        refine j_cV (stk := []) [] q0 dL_tolerances_322 mv_dl_needed lm_L_76 (sub_k hq0 0 rfl rfl) zc_5 (ct_dl_needed hq0 h3) rfl rfl ⟨⟨Nat.le_of_ble_eq_true rfl, Nat.le_of_ble_eq_true rfl⟩, Nat.le_of_ble_eq_true rfl, Nat.le_of_ble_eq_true rfl⟩ (Nat.le_of_ble_eq_true rfl) rfl rfl (fun r4 h4 _ => ?_)
        refine j_iload_n 2 dL_tolerances_325 rfl ?_
        refine j_iload 7 dL_tolerances_326 rfl ?_
        refine j_isub dL_tolerances_328 ?_
        refine j_icmp_lt (tgt := 344) dL_tolerances_329 (by decide) ?_ ?_
        · refine j_sub [] rfl ?_
          exact jb_lw_tolerances_344 hq0 hq3 hq4 hq5 hFL _
        · refine j_aload_n 0 dL_tolerances_332 rfl ?_
          refine j_cV (stk := []) [] q0 dL_tolerances_333 mv_dl_needed lm_L_76 (sub_k hq0 0 rfl rfl) zc_5 (ct_dl_needed hq0 h4) rfl rfl ⟨⟨Nat.le_of_ble_eq_true rfl, Nat.le_of_ble_eq_true rfl⟩, Nat.le_of_ble_eq_true rfl, Nat.le_of_ble_eq_true rfl⟩ (Nat.le_of_ble_eq_true rfl) rfl rfl (fun r5 h5 _ => ?_)
          refine j_aload_n 0 dL_tolerances_336 rfl ?_
          refine j_iconst (x := 1) dL_tolerances_337 rfl (by decide) ?_
          refine j_cV (stk := [vi r5]) [vi 1] q0 dL_tolerances_338 mv_dl_count lm_L_42 (sub_k hq0 0 rfl rfl) zc_5 (ct_dl_count hq0 h5) rfl rfl ⟨⟨Nat.le_of_ble_eq_true rfl, Nat.le_of_ble_eq_true rfl⟩, Nat.le_of_ble_eq_true rfl, Nat.le_of_ble_eq_true rfl⟩ (Nat.le_of_ble_eq_true rfl) rfl rfl (fun r6 h6 _ => ?_)
          refine j_icmp_le (tgt := 346) dL_tolerances_341 (by decide) ?_ ?_
          · refine j_sub [] rfl ?_
            exact jb_lw_tolerances_344 hq0 hq3 hq4 hq5 hFL _
          · refine j_iload_n 1 dL_tolerances_346 rfl ?_
            refine j_iload_n 2 dL_tolerances_347 rfl ?_
            refine j_cS (stk := []) [vi x1, vi x2] dL_tolerances_348 mv_lw_low lm_L_16 (ct_lw_low h6) rfl rfl ⟨⟨Nat.le_of_ble_eq_true rfl, Nat.le_of_ble_eq_true rfl⟩, Nat.le_of_ble_eq_true rfl, Nat.le_of_ble_eq_true rfl⟩ (Nat.le_of_ble_eq_true rfl) rfl rfl (fun r7 h7 _ => ?_)
            refine j_istore (lv' := [(8, vi r7), (0, vr q0), (1, vi x1), (2, vi x2), (3, vr q3), (4, vr q4), (5, vr q5), (6, vi x6), (7, vi x7)]) dL_tolerances_351 (Nat.le_of_ble_eq_true rfl) rfl ?_
            refine j_iload_n 2 dL_tolerances_353 rfl ?_
            refine j_iconst (x := 4) dL_tolerances_354 rfl (by decide) ?_
            refine j_ishrC 4 16 (by decide) rfl rfl dL_tolerances_355 ?_
            refine j_iload_n 3 dL_tolerances_356 rfl ?_
            refine j_cS (stk := []) [vi (x1 / 16), vi x2] dL_tolerances_357 mv_lw_low lm_L_16 (ct_lw_low h7) rfl rfl ⟨⟨Nat.le_of_ble_eq_true rfl, Nat.le_of_ble_eq_true rfl⟩, Nat.le_of_ble_eq_true rfl, Nat.le_of_ble_eq_true rfl⟩ (Nat.le_of_ble_eq_true rfl) rfl rfl (fun r8 h8 _ => ?_)
            refine j_istore (lv' := [(9, vi r8), (8, vi r7), (0, vr q0), (1, vi x1), (2, vi x2), (3, vr q3), (4, vr q4), (5, vr q5), (6, vi x6), (7, vi x7)]) dL_tolerances_360 (Nat.le_of_ble_eq_true rfl) rfl ?_
            refine j_iload 1 dL_tolerances_362 rfl ?_
            refine j_iload 0 dL_tolerances_364 rfl ?_
            refine j_icmp_eq (tgt := 384) dL_tolerances_366 (by decide) ?_ ?_
            · refine j_sub [2, 1, 0] rfl ?_
              exact jb_lw_tolerances_384 _ _ hq0 hq3 hq4 hq5 hFL _
            · refine j_aload_n 2 dL_tolerances_369 rfl ?_
              refine j_iload 1 dL_tolerances_370 rfl ?_
              refine j_iload 0 dL_tolerances_372 rfl ?_
              refine j_iconst (x := 1) dL_tolerances_374 rfl (by decide) ?_
              refine j_cV (stk := []) [vi r7, vi r8, vi 1] q0 dL_tolerances_375 mv_dl_distance lm_L_72 (sub_k hq0 0 rfl rfl) zc_5 (ct_dl_distance hq0 h8) rfl rfl ⟨⟨Nat.le_of_ble_eq_true rfl, Nat.le_of_ble_eq_true rfl⟩, Nat.le_of_ble_eq_true rfl, Nat.le_of_ble_eq_true rfl⟩ (Nat.le_of_ble_eq_true rfl) rfl rfl (fun r9 h9 _ => ?_)
              refine j_sipush (x := (-999)) dL_tolerances_378 (by decide) (by decide) ?_
              refine j_icmp_ne (tgt := 415) dL_tolerances_381 (by decide) ?_ ?_
              · refine j_sub [2, 1, 0] rfl ?_
                exact jb_lw_tolerances_384 _ _ hq0 hq3 hq4 hq5 hFL _
              · refine j_sipush (x := (-999)) dL_tolerances_415 (by decide) (by decide) ?_
                refine j_istore (lv' := [(10, vi (-999)), (9, vi r8), (8, vi r7), (0, vr q0), (1, vi x1), (2, vi x2), (3, vr q3), (4, vr q4), (5, vr q5), (6, vi x6), (7, vi x7)]) dL_tolerances_418 (Nat.le_of_ble_eq_true rfl) rfl ?_
                refine j_iconst (x := (-1)) dL_tolerances_420 rfl (by decide) ?_
                refine j_istore (lv' := [(11, vi (-1)), (10, vi (-999)), (9, vi r8), (8, vi r7), (0, vr q0), (1, vi x1), (2, vi x2), (3, vr q3), (4, vr q4), (5, vr q5), (6, vi x6), (7, vi x7)]) dL_tolerances_421 (Nat.le_of_ble_eq_true rfl) rfl ?_
                refine j_iconst (x := 0) dL_tolerances_423 rfl (by decide) ?_
                refine j_istore (lv' := [(12, vi 0), (11, vi (-1)), (10, vi (-999)), (9, vi r8), (8, vi r7), (0, vr q0), (1, vi x1), (2, vi x2), (3, vr q3), (4, vr q4), (5, vr q5), (6, vi x6), (7, vi x7)]) dL_tolerances_424 (Nat.le_of_ble_eq_true rfl) rfl ?_
                refine j_sub [5, 8, 10, 4, 3, 2, 1, 0] rfl ?_
                exact jl_lw_tolerances_426 _ _ hq0 hq3 hq4 hq5 hFL fuel _ _ _ _
      · refine j_sub [] rfl ?_
        exact jb_lw_tolerances_344 hq0 hq3 hq4 hq5 hFL _
    · refine j_sub [] rfl ?_
      exact jb_lw_tolerances_344 hq0 hq3 hq4 hq5 hFL _

set_option maxRecDepth 100000 in
set_option maxHeartbeats 4000000 in
theorem jb_lw_tolerances_91 {FL : List LK → Prop} {lay : List LK} {q0 : Nat} {x1 : Int} {x2 : Int} {q3 : Nat} {q4 : Nat} {q5 : Nat} {x6 : Int}  (hq0 : sub lay q0 blkLines) (hq3 : lay[q3]? = some (0, 12, 0, 0)) (hq4 : lay[q4]? = some (0, 12, 0, 0)) (hq5 : lay[q5]? = some (0, 12, 0, 0)) (hFL : FL lay) (h : Hp) : J mi_lw_tolerances encI FL lay 20 240 91 [(0, vr q0), (1, vi x1), (2, vi x2), (3, vr q3), (4, vr q4), (5, vr q5), (6, vi x6)] [] h (lw_tolerances_b91 q0 x1 x2 q3 q4 q5 x6 h) := by
  unfold lw_tolerances_b91
  refine j_iconst (x := 0) dL_tolerances_91 rfl (by decide) ?_
  refine j_istore (lv' := [(7, vi 0), (0, vr q0), (1, vi x1), (2, vi x2), (3, vr q3), (4, vr q4), (5, vr q5), (6, vi x6)]) dL_tolerances_92 (Nat.le_of_ble_eq_true rfl) rfl ?_
  refine j_iconst (x := 0) dL_tolerances_94 rfl (by decide) ?_
  refine j_istore (lv' := [(8, vi 0), (7, vi 0), (0, vr q0), (1, vi x1), (2, vi x2), (3, vr q3), (4, vr q4), (5, vr q5), (6, vi x6)]) dL_tolerances_95 (Nat.le_of_ble_eq_true rfl) rfl ?_
  refine j_sub [2, 3, 4, 5, 6, 7, 8, 1, 0] rfl ?_
  exact jl_lw_tolerances_97 hq0 hq3 hq4 hq5 hFL fuel _ _ _

set_option maxRecDepth 100000 in
set_option maxHeartbeats 4000000 in
theorem jb_lw_tol2_80 {FL : List LK → Prop} {lay : List LK} {nc ns : Nat} {q0 : Nat} {x1 : Int} {x2 : Int} {q3 : Nat} {q4 : Nat} {q5 : Nat} {k29 : Int → Int → Hp → O Int} (x6 x7 s0 s1 : Int) (hq0 : sub lay q0 blkLines) (hq3 : lay[q3]? = some (0, 12, 0, 0)) (hq4 : lay[q4]? = some (0, 12, 0, 0)) (hq5 : lay[q5]? = some (0, 12, 0, 0)) (hFL : FL lay) (hnc : nc ≤ 20) (hns : ns ≤ 240) (hk29 : ∀ (x6 x7 : Int) (h : Hp), J mi_lw_tolerances encI FL lay nc ns 29 [(0, vr q0), (1, vi x1), (2, vi x2), (3, vr q3), (4, vr q4), (5, vr q5), (6, vi x6), (7, vi x7)] [] h (k29 x6 x7 h))(h : Hp) : J mi_lw_tolerances encI FL lay nc ns 80 [(0, vr q0), (1, vi x1), (2, vi x2), (3, vr q3), (4, vr q4), (5, vr q5), (6, vi x6), (7, vi x7)] [vi s0, vi s1] h (lw_tol2_b80 q0 x1 x2 q3 q4 q5 k29 x6 x7 s0 s1 h) := by
  unfold lw_tol2_b80
  refine j_icmp_eq (tgt := 85) dL_tolerances_80 (by decide) ?_ ?_
  · refine j_iinc 7 (lv' := [(7, vi (x7 + 1)), (0, vr q0), (1, vi x1), (2, vi x2), (3, vr q3), (4, vr q4), (5, vr q5), (6, vi x6)]) dL_tolerances_85 rfl (Nat.le_of_ble_eq_true rfl) rfl ?_
    refine j_goto (tgt := 29) dL_tolerances_88 (by decide) ?_
    refine j_sub [1, 2, 3, 4, 5, 6, 7, 0] rfl ?_
    exact hk29 _ _ _
  · refine j_iconst (x := 0) dL_tolerances_83 rfl (by decide) ?_
    exact j_retZ bz0.symm rfl rfl dL_tolerances_84 rfl ⟨hnc, hns⟩ hFL

set_option maxRecDepth 100000 in
set_option maxHeartbeats 4000000 in
theorem jb_lw_tol2_59 {FL : List LK → Prop} {lay : List LK} {nc ns : Nat} {q0 : Nat} {x1 : Int} {x2 : Int} {q3 : Nat} {q4 : Nat} {q5 : Nat} {k29 : Int → Int → Hp → O Int} (x7 x8 s0 s1 : Int) (hq0 : sub lay q0 blkLines) (hq3 : lay[q3]? = some (0, 12, 0, 0)) (hq4 : lay[q4]? = some (0, 12, 0, 0)) (hq5 : lay[q5]? = some (0, 12, 0, 0)) (hFL : FL lay) (hnc : nc ≤ 20) (hns : ns ≤ 240) (hk29 : ∀ (x6 x7 : Int) (h : Hp), J mi_lw_tolerances encI FL lay nc ns 29 [(0, vr q0), (1, vi x1), (2, vi x2), (3, vr q3), (4, vr q4), (5, vr q5), (6, vi x6), (7, vi x7)] [] h (k29 x6 x7 h))(h : Hp) : J mi_lw_tolerances encI FL lay nc ns 59 [(0, vr q0), (1, vi x1), (2, vi x2), (3, vr q3), (4, vr q4), (5, vr q5), (7, vi x7), (8, vi x8)] [vi s0, vi s1] h (lw_tol2_b59 q0 x1 x2 q3 q4 q5 k29 x7 x8 s0 s1 h) := by
  unfold lw_tol2_b59
  refine j_iadd dL_tolerances_59 ?_
  refine j_istore (lv' := [(6, vi (s1 + s0)), (0, vr q0), (1, vi x1), (2, vi x2), (3, vr q3), (4, vr q4), (5, vr q5), (7, vi x7), (8, vi x8)]) dL_tolerances_60 (Nat.le_of_ble_eq_true rfl) rfl ?_
  refine j_aload_n 1 dL_tolerances_62 rfl ?_
  refine j_iload 7 dL_tolerances_63 rfl ?_
  refine j_bipush (x := 11) dL_tolerances_65 (by decide) (by decide) ?_
  refine j_cV (stk := []) [vi x7, vi 11] q0 dL_tolerances_67 mv_dl_dimension lm_L_45 (sub_k hq0 0 rfl rfl) zc_5 (ct_dl_dimension hq0 h) rfl rfl ⟨⟨Nat.le_of_ble_eq_true rfl, Nat.le_of_ble_eq_true rfl⟩, hnc, hns⟩ (Nat.le_of_ble_eq_true rfl) rfl rfl (fun r1 h1 _ => ?_)
  refine j_iload 8 dL_tolerances_70 rfl ?_
  refine j_if_eq (tgt := 79) dL_tolerances_72 (by decide) ?_ ?_
  · refine j_iconst (x := 0) dL_tolerances_79 rfl (by decide) ?_
    refine j_sub [1, 2, 3, 4, 5, 6, 0, 7] rfl ?_
    exact jb_lw_tol2_80 _ _ _ _ hq0 hq3 hq4 hq5 hFL hnc hns hk29 _
  · refine j_iconst (x := 1) dL_tolerances_75 rfl (by decide) ?_
    refine j_goto (tgt := 80) dL_tolerances_76 (by decide) ?_
    refine j_sub [1, 2, 3, 4, 5, 6, 0, 7] rfl ?_
    exact jb_lw_tol2_80 _ _ _ _ hq0 hq3 hq4 hq5 hFL hnc hns hk29 _

set_option maxRecDepth 100000 in
set_option maxHeartbeats 4000000 in
theorem jb_lw_tol2_45 {FL : List LK → Prop} {lay : List LK} {nc ns : Nat} {q0 : Nat} {x1 : Int} {x2 : Int} {q3 : Nat} {q4 : Nat} {q5 : Nat} {k29 : Int → Int → Hp → O Int} (x6 x7 s0 : Int) (hq0 : sub lay q0 blkLines) (hq3 : lay[q3]? = some (0, 12, 0, 0)) (hq4 : lay[q4]? = some (0, 12, 0, 0)) (hq5 : lay[q5]? = some (0, 12, 0, 0)) (hFL : FL lay) (hnc : nc ≤ 20) (hns : ns ≤ 240) (hk29 : ∀ (x6 x7 : Int) (h : Hp), J mi_lw_tolerances encI FL lay nc ns 29 [(0, vr q0), (1, vi x1), (2, vi x2), (3, vr q3), (4, vr q4), (5, vr q5), (6, vi x6), (7, vi x7)] [] h (k29 x6 x7 h))(h : Hp) : J mi_lw_tolerances encI FL lay nc ns 45 [(0, vr q0), (1, vi x1), (2, vi x2), (3, vr q3), (4, vr q4), (5, vr q5), (6, vi x6), (7, vi x7)] [vi s0] h (lw_tol2_b45 q0 x1 x2 q3 q4 q5 k29 x6 x7 s0 h) := by
  unfold lw_tol2_b45
  refine j_istore (lv' := [(8, vi s0), (0, vr q0), (1, vi x1), (2, vi x2), (3, vr q3), (4, vr q4), (5, vr q5), (6, vi x6), (7, vi x7)]) dL_tolerances_45 (Nat.le_of_ble_eq_true rfl) rfl ?_
  refine j_iload 7 dL_tolerances_47 rfl ?_
  refine j_iload 0 dL_tolerances_49 rfl ?_
  refine j_if_eq (tgt := 58) dL_tolerances_51 (by decide) ?_ ?_
  · refine j_iconst (x := 0) dL_tolerances_58 rfl (by decide) ?_
    refine j_sub [1, 2, 3, 4, 5, 6, 8, 0] rfl ?_
    exact jb_lw_tol2_59 _ _ _ _ hq0 hq3 hq4 hq5 hFL hnc hns hk29 _
  · refine j_iconst (x := 1) dL_tolerances_54 rfl (by decide) ?_
    refine j_goto (tgt := 59) dL_tolerances_55 (by decide) ?_
    refine j_sub [1, 2, 3, 4, 5, 6, 8, 0] rfl ?_
    exact jb_lw_tol2_59 _ _ _ _ hq0 hq3 hq4 hq5 hFL hnc hns hk29 _

set_option maxRecDepth 100000 in
set_option maxHeartbeats 4000000 in
theorem jl_lw_law_111 {lay : List LK} {X : Nat} {L : Nat} {xs : Nat → Int32} {k136 : Hp → O Int} (hsX : sub lay X blkLines) (hL : inR (L : Int)) (hk136 : ∀ (h : Hp), J (mi_lw L xs) encI (fun _ => True) lay 132 2015 136 [(0, vsc), (1, vr X)] [] h (k136 h)) : ∀ (n : Nat) (x3 : Int) (h : Hp), J (mi_lw L xs) encI (fun _ => True) lay 132 2015 111 [(0, vsc), (1, vr X), (3, vi x3)] [] h (iter1 (lw_law_f111 X L xs k136) n x3 h) := by
  refine j_iter1 (lf := fun x3 => [(0, vsc), (1, vr X), (3, vi x3)]) (fun k111 hk111 x3 h => ?_)
  unfold lw_law_f111
  refine j_iload_n 2 dL_law_111 rfl ?_
  refine j_aload_n 1 dL_law_112 rfl ?_
  refine j_iconst (x := 1) dL_law_113 rfl (by decide) ?_
  refine j_cV (stk := [vi x3]) [vi 1] X dL_law_114 mv_dl_count lm_L_42 (sub_k hsX 0 rfl rfl) zc_5 (ct_dl_count hsX h) rfl rfl ⟨⟨Nat.le_of_ble_eq_true rfl, Nat.le_of_ble_eq_true rfl⟩, Nat.le_of_ble_eq_true rfl, Nat.le_of_ble_eq_true rfl⟩ (Nat.le_of_ble_eq_true rfl) rfl rfl (fun r1 h1 _ => ?_)
  refine j_icmp_ge (tgt := 136) dL_law_117 (by decide) ?_ ?_
  · refine j_aload_n 1 dL_law_120 rfl ?_
    refine j_iload_n 2 dL_law_121 rfl ?_
    refine j_cS (stk := []) [vr X, vi x3] dL_law_122 mv_lw_fitted lm_L_97 (ct_lw_fitted hsX h1) rfl rfl ⟨⟨Nat.le_of_ble_eq_true rfl, Nat.le_of_ble_eq_true rfl⟩, Nat.le_of_ble_eq_true rfl, Nat.le_of_ble_eq_true rfl⟩ (Nat.le_of_ble_eq_true rfl) rfl rfl (fun r2 h2 _ => ?_)
    refine j_if_ne (tgt := 130) dL_law_125 (by decide) ?_ ?_
    · refine j_iconst (x := 0) dL_law_128 rfl (by decide) ?_
      exact j_retLaw rfl rfl rfl dL_law_129 ⟨Nat.le_of_ble_eq_true rfl, Nat.le_of_ble_eq_true rfl⟩
    · refine j_iinc 2 (lv' := [(3, vi (x3 + 1)), (0, vsc), (1, vr X)]) dL_law_130 rfl (Nat.le_of_ble_eq_true rfl) rfl ?_
      refine j_goto (tgt := 111) dL_law_133 (by decide) ?_
      refine j_sub [1, 2, 0] rfl ?_
      exact hk111 _ _
  · refine j_sub [0, 1] rfl ?_
    exact hk136 _

set_option maxRecDepth 100000 in
set_option maxHeartbeats 4000000 in
theorem jb_lw_law_109 {lay : List LK} {X : Nat} {L : Nat} {xs : Nat → Int32} {k136 : Hp → O Int} (hsX : sub lay X blkLines) (hL : inR (L : Int)) (hk136 : ∀ (h : Hp), J (mi_lw L xs) encI (fun _ => True) lay 132 2015 136 [(0, vsc), (1, vr X)] [] h (k136 h))(h : Hp) : J (mi_lw L xs) encI (fun _ => True) lay 132 2015 109 [(0, vsc), (1, vr X)] [] h (lw_law_b109 X L xs k136 h) := by
  unfold lw_law_b109
  refine j_iconst (x := 0) dL_law_109 rfl (by decide) ?_
  refine j_istore_n (lv' := [(3, vi 0), (0, vsc), (1, vr X)]) dL_law_110 (Nat.le_of_ble_eq_true rfl) rfl ?_
  refine j_sub [1, 2, 0] rfl ?_
  exact jl_lw_law_111 hsX hL hk136 fuel _ _

set_option maxRecDepth 100000 in
set_option maxHeartbeats 4000000 in
theorem jb_lw_law_107 {lay : List LK} {X : Nat} {L : Nat} {xs : Nat → Int32}  (hsX : sub lay X blkLines) (hL : inR (L : Int)) (h : Hp) : J (mi_lw L xs) encI (fun _ => True) lay 132 2015 107 [] [] h (lw_law_b107 X L xs h) := by
  unfold lw_law_b107
  refine j_iconst (x := 0) dL_law_107 rfl (by decide) ?_
  exact j_retLaw rfl rfl rfl dL_law_108 ⟨Nat.le_of_ble_eq_true rfl, Nat.le_of_ble_eq_true rfl⟩

set_option maxRecDepth 100000 in
set_option maxHeartbeats 4000000 in
theorem jb_lw_law_77 {lay : List LK} {X : Nat} {L : Nat} {xs : Nat → Int32} {k136 : Hp → O Int} (x2 : Int) (hsX : sub lay X blkLines) (hL : inR (L : Int)) (hk136 : ∀ (h : Hp), J (mi_lw L xs) encI (fun _ => True) lay 132 2015 136 [(0, vsc), (1, vr X)] [] h (k136 h))(h : Hp) : J (mi_lw L xs) encI (fun _ => True) lay 132 2015 77 [(0, vsc), (1, vr X), (2, vi x2)] [] h (lw_law_b77 X L xs k136 x2 h) := by
  unfold lw_law_b77
  refine j_iload_n 2 dL_law_77 rfl ?_
  refine j_bipush (x := 6) dL_law_78 (by decide) (by decide) ?_
  refine j_ishrC 6 64 (by decide) rfl rfl dL_law_80 ?_
  refine j_iconst (x := 3) dL_law_81 rfl (by decide) ?_
  refine j_cS (stk := []) [vi (x2 / 64), vi 3] dL_law_82 mv_lw_low lm_L_16 (ct_lw_low h) rfl rfl ⟨⟨Nat.le_of_ble_eq_true rfl, Nat.le_of_ble_eq_true rfl⟩, Nat.le_of_ble_eq_true rfl, Nat.le_of_ble_eq_true rfl⟩ (Nat.le_of_ble_eq_true rfl) rfl rfl (fun r1 h1 _ => ?_)
  refine j_if_ne (tgt := 109) dL_law_85 (by decide) ?_ ?_
  · refine j_aload_n 1 dL_law_88 rfl ?_
    refine j_iconst (x := 1) dL_law_89 rfl (by decide) ?_
    refine j_iload_n 2 dL_law_90 rfl ?_
    refine j_bipush (x := 8) dL_law_91 (by decide) (by decide) ?_
    refine j_ishrC 8 256 (by decide) rfl rfl dL_law_93 ?_
    refine j_bipush (x := 9) dL_law_94 (by decide) (by decide) ?_
    refine j_cS (stk := [vi 1, vr X]) [vi (x2 / 256), vi 9] dL_law_96 mv_lw_low lm_L_16 (ct_lw_low h1) rfl rfl ⟨⟨Nat.le_of_ble_eq_true rfl, Nat.le_of_ble_eq_true rfl⟩, Nat.le_of_ble_eq_true rfl, Nat.le_of_ble_eq_true rfl⟩ (Nat.le_of_ble_eq_true rfl) rfl rfl (fun r2 h2 _ => ?_)
    refine j_iadd dL_law_99 ?_
    refine j_cV (stk := []) [vi (1 + r2)] X dL_law_100 mv_dl_setLetter lm_L_94 (sub_k hsX 0 rfl rfl) zc_5 (ct_dl_setLetter hsX h2) rfl rfl ⟨⟨Nat.le_of_ble_eq_true rfl, Nat.le_of_ble_eq_true rfl⟩, Nat.le_of_ble_eq_true rfl, Nat.le_of_ble_eq_true rfl⟩ (Nat.le_of_ble_eq_true rfl) rfl rfl (fun r3 h3 _ => ?_)
    refine j_iconst (x := 4) dL_law_103 rfl (by decide) ?_
    refine j_icmp_eq (tgt := 109) dL_law_104 (by decide) ?_ ?_
    · refine j_sub [0, 1] rfl ?_
      exact jb_lw_law_109 hsX hL hk136 _
    · refine j_sub [] rfl ?_
      exact jb_lw_law_107 hsX hL _
  · refine j_sub [0, 1] rfl ?_
    exact jb_lw_law_109 hsX hL hk136 _

set_option maxRecDepth 100000 in
set_option maxHeartbeats 4000000 in
theorem jb_lw_law_8 {lay : List LK} {X : Nat} {L : Nat} {xs : Nat → Int32} {k136 : Hp → O Int} (hsX : sub lay X blkLines) (hL : inR (L : Int)) (hk136 : ∀ (h : Hp), J (mi_lw L xs) encI (fun _ => True) lay 132 2015 136 [(0, vsc), (1, vr X)] [] h (k136 h))(h : Hp) : J (mi_lw L xs) encI (fun _ => True) lay 132 2015 8 [(0, vsc), (1, vr X)] [] h (lw_law_b8 X L xs k136 h) := by
  unfold lw_law_b8
  refine j_aload_n 1 dL_law_8 rfl ?_
  refine j_sload_n 0 dL_law_9 rfl ?_
  refine j_iconst (x := 1) dL_law_10 rfl (by decide) ?_
  refine j_iconst (x := 2) dL_law_11 rfl (by decide) ?_
  refine j_sload_n 0 dL_law_12 rfl ?_
  refine j_iconst (x := 0) dL_law_13 rfl (by decide) ?_
  refine j_cSs rfl (stk := [vi 2, vi 1, vsc, vr X]) [vsc, vi 0] dL_law_14 mv_lw_cell lm_L_10 (ct_lw_cell hL h) rfl rfl ⟨⟨Nat.le_of_ble_eq_true rfl, Nat.le_of_ble_eq_true rfl⟩, Nat.le_of_ble_eq_true rfl, Nat.le_of_ble_eq_true rfl⟩ (Nat.le_of_ble_eq_true rfl) rfl rfl (fun r1 h1 _ => ?_)
  refine j_iconst (x := 5) dL_law_17 rfl (by decide) ?_
  refine j_cS (stk := [vi 2, vi 1, vsc, vr X]) [vi r1, vi 5] dL_law_18 mv_lw_low lm_L_16 (ct_lw_low h1) rfl rfl ⟨⟨Nat.le_of_ble_eq_true rfl, Nat.le_of_ble_eq_true rfl⟩, Nat.le_of_ble_eq_true rfl, Nat.le_of_ble_eq_true rfl⟩ (Nat.le_of_ble_eq_true rfl) rfl rfl (fun r2 h2 _ => ?_)
  refine j_iadd dL_law_21 ?_
  refine j_iconst (x := 1) dL_law_22 rfl (by decide) ?_
  refine j_sload_n 0 dL_law_23 rfl ?_
  refine j_iconst (x := 0) dL_law_24 rfl (by decide) ?_
  refine j_cSs rfl (stk := [vi 1, vi (2 + r2), vi 1, vsc, vr X]) [vsc, vi 0] dL_law_25 mv_lw_cell lm_L_10 (ct_lw_cell hL h2) rfl rfl ⟨⟨Nat.le_of_ble_eq_true rfl, Nat.le_of_ble_eq_true rfl⟩, Nat.le_of_ble_eq_true rfl, Nat.le_of_ble_eq_true rfl⟩ (Nat.le_of_ble_eq_true rfl) rfl rfl (fun r3 h3 _ => ?_)
  refine j_iconst (x := 4) dL_law_28 rfl (by decide) ?_
  refine j_ishrC 4 16 (by decide) rfl rfl dL_law_29 ?_
  refine j_bipush (x := 8) dL_law_30 (by decide) (by decide) ?_
  refine j_cS (stk := [vi 1, vi (2 + r2), vi 1, vsc, vr X]) [vi (r3 / 16), vi 8] dL_law_32 mv_lw_low lm_L_16 (ct_lw_low h3) rfl rfl ⟨⟨Nat.le_of_ble_eq_true rfl, Nat.le_of_ble_eq_true rfl⟩, Nat.le_of_ble_eq_true rfl, Nat.le_of_ble_eq_true rfl⟩ (Nat.le_of_ble_eq_true rfl) rfl rfl (fun r4 h4 _ => ?_)
  refine j_iadd dL_law_35 ?_
  refine j_cSs rfl (stk := []) [vr X, vsc, vi 1, vi (2 + r2), vi (1 + r4)] dL_law_36 mv_lw_drawing lm_L_87 (ct_lw_drawing hsX hL h4) rfl rfl ⟨⟨Nat.le_of_ble_eq_true rfl, Nat.le_of_ble_eq_true rfl⟩, Nat.le_of_ble_eq_true rfl, Nat.le_of_ble_eq_true rfl⟩ (Nat.le_of_ble_eq_true rfl) rfl rfl (fun r5 h5 _ => ?_)
  refine j_if_ne (tgt := 44) dL_law_39 (by decide) ?_ ?_
  · refine j_iconst (x := 0) dL_law_42 rfl (by decide) ?_
    exact j_retLaw rfl rfl rfl dL_law_43 ⟨Nat.le_of_ble_eq_true rfl, Nat.le_of_ble_eq_true rfl⟩
  · refine j_sload_n 0 dL_law_44 rfl ?_
    refine j_bipush (x := 30) dL_law_45 (by decide) (by decide) ?_
    refine j_cSs rfl (stk := []) [vsc, vi 30] dL_law_47 mv_lw_cell lm_L_10 (ct_lw_cell hL h5) rfl rfl ⟨⟨Nat.le_of_ble_eq_true rfl, Nat.le_of_ble_eq_true rfl⟩, Nat.le_of_ble_eq_true rfl, Nat.le_of_ble_eq_true rfl⟩ (Nat.le_of_ble_eq_true rfl) rfl rfl (fun r6 h6 _ => ?_)
    refine j_istore_n (lv' := [(2, vi r6), (0, vsc), (1, vr X)]) dL_law_50 (Nat.le_of_ble_eq_true rfl) rfl ?_
    refine j_iload_n 0 dL_law_51 rfl ?_
    refine j_iconst (x := 3) dL_law_52 rfl (by decide) ?_
    refine j_cS (stk := []) [vi r6, vi 3] dL_law_53 mv_lw_low lm_L_16 (ct_lw_low h6) rfl rfl ⟨⟨Nat.le_of_ble_eq_true rfl, Nat.le_of_ble_eq_true rfl⟩, Nat.le_of_ble_eq_true rfl, Nat.le_of_ble_eq_true rfl⟩ (Nat.le_of_ble_eq_true rfl) rfl rfl (fun r7 h7 _ => ?_)
    refine j_if_ne (tgt := 77) dL_law_56 (by decide) ?_ ?_
    · refine j_aload_n 2 dL_law_59 rfl ?_
      refine j_iconst (x := 1) dL_law_60 rfl (by decide) ?_
      refine j_iload_n 0 dL_law_61 rfl ?_
      refine j_iconst (x := 2) dL_law_62 rfl (by decide) ?_
      refine j_ishrC 2 4 (by decide) rfl rfl dL_law_63 ?_
      refine j_bipush (x := 9) dL_law_64 (by decide) (by decide) ?_
      refine j_cS (stk := [vi 1, vr X]) [vi (r6 / 4), vi 9] dL_law_66 mv_lw_low lm_L_16 (ct_lw_low h7) rfl rfl ⟨⟨Nat.le_of_ble_eq_true rfl, Nat.le_of_ble_eq_true rfl⟩, Nat.le_of_ble_eq_true rfl, Nat.le_of_ble_eq_true rfl⟩ (Nat.le_of_ble_eq_true rfl) rfl rfl (fun r8 h8 _ => ?_)
      refine j_iadd dL_law_69 ?_
      refine j_cV (stk := []) [vi (1 + r8)] X dL_law_70 mv_dl_setArrow lm_L_91 (sub_k hsX 0 rfl rfl) zc_5 (ct_dl_setArrow hsX h8) rfl rfl ⟨⟨Nat.le_of_ble_eq_true rfl, Nat.le_of_ble_eq_true rfl⟩, Nat.le_of_ble_eq_true rfl, Nat.le_of_ble_eq_true rfl⟩ (Nat.le_of_ble_eq_true rfl) rfl rfl (fun r9 h9 _ => ?_)
      refine j_iconst (x := 3) dL_law_73 rfl (by decide) ?_
      refine j_icmp_ne (tgt := 107) dL_law_74 (by decide) ?_ ?_
      · refine j_sub [1, 2, 0] rfl ?_
        exact jb_lw_law_77 _ hsX hL hk136 _
      · refine j_sub [] rfl ?_
        exact jb_lw_law_107 hsX hL _
    · refine j_sub [1, 2, 0] rfl ?_
      exact jb_lw_law_77 _ hsX hL hk136 _

set_option maxRecDepth 100000 in
set_option maxHeartbeats 4000000 in
theorem jb_lw_law_289 {lay : List LK} {X : Nat} {L : Nat} {xs : Nat → Int32}  (s0 : Int) (hsX : sub lay X blkLines) (h : Hp) : J (mi_lw L xs) encI (fun _ => True) lay 154 2287 289 [] [vi s0] h (lw_law_b289 X L xs s0 h) := by
  unfold lw_law_b289
  exact j_retLaw rfl rfl rfl dL_law_289 ⟨Nat.le_of_ble_eq_true rfl, Nat.le_of_ble_eq_true rfl⟩

set_option maxRecDepth 100000 in
set_option maxHeartbeats 4000000 in
theorem jb_lw_law_288 {lay : List LK} {X : Nat} {L : Nat} {xs : Nat → Int32}  (hsX : sub lay X blkLines) (h : Hp) : J (mi_lw L xs) encI (fun _ => True) lay 154 2287 288 [] [] h (lw_law_b288 X L xs h) := by
  unfold lw_law_b288
  refine j_iconst (x := 0) dL_law_288 rfl (by decide) ?_
  exact jb_lw_law_289 _ hsX _

set_option maxRecDepth 100000 in
set_option maxHeartbeats 4000000 in
theorem jb_lw_law_252 {lay : List LK} {X : Nat} {L : Nat} {xs : Nat → Int32} {k179 : Int → Hp → O Int} (x3 x4 : Int) (hsX : sub lay X blkLines) (hk179 : ∀ (x4 : Int) (h : Hp), J (mi_lw L xs) encI (fun _ => True) lay 154 2287 179 [(1, vr X), (3, vi x3), (4, vi x4)] [] h (k179 x4 h))(h : Hp) : J (mi_lw L xs) encI (fun _ => True) lay 154 2287 252 [(1, vr X), (3, vi x3), (4, vi x4)] [] h (lw_law_b252 X L xs k179 x3 x4 h) := by
  unfold lw_law_b252
  refine j_iinc 2 (lv' := [(4, vi (x4 + (-1))), (1, vr X), (3, vi x3)]) dL_law_252 rfl (Nat.le_of_ble_eq_true rfl) rfl ?_
  refine j_goto (tgt := 179) dL_law_255 (by decide) ?_
  refine j_sub [1, 2, 0] rfl ?_
  exact hk179 _ _

set_option maxRecDepth 100000 in
set_option maxHeartbeats 4000000 in
theorem jb_lw_law_250 {lay : List LK} {X : Nat} {L : Nat} {xs : Nat → Int32}  (hsX : sub lay X blkLines) (h : Hp) : J (mi_lw L xs) encI (fun _ => True) lay 154 2287 250 [] [] h (lw_law_b250 X L xs h) := by
  unfold lw_law_b250
  refine j_iconst (x := 0) dL_law_250 rfl (by decide) ?_
  exact j_retLaw rfl rfl rfl dL_law_251 ⟨Nat.le_of_ble_eq_true rfl, Nat.le_of_ble_eq_true rfl⟩

set_option maxRecDepth 100000 in
set_option maxHeartbeats 4000000 in
theorem jb_lw_law_201 {lay : List LK} {X : Nat} {L : Nat} {xs : Nat → Int32} {k179 : Int → Hp → O Int} (x3 x4 s0 : Int) (hsX : sub lay X blkLines) (hk179 : ∀ (x4 : Int) (h : Hp), J (mi_lw L xs) encI (fun _ => True) lay 154 2287 179 [(1, vr X), (3, vi x3), (4, vi x4)] [] h (k179 x4 h))(h : Hp) : J (mi_lw L xs) encI (fun _ => True) lay 154 2287 201 [(1, vr X), (3, vi x3), (4, vi x4)] [vi s0] h (lw_law_b201 X L xs k179 x3 x4 s0 h) := by
  unfold lw_law_b201
  refine j_istore (lv' := [(5, vi s0), (1, vr X), (3, vi x3), (4, vi x4)]) dL_law_201 (Nat.le_of_ble_eq_true rfl) rfl ?_
  refine j_aload_n 1 dL_law_203 rfl ?_
  refine j_iconst (x := 0) dL_law_204 rfl (by decide) ?_
  refine j_aload_n 1 dL_law_205 rfl ?_
  refine j_iconst (x := 0) dL_law_206 rfl (by decide) ?_
  refine j_cV (stk := [vi 0, vr X]) [vi 0] X dL_law_207 mv_dl_count lm_L_42 (sub_k hsX 0 rfl rfl) zc_5 (ct_dl_count hsX h) rfl rfl ⟨⟨Nat.le_of_ble_eq_true rfl, Nat.le_of_ble_eq_true rfl⟩, Nat.le_of_ble_eq_true rfl, Nat.le_of_ble_eq_true rfl⟩ (Nat.le_of_ble_eq_true rfl) rfl rfl (fun r1 h1 _ => ?_)
  refine j_iconst (x := 1) dL_law_210 rfl (by decide) ?_
  refine j_isub dL_law_211 ?_
  refine j_iconst (x := 1) dL_law_212 rfl (by decide) ?_
  refine j_cV (stk := []) [vi 0, vi (r1 - 1), vi 1] X dL_law_213 mv_dl_distance lm_L_72 (sub_k hsX 0 rfl rfl) zc_5 (ct_dl_distance hsX h1) rfl rfl ⟨⟨Nat.le_of_ble_eq_true rfl, Nat.le_of_ble_eq_true rfl⟩, Nat.le_of_ble_eq_true rfl, Nat.le_of_ble_eq_true rfl⟩ (Nat.le_of_ble_eq_true rfl) rfl rfl (fun r2 h2 _ => ?_)
  refine j_istore (lv' := [(6, vi r2), (5, vi s0), (1, vr X), (3, vi x3), (4, vi x4)]) dL_law_216 (Nat.le_of_ble_eq_true rfl) rfl ?_
  refine j_iload 1 dL_law_218 rfl ?_
  refine j_if_eq (tgt := 252) dL_law_220 (by decide) ?_ ?_
  · refine j_sub [2, 3, 4] rfl ?_
    exact jb_lw_law_252 _ _ hsX hk179 _
  · refine j_aload_n 2 dL_law_223 rfl ?_
    refine j_iload 4 dL_law_224 rfl ?_
    refine j_cV (stk := []) [vi x4] X dL_law_226 mv_dl_drop lm_L_110 (sub_k hsX 0 rfl rfl) zc_5 (ct_dl_drop hsX h2) rfl rfl ⟨⟨Nat.le_of_ble_eq_true rfl, Nat.le_of_ble_eq_true rfl⟩, Nat.le_of_ble_eq_true rfl, Nat.le_of_ble_eq_true rfl⟩ (Nat.le_of_ble_eq_true rfl) rfl rfl (fun r3 h3 _ => ?_)
    refine j_if_lt (tgt := 250) dL_law_229 (by decide) ?_ ?_
    · refine j_sub [] rfl ?_
      exact jb_lw_law_250 hsX _
    · refine j_aload_n 2 dL_law_232 rfl ?_
      refine j_iconst (x := 0) dL_law_233 rfl (by decide) ?_
      refine j_aload_n 2 dL_law_234 rfl ?_
      refine j_iconst (x := 0) dL_law_235 rfl (by decide) ?_
      refine j_cV (stk := [vi 0, vr X]) [vi 0] X dL_law_236 mv_dl_count lm_L_42 (sub_k hsX 0 rfl rfl) zc_5 (ct_dl_count hsX h3) rfl rfl ⟨⟨Nat.le_of_ble_eq_true rfl, Nat.le_of_ble_eq_true rfl⟩, Nat.le_of_ble_eq_true rfl, Nat.le_of_ble_eq_true rfl⟩ (Nat.le_of_ble_eq_true rfl) rfl rfl (fun r4 h4 _ => ?_)
      refine j_iconst (x := 1) dL_law_239 rfl (by decide) ?_
      refine j_isub dL_law_240 ?_
      refine j_iconst (x := 1) dL_law_241 rfl (by decide) ?_
      refine j_cV (stk := []) [vi 0, vi (r4 - 1), vi 1] X dL_law_242 mv_dl_distance lm_L_72 (sub_k hsX 0 rfl rfl) zc_5 (ct_dl_distance hsX h4) rfl rfl ⟨⟨Nat.le_of_ble_eq_true rfl, Nat.le_of_ble_eq_true rfl⟩, Nat.le_of_ble_eq_true rfl, Nat.le_of_ble_eq_true rfl⟩ (Nat.le_of_ble_eq_true rfl) rfl rfl (fun r5 h5 _ => ?_)
      refine j_iload 0 dL_law_245 rfl ?_
      refine j_icmp_eq (tgt := 252) dL_law_247 (by decide) ?_ ?_
      · refine j_sub [2, 3, 4] rfl ?_
        exact jb_lw_law_252 _ _ hsX hk179 _
      · refine j_sub [] rfl ?_
        exact jb_lw_law_250 hsX _

set_option maxRecDepth 100000 in
set_option maxHeartbeats 4000000 in
theorem jl_lw_law_179 {lay : List LK} {X : Nat} {L : Nat} {xs : Nat → Int32}  (x3 : Int) (hsX : sub lay X blkLines)  : ∀ (n : Nat) (x4 : Int) (h : Hp), J (mi_lw L xs) encI (fun _ => True) lay 154 2287 179 [(1, vr X), (3, vi x3), (4, vi x4)] [] h (iter1 (lw_law_f179 X L xs x3) n x4 h) := by
  refine j_iter1 (lf := fun x4 => [(1, vr X), (3, vi x3), (4, vi x4)]) (fun k179 hk179 x4 h => ?_)
  unfold lw_law_f179
  refine j_iload 2 dL_law_179 rfl ?_
  refine j_if_lt (tgt := 258) dL_law_181 (by decide) ?_ ?_
  · refine j_aload_n 0 dL_law_258 rfl ?_
    refine j_iconst (x := 1) dL_law_259 rfl (by decide) ?_
    refine j_cV (stk := []) [vi 1] X dL_law_260 mv_dl_count lm_L_42 (sub_k hsX 0 rfl rfl) zc_5 (ct_dl_count hsX h) rfl rfl ⟨⟨Nat.le_of_ble_eq_true rfl, Nat.le_of_ble_eq_true rfl⟩, Nat.le_of_ble_eq_true rfl, Nat.le_of_ble_eq_true rfl⟩ (Nat.le_of_ble_eq_true rfl) rfl rfl (fun r1 h1 _ => ?_)
    refine j_iload_n 1 dL_law_263 rfl ?_
    refine j_icmp_ne (tgt := 288) dL_law_264 (by decide) ?_ ?_
    · refine j_aload_n 0 dL_law_267 rfl ?_
      refine j_bipush (x := 6) dL_law_268 (by decide) (by decide) ?_
      refine j_cV (stk := []) [vi 6] X dL_law_270 mv_dl_count lm_L_42 (sub_k hsX 0 rfl rfl) zc_5 (ct_dl_count hsX h1) rfl rfl ⟨⟨Nat.le_of_ble_eq_true rfl, Nat.le_of_ble_eq_true rfl⟩, Nat.le_of_ble_eq_true rfl, Nat.le_of_ble_eq_true rfl⟩ (Nat.le_of_ble_eq_true rfl) rfl rfl (fun r2 h2 _ => ?_)
      refine j_if_ne (tgt := 288) dL_law_273 (by decide) ?_ ?_
      · refine j_aload_n 0 dL_law_276 rfl ?_
        refine j_cV (stk := []) [] X dL_law_277 mv_dl_needed lm_L_76 (sub_k hsX 0 rfl rfl) zc_5 (ct_dl_needed hsX h2) rfl rfl ⟨⟨Nat.le_of_ble_eq_true rfl, Nat.le_of_ble_eq_true rfl⟩, Nat.le_of_ble_eq_true rfl, Nat.le_of_ble_eq_true rfl⟩ (Nat.le_of_ble_eq_true rfl) rfl rfl (fun r3 h3 _ => ?_)
        refine j_iload_n 1 dL_law_280 rfl ?_
        refine j_icmp_ne (tgt := 288) dL_law_281 (by decide) ?_ ?_
        · refine j_iconst (x := 1) dL_law_284 rfl (by decide) ?_
          refine j_goto (tgt := 289) dL_law_285 (by decide) ?_
          refine j_sub [] rfl ?_
          exact jb_lw_law_289 _ hsX _
        · refine j_sub [] rfl ?_
          exact jb_lw_law_288 hsX _
      · refine j_sub [] rfl ?_
        exact jb_lw_law_288 hsX _
    · refine j_sub [] rfl ?_
      exact jb_lw_law_288 hsX _
  · refine j_aload_n 0 dL_law_184 rfl ?_
    refine j_iload 2 dL_law_185 rfl ?_
    refine j_bipush (x := 11) dL_law_187 (by decide) (by decide) ?_
    refine j_cV (stk := []) [vi x4, vi 11] X dL_law_189 mv_dl_dimension lm_L_45 (sub_k hsX 0 rfl rfl) zc_5 (ct_dl_dimension hsX h) rfl rfl ⟨⟨Nat.le_of_ble_eq_true rfl, Nat.le_of_ble_eq_true rfl⟩, Nat.le_of_ble_eq_true rfl, Nat.le_of_ble_eq_true rfl⟩ (Nat.le_of_ble_eq_true rfl) rfl rfl (fun r4 h4 _ => ?_)
    refine j_iconst (x := 1) dL_law_192 rfl (by decide) ?_
    refine j_icmp_ne (tgt := 200) dL_law_193 (by decide) ?_ ?_
    · refine j_iconst (x := 1) dL_law_196 rfl (by decide) ?_
      refine j_goto (tgt := 201) dL_law_197 (by decide) ?_
      exact jb_lw_law_201 _ _ _ hsX hk179 _
    · refine j_iconst (x := 0) dL_law_200 rfl (by decide) ?_
      exact jb_lw_law_201 _ _ _ hsX hk179 _

set_option maxRecDepth 100000 in
set_option maxHeartbeats 4000000 in
theorem jb_lw_law_165 {lay : List LK} {X : Nat} {L : Nat} {xs : Nat → Int32}  (hsX : sub lay X blkLines) (h : Hp) : J (mi_lw L xs) encI (fun _ => True) lay 154 2287 165 [(1, vr X)] [] h (lw_law_b165 X L xs h) := by
  unfold lw_law_b165
  refine j_aload_n 0 dL_law_165 rfl ?_
  refine j_cV (stk := []) [] X dL_law_166 mv_dl_needed lm_L_76 (sub_k hsX 0 rfl rfl) zc_5 (ct_dl_needed hsX h) rfl rfl ⟨⟨Nat.le_of_ble_eq_true rfl, Nat.le_of_ble_eq_true rfl⟩, Nat.le_of_ble_eq_true rfl, Nat.le_of_ble_eq_true rfl⟩ (Nat.le_of_ble_eq_true rfl) rfl rfl (fun r1 h1 _ => ?_)
  refine j_istore_n (lv' := [(3, vi r1), (1, vr X)]) dL_law_169 (Nat.le_of_ble_eq_true rfl) rfl ?_
  refine j_aload_n 1 dL_law_170 rfl ?_
  refine j_iconst (x := 1) dL_law_171 rfl (by decide) ?_
  refine j_cV (stk := []) [vi 1] X dL_law_172 mv_dl_count lm_L_42 (sub_k hsX 0 rfl rfl) zc_5 (ct_dl_count hsX h1) rfl rfl ⟨⟨Nat.le_of_ble_eq_true rfl, Nat.le_of_ble_eq_true rfl⟩, Nat.le_of_ble_eq_true rfl, Nat.le_of_ble_eq_true rfl⟩ (Nat.le_of_ble_eq_true rfl) rfl rfl (fun r2 h2 _ => ?_)
  refine j_iconst (x := 1) dL_law_175 rfl (by decide) ?_
  refine j_isub dL_law_176 ?_
  refine j_istore (lv' := [(4, vi (r2 - 1)), (3, vi r1), (1, vr X)]) dL_law_177 (Nat.le_of_ble_eq_true rfl) rfl ?_
  refine j_sub [2, 1, 0] rfl ?_
  exact jl_lw_law_179 _ hsX fuel _ _


set_option maxRecDepth 100000 in
set_option maxHeartbeats 4000000 in
theorem jb_lw_cell_19 {lay : List LK} {L : Nat} {xs : Nat → Int32} {p1 : Int}  (s0 : Int) (hL : inR (L : Int)) (h : Hp) : J (mi_lw_cell L xs) encI (Same lay) lay 0 0 19 [] [vi s0] h (lw_cell_b19 L xs p1 s0 h) := by
  unfold lw_cell_b19
  exact j_retI (h0 := h) (r := 0) rfl rfl rfl dL_cell_19 rfl ⟨Nat.le_refl _, Nat.le_refl _⟩ rfl

set_option maxRecDepth 100000 in
set_option maxHeartbeats 4000000 in
theorem ct_lw_cell {lay : List LK} {L : Nat} {xs : Nat → Int32} {p1 : Int} (hL : inR (L : Int)) (h : Hp) : CTs L xs (mi_lw_cell L xs) encI (Same lay) lay [vsc, vi p1] h (lw_cell L xs p1 h) := by
  refine CTs.of (by decide : plainName yL_cell.cls = true) rfl (Nat.le_of_ble_eq_true rfl) ?_
  show J (mi_lw_cell L xs) encI (Same lay) lay 0 0 0 [(0, vsc), (1, vi p1)] [] h _
  unfold lw_cell
  refine j_iload_n 1 dL_cell_0 rfl ?_
  refine j_sload_n 0 dL_cell_1 rfl ?_
  refine j_slen dL_cell_2 rfl hL ?_
  refine j_icmp_ge (tgt := 12) dL_cell_3 (by decide) ?_ ?_
  · refine j_sload_n 0 dL_cell_6 rfl ?_
    refine j_iload_n 1 dL_cell_7 rfl ?_
    refine j_sld dL_cell_8 rfl ?_
    refine j_goto (tgt := 19) dL_cell_9 (by decide) ?_
    refine j_sub [] rfl ?_
    exact jb_lw_cell_19 _ hL _
  · refine j_ldc (x := 86028157) dL_cell_12 kc_L_7 (by decide) ?_
    refine j_iload_n 1 dL_cell_14 rfl ?_
    refine j_imulW dL_cell_15 ?_
    refine j_ldc (x := 32452843) dL_cell_16 kc_L_8 (by decide) ?_
    refine j_iaddW dL_cell_18 ?_
    refine j_sub [] rfl ?_
    exact jb_lw_cell_19 _ hL _

set_option maxRecDepth 100000 in
set_option maxHeartbeats 4000000 in
theorem ct_lw_low {lay : List LK} {p0 : Int} {p1 : Int}  (h : Hp) : CT mi_lw_low encI (Same lay) lay [vi p0, vi p1] h (lw_low p0 p1 h) := by
  refine CT.of (by decide) rfl (Nat.le_of_ble_eq_true rfl) ?_
  show J mi_lw_low encI (Same lay) lay 0 0 0 [(0, vi p0), (1, vi p1)] [] h _
  unfold lw_low
  refine j_iload_n 0 dL_low_0 rfl ?_
  refine j_ldc (x := 2147483647) dL_low_1 kc_L_9 (by decide) ?_
  refine j_iand31 dL_low_3 ?_
  refine j_iload_n 1 dL_low_4 rfl ?_
  refine j_irem dL_low_5 ?_
  exact j_retI (h0 := h) (r := 0) rfl rfl rfl dL_low_6 rfl ⟨Nat.le_refl _, Nat.le_refl _⟩ rfl

set_option maxRecDepth 100000 in
set_option maxHeartbeats 4000000 in
theorem jb_lw_drawing_432 {lay : List LK} {q0 : Nat} {L : Nat} {xs : Nat → Int32} {p2 : Int} {p3 : Int} {p4 : Int}  (s0 : Int) (hq0 : sub lay q0 blkLines) (hL : inR (L : Int)) (h : Hp) : J (mi_lw_drawing L xs) encI (Same lay) lay 0 0 432 [] [vi s0] h (lw_drawing_b432 q0 L xs p2 p3 p4 s0 h) := by
  unfold lw_drawing_b432
  exact j_retZ rfl rfl rfl dL_drawing_432 rfl ⟨Nat.le_refl _, Nat.le_refl _⟩ rfl

set_option maxRecDepth 100000 in
set_option maxHeartbeats 4000000 in
theorem jb_lw_drawing_431 {lay : List LK} {q0 : Nat} {L : Nat} {xs : Nat → Int32} {p2 : Int} {p3 : Int} {p4 : Int}  (hq0 : sub lay q0 blkLines) (hL : inR (L : Int)) (h : Hp) : J (mi_lw_drawing L xs) encI (Same lay) lay 0 0 431 [] [] h (lw_drawing_b431 q0 L xs p2 p3 p4 h) := by
  unfold lw_drawing_b431
  refine j_iconst (x := 0) dL_drawing_431 rfl (by decide) ?_
  exact jb_lw_drawing_432 _ hq0 hL _

set_option maxRecDepth 100000 in
set_option maxHeartbeats 4000000 in
theorem jb_lw_drawing_401 {lay : List LK} {q0 : Nat} {L : Nat} {xs : Nat → Int32} {p2 : Int} {p3 : Int} {p4 : Int} {k181 : Int → Int → Hp → O Int} (x6 x7 x8 : Int) (hq0 : sub lay q0 blkLines) (hL : inR (L : Int)) (hk181 : ∀ (x7 x8 : Int) (h : Hp), J (mi_lw_drawing L xs) encI (Same lay) lay 0 0 181 [(0, vr q0), (1, vsc), (2, vi p2), (4, vi p4), (6, vi x6), (7, vi x7), (8, vi x8)] [] h (k181 x7 x8 h))(h : Hp) : J (mi_lw_drawing L xs) encI (Same lay) lay 0 0 401 [(0, vr q0), (1, vsc), (2, vi p2), (4, vi p4), (6, vi x6), (7, vi x7), (8, vi x8)] [] h (lw_drawing_b401 q0 L xs p2 p3 p4 k181 x6 x7 x8 h) := by
  unfold lw_drawing_b401
  refine j_iinc 6 (lv' := [(8, vi (x8 + 1)), (0, vr q0), (1, vsc), (2, vi p2), (4, vi p4), (6, vi x6), (7, vi x7)]) dL_drawing_401 rfl (Nat.le_of_ble_eq_true rfl) rfl ?_
  refine j_goto (tgt := 181) dL_drawing_404 (by decide) ?_
  refine j_sub [1, 2, 3, 4, 5, 6, 0] rfl ?_
  exact hk181 _ _ _

set_option maxRecDepth 100000 in
set_option maxHeartbeats 4000000 in
theorem jb_lw_drawing_396 {lay : List LK} {q0 : Nat} {L : Nat} {xs : Nat → Int32} {p2 : Int} {p3 : Int} {p4 : Int}  (hq0 : sub lay q0 blkLines) (hL : inR (L : Int)) (h : Hp) : J (mi_lw_drawing L xs) encI (Same lay) lay 0 0 396 [] [] h (lw_drawing_b396 q0 L xs p2 p3 p4 h) := by
  unfold lw_drawing_b396
  refine j_iconst (x := 0) dL_drawing_396 rfl (by decide) ?_
  exact j_retZ bz0.symm rfl rfl dL_drawing_397 rfl ⟨Nat.le_refl _, Nat.le_refl _⟩ rfl

set_option maxRecDepth 100000 in
set_option maxHeartbeats 4000000 in
theorem jb_lw_drawing_390 {lay : List LK} {q0 : Nat} {L : Nat} {xs : Nat → Int32} {p2 : Int} {p3 : Int} {p4 : Int} {k181 : Int → Int → Hp → O Int} (x6 x7 x8 s0 s1 : Int) (hq0 : sub lay q0 blkLines) (hL : inR (L : Int)) (hk181 : ∀ (x7 x8 : Int) (h : Hp), J (mi_lw_drawing L xs) encI (Same lay) lay 0 0 181 [(0, vr q0), (1, vsc), (2, vi p2), (4, vi p4), (6, vi x6), (7, vi x7), (8, vi x8)] [] h (k181 x7 x8 h))(h : Hp) : J (mi_lw_drawing L xs) encI (Same lay) lay 0 0 390 [(0, vr q0), (1, vsc), (2, vi p2), (4, vi p4), (6, vi x6), (7, vi x7), (8, vi x8)] [vi s0, vi s1, vr q0] h (lw_drawing_b390 q0 L xs p2 p3 p4 k181 x6 x7 x8 s0 s1 h) := by
  unfold lw_drawing_b390
  refine j_cV (stk := []) [vi s1, vi s0] q0 dL_drawing_390 mv_dl_setLeast lm_L_39 (sub_k hq0 0 rfl rfl) zc_5 (ct_dl_setLeast hq0 h) rfl rfl ⟨⟨Nat.le_of_ble_eq_true rfl, Nat.le_of_ble_eq_true rfl⟩, Nat.le_of_ble_eq_true rfl, Nat.le_of_ble_eq_true rfl⟩ (Nat.le_of_ble_eq_true rfl) rfl rfl (fun r1 h1 _ => ?_)
  refine j_if_eq (tgt := 398) dL_drawing_393 (by decide) ?_ ?_
  · refine j_iinc 5 (lv' := [(7, vi (x7 + 1)), (0, vr q0), (1, vsc), (2, vi p2), (4, vi p4), (6, vi x6), (8, vi x8)]) dL_drawing_398 rfl (Nat.le_of_ble_eq_true rfl) rfl ?_
    refine j_sub [1, 2, 3, 4, 5, 0, 6] rfl ?_
    exact jb_lw_drawing_401 _ _ _ hq0 hL hk181 _
  · refine j_sub [] rfl ?_
    exact jb_lw_drawing_396 hq0 hL _

set_option maxRecDepth 100000 in
set_option maxHeartbeats 4000000 in
theorem jb_lw_drawing_310 {lay : List LK} {q0 : Nat} {L : Nat} {xs : Nat → Int32} {p2 : Int} {p3 : Int} {p4 : Int} {k181 : Int → Int → Hp → O Int} (x6 x7 x8 x9 s0 : Int) (hq0 : sub lay q0 blkLines) (hL : inR (L : Int)) (hk181 : ∀ (x7 x8 : Int) (h : Hp), J (mi_lw_drawing L xs) encI (Same lay) lay 0 0 181 [(0, vr q0), (1, vsc), (2, vi p2), (4, vi p4), (6, vi x6), (7, vi x7), (8, vi x8)] [] h (k181 x7 x8 h))(h : Hp) : J (mi_lw_drawing L xs) encI (Same lay) lay 0 0 310 [(0, vr q0), (1, vsc), (2, vi p2), (4, vi p4), (6, vi x6), (7, vi x7), (8, vi x8), (9, vi x9)] [vi s0] h (lw_drawing_b310 q0 L xs p2 p3 p4 k181 x6 x7 x8 x9 s0 h) := by
  unfold lw_drawing_b310
  refine j_istore (lv' := [(12, vi s0), (0, vr q0), (1, vsc), (2, vi p2), (4, vi p4), (6, vi x6), (7, vi x7), (8, vi x8), (9, vi x9)]) dL_drawing_310 (Nat.le_of_ble_eq_true rfl) rfl ?_
  refine j_aload_n 1 dL_drawing_312 rfl ?_
  refine j_iload 6 dL_drawing_313 rfl ?_
  refine j_iload 0 dL_drawing_315 rfl ?_
  refine j_iload 8 dL_drawing_317 rfl ?_
  refine j_bipush (x := 15) dL_drawing_319 (by decide) (by decide) ?_
  refine j_ishrC 15 32768 (by decide) rfl rfl dL_drawing_321 ?_
  refine j_bipush (x := 6) dL_drawing_322 (by decide) (by decide) ?_
  refine j_cS (stk := [vi s0, vi x7, vr q0]) [vi (x9 / 32768), vi 6] dL_drawing_324 mv_lw_low lm_L_16 (ct_lw_low h) rfl rfl ⟨⟨Nat.le_of_ble_eq_true rfl, Nat.le_of_ble_eq_true rfl⟩, Nat.le_of_ble_eq_true rfl, Nat.le_of_ble_eq_true rfl⟩ (Nat.le_of_ble_eq_true rfl) rfl rfl (fun r1 h1 _ => ?_)
  refine j_cV (stk := []) [vi x7, vi s0, vi r1] q0 dL_drawing_327 mv_dl_setTolerance lm_L_32 (sub_k hq0 0 rfl rfl) zc_5 (ct_dl_setTolerance hq0 h1) rfl rfl ⟨⟨Nat.le_of_ble_eq_true rfl, Nat.le_of_ble_eq_true rfl⟩, Nat.le_of_ble_eq_true rfl, Nat.le_of_ble_eq_true rfl⟩ (Nat.le_of_ble_eq_true rfl) rfl rfl (fun r2 h2 _ => ?_)
  refine j_if_ne (tgt := 396) dL_drawing_330 (by decide) ?_ ?_
  · refine j_aload_n 1 dL_drawing_333 rfl ?_
    refine j_iload 6 dL_drawing_334 rfl ?_
    refine j_iload 8 dL_drawing_336 rfl ?_
    refine j_bipush (x := 18) dL_drawing_338 (by decide) (by decide) ?_
    refine j_ishrC 18 262144 (by decide) rfl rfl dL_drawing_340 ?_
    refine j_iconst (x := 2) dL_drawing_341 rfl (by decide) ?_
    refine j_cS (stk := [vi x7, vr q0]) [vi (x9 / 262144), vi 2] dL_drawing_342 mv_lw_low lm_L_16 (ct_lw_low h2) rfl rfl ⟨⟨Nat.le_of_ble_eq_true rfl, Nat.le_of_ble_eq_true rfl⟩, Nat.le_of_ble_eq_true rfl, Nat.le_of_ble_eq_true rfl⟩ (Nat.le_of_ble_eq_true rfl) rfl rfl (fun r3 h3 _ => ?_)
    refine j_iload 8 dL_drawing_345 rfl ?_
    refine j_bipush (x := 19) dL_drawing_347 (by decide) (by decide) ?_
    refine j_ishrC 19 524288 (by decide) rfl rfl dL_drawing_349 ?_
    refine j_iconst (x := 3) dL_drawing_350 rfl (by decide) ?_
    refine j_cS (stk := [vi r3, vi x7, vr q0]) [vi (x9 / 524288), vi 3] dL_drawing_351 mv_lw_low lm_L_16 (ct_lw_low h3) rfl rfl ⟨⟨Nat.le_of_ble_eq_true rfl, Nat.le_of_ble_eq_true rfl⟩, Nat.le_of_ble_eq_true rfl, Nat.le_of_ble_eq_true rfl⟩ (Nat.le_of_ble_eq_true rfl) rfl rfl (fun r4 h4 _ => ?_)
    refine j_imul dL_drawing_354 ?_
    refine j_cV (stk := []) [vi x7, vi (r3 * r4)] q0 dL_drawing_355 mv_dl_setChain lm_L_36 (sub_k hq0 0 rfl rfl) zc_5 (ct_dl_setChain hq0 h4) rfl rfl ⟨⟨Nat.le_of_ble_eq_true rfl, Nat.le_of_ble_eq_true rfl⟩, Nat.le_of_ble_eq_true rfl, Nat.le_of_ble_eq_true rfl⟩ (Nat.le_of_ble_eq_true rfl) rfl rfl (fun r5 h5 _ => ?_)
    refine j_if_ne (tgt := 396) dL_drawing_358 (by decide) ?_ ?_
    · refine j_aload_n 1 dL_drawing_361 rfl ?_
      refine j_iload 6 dL_drawing_362 rfl ?_
      refine j_iload 8 dL_drawing_364 rfl ?_
      refine j_bipush (x := 22) dL_drawing_366 (by decide) (by decide) ?_
      refine j_ishrC 22 4194304 (by decide) rfl rfl dL_drawing_368 ?_
      refine j_bipush (x := 6) dL_drawing_369 (by decide) (by decide) ?_
      refine j_cS (stk := [vi x7, vr q0]) [vi (x9 / 4194304), vi 6] dL_drawing_371 mv_lw_low lm_L_16 (ct_lw_low h5) rfl rfl ⟨⟨Nat.le_of_ble_eq_true rfl, Nat.le_of_ble_eq_true rfl⟩, Nat.le_of_ble_eq_true rfl, Nat.le_of_ble_eq_true rfl⟩ (Nat.le_of_ble_eq_true rfl) rfl rfl (fun r6 h6 _ => ?_)
      refine j_if_ne (tgt := 389) dL_drawing_374 (by decide) ?_ ?_
      · refine j_iload 8 dL_drawing_377 rfl ?_
        refine j_bipush (x := 24) dL_drawing_379 (by decide) (by decide) ?_
        refine j_ishrC 24 16777216 (by decide) rfl rfl dL_drawing_381 ?_
        refine j_iconst (x := 4) dL_drawing_382 rfl (by decide) ?_
        refine j_cS (stk := [vi x7, vr q0]) [vi (x9 / 16777216), vi 4] dL_drawing_383 mv_lw_low lm_L_16 (ct_lw_low h6) rfl rfl ⟨⟨Nat.le_of_ble_eq_true rfl, Nat.le_of_ble_eq_true rfl⟩, Nat.le_of_ble_eq_true rfl, Nat.le_of_ble_eq_true rfl⟩ (Nat.le_of_ble_eq_true rfl) rfl rfl (fun r7 h7 _ => ?_)
        refine j_goto (tgt := 390) dL_drawing_386 (by decide) ?_
        refine j_sub [1, 2, 3, 4, 5, 6, 7] rfl ?_
        exact jb_lw_drawing_390 _ _ _ _ _ hq0 hL hk181 _
      · refine j_iconst (x := 0) dL_drawing_389 rfl (by decide) ?_
        refine j_sub [1, 2, 3, 4, 5, 6, 7] rfl ?_
        exact jb_lw_drawing_390 _ _ _ _ _ hq0 hL hk181 _
    · refine j_sub [] rfl ?_
      exact jb_lw_drawing_396 hq0 hL _
  · refine j_sub [] rfl ?_
    exact jb_lw_drawing_396 hq0 hL _

set_option maxRecDepth 100000 in
set_option maxHeartbeats 4000000 in
theorem jb_lw_drawing_264 {lay : List LK} {q0 : Nat} {L : Nat} {xs : Nat → Int32} {p2 : Int} {p3 : Int} {p4 : Int} {k181 : Int → Int → Hp → O Int} (x6 x7 x8 x9 x10 x11 s0 s1 : Int) (hq0 : sub lay q0 blkLines) (hL : inR (L : Int)) (hk181 : ∀ (x7 x8 : Int) (h : Hp), J (mi_lw_drawing L xs) encI (Same lay) lay 0 0 181 [(0, vr q0), (1, vsc), (2, vi p2), (4, vi p4), (6, vi x6), (7, vi x7), (8, vi x8)] [] h (k181 x7 x8 h))(h : Hp) : J (mi_lw_drawing L xs) encI (Same lay) lay 0 0 264 [(0, vr q0), (1, vsc), (2, vi p2), (4, vi p4), (6, vi x6), (7, vi x7), (8, vi x8), (9, vi x9), (10, vi x10), (11, vi x11)] [vi s0, vi s1] h (lw_drawing_b264 q0 L xs p2 p3 p4 k181 x6 x7 x8 x9 x10 x11 s0 s1 h) := by
  unfold lw_drawing_b264
  refine j_icmp_eq (tgt := 269) dL_drawing_264 (by decide) ?_ ?_
  · refine j_iload 8 dL_drawing_269 rfl ?_
    refine j_iload 9 dL_drawing_271 rfl ?_
    refine j_icmp_eq (tgt := 401) dL_drawing_273 (by decide) ?_ ?_
    · refine j_sub [0, 1, 2, 3, 4, 5, 6] rfl ?_
      exact jb_lw_drawing_401 _ _ _ hq0 hL hk181 _
    · refine j_iload 7 dL_drawing_276 rfl ?_
      refine j_bipush (x := 10) dL_drawing_278 (by decide) (by decide) ?_
      refine j_ishrC 10 1024 (by decide) rfl rfl dL_drawing_280 ?_
      refine j_iconst (x := 3) dL_drawing_281 rfl (by decide) ?_
      refine j_cS (stk := []) [vi (x9 / 1024), vi 3] dL_drawing_282 mv_lw_low lm_L_16 (ct_lw_low h) rfl rfl ⟨⟨Nat.le_of_ble_eq_true rfl, Nat.le_of_ble_eq_true rfl⟩, Nat.le_of_ble_eq_true rfl, Nat.le_of_ble_eq_true rfl⟩ (Nat.le_of_ble_eq_true rfl) rfl rfl (fun r1 h1 _ => ?_)
      refine j_if_ne (tgt := 301) dL_drawing_285 (by decide) ?_ ?_
      · refine j_iload 7 dL_drawing_288 rfl ?_
        refine j_bipush (x := 12) dL_drawing_290 (by decide) (by decide) ?_
        refine j_ishrC 12 4096 (by decide) rfl rfl dL_drawing_292 ?_
        refine j_bipush (x := 21) dL_drawing_293 (by decide) (by decide) ?_
        refine j_cS (stk := []) [vi (x9 / 4096), vi 21] dL_drawing_295 mv_lw_low lm_L_16 (ct_lw_low h1) rfl rfl ⟨⟨Nat.le_of_ble_eq_true rfl, Nat.le_of_ble_eq_true rfl⟩, Nat.le_of_ble_eq_true rfl, Nat.le_of_ble_eq_true rfl⟩ (Nat.le_of_ble_eq_true rfl) rfl rfl (fun r2 h2 _ => ?_)
        refine j_goto (tgt := 310) dL_drawing_298 (by decide) ?_
        refine j_sub [0, 1, 2, 3, 4, 5, 6, 7] rfl ?_
        exact jb_lw_drawing_310 _ _ _ _ _ hq0 hL hk181 _
      · refine j_iload 7 dL_drawing_301 rfl ?_
        refine j_bipush (x := 12) dL_drawing_303 (by decide) (by decide) ?_
        refine j_ishrC 12 4096 (by decide) rfl rfl dL_drawing_305 ?_
        refine j_iconst (x := 4) dL_drawing_306 rfl (by decide) ?_
        refine j_cS (stk := []) [vi (x9 / 4096), vi 4] dL_drawing_307 mv_lw_low lm_L_16 (ct_lw_low h1) rfl rfl ⟨⟨Nat.le_of_ble_eq_true rfl, Nat.le_of_ble_eq_true rfl⟩, Nat.le_of_ble_eq_true rfl, Nat.le_of_ble_eq_true rfl⟩ (Nat.le_of_ble_eq_true rfl) rfl rfl (fun r3 h3 _ => ?_)
        refine j_sub [0, 1, 2, 3, 4, 5, 6, 7] rfl ?_
        exact jb_lw_drawing_310 _ _ _ _ _ hq0 hL hk181 _
  · refine j_iconst (x := 0) dL_drawing_267 rfl (by decide) ?_
    exact j_retZ bz0.symm rfl rfl dL_drawing_268 rfl ⟨Nat.le_refl _, Nat.le_refl _⟩ rfl

set_option maxRecDepth 100000 in
set_option maxHeartbeats 4000000 in
theorem jb_lw_drawing_241 {lay : List LK} {q0 : Nat} {L : Nat} {xs : Nat → Int32} {p2 : Int} {p3 : Int} {p4 : Int} {k181 : Int → Int → Hp → O Int} (x6 x7 x8 x9 x10 s0 : Int) (hq0 : sub lay q0 blkLines) (hL : inR (L : Int)) (hk181 : ∀ (x7 x8 : Int) (h : Hp), J (mi_lw_drawing L xs) encI (Same lay) lay 0 0 181 [(0, vr q0), (1, vsc), (2, vi p2), (4, vi p4), (6, vi x6), (7, vi x7), (8, vi x8)] [] h (k181 x7 x8 h))(h : Hp) : J (mi_lw_drawing L xs) encI (Same lay) lay 0 0 241 [(0, vr q0), (1, vsc), (2, vi p2), (4, vi p4), (6, vi x6), (7, vi x7), (8, vi x8), (9, vi x9), (10, vi x10)] [vi s0] h (lw_drawing_b241 q0 L xs p2 p3 p4 k181 x6 x7 x8 x9 x10 s0 h) := by
  unfold lw_drawing_b241
  refine j_istore (lv' := [(11, vi s0), (0, vr q0), (1, vsc), (2, vi p2), (4, vi p4), (6, vi x6), (7, vi x7), (8, vi x8), (9, vi x9), (10, vi x10)]) dL_drawing_241 (Nat.le_of_ble_eq_true rfl) rfl ?_
  refine j_aload_n 1 dL_drawing_243 rfl ?_
  refine j_iload 9 dL_drawing_244 rfl ?_
  refine j_iload 0 dL_drawing_246 rfl ?_
  refine j_cV (stk := []) [vi x10, vi s0] q0 dL_drawing_248 mv_dl_add lm_L_29 (sub_k hq0 0 rfl rfl) zc_5 (ct_dl_add hq0 h) rfl rfl ⟨⟨Nat.le_of_ble_eq_true rfl, Nat.le_of_ble_eq_true rfl⟩, Nat.le_of_ble_eq_true rfl, Nat.le_of_ble_eq_true rfl⟩ (Nat.le_of_ble_eq_true rfl) rfl rfl (fun r1 h1 _ => ?_)
  refine j_iload 9 dL_drawing_251 rfl ?_
  refine j_iload 0 dL_drawing_253 rfl ?_
  refine j_icmp_ne (tgt := 262) dL_drawing_255 (by decide) ?_ ?_
  · refine j_iconst (x := (-1)) dL_drawing_258 rfl (by decide) ?_
    refine j_goto (tgt := 264) dL_drawing_259 (by decide) ?_
    refine j_sub [1, 2, 3, 4, 5, 6, 7, 8, 9, 0] rfl ?_
    exact jb_lw_drawing_264 _ _ _ _ _ _ _ _ hq0 hL hk181 _
  · refine j_iload 6 dL_drawing_262 rfl ?_
    refine j_sub [1, 2, 3, 4, 5, 6, 7, 8, 9, 0] rfl ?_
    exact jb_lw_drawing_264 _ _ _ _ _ _ _ _ hq0 hL hk181 _

set_option maxRecDepth 100000 in
set_option maxHeartbeats 4000000 in
theorem jl_lw_drawing_181 {lay : List LK} {q0 : Nat} {L : Nat} {xs : Nat → Int32} {p2 : Int} {p3 : Int} {p4 : Int}  (x6 : Int) (hq0 : sub lay q0 blkLines) (hL : inR (L : Int))  : ∀ (n : Nat) (x7 x8 : Int) (h : Hp), J (mi_lw_drawing L xs) encI (Same lay) lay 0 0 181 [(0, vr q0), (1, vsc), (2, vi p2), (4, vi p4), (6, vi x6), (7, vi x7), (8, vi x8)] [] h (iter2 (lw_drawing_f181 q0 L xs p2 p3 p4 x6) n x7 x8 h) := by
  refine j_iter2 (lf := fun x7 x8 => [(0, vr q0), (1, vsc), (2, vi p2), (4, vi p4), (6, vi x6), (7, vi x7), (8, vi x8)]) (fun k181 hk181 x7 x8 h => ?_)
  unfold lw_drawing_f181
  refine j_iload 6 dL_drawing_181 rfl ?_
  refine j_iload 3 dL_drawing_183 rfl ?_
  refine j_icmp_ge (tgt := 407) dL_drawing_185 (by decide) ?_ ?_
  · refine j_sload_n 1 dL_drawing_188 rfl ?_
    refine j_iload_n 2 dL_drawing_189 rfl ?_
    refine j_bipush (x := 13) dL_drawing_190 (by decide) (by decide) ?_
    refine j_iadd dL_drawing_192 ?_
    refine j_iload 6 dL_drawing_193 rfl ?_
    refine j_iadd dL_drawing_195 ?_
    refine j_cSs rfl (stk := []) [vsc, vi ((p2 + 13) + x8)] dL_drawing_196 mv_lw_cell lm_L_10 (ct_lw_cell hL h) rfl rfl ⟨⟨Nat.le_of_ble_eq_true rfl, Nat.le_of_ble_eq_true rfl⟩, Nat.le_of_ble_eq_true rfl, Nat.le_of_ble_eq_true rfl⟩ (Nat.le_of_ble_eq_true rfl) rfl rfl (fun r1 h1 _ => ?_)
    refine j_istore (lv' := [(9, vi r1), (0, vr q0), (1, vsc), (2, vi p2), (4, vi p4), (6, vi x6), (7, vi x7), (8, vi x8)]) dL_drawing_199 (Nat.le_of_ble_eq_true rfl) rfl ?_
    refine j_iload 0 dL_drawing_201 rfl ?_
    refine j_iload 5 dL_drawing_203 rfl ?_
    refine j_cS (stk := []) [vi r1, vi x6] dL_drawing_205 mv_lw_low lm_L_16 (ct_lw_low h1) rfl rfl ⟨⟨Nat.le_of_ble_eq_true rfl, Nat.le_of_ble_eq_true rfl⟩, Nat.le_of_ble_eq_true rfl, Nat.le_of_ble_eq_true rfl⟩ (Nat.le_of_ble_eq_true rfl) rfl rfl (fun r2 h2 _ => ?_)
    refine j_istore (lv' := [(10, vi r2), (9, vi r1), (0, vr q0), (1, vsc), (2, vi p2), (4, vi p4), (6, vi x6), (7, vi x7), (8, vi x8)]) dL_drawing_208 (Nat.le_of_ble_eq_true rfl) rfl ?_
    refine j_iload 1 dL_drawing_210 rfl ?_
    refine j_iconst (x := 4) dL_drawing_212 rfl (by decide) ?_
    refine j_ishrC 4 16 (by decide) rfl rfl dL_drawing_213 ?_
    refine j_iconst (x := 3) dL_drawing_214 rfl (by decide) ?_
    refine j_cS (stk := []) [vi (r1 / 16), vi 3] dL_drawing_215 mv_lw_low lm_L_16 (ct_lw_low h2) rfl rfl ⟨⟨Nat.le_of_ble_eq_true rfl, Nat.le_of_ble_eq_true rfl⟩, Nat.le_of_ble_eq_true rfl, Nat.le_of_ble_eq_true rfl⟩ (Nat.le_of_ble_eq_true rfl) rfl rfl (fun r3 h3 _ => ?_)
    refine j_if_ne (tgt := 234) dL_drawing_218 (by decide) ?_ ?_
    · refine j_iload 1 dL_drawing_221 rfl ?_
      refine j_bipush (x := 6) dL_drawing_223 (by decide) (by decide) ?_
      refine j_ishrC 6 64 (by decide) rfl rfl dL_drawing_225 ?_
      refine j_iload 6 dL_drawing_226 rfl ?_
      refine j_cS (stk := []) [vi (r1 / 64), vi x6] dL_drawing_228 mv_lw_low lm_L_16 (ct_lw_low h3) rfl rfl ⟨⟨Nat.le_of_ble_eq_true rfl, Nat.le_of_ble_eq_true rfl⟩, Nat.le_of_ble_eq_true rfl, Nat.le_of_ble_eq_true rfl⟩ (Nat.le_of_ble_eq_true rfl) rfl rfl (fun r4 h4 _ => ?_)
      refine j_goto (tgt := 241) dL_drawing_231 (by decide) ?_
      refine j_sub [2, 3, 4, 5, 6, 7, 8, 1, 0] rfl ?_
      exact jb_lw_drawing_241 _ _ _ _ _ _ hq0 hL hk181 _
    · refine j_iload 0 dL_drawing_234 rfl ?_
      refine j_iconst (x := 1) dL_drawing_236 rfl (by decide) ?_
      refine j_iadd dL_drawing_237 ?_
      refine j_iload 6 dL_drawing_238 rfl ?_
      refine j_irem dL_drawing_240 ?_
      refine j_sub [2, 3, 4, 5, 6, 7, 8, 1, 0] rfl ?_
      exact jb_lw_drawing_241 _ _ _ _ _ _ hq0 hL hk181 _
  · refine j_aload_n 0 dL_drawing_407 rfl ?_
    refine j_iconst (x := 0) dL_drawing_408 rfl (by decide) ?_
    refine j_cV (stk := []) [vi 0] q0 dL_drawing_409 mv_dl_count lm_L_42 (sub_k hq0 0 rfl rfl) zc_5 (ct_dl_count hq0 h) rfl rfl ⟨⟨Nat.le_of_ble_eq_true rfl, Nat.le_of_ble_eq_true rfl⟩, Nat.le_of_ble_eq_true rfl, Nat.le_of_ble_eq_true rfl⟩ (Nat.le_of_ble_eq_true rfl) rfl rfl (fun r5 h5 _ => ?_)
    refine j_iload 4 dL_drawing_412 rfl ?_
    refine j_icmp_ne (tgt := 431) dL_drawing_414 (by decide) ?_ ?_
    · refine j_aload_n 0 dL_drawing_417 rfl ?_
      refine j_iconst (x := 1) dL_drawing_418 rfl (by decide) ?_
      refine j_cV (stk := []) [vi 1] q0 dL_drawing_419 mv_dl_count lm_L_42 (sub_k hq0 0 rfl rfl) zc_5 (ct_dl_count hq0 h5) rfl rfl ⟨⟨Nat.le_of_ble_eq_true rfl, Nat.le_of_ble_eq_true rfl⟩, Nat.le_of_ble_eq_true rfl, Nat.le_of_ble_eq_true rfl⟩ (Nat.le_of_ble_eq_true rfl) rfl rfl (fun r6 h6 _ => ?_)
      refine j_iload 5 dL_drawing_422 rfl ?_
      refine j_icmp_ne (tgt := 431) dL_drawing_424 (by decide) ?_ ?_
      · refine j_iconst (x := 1) dL_drawing_427 rfl (by decide) ?_
        refine j_goto (tgt := 432) dL_drawing_428 (by decide) ?_
        refine j_sub [] rfl ?_
        exact jb_lw_drawing_432 _ hq0 hL _
      · refine j_sub [] rfl ?_
        exact jb_lw_drawing_431 hq0 hL _
    · refine j_sub [] rfl ?_
      exact jb_lw_drawing_431 hq0 hL _

set_option maxRecDepth 100000 in
set_option maxHeartbeats 4000000 in
theorem jb_lw_drawing_175 {lay : List LK} {q0 : Nat} {L : Nat} {xs : Nat → Int32} {p2 : Int} {p3 : Int} {p4 : Int}  (x6 : Int) (hq0 : sub lay q0 blkLines) (hL : inR (L : Int)) (h : Hp) : J (mi_lw_drawing L xs) encI (Same lay) lay 0 0 175 [(0, vr q0), (1, vsc), (2, vi p2), (4, vi p4), (6, vi x6)] [] h (lw_drawing_b175 q0 L xs p2 p3 p4 x6 h) := by
  unfold lw_drawing_b175
  refine j_iconst (x := 0) dL_drawing_175 rfl (by decide) ?_
  refine j_istore (lv' := [(7, vi 0), (0, vr q0), (1, vsc), (2, vi p2), (4, vi p4), (6, vi x6)]) dL_drawing_176 (Nat.le_of_ble_eq_true rfl) rfl ?_
  refine j_iconst (x := 0) dL_drawing_178 rfl (by decide) ?_
  refine j_istore (lv' := [(8, vi 0), (7, vi 0), (0, vr q0), (1, vsc), (2, vi p2), (4, vi p4), (6, vi x6)]) dL_drawing_179 (Nat.le_of_ble_eq_true rfl) rfl ?_
  refine j_sub [2, 3, 4, 5, 6, 1, 0] rfl ?_
  exact jl_lw_drawing_181 _ hq0 hL fuel _ _ _

set_option maxRecDepth 100000 in
set_option maxHeartbeats 4000000 in
theorem jb_lw_drawing_166 {lay : List LK} {q0 : Nat} {L : Nat} {xs : Nat → Int32} {p2 : Int} {p3 : Int} {p4 : Int} {k13 : Int → Int → Hp → O Int} (x5 x7 s0 s1 : Int) (hq0 : sub lay q0 blkLines) (hL : inR (L : Int)) (hk13 : ∀ (x6 x7 : Int) (h : Hp), J (mi_lw_drawing L xs) encI (Same lay) lay 0 0 13 [(0, vr q0), (1, vsc), (2, vi p2), (3, vi p3), (4, vi p4), (5, vi x5), (6, vi x6), (7, vi x7)] [] h (k13 x6 x7 h))(h : Hp) : J (mi_lw_drawing L xs) encI (Same lay) lay 0 0 166 [(0, vr q0), (1, vsc), (2, vi p2), (3, vi p3), (4, vi p4), (5, vi x5), (7, vi x7)] [vi s0, vi s1] h (lw_drawing_b166 q0 L xs p2 p3 p4 k13 x5 x7 s0 s1 h) := by
  unfold lw_drawing_b166
  refine j_iadd dL_drawing_166 ?_
  refine j_istore (lv' := [(6, vi (s1 + s0)), (0, vr q0), (1, vsc), (2, vi p2), (3, vi p3), (4, vi p4), (5, vi x5), (7, vi x7)]) dL_drawing_167 (Nat.le_of_ble_eq_true rfl) rfl ?_
  refine j_iinc 7 (lv' := [(7, vi (x7 + 1)), (6, vi (s1 + s0)), (0, vr q0), (1, vsc), (2, vi p2), (3, vi p3), (4, vi p4), (5, vi x5)]) dL_drawing_169 rfl (Nat.le_of_ble_eq_true rfl) rfl ?_
  refine j_goto (tgt := 13) dL_drawing_172 (by decide) ?_
  refine j_sub [2, 3, 4, 5, 6, 7, 1, 0] rfl ?_
  exact hk13 _ _ _

set_option maxRecDepth 100000 in
set_option maxHeartbeats 4000000 in
theorem jb_lw_drawing_149 {lay : List LK} {q0 : Nat} {L : Nat} {xs : Nat → Int32} {p2 : Int} {p3 : Int} {p4 : Int} {k13 : Int → Int → Hp → O Int} (x5 x6 x7 x11 s0 s1 : Int) (hq0 : sub lay q0 blkLines) (hL : inR (L : Int)) (hk13 : ∀ (x6 x7 : Int) (h : Hp), J (mi_lw_drawing L xs) encI (Same lay) lay 0 0 13 [(0, vr q0), (1, vsc), (2, vi p2), (3, vi p3), (4, vi p4), (5, vi x5), (6, vi x6), (7, vi x7)] [] h (k13 x6 x7 h))(h : Hp) : J (mi_lw_drawing L xs) encI (Same lay) lay 0 0 149 [(0, vr q0), (1, vsc), (2, vi p2), (3, vi p3), (4, vi p4), (5, vi x5), (6, vi x6), (7, vi x7), (11, vi x11)] [vi s0, vi s1] h (lw_drawing_b149 q0 L xs p2 p3 p4 k13 x5 x6 x7 x11 s0 s1 h) := by
  unfold lw_drawing_b149
  refine j_icmp_eq (tgt := 154) dL_drawing_149 (by decide) ?_ ?_
  · refine j_iload 6 dL_drawing_154 rfl ?_
    refine j_iload 8 dL_drawing_156 rfl ?_
    refine j_if_eq (tgt := 165) dL_drawing_158 (by decide) ?_ ?_
    · refine j_iconst (x := 1) dL_drawing_165 rfl (by decide) ?_
      refine j_sub [0, 1, 2, 3, 4, 5, 7] rfl ?_
      exact jb_lw_drawing_166 _ _ _ _ hq0 hL hk13 _
    · refine j_iconst (x := 0) dL_drawing_161 rfl (by decide) ?_
      refine j_goto (tgt := 166) dL_drawing_162 (by decide) ?_
      refine j_sub [0, 1, 2, 3, 4, 5, 7] rfl ?_
      exact jb_lw_drawing_166 _ _ _ _ hq0 hL hk13 _
  · refine j_iconst (x := 0) dL_drawing_152 rfl (by decide) ?_
    exact j_retZ bz0.symm rfl rfl dL_drawing_153 rfl ⟨Nat.le_refl _, Nat.le_refl _⟩ rfl

set_option maxRecDepth 100000 in
set_option maxHeartbeats 4000000 in
theorem jb_lw_drawing_123 {lay : List LK} {q0 : Nat} {L : Nat} {xs : Nat → Int32} {p2 : Int} {p3 : Int} {p4 : Int} {k72 : Int → Int → Int → Hp → O Int} (x5 x6 x7 x9 x10 x12 s0 : Int) (hq0 : sub lay q0 blkLines) (hL : inR (L : Int)) (hk72 : ∀ (x10 x11 x12 : Int) (h : Hp), J (mi_lw_drawing L xs) encI (Same lay) lay 0 0 72 [(0, vr q0), (1, vsc), (2, vi p2), (3, vi p3), (4, vi p4), (5, vi x5), (6, vi x6), (7, vi x7), (9, vi x9), (10, vi x10), (11, vi x11), (12, vi x12)] [] h (k72 x10 x11 x12 h))(h : Hp) : J (mi_lw_drawing L xs) encI (Same lay) lay 0 0 123 [(0, vr q0), (1, vsc), (2, vi p2), (3, vi p3), (4, vi p4), (5, vi x5), (6, vi x6), (7, vi x7), (9, vi x9), (10, vi x10), (12, vi x12)] [vi s0] h (lw_drawing_b123 q0 L xs p2 p3 p4 k72 x5 x6 x7 x9 x10 x12 s0 h) := by
  unfold lw_drawing_b123
  refine j_istore (lv' := [(11, vi s0), (0, vr q0), (1, vsc), (2, vi p2), (3, vi p3), (4, vi p4), (5, vi x5), (6, vi x6), (7, vi x7), (9, vi x9), (10, vi x10), (12, vi x12)]) dL_drawing_123 (Nat.le_of_ble_eq_true rfl) rfl ?_
  refine j_iinc 11 (lv' := [(12, vi (x12 + 1)), (11, vi s0), (0, vr q0), (1, vsc), (2, vi p2), (3, vi p3), (4, vi p4), (5, vi x5), (6, vi x6), (7, vi x7), (9, vi x9), (10, vi x10)]) dL_drawing_125 rfl (Nat.le_of_ble_eq_true rfl) rfl ?_
  refine j_goto (tgt := 72) dL_drawing_128 (by decide) ?_
  refine j_sub [2, 3, 4, 5, 6, 7, 8, 9, 10, 11, 1, 0] rfl ?_
  exact hk72 _ _ _ _

set_option maxRecDepth 100000 in
set_option maxHeartbeats 4000000 in
theorem jb_lw_drawing_118 {lay : List LK} {q0 : Nat} {L : Nat} {xs : Nat → Int32} {p2 : Int} {p3 : Int} {p4 : Int} {k72 : Int → Int → Int → Hp → O Int} (x5 x6 x7 x9 x10 x12 : Int) (hq0 : sub lay q0 blkLines) (hL : inR (L : Int)) (hk72 : ∀ (x10 x11 x12 : Int) (h : Hp), J (mi_lw_drawing L xs) encI (Same lay) lay 0 0 72 [(0, vr q0), (1, vsc), (2, vi p2), (3, vi p3), (4, vi p4), (5, vi x5), (6, vi x6), (7, vi x7), (9, vi x9), (10, vi x10), (11, vi x11), (12, vi x12)] [] h (k72 x10 x11 x12 h))(h : Hp) : J (mi_lw_drawing L xs) encI (Same lay) lay 0 0 118 [(0, vr q0), (1, vsc), (2, vi p2), (3, vi p3), (4, vi p4), (5, vi x5), (6, vi x6), (7, vi x7), (9, vi x9), (10, vi x10), (12, vi x12)] [] h (lw_drawing_b118 q0 L xs p2 p3 p4 k72 x5 x6 x7 x9 x10 x12 h) := by
  unfold lw_drawing_b118
  refine j_iconst (x := 1) dL_drawing_118 rfl (by decide) ?_
  refine j_goto (tgt := 123) dL_drawing_119 (by decide) ?_
  exact jb_lw_drawing_123 _ _ _ _ _ _ _ hq0 hL hk72 _

set_option maxRecDepth 100000 in
set_option maxHeartbeats 4000000 in
theorem jb_lw_drawing_98 {lay : List LK} {q0 : Nat} {L : Nat} {xs : Nat → Int32} {p2 : Int} {p3 : Int} {p4 : Int} {k72 : Int → Int → Int → Hp → O Int} (x5 x6 x7 x9 x11 x12 s0 s1 : Int) (hq0 : sub lay q0 blkLines) (hL : inR (L : Int)) (hk72 : ∀ (x10 x11 x12 : Int) (h : Hp), J (mi_lw_drawing L xs) encI (Same lay) lay 0 0 72 [(0, vr q0), (1, vsc), (2, vi p2), (3, vi p3), (4, vi p4), (5, vi x5), (6, vi x6), (7, vi x7), (9, vi x9), (10, vi x10), (11, vi x11), (12, vi x12)] [] h (k72 x10 x11 x12 h))(h : Hp) : J (mi_lw_drawing L xs) encI (Same lay) lay 0 0 98 [(0, vr q0), (1, vsc), (2, vi p2), (3, vi p3), (4, vi p4), (5, vi x5), (6, vi x6), (7, vi x7), (9, vi x9), (11, vi x11), (12, vi x12)] [vi s0, vi s1] h (lw_drawing_b98 q0 L xs p2 p3 p4 k72 x5 x6 x7 x9 x11 x12 s0 s1 h) := by
  unfold lw_drawing_b98
  refine j_iadd dL_drawing_98 ?_
  refine j_istore (lv' := [(10, vi (s1 + s0)), (0, vr q0), (1, vsc), (2, vi p2), (3, vi p3), (4, vi p4), (5, vi x5), (6, vi x6), (7, vi x7), (9, vi x9), (11, vi x11), (12, vi x12)]) dL_drawing_99 (Nat.le_of_ble_eq_true rfl) rfl ?_
  refine j_iload 10 dL_drawing_101 rfl ?_
  refine j_if_ne (tgt := 118) dL_drawing_103 (by decide) ?_ ?_
  · refine j_aload_n 1 dL_drawing_106 rfl ?_
    refine j_iload 11 dL_drawing_107 rfl ?_
    refine j_iconst (x := 0) dL_drawing_109 rfl (by decide) ?_
    refine j_cV (stk := []) [vi x12, vi 0] q0 dL_drawing_110 mv_dl_point lm_L_20 (sub_k hq0 0 rfl rfl) zc_5 (ct_dl_point hq0 h) rfl rfl ⟨⟨Nat.le_of_ble_eq_true rfl, Nat.le_of_ble_eq_true rfl⟩, Nat.le_of_ble_eq_true rfl, Nat.le_of_ble_eq_true rfl⟩ (Nat.le_of_ble_eq_true rfl) rfl rfl (fun r1 h1 _ => ?_)
    refine j_iload 9 dL_drawing_113 rfl ?_
    refine j_icmp_ne (tgt := 122) dL_drawing_115 (by decide) ?_ ?_
    · refine j_sub [1, 2, 3, 4, 5, 6, 7, 8, 9, 0, 11] rfl ?_
      exact jb_lw_drawing_118 _ _ _ _ _ _ hq0 hL hk72 _
    · refine j_iconst (x := 0) dL_drawing_122 rfl (by decide) ?_
      refine j_sub [1, 2, 3, 4, 5, 6, 7, 8, 9, 0, 11] rfl ?_
      exact jb_lw_drawing_123 _ _ _ _ _ _ _ hq0 hL hk72 _
  · refine j_sub [1, 2, 3, 4, 5, 6, 7, 8, 9, 0, 11] rfl ?_
    exact jb_lw_drawing_118 _ _ _ _ _ _ hq0 hL hk72 _

set_option maxRecDepth 100000 in
set_option maxHeartbeats 4000000 in
theorem jl_lw_drawing_72 {lay : List LK} {q0 : Nat} {L : Nat} {xs : Nat → Int32} {p2 : Int} {p3 : Int} {p4 : Int} {k13 : Int → Int → Hp → O Int} (x5 x6 x7 x9 : Int) (hq0 : sub lay q0 blkLines) (hL : inR (L : Int)) (hk13 : ∀ (x6 x7 : Int) (h : Hp), J (mi_lw_drawing L xs) encI (Same lay) lay 0 0 13 [(0, vr q0), (1, vsc), (2, vi p2), (3, vi p3), (4, vi p4), (5, vi x5), (6, vi x6), (7, vi x7)] [] h (k13 x6 x7 h)) : ∀ (n : Nat) (x10 x11 x12 : Int) (h : Hp), J (mi_lw_drawing L xs) encI (Same lay) lay 0 0 72 [(0, vr q0), (1, vsc), (2, vi p2), (3, vi p3), (4, vi p4), (5, vi x5), (6, vi x6), (7, vi x7), (9, vi x9), (10, vi x10), (11, vi x11), (12, vi x12)] [] h (iter3 (lw_drawing_f72 q0 L xs p2 p3 p4 k13 x5 x6 x7 x9) n x10 x11 x12 h) := by
  refine j_iter3 (lf := fun x10 x11 x12 => [(0, vr q0), (1, vsc), (2, vi p2), (3, vi p3), (4, vi p4), (5, vi x5), (6, vi x6), (7, vi x7), (9, vi x9), (10, vi x10), (11, vi x11), (12, vi x12)]) (fun k72 hk72 x10 x11 x12 h => ?_)
  unfold lw_drawing_f72
  refine j_iload 11 dL_drawing_72 rfl ?_
  refine j_iload 6 dL_drawing_74 rfl ?_
  refine j_icmp_ge (tgt := 131) dL_drawing_76 (by decide) ?_ ?_
  · refine j_iload 9 dL_drawing_79 rfl ?_
    refine j_aload_n 0 dL_drawing_81 rfl ?_
    refine j_iload 11 dL_drawing_82 rfl ?_
    refine j_iconst (x := 0) dL_drawing_84 rfl (by decide) ?_
    refine j_cV (stk := [vi x10]) [vi x12, vi 0] q0 dL_drawing_85 mv_dl_point lm_L_20 (sub_k hq0 0 rfl rfl) zc_5 (ct_dl_point hq0 h) rfl rfl ⟨⟨Nat.le_of_ble_eq_true rfl, Nat.le_of_ble_eq_true rfl⟩, Nat.le_of_ble_eq_true rfl, Nat.le_of_ble_eq_true rfl⟩ (Nat.le_of_ble_eq_true rfl) rfl rfl (fun r1 h1 _ => ?_)
    refine j_iload 8 dL_drawing_88 rfl ?_
    refine j_icmp_ge (tgt := 97) dL_drawing_90 (by decide) ?_ ?_
    · refine j_iconst (x := 1) dL_drawing_93 rfl (by decide) ?_
      refine j_goto (tgt := 98) dL_drawing_94 (by decide) ?_
      refine j_sub [0, 1, 2, 3, 4, 5, 6, 7, 8, 10, 11] rfl ?_
      exact jb_lw_drawing_98 _ _ _ _ _ _ _ _ hq0 hL hk72 _
    · refine j_iconst (x := 0) dL_drawing_97 rfl (by decide) ?_
      refine j_sub [0, 1, 2, 3, 4, 5, 6, 7, 8, 10, 11] rfl ?_
      exact jb_lw_drawing_98 _ _ _ _ _ _ _ _ hq0 hL hk72 _
  · refine j_aload_n 0 dL_drawing_131 rfl ?_
    refine j_iload 8 dL_drawing_132 rfl ?_
    refine j_cV (stk := []) [vi x9] q0 dL_drawing_134 mv_dl_addPoint lm_L_25 (sub_k hq0 0 rfl rfl) zc_5 (ct_dl_addPoint hq0 h) rfl rfl ⟨⟨Nat.le_of_ble_eq_true rfl, Nat.le_of_ble_eq_true rfl⟩, Nat.le_of_ble_eq_true rfl, Nat.le_of_ble_eq_true rfl⟩ (Nat.le_of_ble_eq_true rfl) rfl rfl (fun r2 h2 _ => ?_)
    refine j_iload 10 dL_drawing_137 rfl ?_
    refine j_if_eq (tgt := 147) dL_drawing_139 (by decide) ?_ ?_
    · refine j_iload 9 dL_drawing_147 rfl ?_
      refine j_sub [0, 1, 2, 3, 4, 5, 6, 7, 10] rfl ?_
      exact jb_lw_drawing_149 _ _ _ _ _ _ hq0 hL hk13 _
    · refine j_bipush (x := (-2)) dL_drawing_142 (by decide) (by decide) ?_
      refine j_goto (tgt := 149) dL_drawing_144 (by decide) ?_
      refine j_sub [0, 1, 2, 3, 4, 5, 6, 7, 10] rfl ?_
      exact jb_lw_drawing_149 _ _ _ _ _ _ hq0 hL hk13 _

set_option maxRecDepth 100000 in
set_option maxHeartbeats 4000000 in
theorem jb_lw_drawing_58 {lay : List LK} {q0 : Nat} {L : Nat} {xs : Nat → Int32} {p2 : Int} {p3 : Int} {p4 : Int} {k13 : Int → Int → Hp → O Int} (x5 x6 x7 s0 s1 : Int) (hq0 : sub lay q0 blkLines) (hL : inR (L : Int)) (hk13 : ∀ (x6 x7 : Int) (h : Hp), J (mi_lw_drawing L xs) encI (Same lay) lay 0 0 13 [(0, vr q0), (1, vsc), (2, vi p2), (3, vi p3), (4, vi p4), (5, vi x5), (6, vi x6), (7, vi x7)] [] h (k13 x6 x7 h))(h : Hp) : J (mi_lw_drawing L xs) encI (Same lay) lay 0 0 58 [(0, vr q0), (1, vsc), (2, vi p2), (3, vi p3), (4, vi p4), (5, vi x5), (6, vi x6), (7, vi x7)] [vi s0, vi s1] h (lw_drawing_b58 q0 L xs p2 p3 p4 k13 x5 x6 x7 s0 s1 h) := by
  unfold lw_drawing_b58
  refine j_cS (stk := []) [vi s1, vi s0] dL_drawing_58 mv_lw_low lm_L_16 (ct_lw_low h) rfl rfl ⟨⟨Nat.le_of_ble_eq_true rfl, Nat.le_of_ble_eq_true rfl⟩, Nat.le_of_ble_eq_true rfl, Nat.le_of_ble_eq_true rfl⟩ (Nat.le_of_ble_eq_true rfl) rfl rfl (fun r1 h1 _ => ?_)
  refine j_istore (lv' := [(9, vi r1), (0, vr q0), (1, vsc), (2, vi p2), (3, vi p3), (4, vi p4), (5, vi x5), (6, vi x6), (7, vi x7)]) dL_drawing_61 (Nat.le_of_ble_eq_true rfl) rfl ?_
  refine j_iconst (x := 0) dL_drawing_63 rfl (by decide) ?_
  refine j_istore (lv' := [(10, vi 0), (9, vi r1), (0, vr q0), (1, vsc), (2, vi p2), (3, vi p3), (4, vi p4), (5, vi x5), (6, vi x6), (7, vi x7)]) dL_drawing_64 (Nat.le_of_ble_eq_true rfl) rfl ?_
  refine j_iconst (x := 0) dL_drawing_66 rfl (by decide) ?_
  refine j_istore (lv' := [(11, vi 0), (10, vi 0), (9, vi r1), (0, vr q0), (1, vsc), (2, vi p2), (3, vi p3), (4, vi p4), (5, vi x5), (6, vi x6), (7, vi x7)]) dL_drawing_67 (Nat.le_of_ble_eq_true rfl) rfl ?_
  refine j_iconst (x := 0) dL_drawing_69 rfl (by decide) ?_
  refine j_istore (lv' := [(12, vi 0), (11, vi 0), (10, vi 0), (9, vi r1), (0, vr q0), (1, vsc), (2, vi p2), (3, vi p3), (4, vi p4), (5, vi x5), (6, vi x6), (7, vi x7)]) dL_drawing_70 (Nat.le_of_ble_eq_true rfl) rfl ?_
  refine j_sub [4, 5, 6, 7, 8, 9, 10, 11, 3, 2, 1, 0] rfl ?_
  exact jl_lw_drawing_72 _ _ _ _ hq0 hL hk13 fuel _ _ _ _

set_option maxRecDepth 100000 in
set_option maxHeartbeats 4000000 in
theorem jl_lw_drawing_13 {lay : List LK} {q0 : Nat} {L : Nat} {xs : Nat → Int32} {p2 : Int} {p3 : Int} {p4 : Int}  (x5 : Int) (hq0 : sub lay q0 blkLines) (hL : inR (L : Int))  : ∀ (n : Nat) (x6 x7 : Int) (h : Hp), J (mi_lw_drawing L xs) encI (Same lay) lay 0 0 13 [(0, vr q0), (1, vsc), (2, vi p2), (3, vi p3), (4, vi p4), (5, vi x5), (6, vi x6), (7, vi x7)] [] h (iter2 (lw_drawing_f13 q0 L xs p2 p3 p4 x5) n x6 x7 h) := by
  refine j_iter2 (lf := fun x6 x7 => [(0, vr q0), (1, vsc), (2, vi p2), (3, vi p3), (4, vi p4), (5, vi x5), (6, vi x6), (7, vi x7)]) (fun k13 hk13 x6 x7 h => ?_)
  unfold lw_drawing_f13
  refine j_iload 7 dL_drawing_13 rfl ?_
  refine j_iconst (x := 2) dL_drawing_15 rfl (by decide) ?_
  refine j_iload_n 3 dL_drawing_16 rfl ?_
  refine j_imul dL_drawing_17 ?_
  refine j_icmp_ge (tgt := 175) dL_drawing_18 (by decide) ?_ ?_
  · refine j_iload 6 dL_drawing_21 rfl ?_
    refine j_iload_n 3 dL_drawing_23 rfl ?_
    refine j_icmp_ge (tgt := 175) dL_drawing_24 (by decide) ?_ ?_
    · refine j_sload_n 1 dL_drawing_27 rfl ?_
      refine j_iload_n 2 dL_drawing_28 rfl ?_
      refine j_iconst (x := 1) dL_drawing_29 rfl (by decide) ?_
      refine j_iadd dL_drawing_30 ?_
      refine j_iload 7 dL_drawing_31 rfl ?_
      refine j_iadd dL_drawing_33 ?_
      refine j_cSs rfl (stk := []) [vsc, vi ((p2 + 1) + x7)] dL_drawing_34 mv_lw_cell lm_L_10 (ct_lw_cell hL h) rfl rfl ⟨⟨Nat.le_of_ble_eq_true rfl, Nat.le_of_ble_eq_true rfl⟩, Nat.le_of_ble_eq_true rfl, Nat.le_of_ble_eq_true rfl⟩ (Nat.le_of_ble_eq_true rfl) rfl rfl (fun r1 h1 _ => ?_)
      refine j_istore (lv' := [(8, vi r1), (0, vr q0), (1, vsc), (2, vi p2), (3, vi p3), (4, vi p4), (5, vi x5), (6, vi x6), (7, vi x7)]) dL_drawing_37 (Nat.le_of_ble_eq_true rfl) rfl ?_
      refine j_iload 0 dL_drawing_39 rfl ?_
      refine j_iload 6 dL_drawing_41 rfl ?_
      refine j_iconst (x := 3) dL_drawing_43 rfl (by decide) ?_
      refine j_cS (stk := [vi r1]) [vi x5, vi 3] dL_drawing_44 mv_lw_low lm_L_16 (ct_lw_low h1) rfl rfl ⟨⟨Nat.le_of_ble_eq_true rfl, Nat.le_of_ble_eq_true rfl⟩, Nat.le_of_ble_eq_true rfl, Nat.le_of_ble_eq_true rfl⟩ (Nat.le_of_ble_eq_true rfl) rfl rfl (fun r2 h2 _ => ?_)
      refine j_if_ne (tgt := 56) dL_drawing_47 (by decide) ?_ ?_
      · refine j_sipush (x := 301) dL_drawing_50 (by decide) (by decide) ?_
        refine j_goto (tgt := 58) dL_drawing_53 (by decide) ?_
        refine j_sub [1, 2, 3, 4, 5, 6, 7, 8] rfl ?_
        exact jb_lw_drawing_58 _ _ _ _ _ hq0 hL hk13 _
      · refine j_bipush (x := 50) dL_drawing_56 (by decide) (by decide) ?_
        refine j_sub [1, 2, 3, 4, 5, 6, 7, 8] rfl ?_
        exact jb_lw_drawing_58 _ _ _ _ _ hq0 hL hk13 _
    · refine j_sub [0, 1, 2, 4, 6] rfl ?_
      exact jb_lw_drawing_175 _ hq0 hL _
  · refine j_sub [0, 1, 2, 4, 6] rfl ?_
    exact jb_lw_drawing_175 _ hq0 hL _

set_option maxRecDepth 100000 in
set_option maxHeartbeats 4000000 in
theorem ct_lw_drawing {lay : List LK} {q0 : Nat} {L : Nat} {xs : Nat → Int32} {p2 : Int} {p3 : Int} {p4 : Int} (hq0 : sub lay q0 blkLines) (hL : inR (L : Int)) (h : Hp) : CTs L xs (mi_lw_drawing L xs) encI (Same lay) lay [vr q0, vsc, vi p2, vi p3, vi p4] h (lw_drawing q0 L xs p2 p3 p4 h) := by
  refine CTs.of (by decide : plainName yL_drawing.cls = true) rfl (Nat.le_of_ble_eq_true rfl) ?_
  show J (mi_lw_drawing L xs) encI (Same lay) lay 0 0 0 [(0, vr q0), (1, vsc), (2, vi p2), (3, vi p3), (4, vi p4)] [] h _
  unfold lw_drawing
  refine j_sload_n 1 dL_drawing_0 rfl ?_
  refine j_iload_n 2 dL_drawing_1 rfl ?_
  refine j_cSs rfl (stk := []) [vsc, vi p2] dL_drawing_2 mv_lw_cell lm_L_10 (ct_lw_cell hL h) rfl rfl ⟨⟨Nat.le_of_ble_eq_true rfl, Nat.le_of_ble_eq_true rfl⟩, Nat.le_of_ble_eq_true rfl, Nat.le_of_ble_eq_true rfl⟩ (Nat.le_of_ble_eq_true rfl) rfl rfl (fun r1 h1 _ => ?_)
  refine j_istore (lv' := [(5, vi r1), (0, vr q0), (1, vsc), (2, vi p2), (3, vi p3), (4, vi p4)]) dL_drawing_5 (Nat.le_of_ble_eq_true rfl) rfl ?_
  refine j_iconst (x := 0) dL_drawing_7 rfl (by decide) ?_
  refine j_istore (lv' := [(6, vi 0), (5, vi r1), (0, vr q0), (1, vsc), (2, vi p2), (3, vi p3), (4, vi p4)]) dL_drawing_8 (Nat.le_of_ble_eq_true rfl) rfl ?_
  refine j_iconst (x := 0) dL_drawing_10 rfl (by decide) ?_
  refine j_istore (lv' := [(7, vi 0), (6, vi 0), (5, vi r1), (0, vr q0), (1, vsc), (2, vi p2), (3, vi p3), (4, vi p4)]) dL_drawing_11 (Nat.le_of_ble_eq_true rfl) rfl ?_
  refine j_sub [3, 4, 5, 6, 7, 2, 1, 0] rfl ?_
  exact jl_lw_drawing_13 _ hq0 hL fuel _ _ _

set_option maxRecDepth 100000 in
set_option maxHeartbeats 4000000 in
theorem ct_lw_position {lay : List LK} {q0 : Nat} {p1 : Int} {p2 : Int} (hq0 : sub lay q0 blkLines) (h : Hp) : CT mi_lw_position encI (Same lay) lay [vr q0, vi p1, vi p2] h (lw_position q0 p1 p2 h) := by
  refine CT.of (by decide) rfl (Nat.le_of_ble_eq_true rfl) ?_
  show J mi_lw_position encI (Same lay) lay 0 0 0 [(0, vr q0), (1, vi p1), (2, vi p2)] [] h _
  unfold lw_position
  refine j_aload_n 0 dL_position_0 rfl ?_
  refine j_aload_n 0 dL_position_1 rfl ?_
  refine j_iload_n 1 dL_position_2 rfl ?_
  refine j_iload_n 2 dL_position_3 rfl ?_
  refine j_cV (stk := [vr q0]) [vi p1, vi p2] q0 dL_position_4 mv_dl_dimension lm_L_45 (sub_k hq0 0 rfl rfl) zc_5 (ct_dl_dimension hq0 h) rfl rfl ⟨⟨Nat.le_of_ble_eq_true rfl, Nat.le_of_ble_eq_true rfl⟩, Nat.le_of_ble_eq_true rfl, Nat.le_of_ble_eq_true rfl⟩ (Nat.le_of_ble_eq_true rfl) rfl rfl (fun r1 h1 _ => ?_)
  refine j_iconst (x := 0) dL_position_7 rfl (by decide) ?_
  refine j_cV (stk := []) [vi r1, vi 0] q0 dL_position_8 mv_dl_point lm_L_20 (sub_k hq0 0 rfl rfl) zc_5 (ct_dl_point hq0 h1) rfl rfl ⟨⟨Nat.le_of_ble_eq_true rfl, Nat.le_of_ble_eq_true rfl⟩, Nat.le_of_ble_eq_true rfl, Nat.le_of_ble_eq_true rfl⟩ (Nat.le_of_ble_eq_true rfl) rfl rfl (fun r2 h2 _ => ?_)
  exact j_retI (h0 := h2) (r := 0) rfl rfl rfl dL_position_11 rfl ⟨Nat.le_refl _, Nat.le_refl _⟩ rfl

set_option maxRecDepth 100000 in
set_option maxHeartbeats 4000000 in
theorem jb_lw_fitted_183 {lay : List LK} {q0 : Nat} {p1 : Int}  (s0 : Int) (hq0 : sub lay q0 blkLines) (h : Hp) : J mi_lw_fitted encI (Same lay) lay 0 0 183 [] [vi s0] h (lw_fitted_b183 q0 p1 s0 h) := by
  unfold lw_fitted_b183
  exact j_retZ rfl rfl rfl dL_fitted_183 rfl ⟨Nat.le_refl _, Nat.le_refl _⟩ rfl

set_option maxRecDepth 100000 in
set_option maxHeartbeats 4000000 in
theorem jb_lw_fitted_182 {lay : List LK} {q0 : Nat} {p1 : Int}  (hq0 : sub lay q0 blkLines) (h : Hp) : J mi_lw_fitted encI (Same lay) lay 0 0 182 [] [] h (lw_fitted_b182 q0 p1 h) := by
  unfold lw_fitted_b182
  refine j_iconst (x := 0) dL_fitted_182 rfl (by decide) ?_
  exact jb_lw_fitted_183 _ hq0 _

set_option maxRecDepth 100000 in
set_option maxHeartbeats 4000000 in
theorem jb_lw_fitted_174 {lay : List LK} {q0 : Nat} {p1 : Int}  (s0 s1 s2 : Int) (hq0 : sub lay q0 blkLines) (h : Hp) : J mi_lw_fitted encI (Same lay) lay 0 0 174 [] [vi s0, vi s1, vi s2] h (lw_fitted_b174 q0 p1 s0 s1 s2 h) := by
  unfold lw_fitted_b174
  refine j_iadd dL_fitted_174 ?_
  refine j_icmp_ne (tgt := 182) dL_fitted_175 (by decide) ?_ ?_
  · refine j_iconst (x := 1) dL_fitted_178 rfl (by decide) ?_
    refine j_goto (tgt := 183) dL_fitted_179 (by decide) ?_
    exact jb_lw_fitted_183 _ hq0 _
  · exact jb_lw_fitted_182 hq0 _

set_option maxRecDepth 100000 in
set_option maxHeartbeats 4000000 in
theorem jb_lw_fitted_107 {lay : List LK} {q0 : Nat} {p1 : Int}  (x2 x3 x4 x6 x8 s0 : Int) (hq0 : sub lay q0 blkLines) (h : Hp) : J mi_lw_fitted encI (Same lay) lay 0 0 107 [(0, vr q0), (1, vi p1), (2, vi x2), (3, vi x3), (4, vi x4), (6, vi x6), (8, vi x8)] [vi s0] h (lw_fitted_b107 q0 p1 x2 x3 x4 x6 x8 s0 h) := by
  unfold lw_fitted_b107
  refine j_istore (lv' := [(9, vi s0), (0, vr q0), (1, vi p1), (2, vi x2), (3, vi x3), (4, vi x4), (6, vi x6), (8, vi x8)]) dL_fitted_107 (Nat.le_of_ble_eq_true rfl) rfl ?_
  refine j_iload 5 dL_fitted_109 rfl ?_
  refine j_if_le (tgt := 182) dL_fitted_111 (by decide) ?_ ?_
  · refine j_aload_n 1 dL_fitted_114 rfl ?_
    refine j_iload_n 2 dL_fitted_115 rfl ?_
    refine j_iconst (x := 2) dL_fitted_116 rfl (by decide) ?_
    refine j_cV (stk := []) [vi p1, vi 2] q0 dL_fitted_117 mv_dl_dimension lm_L_45 (sub_k hq0 0 rfl rfl) zc_5 (ct_dl_dimension hq0 h) rfl rfl ⟨⟨Nat.le_of_ble_eq_true rfl, Nat.le_of_ble_eq_true rfl⟩, Nat.le_of_ble_eq_true rfl, Nat.le_of_ble_eq_true rfl⟩ (Nat.le_of_ble_eq_true rfl) rfl rfl (fun r1 h1 _ => ?_)
    refine j_iload 5 dL_fitted_120 rfl ?_
    refine j_icmp_ne (tgt := 182) dL_fitted_122 (by decide) ?_ ?_
    · refine j_aload_n 1 dL_fitted_125 rfl ?_
      refine j_iload_n 2 dL_fitted_126 rfl ?_
      refine j_bipush (x := 7) dL_fitted_127 (by decide) (by decide) ?_
      refine j_cV (stk := []) [vi p1, vi 7] q0 dL_fitted_129 mv_dl_dimension lm_L_45 (sub_k hq0 0 rfl rfl) zc_5 (ct_dl_dimension hq0 h1) rfl rfl ⟨⟨Nat.le_of_ble_eq_true rfl, Nat.le_of_ble_eq_true rfl⟩, Nat.le_of_ble_eq_true rfl, Nat.le_of_ble_eq_true rfl⟩ (Nat.le_of_ble_eq_true rfl) rfl rfl (fun r2 h2 _ => ?_)
      refine j_iload 7 dL_fitted_132 rfl ?_
      refine j_icmp_ne (tgt := 182) dL_fitted_134 (by decide) ?_ ?_
      · refine j_aload_n 1 dL_fitted_137 rfl ?_
        refine j_iload_n 2 dL_fitted_138 rfl ?_
        refine j_bipush (x := 8) dL_fitted_139 (by decide) (by decide) ?_
        refine j_cV (stk := []) [vi p1, vi 8] q0 dL_fitted_141 mv_dl_dimension lm_L_45 (sub_k hq0 0 rfl rfl) zc_5 (ct_dl_dimension hq0 h2) rfl rfl ⟨⟨Nat.le_of_ble_eq_true rfl, Nat.le_of_ble_eq_true rfl⟩, Nat.le_of_ble_eq_true rfl, Nat.le_of_ble_eq_true rfl⟩ (Nat.le_of_ble_eq_true rfl) rfl rfl (fun r3 h3 _ => ?_)
        refine j_iload_n 3 dL_fitted_144 rfl ?_
        refine j_iload 0 dL_fitted_145 rfl ?_
        refine j_isub dL_fitted_147 ?_
        refine j_icmp_ne (tgt := 182) dL_fitted_148 (by decide) ?_ ?_
        · refine j_aload_n 1 dL_fitted_151 rfl ?_
          refine j_iload_n 2 dL_fitted_152 rfl ?_
          refine j_bipush (x := 9) dL_fitted_153 (by decide) (by decide) ?_
          refine j_cV (stk := []) [vi p1, vi 9] q0 dL_fitted_155 mv_dl_dimension lm_L_45 (sub_k hq0 0 rfl rfl) zc_5 (ct_dl_dimension hq0 h3) rfl rfl ⟨⟨Nat.le_of_ble_eq_true rfl, Nat.le_of_ble_eq_true rfl⟩, Nat.le_of_ble_eq_true rfl, Nat.le_of_ble_eq_true rfl⟩ (Nat.le_of_ble_eq_true rfl) rfl rfl (fun r4 h4 _ => ?_)
          refine j_iload_n 4 dL_fitted_158 rfl ?_
          refine j_iload 0 dL_fitted_159 rfl ?_
          refine j_iadd dL_fitted_161 ?_
          refine j_iload 7 dL_fitted_162 rfl ?_
          refine j_iconst (x := 2) dL_fitted_164 rfl (by decide) ?_
          refine j_icmp_ne (tgt := 173) dL_fitted_165 (by decide) ?_ ?_
          · refine j_iload 6 dL_fitted_168 rfl ?_
            refine j_goto (tgt := 174) dL_fitted_170 (by decide) ?_
            refine j_sub [] rfl ?_
            exact jb_lw_fitted_174 _ _ _ hq0 _
          · refine j_iconst (x := 0) dL_fitted_173 rfl (by decide) ?_
            refine j_sub [] rfl ?_
            exact jb_lw_fitted_174 _ _ _ hq0 _
        · refine j_sub [] rfl ?_
          exact jb_lw_fitted_182 hq0 _
      · refine j_sub [] rfl ?_
        exact jb_lw_fitted_182 hq0 _
    · refine j_sub [] rfl ?_
      exact jb_lw_fitted_182 hq0 _
  · refine j_sub [] rfl ?_
    exact jb_lw_fitted_182 hq0 _

set_option maxRecDepth 100000 in
set_option maxHeartbeats 4000000 in
theorem jb_lw_fitted_94 {lay : List LK} {q0 : Nat} {p1 : Int}  (x2 x3 x4 x6 x7 s0 : Int) (hq0 : sub lay q0 blkLines) (h : Hp) : J mi_lw_fitted encI (Same lay) lay 0 0 94 [(0, vr q0), (1, vi p1), (2, vi x2), (3, vi x3), (4, vi x4), (6, vi x6), (7, vi x7)] [vi s0] h (lw_fitted_b94 q0 p1 x2 x3 x4 x6 x7 s0 h) := by
  unfold lw_fitted_b94
  refine j_istore (lv' := [(8, vi s0), (0, vr q0), (1, vi p1), (2, vi x2), (3, vi x3), (4, vi x4), (6, vi x6), (7, vi x7)]) dL_fitted_94 (Nat.le_of_ble_eq_true rfl) rfl ?_
  refine j_iload 0 dL_fitted_96 rfl ?_
  refine j_if_ne (tgt := 105) dL_fitted_98 (by decide) ?_ ?_
  · refine j_iconst (x := 0) dL_fitted_101 rfl (by decide) ?_
    refine j_goto (tgt := 107) dL_fitted_102 (by decide) ?_
    refine j_sub [1, 2, 3, 4, 5, 6, 0] rfl ?_
    exact jb_lw_fitted_107 _ _ _ _ _ _ hq0 _
  · refine j_iload 7 dL_fitted_105 rfl ?_
    refine j_sub [1, 2, 3, 4, 5, 6, 0] rfl ?_
    exact jb_lw_fitted_107 _ _ _ _ _ _ hq0 _

set_option maxRecDepth 100000 in
set_option maxHeartbeats 4000000 in
theorem jl_lw_fitted_29 {lay : List LK} {q0 : Nat} {p1 : Int}  (x2 x3 x4 : Int) (hq0 : sub lay q0 blkLines)  : ∀ (n : Nat) (x5 x6 : Int) (h : Hp), J mi_lw_fitted encI (Same lay) lay 0 0 29 [(0, vr q0), (1, vi p1), (2, vi x2), (3, vi x3), (4, vi x4), (5, vi x5), (6, vi x6)] [] h (iter2 (lw_fitted_f29 q0 p1 x2 x3 x4) n x5 x6 h) := by
  refine j_iter2 (lf := fun x5 x6 => [(0, vr q0), (1, vi p1), (2, vi x2), (3, vi x3), (4, vi x4), (5, vi x5), (6, vi x6)]) (fun k29 hk29 x5 x6 h => ?_)
  unfold lw_fitted_f29
  refine j_iload 6 dL_fitted_29 rfl ?_
  refine j_if_le (tgt := 47) dL_fitted_31 (by decide) ?_ ?_
  · refine j_iinc 5 (lv' := [(5, vi (x5 + 1)), (0, vr q0), (1, vi p1), (2, vi x2), (3, vi x3), (4, vi x4), (6, vi x6)]) dL_fitted_34 rfl (Nat.le_of_ble_eq_true rfl) rfl ?_
    refine j_iload 6 dL_fitted_37 rfl ?_
    refine j_bipush (x := 10) dL_fitted_39 (by decide) (by decide) ?_
    refine j_idiv dL_fitted_41 ?_
    refine j_istore (lv' := [(6, vi (x6 / 10)), (5, vi (x5 + 1)), (0, vr q0), (1, vi p1), (2, vi x2), (3, vi x3), (4, vi x4)]) dL_fitted_42 (Nat.le_of_ble_eq_true rfl) rfl ?_
    refine j_goto (tgt := 29) dL_fitted_44 (by decide) ?_
    refine j_sub [2, 3, 4, 5, 6, 1, 0] rfl ?_
    exact hk29 _ _ _
  · refine j_iload 5 dL_fitted_47 rfl ?_
    refine j_aload_n 0 dL_fitted_49 rfl ?_
    refine j_bipush (x := 7) dL_fitted_50 (by decide) (by decide) ?_
    refine j_cV (stk := [vi x5]) [vi 7] q0 dL_fitted_52 mv_dl_count lm_L_42 (sub_k hq0 0 rfl rfl) zc_5 (ct_dl_count hq0 h) rfl rfl ⟨⟨Nat.le_of_ble_eq_true rfl, Nat.le_of_ble_eq_true rfl⟩, Nat.le_of_ble_eq_true rfl, Nat.le_of_ble_eq_true rfl⟩ (Nat.le_of_ble_eq_true rfl) rfl rfl (fun r1 h1 _ => ?_)
    refine j_imul dL_fitted_55 ?_
    refine j_istore (lv' := [(6, vi (x5 * r1)), (0, vr q0), (1, vi p1), (2, vi x2), (3, vi x3), (4, vi x4), (5, vi x5)]) dL_fitted_56 (Nat.le_of_ble_eq_true rfl) rfl ?_
    refine j_aload_n 1 dL_fitted_58 rfl ?_
    refine j_bipush (x := 8) dL_fitted_59 (by decide) (by decide) ?_
    refine j_cV (stk := []) [vi 8] q0 dL_fitted_61 mv_dl_count lm_L_42 (sub_k hq0 0 rfl rfl) zc_5 (ct_dl_count hq0 h1) rfl rfl ⟨⟨Nat.le_of_ble_eq_true rfl, Nat.le_of_ble_eq_true rfl⟩, Nat.le_of_ble_eq_true rfl, Nat.le_of_ble_eq_true rfl⟩ (Nat.le_of_ble_eq_true rfl) rfl rfl (fun r2 h2 _ => ?_)
    refine j_istore (lv' := [(7, vi r2), (6, vi (x5 * r1)), (0, vr q0), (1, vi p1), (2, vi x2), (3, vi x3), (4, vi x4), (5, vi x5)]) dL_fitted_64 (Nat.le_of_ble_eq_true rfl) rfl ?_
    refine j_iload 6 dL_fitted_66 rfl ?_
    refine j_iload 1 dL_fitted_68 rfl ?_
    refine j_iconst (x := 2) dL_fitted_70 rfl (by decide) ?_
    refine j_iload 0 dL_fitted_71 rfl ?_
    refine j_imul dL_fitted_73 ?_
    refine j_iadd dL_fitted_74 ?_
    refine j_icmp_lt (tgt := 82) dL_fitted_75 (by decide) ?_ ?_
    · refine j_iload 6 dL_fitted_82 rfl ?_
      refine j_iload 1 dL_fitted_84 rfl ?_
      refine j_icmp_lt (tgt := 93) dL_fitted_86 (by decide) ?_ ?_
      · refine j_iconst (x := 2) dL_fitted_93 rfl (by decide) ?_
        refine j_sub [2, 3, 4, 5, 6, 1, 0] rfl ?_
        exact jb_lw_fitted_94 _ _ _ _ _ _ hq0 _
      · refine j_iconst (x := 1) dL_fitted_89 rfl (by decide) ?_
        refine j_goto (tgt := 94) dL_fitted_90 (by decide) ?_
        refine j_sub [2, 3, 4, 5, 6, 1, 0] rfl ?_
        exact jb_lw_fitted_94 _ _ _ _ _ _ hq0 _
    · refine j_iconst (x := 0) dL_fitted_78 rfl (by decide) ?_
      refine j_goto (tgt := 94) dL_fitted_79 (by decide) ?_
      refine j_sub [2, 3, 4, 5, 6, 1, 0] rfl ?_
      exact jb_lw_fitted_94 _ _ _ _ _ _ hq0 _

set_option maxRecDepth 100000 in
set_option maxHeartbeats 4000000 in
theorem ct_lw_fitted {lay : List LK} {q0 : Nat} {p1 : Int} (hq0 : sub lay q0 blkLines) (h : Hp) : CT mi_lw_fitted encI (Same lay) lay [vr q0, vi p1] h (lw_fitted q0 p1 h) := by
  refine CT.of (by decide) rfl (Nat.le_of_ble_eq_true rfl) ?_
  show J mi_lw_fitted encI (Same lay) lay 0 0 0 [(0, vr q0), (1, vi p1)] [] h _
  unfold lw_fitted
  refine j_aload_n 0 dL_fitted_0 rfl ?_
  refine j_iload_n 1 dL_fitted_1 rfl ?_
  refine j_iconst (x := 0) dL_fitted_2 rfl (by decide) ?_
  refine j_cS (stk := []) [vr q0, vi p1, vi 0] dL_fitted_3 mv_lw_position lm_L_48 (ct_lw_position hq0 h) rfl rfl ⟨⟨Nat.le_of_ble_eq_true rfl, Nat.le_of_ble_eq_true rfl⟩, Nat.le_of_ble_eq_true rfl, Nat.le_of_ble_eq_true rfl⟩ (Nat.le_of_ble_eq_true rfl) rfl rfl (fun r1 h1 _ => ?_)
  refine j_istore_n (lv' := [(2, vi r1), (0, vr q0), (1, vi p1)]) dL_fitted_6 (Nat.le_of_ble_eq_true rfl) rfl ?_
  refine j_aload_n 1 dL_fitted_7 rfl ?_
  refine j_iload_n 2 dL_fitted_8 rfl ?_
  refine j_iconst (x := 1) dL_fitted_9 rfl (by decide) ?_
  refine j_cS (stk := []) [vr q0, vi p1, vi 1] dL_fitted_10 mv_lw_position lm_L_48 (ct_lw_position hq0 h1) rfl rfl ⟨⟨Nat.le_of_ble_eq_true rfl, Nat.le_of_ble_eq_true rfl⟩, Nat.le_of_ble_eq_true rfl, Nat.le_of_ble_eq_true rfl⟩ (Nat.le_of_ble_eq_true rfl) rfl rfl (fun r2 h2 _ => ?_)
  refine j_istore_n (lv' := [(3, vi r2), (2, vi r1), (0, vr q0), (1, vi p1)]) dL_fitted_13 (Nat.le_of_ble_eq_true rfl) rfl ?_
  refine j_iload_n 0 dL_fitted_14 rfl ?_
  refine j_iload_n 1 dL_fitted_15 rfl ?_
  refine j_isub dL_fitted_16 ?_
  refine j_istore (lv' := [(4, vi (r2 - r1)), (3, vi r2), (2, vi r1), (0, vr q0), (1, vi p1)]) dL_fitted_17 (Nat.le_of_ble_eq_true rfl) rfl ?_
  refine j_iconst (x := 1) dL_fitted_19 rfl (by decide) ?_
  refine j_istore (lv' := [(5, vi 1), (4, vi (r2 - r1)), (3, vi r2), (2, vi r1), (0, vr q0), (1, vi p1)]) dL_fitted_20 (Nat.le_of_ble_eq_true rfl) rfl ?_
  refine j_iload 1 dL_fitted_22 rfl ?_
  refine j_bipush (x := 10) dL_fitted_24 (by decide) (by decide) ?_
  refine j_idiv dL_fitted_26 ?_
  refine j_istore (lv' := [(6, vi ((r2 - r1) / 10)), (5, vi 1), (4, vi (r2 - r1)), (3, vi r2), (2, vi r1), (0, vr q0), (1, vi p1)]) dL_fitted_27 (Nat.le_of_ble_eq_true rfl) rfl ?_
  refine j_sub [5, 6, 4, 3, 2, 1, 0] rfl ?_
  exact jl_lw_fitted_29 _ _ _ hq0 fuel _ _ _

set_option maxRecDepth 100000 in
set_option maxHeartbeats 4000000 in
theorem jb_lw_unit_37 {lay : List LK} {q0 : Nat} {p1 : Int}  (x3 : Int) (hq0 : sub lay q0 blkLines) (h : Hp) : J mi_lw_unit encI (Same lay) lay 0 0 37 [(3, vi x3)] [] h (lw_unit_b37 q0 p1 x3 h) := by
  unfold lw_unit_b37
  refine j_iload_n 0 dL_unit_37 rfl ?_
  exact j_retI (h0 := h) (r := 0) rfl rfl rfl dL_unit_38 rfl ⟨Nat.le_refl _, Nat.le_refl _⟩ rfl

set_option maxRecDepth 100000 in
set_option maxHeartbeats 4000000 in
theorem jb_lw_unit_31 {lay : List LK} {q0 : Nat} {p1 : Int} {k9 : Int → Hp → O Int} (x2 x3 : Int) (hq0 : sub lay q0 blkLines) (hk9 : ∀ (x3 : Int) (h : Hp), J mi_lw_unit encI (Same lay) lay 0 0 9 [(0, vr q0), (1, vi p1), (2, vi x2), (3, vi x3)] [] h (k9 x3 h))(h : Hp) : J mi_lw_unit encI (Same lay) lay 0 0 31 [(0, vr q0), (1, vi p1), (2, vi x2), (3, vi x3)] [] h (lw_unit_b31 q0 p1 k9 x2 x3 h) := by
  unfold lw_unit_b31
  refine j_iinc 3 (lv' := [(3, vi (x3 + 1)), (0, vr q0), (1, vi p1), (2, vi x2)]) dL_unit_31 rfl (Nat.le_of_ble_eq_true rfl) rfl ?_
  refine j_goto (tgt := 9) dL_unit_34 (by decide) ?_
  refine j_sub [1, 2, 3, 0] rfl ?_
  exact hk9 _ _

set_option maxRecDepth 100000 in
set_option maxHeartbeats 4000000 in
theorem jl_lw_unit_9 {lay : List LK} {q0 : Nat} {p1 : Int}  (x2 : Int) (hq0 : sub lay q0 blkLines)  : ∀ (n : Nat) (x3 : Int) (h : Hp), J mi_lw_unit encI (Same lay) lay 0 0 9 [(0, vr q0), (1, vi p1), (2, vi x2), (3, vi x3)] [] h (iter1 (lw_unit_f9 q0 p1 x2) n x3 h) := by
  refine j_iter1 (lf := fun x3 => [(0, vr q0), (1, vi p1), (2, vi x2), (3, vi x3)]) (fun k9 hk9 x3 h => ?_)
  unfold lw_unit_f9
  refine j_iload_n 2 dL_unit_9 rfl ?_
  refine j_if_le (tgt := 26) dL_unit_10 (by decide) ?_ ?_
  · refine j_aload_n 0 dL_unit_13 rfl ?_
    refine j_iload_n 3 dL_unit_14 rfl ?_
    refine j_iconst (x := 5) dL_unit_15 rfl (by decide) ?_
    refine j_cV (stk := []) [vi x3, vi 5] q0 dL_unit_16 mv_dl_dimension lm_L_45 (sub_k hq0 0 rfl rfl) zc_5 (ct_dl_dimension hq0 h) rfl rfl ⟨⟨Nat.le_of_ble_eq_true rfl, Nat.le_of_ble_eq_true rfl⟩, Nat.le_of_ble_eq_true rfl, Nat.le_of_ble_eq_true rfl⟩ (Nat.le_of_ble_eq_true rfl) rfl rfl (fun r1 h1 _ => ?_)
    refine j_iload_n 2 dL_unit_19 rfl ?_
    refine j_icmp_eq (tgt := 37) dL_unit_20 (by decide) ?_ ?_
    · refine j_sub [3] rfl ?_
      exact jb_lw_unit_37 _ hq0 _
    · refine j_goto (tgt := 31) dL_unit_23 (by decide) ?_
      exact jb_lw_unit_31 _ _ hq0 hk9 _
  · refine j_iload_n 3 dL_unit_26 rfl ?_
    refine j_iload_n 1 dL_unit_27 rfl ?_
    refine j_icmp_eq (tgt := 37) dL_unit_28 (by decide) ?_ ?_
    · refine j_sub [3] rfl ?_
      exact jb_lw_unit_37 _ hq0 _
    · exact jb_lw_unit_31 _ _ hq0 hk9 _

set_option maxRecDepth 100000 in
set_option maxHeartbeats 4000000 in
theorem ct_lw_unit {lay : List LK} {q0 : Nat} {p1 : Int} (hq0 : sub lay q0 blkLines) (h : Hp) : CT mi_lw_unit encI (Same lay) lay [vr q0, vi p1] h (lw_unit q0 p1 h) := by
  refine CT.of (by decide) rfl (Nat.le_of_ble_eq_true rfl) ?_
  show J mi_lw_unit encI (Same lay) lay 0 0 0 [(0, vr q0), (1, vi p1)] [] h _
  unfold lw_unit
  refine j_aload_n 0 dL_unit_0 rfl ?_
  refine j_iload_n 1 dL_unit_1 rfl ?_
  refine j_iconst (x := 5) dL_unit_2 rfl (by decide) ?_
  refine j_cV (stk := []) [vi p1, vi 5] q0 dL_unit_3 mv_dl_dimension lm_L_45 (sub_k hq0 0 rfl rfl) zc_5 (ct_dl_dimension hq0 h) rfl rfl ⟨⟨Nat.le_of_ble_eq_true rfl, Nat.le_of_ble_eq_true rfl⟩, Nat.le_of_ble_eq_true rfl, Nat.le_of_ble_eq_true rfl⟩ (Nat.le_of_ble_eq_true rfl) rfl rfl (fun r1 h1 _ => ?_)
  refine j_istore_n (lv' := [(2, vi r1), (0, vr q0), (1, vi p1)]) dL_unit_6 (Nat.le_of_ble_eq_true rfl) rfl ?_
  refine j_iconst (x := 0) dL_unit_7 rfl (by decide) ?_
  refine j_istore_n (lv' := [(3, vi 0), (2, vi r1), (0, vr q0), (1, vi p1)]) dL_unit_8 (Nat.le_of_ble_eq_true rfl) rfl ?_
  refine j_sub [2, 3, 1, 0] rfl ?_
  exact jl_lw_unit_9 _ hq0 fuel _ _

set_option maxRecDepth 100000 in
set_option maxHeartbeats 4000000 in
theorem jb_lw_span_92 {lay : List LK} {q0 : Nat} {p1 : Int} {p2 : Int} {k15 : Int → Int → Hp → O Int} (x3 x4 : Int) (hq0 : sub lay q0 blkLines) (hk15 : ∀ (x3 x4 : Int) (h : Hp), J mi_lw_span encI (Same lay) lay 0 0 15 [(0, vr q0), (1, vi p1), (2, vi p2), (3, vi x3), (4, vi x4)] [] h (k15 x3 x4 h))(h : Hp) : J mi_lw_span encI (Same lay) lay 0 0 92 [(0, vr q0), (1, vi p1), (2, vi p2), (3, vi x3), (4, vi x4)] [] h (lw_span_b92 q0 p1 p2 k15 x3 x4 h) := by
  unfold lw_span_b92
  refine j_iinc 4 (lv' := [(4, vi (x4 + 1)), (0, vr q0), (1, vi p1), (2, vi p2), (3, vi x3)]) dL_span_92 rfl (Nat.le_of_ble_eq_true rfl) rfl ?_
  refine j_goto (tgt := 15) dL_span_95 (by decide) ?_
  refine j_sub [1, 2, 3, 4, 0] rfl ?_
  exact hk15 _ _ _

set_option maxRecDepth 100000 in
set_option maxHeartbeats 4000000 in
theorem jb_lw_span_91 {lay : List LK} {q0 : Nat} {p1 : Int} {p2 : Int} {k15 : Int → Int → Hp → O Int} (x4 s0 : Int) (hq0 : sub lay q0 blkLines) (hk15 : ∀ (x3 x4 : Int) (h : Hp), J mi_lw_span encI (Same lay) lay 0 0 15 [(0, vr q0), (1, vi p1), (2, vi p2), (3, vi x3), (4, vi x4)] [] h (k15 x3 x4 h))(h : Hp) : J mi_lw_span encI (Same lay) lay 0 0 91 [(0, vr q0), (1, vi p1), (2, vi p2), (4, vi x4)] [vi s0] h (lw_span_b91 q0 p1 p2 k15 x4 s0 h) := by
  unfold lw_span_b91
  refine j_istore_n (lv' := [(3, vi s0), (0, vr q0), (1, vi p1), (2, vi p2), (4, vi x4)]) dL_span_91 (Nat.le_of_ble_eq_true rfl) rfl ?_
  refine j_sub [1, 2, 3, 0, 4] rfl ?_
  exact jb_lw_span_92 _ _ hq0 hk15 _

set_option maxRecDepth 100000 in
set_option maxHeartbeats 4000000 in
theorem jb_lw_span_58 {lay : List LK} {q0 : Nat} {p1 : Int} {p2 : Int} {k15 : Int → Int → Hp → O Int} (x3 x4 s0 : Int) (hq0 : sub lay q0 blkLines) (hk15 : ∀ (x3 x4 : Int) (h : Hp), J mi_lw_span encI (Same lay) lay 0 0 15 [(0, vr q0), (1, vi p1), (2, vi p2), (3, vi x3), (4, vi x4)] [] h (k15 x3 x4 h))(h : Hp) : J mi_lw_span encI (Same lay) lay 0 0 58 [(0, vr q0), (1, vi p1), (2, vi p2), (3, vi x3), (4, vi x4)] [vi s0] h (lw_span_b58 q0 p1 p2 k15 x3 x4 s0 h) := by
  unfold lw_span_b58
  refine j_istore (lv' := [(5, vi s0), (0, vr q0), (1, vi p1), (2, vi p2), (3, vi x3), (4, vi x4)]) dL_span_58 (Nat.le_of_ble_eq_true rfl) rfl ?_
  refine j_iload_n 3 dL_span_60 rfl ?_
  refine j_if_ne (tgt := 79) dL_span_61 (by decide) ?_ ?_
  · refine j_iload 0 dL_span_64 rfl ?_
    refine j_iload_n 4 dL_span_66 rfl ?_
    refine j_icmp_ge (tgt := 75) dL_span_67 (by decide) ?_ ?_
    · refine j_iload 0 dL_span_70 rfl ?_
      refine j_goto (tgt := 91) dL_span_72 (by decide) ?_
      refine j_sub [1, 2, 3, 5] rfl ?_
      exact jb_lw_span_91 _ _ hq0 hk15 _
    · refine j_iload_n 4 dL_span_75 rfl ?_
      refine j_goto (tgt := 91) dL_span_76 (by decide) ?_
      refine j_sub [1, 2, 3, 5] rfl ?_
      exact jb_lw_span_91 _ _ hq0 hk15 _
  · refine j_iload 0 dL_span_79 rfl ?_
    refine j_iload_n 4 dL_span_81 rfl ?_
    refine j_icmp_le (tgt := 90) dL_span_82 (by decide) ?_ ?_
    · refine j_iload 0 dL_span_85 rfl ?_
      refine j_goto (tgt := 91) dL_span_87 (by decide) ?_
      refine j_sub [1, 2, 3, 5] rfl ?_
      exact jb_lw_span_91 _ _ hq0 hk15 _
    · refine j_iload_n 4 dL_span_90 rfl ?_
      refine j_sub [1, 2, 3, 5] rfl ?_
      exact jb_lw_span_91 _ _ hq0 hk15 _

set_option maxRecDepth 100000 in
set_option maxHeartbeats 4000000 in
theorem jl_lw_span_15 {lay : List LK} {q0 : Nat} {p1 : Int} {p2 : Int}  (hq0 : sub lay q0 blkLines)  : ∀ (n : Nat) (x3 x4 : Int) (h : Hp), J mi_lw_span encI (Same lay) lay 0 0 15 [(0, vr q0), (1, vi p1), (2, vi p2), (3, vi x3), (4, vi x4)] [] h (iter2 (lw_span_f15 q0 p1 p2) n x3 x4 h) := by
  refine j_iter2 (lf := fun x3 x4 => [(0, vr q0), (1, vi p1), (2, vi p2), (3, vi x3), (4, vi x4)]) (fun k15 hk15 x3 x4 h => ?_)
  unfold lw_span_f15
  refine j_iload 4 dL_span_15 rfl ?_
  refine j_aload_n 0 dL_span_17 rfl ?_
  refine j_iconst (x := 1) dL_span_18 rfl (by decide) ?_
  refine j_cV (stk := [vi x4]) [vi 1] q0 dL_span_19 mv_dl_count lm_L_42 (sub_k hq0 0 rfl rfl) zc_5 (ct_dl_count hq0 h) rfl rfl ⟨⟨Nat.le_of_ble_eq_true rfl, Nat.le_of_ble_eq_true rfl⟩, Nat.le_of_ble_eq_true rfl, Nat.le_of_ble_eq_true rfl⟩ (Nat.le_of_ble_eq_true rfl) rfl rfl (fun r1 h1 _ => ?_)
  refine j_icmp_ge (tgt := 98) dL_span_22 (by decide) ?_ ?_
  · refine j_aload_n 0 dL_span_25 rfl ?_
    refine j_iload 4 dL_span_26 rfl ?_
    refine j_cS (stk := []) [vr q0, vi x4] dL_span_28 mv_lw_unit lm_L_52 (ct_lw_unit hq0 h1) rfl rfl ⟨⟨Nat.le_of_ble_eq_true rfl, Nat.le_of_ble_eq_true rfl⟩, Nat.le_of_ble_eq_true rfl, Nat.le_of_ble_eq_true rfl⟩ (Nat.le_of_ble_eq_true rfl) rfl rfl (fun r2 h2 _ => ?_)
    refine j_iload_n 1 dL_span_31 rfl ?_
    refine j_icmp_ne (tgt := 92) dL_span_32 (by decide) ?_ ?_
    · refine j_iload_n 2 dL_span_35 rfl ?_
      refine j_iconst (x := 2) dL_span_36 rfl (by decide) ?_
      refine j_icmp_ne (tgt := 51) dL_span_37 (by decide) ?_ ?_
      · refine j_aload_n 0 dL_span_40 rfl ?_
        refine j_iload 4 dL_span_41 rfl ?_
        refine j_bipush (x := 6) dL_span_43 (by decide) (by decide) ?_
        refine j_cV (stk := []) [vi x4, vi 6] q0 dL_span_45 mv_dl_dimension lm_L_45 (sub_k hq0 0 rfl rfl) zc_5 (ct_dl_dimension hq0 h2) rfl rfl ⟨⟨Nat.le_of_ble_eq_true rfl, Nat.le_of_ble_eq_true rfl⟩, Nat.le_of_ble_eq_true rfl, Nat.le_of_ble_eq_true rfl⟩ (Nat.le_of_ble_eq_true rfl) rfl rfl (fun r3 h3 _ => ?_)
        refine j_goto (tgt := 58) dL_span_48 (by decide) ?_
        exact jb_lw_span_58 _ _ _ hq0 hk15 _
      · refine j_aload_n 0 dL_span_51 rfl ?_
        refine j_iload 4 dL_span_52 rfl ?_
        refine j_iload_n 2 dL_span_54 rfl ?_
        refine j_cS (stk := []) [vr q0, vi x4, vi p2] dL_span_55 mv_lw_position lm_L_48 (ct_lw_position hq0 h2) rfl rfl ⟨⟨Nat.le_of_ble_eq_true rfl, Nat.le_of_ble_eq_true rfl⟩, Nat.le_of_ble_eq_true rfl, Nat.le_of_ble_eq_true rfl⟩ (Nat.le_of_ble_eq_true rfl) rfl rfl (fun r4 h4 _ => ?_)
        exact jb_lw_span_58 _ _ _ hq0 hk15 _
    · exact jb_lw_span_92 _ _ hq0 hk15 _
  · refine j_iload_n 3 dL_span_98 rfl ?_
    exact j_retI (h0 := h1) (r := 0) rfl rfl rfl dL_span_99 rfl ⟨Nat.le_refl _, Nat.le_refl _⟩ rfl

set_option maxRecDepth 100000 in
set_option maxHeartbeats 4000000 in
theorem jb_lw_span_11 {lay : List LK} {q0 : Nat} {p1 : Int} {p2 : Int}  (s0 : Int) (hq0 : sub lay q0 blkLines) (h : Hp) : J mi_lw_span encI (Same lay) lay 0 0 11 [(0, vr q0), (1, vi p1), (2, vi p2)] [vi s0] h (lw_span_b11 q0 p1 p2 s0 h) := by
  unfold lw_span_b11
  refine j_istore_n (lv' := [(3, vi s0), (0, vr q0), (1, vi p1), (2, vi p2)]) dL_span_11 (Nat.le_of_ble_eq_true rfl) rfl ?_
  refine j_iconst (x := 0) dL_span_12 rfl (by decide) ?_
  refine j_istore (lv' := [(4, vi 0), (3, vi s0), (0, vr q0), (1, vi p1), (2, vi p2)]) dL_span_13 (Nat.le_of_ble_eq_true rfl) rfl ?_
  refine j_sub [2, 3, 4, 1, 0] rfl ?_
  exact jl_lw_span_15 hq0 fuel _ _ _

set_option maxRecDepth 100000 in
set_option maxHeartbeats 4000000 in
theorem ct_lw_span {lay : List LK} {q0 : Nat} {p1 : Int} {p2 : Int} (hq0 : sub lay q0 blkLines) (h : Hp) : CT mi_lw_span encI (Same lay) lay [vr q0, vi p1, vi p2] h (lw_span q0 p1 p2 h) := by
  refine CT.of (by decide) rfl (Nat.le_of_ble_eq_true rfl) ?_
  show J mi_lw_span encI (Same lay) lay 0 0 0 [(0, vr q0), (1, vi p1), (2, vi p2)] [] h _
  unfold lw_span
  refine j_iload_n 2 dL_span_0 rfl ?_
  refine j_if_ne (tgt := 10) dL_span_1 (by decide) ?_ ?_
  · refine j_sipush (x := 1000) dL_span_4 (by decide) (by decide) ?_
    refine j_goto (tgt := 11) dL_span_7 (by decide) ?_
    exact jb_lw_span_11 _ hq0 _
  · refine j_iconst (x := 0) dL_span_10 rfl (by decide) ?_
    exact jb_lw_span_11 _ hq0 _

set_option maxRecDepth 100000 in
set_option maxHeartbeats 4000000 in
theorem jb_lw_isTaken_126 {lay : List LK} {q0 : Nat} {p1 : Int} {p2 : Int} {p3 : Int} {q4 : Nat} {n4 : Nat} {k19 : Int → Int → Hp → O Int} (x6 x7 s0 : Int) (hq0 : sub lay q0 blkLines) (hq4 : lay[q4]? = some (0, n4, 0, 0)) (hn4 : inR (n4 : Int)) (hk19 : ∀ (x5 x7 : Int) (h : Hp), J mi_lw_isTaken encI (Same lay) lay 0 0 19 [(0, vr q0), (1, vi p1), (2, vi p2), (3, vi p3), (4, vr q4), (5, vi x5), (6, vi x6), (7, vi x7)] [] h (k19 x5 x7 h))(h : Hp) : J mi_lw_isTaken encI (Same lay) lay 0 0 126 [(0, vr q0), (1, vi p1), (2, vi p2), (3, vi p3), (4, vr q4), (6, vi x6), (7, vi x7)] [vi s0] h (lw_isTaken_b126 q0 p1 p2 p3 q4 n4 k19 x6 x7 s0 h) := by
  unfold lw_isTaken_b126
  refine j_istore (lv' := [(5, vi s0), (0, vr q0), (1, vi p1), (2, vi p2), (3, vi p3), (4, vr q4), (6, vi x6), (7, vi x7)]) dL_isTaken_126 (Nat.le_of_ble_eq_true rfl) rfl ?_
  refine j_iinc 7 (lv' := [(7, vi (x7 + 1)), (5, vi s0), (0, vr q0), (1, vi p1), (2, vi p2), (3, vi p3), (4, vr q4), (6, vi x6)]) dL_isTaken_128 rfl (Nat.le_of_ble_eq_true rfl) rfl ?_
  refine j_goto (tgt := 19) dL_isTaken_131 (by decide) ?_
  refine j_sub [2, 3, 4, 5, 6, 1, 7, 0] rfl ?_
  exact hk19 _ _ _

set_option maxRecDepth 100000 in
set_option maxHeartbeats 4000000 in
theorem jb_lw_isTaken_125 {lay : List LK} {q0 : Nat} {p1 : Int} {p2 : Int} {p3 : Int} {q4 : Nat} {n4 : Nat} {k19 : Int → Int → Hp → O Int} (x6 x7 : Int) (hq0 : sub lay q0 blkLines) (hq4 : lay[q4]? = some (0, n4, 0, 0)) (hn4 : inR (n4 : Int)) (hk19 : ∀ (x5 x7 : Int) (h : Hp), J mi_lw_isTaken encI (Same lay) lay 0 0 19 [(0, vr q0), (1, vi p1), (2, vi p2), (3, vi p3), (4, vr q4), (5, vi x5), (6, vi x6), (7, vi x7)] [] h (k19 x5 x7 h))(h : Hp) : J mi_lw_isTaken encI (Same lay) lay 0 0 125 [(0, vr q0), (1, vi p1), (2, vi p2), (3, vi p3), (4, vr q4), (6, vi x6), (7, vi x7)] [] h (lw_isTaken_b125 q0 p1 p2 p3 q4 n4 k19 x6 x7 h) := by
  unfold lw_isTaken_b125
  refine j_iconst (x := 0) dL_isTaken_125 rfl (by decide) ?_
  exact jb_lw_isTaken_126 _ _ _ hq0 hq4 hn4 hk19 _

set_option maxRecDepth 100000 in
set_option maxHeartbeats 4000000 in
theorem jb_lw_isTaken_121 {lay : List LK} {q0 : Nat} {p1 : Int} {p2 : Int} {p3 : Int} {q4 : Nat} {n4 : Nat} {k19 : Int → Int → Hp → O Int} (x6 x7 : Int) (hq0 : sub lay q0 blkLines) (hq4 : lay[q4]? = some (0, n4, 0, 0)) (hn4 : inR (n4 : Int)) (hk19 : ∀ (x5 x7 : Int) (h : Hp), J mi_lw_isTaken encI (Same lay) lay 0 0 19 [(0, vr q0), (1, vi p1), (2, vi p2), (3, vi p3), (4, vr q4), (5, vi x5), (6, vi x6), (7, vi x7)] [] h (k19 x5 x7 h))(h : Hp) : J mi_lw_isTaken encI (Same lay) lay 0 0 121 [(0, vr q0), (1, vi p1), (2, vi p2), (3, vi p3), (4, vr q4), (6, vi x6), (7, vi x7)] [] h (lw_isTaken_b121 q0 p1 p2 p3 q4 n4 k19 x6 x7 h) := by
  unfold lw_isTaken_b121
  refine j_iconst (x := 1) dL_isTaken_121 rfl (by decide) ?_
  refine j_goto (tgt := 126) dL_isTaken_122 (by decide) ?_
  exact jb_lw_isTaken_126 _ _ _ hq0 hq4 hn4 hk19 _

set_option maxRecDepth 100000 in
set_option maxHeartbeats 4000000 in
theorem jb_lw_isTaken_71 {lay : List LK} {q0 : Nat} {p1 : Int} {p2 : Int} {p3 : Int} {q4 : Nat} {n4 : Nat} {k19 : Int → Int → Hp → O Int} (x5 x6 x7 s0 : Int) (hq0 : sub lay q0 blkLines) (hq4 : lay[q4]? = some (0, n4, 0, 0)) (hn4 : inR (n4 : Int)) (hk19 : ∀ (x5 x7 : Int) (h : Hp), J mi_lw_isTaken encI (Same lay) lay 0 0 19 [(0, vr q0), (1, vi p1), (2, vi p2), (3, vi p3), (4, vr q4), (5, vi x5), (6, vi x6), (7, vi x7)] [] h (k19 x5 x7 h))(h : Hp) : J mi_lw_isTaken encI (Same lay) lay 0 0 71 [(0, vr q0), (1, vi p1), (2, vi p2), (3, vi p3), (4, vr q4), (5, vi x5), (6, vi x6), (7, vi x7)] [vi s0] h (lw_isTaken_b71 q0 p1 p2 p3 q4 n4 k19 x5 x6 x7 s0 h) := by
  unfold lw_isTaken_b71
  refine j_istore (lv' := [(9, vi s0), (0, vr q0), (1, vi p1), (2, vi p2), (3, vi p3), (4, vr q4), (5, vi x5), (6, vi x6), (7, vi x7)]) dL_isTaken_71 (Nat.le_of_ble_eq_true rfl) rfl ?_
  refine j_iload 6 dL_isTaken_73 rfl ?_
  refine j_if_ne (tgt := 121) dL_isTaken_75 (by decide) ?_ ?_
  · refine j_iload 0 dL_isTaken_78 rfl ?_
    refine j_if_eq (tgt := 125) dL_isTaken_80 (by decide) ?_ ?_
    · refine j_sub [1, 2, 3, 4, 5, 7, 8] rfl ?_
      exact jb_lw_isTaken_125 _ _ hq0 hq4 hn4 hk19 _
    · refine j_aload_n 1 dL_isTaken_83 rfl ?_
      refine j_iload 7 dL_isTaken_84 rfl ?_
      refine j_bipush (x := 8) dL_isTaken_86 (by decide) (by decide) ?_
      refine j_cV (stk := []) [vi x6, vi 8] q0 dL_isTaken_88 mv_dl_dimension lm_L_45 (sub_k hq0 0 rfl rfl) zc_5 (ct_dl_dimension hq0 h) rfl rfl ⟨⟨Nat.le_of_ble_eq_true rfl, Nat.le_of_ble_eq_true rfl⟩, Nat.le_of_ble_eq_true rfl, Nat.le_of_ble_eq_true rfl⟩ (Nat.le_of_ble_eq_true rfl) rfl rfl (fun r1 h1 _ => ?_)
      refine j_aload_n 1 dL_isTaken_91 rfl ?_
      refine j_iload 8 dL_isTaken_92 rfl ?_
      refine j_bipush (x := 9) dL_isTaken_94 (by decide) (by decide) ?_
      refine j_cV (stk := [vi r1]) [vi x7, vi 9] q0 dL_isTaken_96 mv_dl_dimension lm_L_45 (sub_k hq0 0 rfl rfl) zc_5 (ct_dl_dimension hq0 h1) rfl rfl ⟨⟨Nat.le_of_ble_eq_true rfl, Nat.le_of_ble_eq_true rfl⟩, Nat.le_of_ble_eq_true rfl, Nat.le_of_ble_eq_true rfl⟩ (Nat.le_of_ble_eq_true rfl) rfl rfl (fun r2 h2 _ => ?_)
      refine j_icmp_gt (tgt := 125) dL_isTaken_99 (by decide) ?_ ?_
      · refine j_sub [1, 2, 3, 4, 5, 7, 8] rfl ?_
        exact jb_lw_isTaken_125 _ _ hq0 hq4 hn4 hk19 _
      · refine j_aload_n 1 dL_isTaken_102 rfl ?_
        refine j_iload 8 dL_isTaken_103 rfl ?_
        refine j_bipush (x := 8) dL_isTaken_105 (by decide) (by decide) ?_
        refine j_cV (stk := []) [vi x7, vi 8] q0 dL_isTaken_107 mv_dl_dimension lm_L_45 (sub_k hq0 0 rfl rfl) zc_5 (ct_dl_dimension hq0 h2) rfl rfl ⟨⟨Nat.le_of_ble_eq_true rfl, Nat.le_of_ble_eq_true rfl⟩, Nat.le_of_ble_eq_true rfl, Nat.le_of_ble_eq_true rfl⟩ (Nat.le_of_ble_eq_true rfl) rfl rfl (fun r3 h3 _ => ?_)
        refine j_aload_n 1 dL_isTaken_110 rfl ?_
        refine j_iload 7 dL_isTaken_111 rfl ?_
        refine j_bipush (x := 9) dL_isTaken_113 (by decide) (by decide) ?_
        refine j_cV (stk := [vi r3]) [vi x6, vi 9] q0 dL_isTaken_115 mv_dl_dimension lm_L_45 (sub_k hq0 0 rfl rfl) zc_5 (ct_dl_dimension hq0 h3) rfl rfl ⟨⟨Nat.le_of_ble_eq_true rfl, Nat.le_of_ble_eq_true rfl⟩, Nat.le_of_ble_eq_true rfl, Nat.le_of_ble_eq_true rfl⟩ (Nat.le_of_ble_eq_true rfl) rfl rfl (fun r4 h4 _ => ?_)
        refine j_icmp_gt (tgt := 125) dL_isTaken_118 (by decide) ?_ ?_
        · refine j_sub [1, 2, 3, 4, 5, 7, 8] rfl ?_
          exact jb_lw_isTaken_125 _ _ hq0 hq4 hn4 hk19 _
        · refine j_sub [1, 2, 3, 4, 5, 7, 8] rfl ?_
          exact jb_lw_isTaken_121 _ _ hq0 hq4 hn4 hk19 _
  · refine j_sub [1, 2, 3, 4, 5, 7, 8] rfl ?_
    exact jb_lw_isTaken_121 _ _ hq0 hq4 hn4 hk19 _

set_option maxRecDepth 100000 in
set_option maxHeartbeats 4000000 in
theorem jb_lw_isTaken_70 {lay : List LK} {q0 : Nat} {p1 : Int} {p2 : Int} {p3 : Int} {q4 : Nat} {n4 : Nat} {k19 : Int → Int → Hp → O Int} (x5 x6 x7 : Int) (hq0 : sub lay q0 blkLines) (hq4 : lay[q4]? = some (0, n4, 0, 0)) (hn4 : inR (n4 : Int)) (hk19 : ∀ (x5 x7 : Int) (h : Hp), J mi_lw_isTaken encI (Same lay) lay 0 0 19 [(0, vr q0), (1, vi p1), (2, vi p2), (3, vi p3), (4, vr q4), (5, vi x5), (6, vi x6), (7, vi x7)] [] h (k19 x5 x7 h))(h : Hp) : J mi_lw_isTaken encI (Same lay) lay 0 0 70 [(0, vr q0), (1, vi p1), (2, vi p2), (3, vi p3), (4, vr q4), (5, vi x5), (6, vi x6), (7, vi x7)] [] h (lw_isTaken_b70 q0 p1 p2 p3 q4 n4 k19 x5 x6 x7 h) := by
  unfold lw_isTaken_b70
  refine j_iconst (x := 0) dL_isTaken_70 rfl (by decide) ?_
  exact jb_lw_isTaken_71 _ _ _ _ hq0 hq4 hn4 hk19 _

set_option maxRecDepth 100000 in
set_option maxHeartbeats 4000000 in
theorem jl_lw_isTaken_19 {lay : List LK} {q0 : Nat} {p1 : Int} {p2 : Int} {p3 : Int} {q4 : Nat} {n4 : Nat} {k6 : Int → Int → Hp → O Int} (x6 : Int) (hq0 : sub lay q0 blkLines) (hq4 : lay[q4]? = some (0, n4, 0, 0)) (hn4 : inR (n4 : Int)) (hk6 : ∀ (x5 x6 : Int) (h : Hp), J mi_lw_isTaken encI (Same lay) lay 0 0 6 [(0, vr q0), (1, vi p1), (2, vi p2), (3, vi p3), (4, vr q4), (5, vi x5), (6, vi x6)] [] h (k6 x5 x6 h)) : ∀ (n : Nat) (x5 x7 : Int) (h : Hp), J mi_lw_isTaken encI (Same lay) lay 0 0 19 [(0, vr q0), (1, vi p1), (2, vi p2), (3, vi p3), (4, vr q4), (5, vi x5), (6, vi x6), (7, vi x7)] [] h (iter2 (lw_isTaken_f19 q0 p1 p2 p3 q4 n4 k6 x6) n x5 x7 h) := by
  refine j_iter2 (lf := fun x5 x7 => [(0, vr q0), (1, vi p1), (2, vi p2), (3, vi p3), (4, vr q4), (5, vi x5), (6, vi x6), (7, vi x7)]) (fun k19 hk19 x5 x7 h => ?_)
  unfold lw_isTaken_f19
  refine j_iload 7 dL_isTaken_19 rfl ?_
  refine j_aload_n 0 dL_isTaken_21 rfl ?_
  refine j_iconst (x := 1) dL_isTaken_22 rfl (by decide) ?_
  refine j_cV (stk := [vi x7]) [vi 1] q0 dL_isTaken_23 mv_dl_count lm_L_42 (sub_k hq0 0 rfl rfl) zc_5 (ct_dl_count hq0 h) rfl rfl ⟨⟨Nat.le_of_ble_eq_true rfl, Nat.le_of_ble_eq_true rfl⟩, Nat.le_of_ble_eq_true rfl, Nat.le_of_ble_eq_true rfl⟩ (Nat.le_of_ble_eq_true rfl) rfl rfl (fun r1 h1 _ => ?_)
  refine j_icmp_ge (tgt := 134) dL_isTaken_26 (by decide) ?_ ?_
  · refine j_aload_n 0 dL_isTaken_29 rfl ?_
    refine j_iload 7 dL_isTaken_30 rfl ?_
    refine j_cS (stk := []) [vr q0, vi x7] dL_isTaken_32 mv_lw_unit lm_L_52 (ct_lw_unit hq0 h1) rfl rfl ⟨⟨Nat.le_of_ble_eq_true rfl, Nat.le_of_ble_eq_true rfl⟩, Nat.le_of_ble_eq_true rfl, Nat.le_of_ble_eq_true rfl⟩ (Nat.le_of_ble_eq_true rfl) rfl rfl (fun r2 h2 _ => ?_)
    refine j_istore (lv' := [(8, vi r2), (0, vr q0), (1, vi p1), (2, vi p2), (3, vi p3), (4, vr q4), (5, vi x5), (6, vi x6), (7, vi x7)]) dL_isTaken_35 (Nat.le_of_ble_eq_true rfl) rfl ?_
    refine j_aload_n 1 dL_isTaken_37 rfl ?_
    refine j_iload 7 dL_isTaken_38 rfl ?_
    refine j_cS (stk := []) [vr q0, vi x6] dL_isTaken_40 mv_lw_unit lm_L_52 (ct_lw_unit hq0 h2) rfl rfl ⟨⟨Nat.le_of_ble_eq_true rfl, Nat.le_of_ble_eq_true rfl⟩, Nat.le_of_ble_eq_true rfl, Nat.le_of_ble_eq_true rfl⟩ (Nat.le_of_ble_eq_true rfl) rfl rfl (fun r3 h3 _ => ?_)
    refine j_iload_n 2 dL_isTaken_43 rfl ?_
    refine j_icmp_ne (tgt := 70) dL_isTaken_44 (by decide) ?_ ?_
    · refine j_iload_n 4 dL_isTaken_47 rfl ?_
      refine j_iload 0 dL_isTaken_48 rfl ?_
      refine j_ishr dL_isTaken_50 ?_
      refine j_iconst (x := 1) dL_isTaken_51 rfl (by decide) ?_
      refine j_iand 1 2 dL_isTaken_52 (by decide) (by decide) rfl (by decide) ?_
      refine j_iconst (x := 1) dL_isTaken_53 rfl (by decide) ?_
      refine j_icmp_ne (tgt := 70) dL_isTaken_54 (by decide) ?_ ?_
      · refine j_aload 5 dL_isTaken_57 rfl ?_
        refine j_iload 0 dL_isTaken_59 rfl ?_
        refine j_iald dL_isTaken_61 hq4 rfl ?_
        refine j_iload_n 3 dL_isTaken_62 rfl ?_
        refine j_icmp_ne (tgt := 70) dL_isTaken_63 (by decide) ?_ ?_
        · refine j_iconst (x := 1) dL_isTaken_66 rfl (by decide) ?_
          refine j_goto (tgt := 71) dL_isTaken_67 (by decide) ?_
          refine j_sub [1, 2, 3, 4, 5, 6, 7, 8] rfl ?_
          exact jb_lw_isTaken_71 _ _ _ _ hq0 hq4 hn4 hk19 _
        · refine j_sub [1, 2, 3, 4, 5, 6, 7, 8] rfl ?_
          exact jb_lw_isTaken_70 _ _ _ hq0 hq4 hn4 hk19 _
      · refine j_sub [1, 2, 3, 4, 5, 6, 7, 8] rfl ?_
        exact jb_lw_isTaken_70 _ _ _ hq0 hq4 hn4 hk19 _
    · refine j_sub [1, 2, 3, 4, 5, 6, 7, 8] rfl ?_
      exact jb_lw_isTaken_70 _ _ _ hq0 hq4 hn4 hk19 _
  · refine j_iinc 6 (lv' := [(6, vi (x6 + 1)), (0, vr q0), (1, vi p1), (2, vi p2), (3, vi p3), (4, vr q4), (5, vi x5), (7, vi x7)]) dL_isTaken_134 rfl (Nat.le_of_ble_eq_true rfl) rfl ?_
    refine j_goto (tgt := 6) dL_isTaken_137 (by decide) ?_
    refine j_sub [1, 2, 3, 4, 5, 6, 0] rfl ?_
    exact hk6 _ _ _

set_option maxRecDepth 100000 in
set_option maxHeartbeats 4000000 in
theorem jl_lw_isTaken_6 {lay : List LK} {q0 : Nat} {p1 : Int} {p2 : Int} {p3 : Int} {q4 : Nat} {n4 : Nat}  (hq0 : sub lay q0 blkLines) (hq4 : lay[q4]? = some (0, n4, 0, 0)) (hn4 : inR (n4 : Int))  : ∀ (n : Nat) (x5 x6 : Int) (h : Hp), J mi_lw_isTaken encI (Same lay) lay 0 0 6 [(0, vr q0), (1, vi p1), (2, vi p2), (3, vi p3), (4, vr q4), (5, vi x5), (6, vi x6)] [] h (iter2 (lw_isTaken_f6 q0 p1 p2 p3 q4 n4) n x5 x6 h) := by
  refine j_iter2 (lf := fun x5 x6 => [(0, vr q0), (1, vi p1), (2, vi p2), (3, vi p3), (4, vr q4), (5, vi x5), (6, vi x6)]) (fun k6 hk6 x5 x6 h => ?_)
  unfold lw_isTaken_f6
  refine j_iload 6 dL_isTaken_6 rfl ?_
  refine j_aload_n 0 dL_isTaken_8 rfl ?_
  refine j_iconst (x := 1) dL_isTaken_9 rfl (by decide) ?_
  refine j_cV (stk := [vi x6]) [vi 1] q0 dL_isTaken_10 mv_dl_count lm_L_42 (sub_k hq0 0 rfl rfl) zc_5 (ct_dl_count hq0 h) rfl rfl ⟨⟨Nat.le_of_ble_eq_true rfl, Nat.le_of_ble_eq_true rfl⟩, Nat.le_of_ble_eq_true rfl, Nat.le_of_ble_eq_true rfl⟩ (Nat.le_of_ble_eq_true rfl) rfl rfl (fun r1 h1 _ => ?_)
  refine j_icmp_ge (tgt := 140) dL_isTaken_13 (by decide) ?_ ?_
  · refine j_iconst (x := 0) dL_isTaken_16 rfl (by decide) ?_
    refine j_istore (lv' := [(7, vi 0), (0, vr q0), (1, vi p1), (2, vi p2), (3, vi p3), (4, vr q4), (5, vi x5), (6, vi x6)]) dL_isTaken_17 (Nat.le_of_ble_eq_true rfl) rfl ?_
    refine j_sub [1, 2, 3, 4, 5, 6, 7, 0] rfl ?_
    exact jl_lw_isTaken_19 _ hq0 hq4 hn4 hk6 fuel _ _ _
  · refine j_iload 5 dL_isTaken_140 rfl ?_
    exact j_retZ rfl rfl rfl dL_isTaken_142 rfl ⟨Nat.le_refl _, Nat.le_refl _⟩ rfl

set_option maxRecDepth 100000 in
set_option maxHeartbeats 4000000 in
theorem ct_lw_isTaken {lay : List LK} {q0 : Nat} {p1 : Int} {p2 : Int} {p3 : Int} {q4 : Nat} {n4 : Nat} (hq0 : sub lay q0 blkLines) (hq4 : lay[q4]? = some (0, n4, 0, 0)) (hn4 : inR (n4 : Int)) (h : Hp) : CT mi_lw_isTaken encI (Same lay) lay [vr q0, vi p1, vi p2, vi p3, vr q4] h (lw_isTaken q0 p1 p2 p3 q4 n4 h) := by
  refine CT.of (by decide) rfl (Nat.le_of_ble_eq_true rfl) ?_
  show J mi_lw_isTaken encI (Same lay) lay 0 0 0 [(0, vr q0), (1, vi p1), (2, vi p2), (3, vi p3), (4, vr q4)] [] h _
  unfold lw_isTaken
  refine j_iconst (x := 0) dL_isTaken_0 rfl (by decide) ?_
  refine j_istore (lv' := [(5, vi 0), (0, vr q0), (1, vi p1), (2, vi p2), (3, vi p3), (4, vr q4)]) dL_isTaken_1 (Nat.le_of_ble_eq_true rfl) rfl ?_
  refine j_iconst (x := 0) dL_isTaken_3 rfl (by decide) ?_
  refine j_istore (lv' := [(6, vi 0), (5, vi 0), (0, vr q0), (1, vi p1), (2, vi p2), (3, vi p3), (4, vr q4)]) dL_isTaken_4 (Nat.le_of_ble_eq_true rfl) rfl ?_
  refine j_sub [2, 3, 4, 5, 6, 1, 0] rfl ?_
  exact jl_lw_isTaken_6 hq0 hq4 hn4 fuel _ _ _

set_option maxRecDepth 100000 in
set_option maxHeartbeats 4000000 in
theorem jb_lw_reach_219 {lay : List LK} {q0 : Nat} {p1 : Int} {p2 : Int} {p3 : Int} {q4 : Nat} {n4 : Nat} {k49 : Int → Hp → O Unit} (x5 x6 : Int) (hq0 : sub lay q0 blkLines) (hq4 : lay[q4]? = some (0, n4, 0, 0)) (hn4 : inR (n4 : Int)) (hk49 : ∀ (x6 : Int) (h : Hp), J mi_lw_reach encV (Same lay) lay 0 0 49 [(0, vr q0), (2, vi p2), (3, vi p3), (4, vr q4), (5, vi x5), (6, vi x6)] [] h (k49 x6 h))(h : Hp) : J mi_lw_reach encV (Same lay) lay 0 0 219 [(0, vr q0), (2, vi p2), (3, vi p3), (4, vr q4), (5, vi x5), (6, vi x6)] [] h (lw_reach_b219 q0 p1 p2 p3 q4 n4 k49 x5 x6 h) := by
  unfold lw_reach_b219
  refine j_iinc 5 (lv' := [(6, vi (x6 + 1)), (0, vr q0), (2, vi p2), (3, vi p3), (4, vr q4), (5, vi x5)]) dL_reach_219 rfl (Nat.le_of_ble_eq_true rfl) rfl ?_
  refine j_goto (tgt := 49) dL_reach_222 (by decide) ?_
  refine j_sub [1, 2, 3, 4, 5, 0] rfl ?_
  exact hk49 _ _

set_option maxRecDepth 100000 in
set_option maxHeartbeats 4000000 in
theorem jb_lw_reach_218 {lay : List LK} {q0 : Nat} {p1 : Int} {p2 : Int} {p3 : Int} {q4 : Nat} {n4 : Nat} {k49 : Int → Hp → O Unit} (x5 x6 s0 s1 : Int) (hq0 : sub lay q0 blkLines) (hq4 : lay[q4]? = some (0, n4, 0, 0)) (hn4 : inR (n4 : Int)) (hk49 : ∀ (x6 : Int) (h : Hp), J mi_lw_reach encV (Same lay) lay 0 0 49 [(0, vr q0), (2, vi p2), (3, vi p3), (4, vr q4), (5, vi x5), (6, vi x6)] [] h (k49 x6 h))(h : Hp) : J mi_lw_reach encV (Same lay) lay 0 0 218 [(0, vr q0), (2, vi p2), (3, vi p3), (4, vr q4), (5, vi x5), (6, vi x6)] [vi s0, vi s1, vr q4] h (lw_reach_b218 q0 p1 p2 p3 q4 n4 k49 x5 x6 s0 s1 h) := by
  unfold lw_reach_b218
  refine j_iast dL_reach_218 hq4 rfl (fun h1 _ => ?_)
  exact jb_lw_reach_219 _ _ hq0 hq4 hn4 hk49 _

set_option maxRecDepth 100000 in
set_option maxHeartbeats 4000000 in
theorem jb_lw_reach_213 {lay : List LK} {q0 : Nat} {p1 : Int} {p2 : Int} {p3 : Int} {q4 : Nat} {n4 : Nat} {k49 : Int → Hp → O Unit} (x5 x6 x7 s0 : Int) (hq0 : sub lay q0 blkLines) (hq4 : lay[q4]? = some (0, n4, 0, 0)) (hn4 : inR (n4 : Int)) (hk49 : ∀ (x6 : Int) (h : Hp), J mi_lw_reach encV (Same lay) lay 0 0 49 [(0, vr q0), (2, vi p2), (3, vi p3), (4, vr q4), (5, vi x5), (6, vi x6)] [] h (k49 x6 h))(h : Hp) : J mi_lw_reach encV (Same lay) lay 0 0 213 [(0, vr q0), (2, vi p2), (3, vi p3), (4, vr q4), (5, vi x5), (6, vi x6), (7, vi x7)] [vi s0, vr q4] h (lw_reach_b213 q0 p1 p2 p3 q4 n4 k49 x5 x6 x7 s0 h) := by
  unfold lw_reach_b213
  refine j_aload 3 dL_reach_213 rfl ?_
  refine j_iload 6 dL_reach_215 rfl ?_
  refine j_iald dL_reach_217 hq4 rfl ?_
  refine j_sub [0, 1, 2, 3, 4, 5] rfl ?_
  exact jb_lw_reach_218 _ _ _ _ hq0 hq4 hn4 hk49 _

set_option maxRecDepth 100000 in
set_option maxHeartbeats 4000000 in
theorem jb_lw_reach_183 {lay : List LK} {q0 : Nat} {p1 : Int} {p2 : Int} {p3 : Int} {q4 : Nat} {n4 : Nat} {k49 : Int → Hp → O Unit} (x5 x6 x7 x8 x10 s0 s1 : Int) (hq0 : sub lay q0 blkLines) (hq4 : lay[q4]? = some (0, n4, 0, 0)) (hn4 : inR (n4 : Int)) (hk49 : ∀ (x6 : Int) (h : Hp), J mi_lw_reach encV (Same lay) lay 0 0 49 [(0, vr q0), (2, vi p2), (3, vi p3), (4, vr q4), (5, vi x5), (6, vi x6)] [] h (k49 x6 h))(h : Hp) : J mi_lw_reach encV (Same lay) lay 0 0 183 [(0, vr q0), (2, vi p2), (3, vi p3), (4, vr q4), (5, vi x5), (6, vi x6), (7, vi x7), (8, vi x8), (10, vi x10)] [vi s0, vi s1, vr q4] h (lw_reach_b183 q0 p1 p2 p3 q4 n4 k49 x5 x6 x7 x8 x10 s0 s1 h) := by
  unfold lw_reach_b183
  refine j_iast dL_reach_183 hq4 rfl (fun h1 _ => ?_)
  refine j_aload 3 dL_reach_184 rfl ?_
  refine j_iload 6 dL_reach_186 rfl ?_
  refine j_aload 3 dL_reach_188 rfl ?_
  refine j_iload 7 dL_reach_190 rfl ?_
  refine j_iald dL_reach_192 hq4 rfl ?_
  refine j_ldc (x := 1000000) dL_reach_193 kc_L_63 (by decide) ?_
  refine j_icmp_ge (tgt := 213) dL_reach_195 (by decide) ?_ ?_
  · refine j_iload 8 dL_reach_198 rfl ?_
    refine j_aload 3 dL_reach_200 rfl ?_
    refine j_iload 6 dL_reach_202 rfl ?_
    refine j_iald dL_reach_204 hq4 rfl ?_
    refine j_icmp_ge (tgt := 213) dL_reach_205 (by decide) ?_ ?_
    · refine j_iload 8 dL_reach_208 rfl ?_
      refine j_goto (tgt := 218) dL_reach_210 (by decide) ?_
      refine j_sub [0, 1, 2, 3, 4, 5] rfl ?_
      exact jb_lw_reach_218 _ _ _ _ hq0 hq4 hn4 hk49 _
    · refine j_sub [0, 1, 2, 3, 4, 5, 6] rfl ?_
      exact jb_lw_reach_213 _ _ _ _ hq0 hq4 hn4 hk49 _
  · refine j_sub [0, 1, 2, 3, 4, 5, 6] rfl ?_
    exact jb_lw_reach_213 _ _ _ _ hq0 hq4 hn4 hk49 _

set_option maxRecDepth 100000 in
set_option maxHeartbeats 4000000 in
theorem jb_lw_reach_178 {lay : List LK} {q0 : Nat} {p1 : Int} {p2 : Int} {p3 : Int} {q4 : Nat} {n4 : Nat} {k49 : Int → Hp → O Unit} (x5 x6 x7 x8 x10 s0 : Int) (hq0 : sub lay q0 blkLines) (hq4 : lay[q4]? = some (0, n4, 0, 0)) (hn4 : inR (n4 : Int)) (hk49 : ∀ (x6 : Int) (h : Hp), J mi_lw_reach encV (Same lay) lay 0 0 49 [(0, vr q0), (2, vi p2), (3, vi p3), (4, vr q4), (5, vi x5), (6, vi x6)] [] h (k49 x6 h))(h : Hp) : J mi_lw_reach encV (Same lay) lay 0 0 178 [(0, vr q0), (2, vi p2), (3, vi p3), (4, vr q4), (5, vi x5), (6, vi x6), (7, vi x7), (8, vi x8), (10, vi x10)] [vi s0, vr q4] h (lw_reach_b178 q0 p1 p2 p3 q4 n4 k49 x5 x6 x7 x8 x10 s0 h) := by
  unfold lw_reach_b178
  refine j_aload 3 dL_reach_178 rfl ?_
  refine j_iload 7 dL_reach_180 rfl ?_
  refine j_iald dL_reach_182 hq4 rfl ?_
  exact jb_lw_reach_183 _ _ _ _ _ _ _ hq0 hq4 hn4 hk49 _

set_option maxRecDepth 100000 in
set_option maxHeartbeats 4000000 in
theorem jb_lw_reach_146 {lay : List LK} {q0 : Nat} {p1 : Int} {p2 : Int} {p3 : Int} {q4 : Nat} {n4 : Nat} {k49 : Int → Hp → O Unit} (x5 x6 x7 x8 x9 s0 s1 : Int) (hq0 : sub lay q0 blkLines) (hq4 : lay[q4]? = some (0, n4, 0, 0)) (hn4 : inR (n4 : Int)) (hk49 : ∀ (x6 : Int) (h : Hp), J mi_lw_reach encV (Same lay) lay 0 0 49 [(0, vr q0), (2, vi p2), (3, vi p3), (4, vr q4), (5, vi x5), (6, vi x6)] [] h (k49 x6 h))(h : Hp) : J mi_lw_reach encV (Same lay) lay 0 0 146 [(0, vr q0), (2, vi p2), (3, vi p3), (4, vr q4), (5, vi x5), (6, vi x6), (7, vi x7), (8, vi x8), (9, vi x9)] [vi s0, vi s1] h (lw_reach_b146 q0 p1 p2 p3 q4 n4 k49 x5 x6 x7 x8 x9 s0 s1 h) := by
  unfold lw_reach_b146
  refine j_iadd dL_reach_146 ?_
  refine j_istore (lv' := [(10, vi (s1 + s0)), (0, vr q0), (2, vi p2), (3, vi p3), (4, vr q4), (5, vi x5), (6, vi x6), (7, vi x7), (8, vi x8), (9, vi x9)]) dL_reach_147 (Nat.le_of_ble_eq_true rfl) rfl ?_
  refine j_aload 4 dL_reach_149 rfl ?_
  refine j_iload 8 dL_reach_151 rfl ?_
  refine j_aload 4 dL_reach_153 rfl ?_
  refine j_iload 7 dL_reach_155 rfl ?_
  refine j_iald dL_reach_157 hq4 rfl ?_
  refine j_ldc (x := 1000000) dL_reach_158 kc_L_63 (by decide) ?_
  refine j_icmp_ge (tgt := 178) dL_reach_160 (by decide) ?_ ?_
  · refine j_iload 9 dL_reach_163 rfl ?_
    refine j_aload 4 dL_reach_165 rfl ?_
    refine j_iload 8 dL_reach_167 rfl ?_
    refine j_iald dL_reach_169 hq4 rfl ?_
    refine j_icmp_ge (tgt := 178) dL_reach_170 (by decide) ?_ ?_
    · refine j_iload 9 dL_reach_173 rfl ?_
      refine j_goto (tgt := 183) dL_reach_175 (by decide) ?_
      refine j_sub [1, 2, 3, 4, 5, 6, 7, 8, 0] rfl ?_
      exact jb_lw_reach_183 _ _ _ _ _ _ _ hq0 hq4 hn4 hk49 _
    · refine j_sub [1, 2, 3, 4, 5, 6, 7, 8, 0] rfl ?_
      exact jb_lw_reach_178 _ _ _ _ _ _ hq0 hq4 hn4 hk49 _
  · refine j_sub [1, 2, 3, 4, 5, 6, 7, 8, 0] rfl ?_
    exact jb_lw_reach_178 _ _ _ _ _ _ hq0 hq4 hn4 hk49 _

set_option maxRecDepth 100000 in
set_option maxHeartbeats 4000000 in
theorem jb_lw_reach_113 {lay : List LK} {q0 : Nat} {p1 : Int} {p2 : Int} {p3 : Int} {q4 : Nat} {n4 : Nat} {k49 : Int → Hp → O Unit} (x5 x6 x7 x8 s0 s1 : Int) (hq0 : sub lay q0 blkLines) (hq4 : lay[q4]? = some (0, n4, 0, 0)) (hn4 : inR (n4 : Int)) (hk49 : ∀ (x6 : Int) (h : Hp), J mi_lw_reach encV (Same lay) lay 0 0 49 [(0, vr q0), (2, vi p2), (3, vi p3), (4, vr q4), (5, vi x5), (6, vi x6)] [] h (k49 x6 h))(h : Hp) : J mi_lw_reach encV (Same lay) lay 0 0 113 [(0, vr q0), (2, vi p2), (3, vi p3), (4, vr q4), (5, vi x5), (6, vi x6), (7, vi x7), (8, vi x8)] [vi s0, vi s1] h (lw_reach_b113 q0 p1 p2 p3 q4 n4 k49 x5 x6 x7 x8 s0 s1 h) := by
  unfold lw_reach_b113
  refine j_iadd dL_reach_113 ?_
  refine j_istore (lv' := [(9, vi (s1 + s0)), (0, vr q0), (2, vi p2), (3, vi p3), (4, vr q4), (5, vi x5), (6, vi x6), (7, vi x7), (8, vi x8)]) dL_reach_114 (Nat.le_of_ble_eq_true rfl) rfl ?_
  refine j_aload 4 dL_reach_116 rfl ?_
  refine j_iload 8 dL_reach_118 rfl ?_
  refine j_iald dL_reach_120 hq4 rfl ?_
  refine j_aload_n 1 dL_reach_121 rfl ?_
  refine j_iload 6 dL_reach_122 rfl ?_
  refine j_iconst (x := 2) dL_reach_124 rfl (by decide) ?_
  refine j_cV (stk := [vi (h q4 x8)]) [vi x6, vi 2] q0 dL_reach_125 mv_dl_dimension lm_L_45 (sub_k hq0 0 rfl rfl) zc_5 (ct_dl_dimension hq0 h) rfl rfl ⟨⟨Nat.le_of_ble_eq_true rfl, Nat.le_of_ble_eq_true rfl⟩, Nat.le_of_ble_eq_true rfl, Nat.le_of_ble_eq_true rfl⟩ (Nat.le_of_ble_eq_true rfl) rfl rfl (fun r1 h1 _ => ?_)
  refine j_isub dL_reach_128 ?_
  refine j_iload 6 dL_reach_129 rfl ?_
  refine j_iload_n 3 dL_reach_131 rfl ?_
  refine j_icmp_ne (tgt := 139) dL_reach_132 (by decide) ?_ ?_
  · refine j_iconst (x := 0) dL_reach_135 rfl (by decide) ?_
    refine j_goto (tgt := 146) dL_reach_136 (by decide) ?_
    refine j_sub [1, 2, 3, 4, 5, 6, 7, 8, 0] rfl ?_
    exact jb_lw_reach_146 _ _ _ _ _ _ _ hq0 hq4 hn4 hk49 _
  · refine j_aload_n 1 dL_reach_139 rfl ?_
    refine j_iload 6 dL_reach_140 rfl ?_
    refine j_iconst (x := 3) dL_reach_142 rfl (by decide) ?_
    refine j_cV (stk := [vi ((h q4 x8) - r1)]) [vi x6, vi 3] q0 dL_reach_143 mv_dl_dimension lm_L_45 (sub_k hq0 0 rfl rfl) zc_5 (ct_dl_dimension hq0 h1) rfl rfl ⟨⟨Nat.le_of_ble_eq_true rfl, Nat.le_of_ble_eq_true rfl⟩, Nat.le_of_ble_eq_true rfl, Nat.le_of_ble_eq_true rfl⟩ (Nat.le_of_ble_eq_true rfl) rfl rfl (fun r2 h2 _ => ?_)
    refine j_sub [1, 2, 3, 4, 5, 6, 7, 8, 0] rfl ?_
    exact jb_lw_reach_146 _ _ _ _ _ _ _ hq0 hq4 hn4 hk49 _

set_option maxRecDepth 100000 in
set_option maxHeartbeats 4000000 in
theorem jl_lw_reach_49 {lay : List LK} {q0 : Nat} {p1 : Int} {p2 : Int} {p3 : Int} {q4 : Nat} {n4 : Nat} {k36 : Int → Hp → O Unit} (x5 : Int) (hq0 : sub lay q0 blkLines) (hq4 : lay[q4]? = some (0, n4, 0, 0)) (hn4 : inR (n4 : Int)) (hk36 : ∀ (x5 : Int) (h : Hp), J mi_lw_reach encV (Same lay) lay 0 0 36 [(0, vr q0), (2, vi p2), (3, vi p3), (4, vr q4), (5, vi x5)] [] h (k36 x5 h)) : ∀ (n : Nat) (x6 : Int) (h : Hp), J mi_lw_reach encV (Same lay) lay 0 0 49 [(0, vr q0), (2, vi p2), (3, vi p3), (4, vr q4), (5, vi x5), (6, vi x6)] [] h (iter1 (lw_reach_f49 q0 p1 p2 p3 q4 n4 k36 x5) n x6 h) := by
  refine j_iter1 (lf := fun x6 => [(0, vr q0), (2, vi p2), (3, vi p3), (4, vr q4), (5, vi x5), (6, vi x6)]) (fun k49 hk49 x6 h => ?_)
  unfold lw_reach_f49
  refine j_iload 5 dL_reach_49 rfl ?_
  refine j_aload_n 0 dL_reach_51 rfl ?_
  refine j_iconst (x := 1) dL_reach_52 rfl (by decide) ?_
  refine j_cV (stk := [vi x6]) [vi 1] q0 dL_reach_53 mv_dl_count lm_L_42 (sub_k hq0 0 rfl rfl) zc_5 (ct_dl_count hq0 h) rfl rfl ⟨⟨Nat.le_of_ble_eq_true rfl, Nat.le_of_ble_eq_true rfl⟩, Nat.le_of_ble_eq_true rfl, Nat.le_of_ble_eq_true rfl⟩ (Nat.le_of_ble_eq_true rfl) rfl rfl (fun r1 h1 _ => ?_)
  refine j_icmp_ge (tgt := 225) dL_reach_56 (by decide) ?_ ?_
  · refine j_iload 5 dL_reach_59 rfl ?_
    refine j_iload_n 1 dL_reach_61 rfl ?_
    refine j_icmp_eq (tgt := 219) dL_reach_62 (by decide) ?_ ?_
    · exact jb_lw_reach_219 _ _ hq0 hq4 hn4 hk49 _
    · refine j_aload_n 0 dL_reach_65 rfl ?_
      refine j_iload 5 dL_reach_66 rfl ?_
      refine j_iconst (x := 0) dL_reach_68 rfl (by decide) ?_
      refine j_cV (stk := []) [vi x6, vi 0] q0 dL_reach_69 mv_dl_dimension lm_L_45 (sub_k hq0 0 rfl rfl) zc_5 (ct_dl_dimension hq0 h1) rfl rfl ⟨⟨Nat.le_of_ble_eq_true rfl, Nat.le_of_ble_eq_true rfl⟩, Nat.le_of_ble_eq_true rfl, Nat.le_of_ble_eq_true rfl⟩ (Nat.le_of_ble_eq_true rfl) rfl rfl (fun r2 h2 _ => ?_)
      refine j_istore (lv' := [(7, vi r2), (0, vr q0), (2, vi p2), (3, vi p3), (4, vr q4), (5, vi x5), (6, vi x6)]) dL_reach_72 (Nat.le_of_ble_eq_true rfl) rfl ?_
      refine j_aload_n 1 dL_reach_74 rfl ?_
      refine j_iload 6 dL_reach_75 rfl ?_
      refine j_iconst (x := 1) dL_reach_77 rfl (by decide) ?_
      refine j_cV (stk := []) [vi x6, vi 1] q0 dL_reach_78 mv_dl_dimension lm_L_45 (sub_k hq0 0 rfl rfl) zc_5 (ct_dl_dimension hq0 h2) rfl rfl ⟨⟨Nat.le_of_ble_eq_true rfl, Nat.le_of_ble_eq_true rfl⟩, Nat.le_of_ble_eq_true rfl, Nat.le_of_ble_eq_true rfl⟩ (Nat.le_of_ble_eq_true rfl) rfl rfl (fun r3 h3 _ => ?_)
      refine j_istore (lv' := [(8, vi r3), (7, vi r2), (0, vr q0), (2, vi p2), (3, vi p3), (4, vr q4), (5, vi x5), (6, vi x6)]) dL_reach_81 (Nat.le_of_ble_eq_true rfl) rfl ?_
      refine j_aload 5 dL_reach_83 rfl ?_
      refine j_iload 1 dL_reach_85 rfl ?_
      refine j_iald dL_reach_87 hq4 rfl ?_
      refine j_aload_n 2 dL_reach_88 rfl ?_
      refine j_iload 7 dL_reach_89 rfl ?_
      refine j_iconst (x := 2) dL_reach_91 rfl (by decide) ?_
      refine j_cV (stk := [vi (h3 q4 r2)]) [vi x6, vi 2] q0 dL_reach_92 mv_dl_dimension lm_L_45 (sub_k hq0 0 rfl rfl) zc_5 (ct_dl_dimension hq0 h3) rfl rfl ⟨⟨Nat.le_of_ble_eq_true rfl, Nat.le_of_ble_eq_true rfl⟩, Nat.le_of_ble_eq_true rfl, Nat.le_of_ble_eq_true rfl⟩ (Nat.le_of_ble_eq_true rfl) rfl rfl (fun r4 h4 _ => ?_)
      refine j_iadd dL_reach_95 ?_
      refine j_iload 7 dL_reach_96 rfl ?_
      refine j_iload_n 4 dL_reach_98 rfl ?_
      refine j_icmp_ne (tgt := 106) dL_reach_99 (by decide) ?_ ?_
      · refine j_iconst (x := 0) dL_reach_102 rfl (by decide) ?_
        refine j_goto (tgt := 113) dL_reach_103 (by decide) ?_
        refine j_sub [2, 3, 4, 5, 6, 7, 1, 0] rfl ?_
        exact jb_lw_reach_113 _ _ _ _ _ _ hq0 hq4 hn4 hk49 _
      · refine j_aload_n 2 dL_reach_106 rfl ?_
        refine j_iload 7 dL_reach_107 rfl ?_
        refine j_iconst (x := 4) dL_reach_109 rfl (by decide) ?_
        refine j_cV (stk := [vi ((h3 q4 r2) + r4)]) [vi x6, vi 4] q0 dL_reach_110 mv_dl_dimension lm_L_45 (sub_k hq0 0 rfl rfl) zc_5 (ct_dl_dimension hq0 h4) rfl rfl ⟨⟨Nat.le_of_ble_eq_true rfl, Nat.le_of_ble_eq_true rfl⟩, Nat.le_of_ble_eq_true rfl, Nat.le_of_ble_eq_true rfl⟩ (Nat.le_of_ble_eq_true rfl) rfl rfl (fun r5 h5 _ => ?_)
        refine j_sub [2, 3, 4, 5, 6, 7, 1, 0] rfl ?_
        exact jb_lw_reach_113 _ _ _ _ _ _ hq0 hq4 hn4 hk49 _
  · refine j_iinc 4 (lv' := [(5, vi (x5 + 1)), (0, vr q0), (2, vi p2), (3, vi p3), (4, vr q4), (6, vi x6)]) dL_reach_225 rfl (Nat.le_of_ble_eq_true rfl) rfl ?_
    refine j_goto (tgt := 36) dL_reach_228 (by decide) ?_
    refine j_sub [1, 2, 3, 4, 0] rfl ?_
    exact hk36 _ _

set_option maxRecDepth 100000 in
set_option maxHeartbeats 4000000 in
theorem jl_lw_reach_36 {lay : List LK} {q0 : Nat} {p1 : Int} {p2 : Int} {p3 : Int} {q4 : Nat} {n4 : Nat}  (hq0 : sub lay q0 blkLines) (hq4 : lay[q4]? = some (0, n4, 0, 0)) (hn4 : inR (n4 : Int))  : ∀ (n : Nat) (x5 : Int) (h : Hp), J mi_lw_reach encV (Same lay) lay 0 0 36 [(0, vr q0), (2, vi p2), (3, vi p3), (4, vr q4), (5, vi x5)] [] h (iter1 (lw_reach_f36 q0 p1 p2 p3 q4 n4) n x5 h) := by
  refine j_iter1 (lf := fun x5 => [(0, vr q0), (2, vi p2), (3, vi p3), (4, vr q4), (5, vi x5)]) (fun k36 hk36 x5 h => ?_)
  unfold lw_reach_f36
  refine j_iload 4 dL_reach_36 rfl ?_
  refine j_aload_n 0 dL_reach_38 rfl ?_
  refine j_iconst (x := 0) dL_reach_39 rfl (by decide) ?_
  refine j_cV (stk := [vi x5]) [vi 0] q0 dL_reach_40 mv_dl_count lm_L_42 (sub_k hq0 0 rfl rfl) zc_5 (ct_dl_count hq0 h) rfl rfl ⟨⟨Nat.le_of_ble_eq_true rfl, Nat.le_of_ble_eq_true rfl⟩, Nat.le_of_ble_eq_true rfl, Nat.le_of_ble_eq_true rfl⟩ (Nat.le_of_ble_eq_true rfl) rfl rfl (fun r1 h1 _ => ?_)
  refine j_icmp_ge (tgt := 231) dL_reach_43 (by decide) ?_ ?_
  · refine j_iconst (x := 0) dL_reach_46 rfl (by decide) ?_
    refine j_istore (lv' := [(6, vi 0), (0, vr q0), (2, vi p2), (3, vi p3), (4, vr q4), (5, vi x5)]) dL_reach_47 (Nat.le_of_ble_eq_true rfl) rfl ?_
    refine j_sub [1, 2, 3, 4, 5, 0] rfl ?_
    exact jl_lw_reach_49 _ hq0 hq4 hn4 hk36 fuel _ _
  · exact j_retV rfl rfl rfl dL_reach_231 rfl ⟨Nat.le_refl _, Nat.le_refl _⟩ rfl

set_option maxRecDepth 100000 in
set_option maxHeartbeats 4000000 in
theorem jb_lw_reach_26 {lay : List LK} {q0 : Nat} {p1 : Int} {p2 : Int} {p3 : Int} {q4 : Nat} {n4 : Nat} {k3 : Int → Hp → O Unit} (x5 s0 s1 : Int) (hq0 : sub lay q0 blkLines) (hq4 : lay[q4]? = some (0, n4, 0, 0)) (hn4 : inR (n4 : Int)) (hk3 : ∀ (x5 : Int) (h : Hp), J mi_lw_reach encV (Same lay) lay 0 0 3 [(0, vr q0), (1, vi p1), (2, vi p2), (3, vi p3), (4, vr q4), (5, vi x5)] [] h (k3 x5 h))(h : Hp) : J mi_lw_reach encV (Same lay) lay 0 0 26 [(0, vr q0), (1, vi p1), (2, vi p2), (3, vi p3), (4, vr q4), (5, vi x5)] [vi s0, vi s1, vr q4] h (lw_reach_b26 q0 p1 p2 p3 q4 n4 k3 x5 s0 s1 h) := by
  unfold lw_reach_b26
  refine j_iast dL_reach_26 hq4 rfl (fun h1 _ => ?_)
  refine j_iinc 5 (lv' := [(5, vi (x5 + 1)), (0, vr q0), (1, vi p1), (2, vi p2), (3, vi p3), (4, vr q4)]) dL_reach_27 rfl (Nat.le_of_ble_eq_true rfl) rfl ?_
  refine j_goto (tgt := 3) dL_reach_30 (by decide) ?_
  refine j_sub [1, 2, 3, 4, 5, 0] rfl ?_
  exact hk3 _ _

set_option maxRecDepth 100000 in
set_option maxHeartbeats 4000000 in
theorem jl_lw_reach_3 {lay : List LK} {q0 : Nat} {p1 : Int} {p2 : Int} {p3 : Int} {q4 : Nat} {n4 : Nat}  (hq0 : sub lay q0 blkLines) (hq4 : lay[q4]? = some (0, n4, 0, 0)) (hn4 : inR (n4 : Int))  : ∀ (n : Nat) (x5 : Int) (h : Hp), J mi_lw_reach encV (Same lay) lay 0 0 3 [(0, vr q0), (1, vi p1), (2, vi p2), (3, vi p3), (4, vr q4), (5, vi x5)] [] h (iter1 (lw_reach_f3 q0 p1 p2 p3 q4 n4) n x5 h) := by
  refine j_iter1 (lf := fun x5 => [(0, vr q0), (1, vi p1), (2, vi p2), (3, vi p3), (4, vr q4), (5, vi x5)]) (fun k3 hk3 x5 h => ?_)
  unfold lw_reach_f3
  refine j_iload 5 dL_reach_3 rfl ?_
  refine j_bipush (x := 12) dL_reach_5 (by decide) (by decide) ?_
  refine j_icmp_ge (tgt := 33) dL_reach_7 (by decide) ?_ ?_
  · refine j_aload 4 dL_reach_10 rfl ?_
    refine j_iload 5 dL_reach_12 rfl ?_
    refine j_iload 5 dL_reach_14 rfl ?_
    refine j_iload_n 1 dL_reach_16 rfl ?_
    refine j_icmp_ne (tgt := 24) dL_reach_17 (by decide) ?_ ?_
    · refine j_iconst (x := 0) dL_reach_20 rfl (by decide) ?_
      refine j_goto (tgt := 26) dL_reach_21 (by decide) ?_
      exact jb_lw_reach_26 _ _ _ hq0 hq4 hn4 hk3 _
    · refine j_ldc (x := 1000000) dL_reach_24 kc_L_63 (by decide) ?_
      exact jb_lw_reach_26 _ _ _ hq0 hq4 hn4 hk3 _
  · refine j_iconst (x := 0) dL_reach_33 rfl (by decide) ?_
    refine j_istore (lv' := [(5, vi 0), (0, vr q0), (1, vi p1), (2, vi p2), (3, vi p3), (4, vr q4)]) dL_reach_34 (Nat.le_of_ble_eq_true rfl) rfl ?_
    refine j_sub [1, 3, 4, 5, 0] rfl ?_
    exact jl_lw_reach_36 hq0 hq4 hn4 fuel _ _

set_option maxRecDepth 100000 in
set_option maxHeartbeats 4000000 in
theorem ct_lw_reach {lay : List LK} {q0 : Nat} {p1 : Int} {p2 : Int} {p3 : Int} {q4 : Nat} {n4 : Nat} (hq0 : sub lay q0 blkLines) (hq4 : lay[q4]? = some (0, n4, 0, 0)) (hn4 : inR (n4 : Int)) (h : Hp) : CT mi_lw_reach encV (Same lay) lay [vr q0, vi p1, vi p2, vi p3, vr q4] h (lw_reach q0 p1 p2 p3 q4 n4 h) := by
  refine CT.of (by decide) rfl (Nat.le_of_ble_eq_true rfl) ?_
  show J mi_lw_reach encV (Same lay) lay 0 0 0 [(0, vr q0), (1, vi p1), (2, vi p2), (3, vi p3), (4, vr q4)] [] h _
  unfold lw_reach
  refine j_iconst (x := 0) dL_reach_0 rfl (by decide) ?_
  refine j_istore (lv' := [(5, vi 0), (0, vr q0), (1, vi p1), (2, vi p2), (3, vi p3), (4, vr q4)]) dL_reach_1 (Nat.le_of_ble_eq_true rfl) rfl ?_
  refine j_sub [1, 2, 3, 4, 5, 0] rfl ?_
  exact jl_lw_reach_3 hq0 hq4 hn4 fuel _ _


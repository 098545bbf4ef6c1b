theorem zdef_1 : ∀ k, k < 11 → defaultValue (tyX1 k) = zval 0 0 0 (fun _ => 0) (zfd 1 k) k := by
  intro k hk
  match k, hk with
  | 0, _ => rfl
  | 1, _ => rfl
  | 2, _ => rfl
  | 3, _ => rfl
  | 4, _ => rfl
  | 5, _ => rfl
  | 6, _ => rfl
  | 7, _ => rfl
  | 8, _ => rfl
  | 9, _ => rfl
  | 10, _ => rfl
theorem zdef_2 : ∀ k, k < 3 → defaultValue (tyX2 k) = zval 0 0 0 (fun _ => 0) (zfd 2 k) k := by
  intro k hk
  match k, hk with
  | 0, _ => rfl
  | 1, _ => rfl
  | 2, _ => rfl
theorem zdef_4 : ∀ k, k < 7 → defaultValue (tyX4 k) = zval 0 0 0 (fun _ => 0) (zfd 4 k) k := by
  intro k hk
  match k, hk with
  | 0, _ => rfl
  | 1, _ => rfl
  | 2, _ => rfl
  | 3, _ => rfl
  | 4, _ => rfl
  | 5, _ => rfl
  | 6, _ => rfl
theorem zdef_3 : ∀ k, k < 16 → defaultValue (tyX3 k) = zval 0 0 0 (fun _ => 0) (zfd 3 k) k := by
  intro k hk
  match k, hk with
  | 0, _ => rfl
  | 1, _ => rfl
  | 2, _ => rfl
  | 3, _ => rfl
  | 4, _ => rfl
  | 5, _ => rfl
  | 6, _ => rfl
  | 7, _ => rfl
  | 8, _ => rfl
  | 9, _ => rfl
  | 10, _ => rfl
  | 11, _ => rfl
  | 12, _ => rfl
  | 13, _ => rfl
  | 14, _ => rfl
  | 15, _ => rfl
  | k + 16, hk => exact absurd hk (by omega)
theorem zdef_0 : ∀ k, k < 11 → defaultValue (tyX0 k) = zval 0 0 0 (fun _ => 0) (zfd 0 k) k := by
  intro k hk
  match k, hk with
  | 0, _ => rfl
  | 1, _ => rfl
  | 2, _ => rfl
  | 3, _ => rfl
  | 4, _ => rfl
  | 5, _ => rfl
  | 6, _ => rfl
  | 7, _ => rfl
  | 8, _ => rfl
  | 9, _ => rfl
  | 10, _ => rfl
theorem zdef_5 : ∀ k, k < 8 → defaultValue (tyX5 k) = zval 0 0 0 (fun _ => 0) (zfd 5 k) k := by
  intro k hk
  match k, hk with
  | 0, _ => rfl
  | 1, _ => rfl
  | 2, _ => rfl
  | 3, _ => rfl
  | 4, _ => rfl
  | 5, _ => rfl
  | 6, _ => rfl
  | 7, _ => rfl
def dr_init (th : Nat) (h : Hp) : O Unit :=
  lt (hz h (th + 1)) fun h1 =>
  lt (hz h1 (th + 2)) fun h2 =>
  lt (hz h2 (th + 3)) fun h3 =>
  lt (hz h3 (th + 4)) fun h4 =>
  lt (hz h4 (th + 5)) fun h5 =>
  lt (hz h5 (th + 6)) fun h6 =>
  lt (hz h6 (th + 7)) fun h7 =>
  lt (hu h7 th 7 0) fun h8 =>
  lt (hu h8 th 8 0) fun h9 =>
  lt (hu h9 th 9 4) fun h10 =>
  lt (hu h10 th 10 3) fun h11 =>
  some ((), h11)
def hi_init_f25 (th : Nat) (k25 : Int → Hp → O Unit) (x1 : Int) (h : Hp) : O Unit :=
  if x1 < 8 then
    lt (hz h (th + 2 + 8 * x1.toNat)) fun h1 =>
    bd (dr_init (th + 2 + 8 * x1.toNat) h1) fun _ h2 =>
    ck (x1 + 1) (
    k25 (x1 + 1) h2)
  else
    some ((), h)
def hi_init (th : Nat) (h : Hp) : O Unit :=
  lt (hz h (th + 1)) fun h1 =>
  lt (hu h1 th 1 0) fun h2 =>
  lt (hu h2 th 2 0) fun h3 =>
  iter1 (hi_init_f25 th) fuel 0 h3
def tr_init (th : Nat) (h : Hp) : O Unit :=
  lt (hz h (th + 1)) fun h1 =>
  lt (hz h1 (th + 2)) fun h2 =>
  bd (dr_init (th + 2) h2) fun _ h3 =>
  lt (hu h3 th 2 0) fun h4 =>
  lt (hu h4 th 3 0) fun h5 =>
  lt (hu h5 th 4 0) fun h6 =>
  lt (hu h6 th 5 0) fun h7 =>
  lt (hu h7 th 6 0) fun h8 =>
  some ((), h8)
def la_init (th : Nat) (h : Hp) : O Unit :=
  lt (hz h (th + 1)) fun h1 =>
  lt (hz h1 (th + 2)) fun h2 =>
  lt (hz h2 (th + 3)) fun h3 =>
  lt (hz h3 (th + 4)) fun h4 =>
  lt (hz h4 (th + 5)) fun h5 =>
  lt (hz h5 (th + 6)) fun h6 =>
  lt (hu h6 th 6 0) fun h7 =>
  lt (hu h7 th 7 0) fun h8 =>
  lt (hu h8 th 8 0) fun h9 =>
  lt (hz h9 (th + 7)) fun h10 =>
  lt (hz h10 (th + 8)) fun h11 =>
  lt (hz h11 (th + 9)) fun h12 =>
  lt (hz h12 (th + 10)) fun h13 =>
  lt (hz h13 (th + 11)) fun h14 =>
  lt (hz h14 (th + 12)) fun h15 =>
  lt (hu h15 th 15 0) fun h16 =>
  some ((), h16)
def bo_init (th : Nat) (h : Hp) : O Unit :=
  lt (hzr h (th + 1) (12 + 1)) fun h1 =>
  lt (hz h1 (th + 14)) fun h2 =>
  lt (hz h2 (th + 15)) fun h3 =>
  lt (hu h3 th 3 0) fun h4 =>
  lt (hu h4 th 4 0) fun h5 =>
  lt (hu h5 th 5 0) fun h6 =>
  lt (hz h6 (th + 16)) fun h7 =>
  lt (hz h7 (th + 17)) fun h8 =>
  lt (hz h8 (th + 18)) fun h9 =>
  lt (hz h9 (th + 19)) fun h10 =>
  lt (hz h10 (th + 20)) fun h11 =>
  some ((), h11)
def dl_init (th : Nat) (h : Hp) : O Unit :=
  lt (hz h (th + 1)) fun h1 =>
  bd (dr_init (th + 1) h1) fun _ h2 =>
  lt (hz h2 (th + 9)) fun h3 =>
  bd (hi_init (th + 9) h3) fun _ h4 =>
  lt (hz h4 (th + 75)) fun h5 =>
  bd (tr_init (th + 75) h5) fun _ h6 =>
  lt (hz h6 (th + 85)) fun h7 =>
  bd (la_init (th + 85) h7) fun _ h8 =>
  lt (hz h8 (th + 98)) fun h9 =>
  bd (la_init (th + 98) h9) fun _ h10 =>
  lt (hz h10 (th + 111)) fun h11 =>
  bd (bo_init (th + 111) h11) fun _ h12 =>
  bz 0 <| lt (hu h12 th 6 0) fun h13 =>
  bz 0 <| lt (hu h13 th 7 0) fun h14 =>
  some ((), h14)
abbrev mi_dr_init : MI := (yX1_init, cX1_init, 1, none, 1, 20, 7, 108, none)
theorem mv_dr_init : MV mi_dr_init 0 ∧ Cond.instanceMethod mi_dr_init.1 ∈ UW := ⟨⟨kw1_dr_init, kw2_dr_init, by decide +kernel, by decide +kernel⟩, kw3_dr_init⟩
set_option maxRecDepth 100000 in
set_option maxHeartbeats 4000000 in
theorem ct_dr_init (A : List LK) (h : Hp) : CT mi_dr_init encV (fun l' => l' = A ++ blkDrawing) (A ++ [(5, 0, 0, 0)]) [vr A.length] h (dr_init A.length h) := by
  refine CT.of (by decide) rfl (Nat.le_of_ble_eq_true rfl) ?_
  show J mi_dr_init encV (fun l' => l' = A ++ blkDrawing) (A ++ [(5, 0, 0, 0)]) 0 0 0 [(0, vr A.length)] [] h _
  unfold dr_init
  refine j_aload_n 0 dX1_init_0 rfl ?_
  refine j_obj dX1_init_1 lm_X1_3 kob_1 kob_2 (Nat.le_of_ble_eq_true rfl) (Nat.le_of_ble_eq_true rfl) ?_
  refine j_aload_n 0 dX1_init_4 rfl ?_
  refine j_bipush (x := 12) dX1_init_5 (by decide) (by decide) ?_
  refine j_newI (n := 12) (a' := (A.length + 1)) dX1_init_7 kac_int rfl (Nat.le_of_ble_eq_true rfl) (Nat.le_of_ble_eq_true rfl) (Nat.le_of_ble_eq_true rfl) (by rfl) (fun h1 _ => ?_)
  refine j_lay (lay' := A ++ [(5, 0, 0, 0), (0, 12, 0, 0)]) rfl ?_
  refine j_putR 0 1 0 dX1_init_9 zc_1 rfl rfl (by rfl) (by decide) lk_X1_9 rfl rfl rfl rfl (by rfl) (fun _ => ⟨rfl, rfl⟩) (by decide) ?_
  refine j_lay (lay' := A ++ [(5, 0, 0, 1), (0, 12, 0, 0)]) rfl ?_
  refine j_aload_n 0 dX1_init_12 rfl ?_
  refine j_bipush (x := 16) dX1_init_13 (by decide) (by decide) ?_
  refine j_newI (n := 16) (a' := (A.length + 2)) dX1_init_15 kac_int rfl (Nat.le_of_ble_eq_true rfl) (Nat.le_of_ble_eq_true rfl) (Nat.le_of_ble_eq_true rfl) (by rfl) (fun h2 _ => ?_)
  refine j_lay (lay' := A ++ [(5, 0, 0, 1), (0, 12, 0, 0), (0, 16, 0, 0)]) rfl ?_
  refine j_putR 1 2 0 dX1_init_17 zc_1 rfl rfl (by rfl) (by decide) lk_X1_15 rfl rfl rfl rfl (by rfl) (fun _ => ⟨rfl, rfl⟩) (by decide) ?_
  refine j_lay (lay' := A ++ [(5, 0, 0, 2), (0, 12, 0, 0), (0, 16, 0, 0)]) rfl ?_
  refine j_aload_n 0 dX1_init_20 rfl ?_
  refine j_bipush (x := 16) dX1_init_21 (by decide) (by decide) ?_
  refine j_newI (n := 16) (a' := (A.length + 3)) dX1_init_23 kac_int rfl (Nat.le_of_ble_eq_true rfl) (Nat.le_of_ble_eq_true rfl) (Nat.le_of_ble_eq_true rfl) (by rfl) (fun h3 _ => ?_)
  refine j_lay (lay' := A ++ [(5, 0, 0, 2), (0, 12, 0, 0), (0, 16, 0, 0), (0, 16, 0, 0)]) rfl ?_
  refine j_putR 2 3 0 dX1_init_25 zc_1 rfl rfl (by rfl) (by decide) lk_X1_18 rfl rfl rfl rfl (by rfl) (fun _ => ⟨rfl, rfl⟩) (by decide) ?_
  refine j_lay (lay' := A ++ [(5, 0, 0, 3), (0, 12, 0, 0), (0, 16, 0, 0), (0, 16, 0, 0)]) rfl ?_
  refine j_aload_n 0 dX1_init_28 rfl ?_
  refine j_bipush (x := 16) dX1_init_29 (by decide) (by decide) ?_
  refine j_newI (n := 16) (a' := (A.length + 4)) dX1_init_31 kac_int rfl (Nat.le_of_ble_eq_true rfl) (Nat.le_of_ble_eq_true rfl) (Nat.le_of_ble_eq_true rfl) (by rfl) (fun h4 _ => ?_)
  refine j_lay (lay' := A ++ [(5, 0, 0, 3), (0, 12, 0, 0), (0, 16, 0, 0), (0, 16, 0, 0), (0, 16, 0, 0)]) rfl ?_
  refine j_putR 3 4 0 dX1_init_33 zc_1 rfl rfl (by rfl) (by decide) lk_X1_21 rfl rfl rfl rfl (by rfl) (fun _ => ⟨rfl, rfl⟩) (by decide) ?_
  refine j_lay (lay' := A ++ [(5, 0, 0, 4), (0, 12, 0, 0), (0, 16, 0, 0), (0, 16, 0, 0), (0, 16, 0, 0)]) rfl ?_
  refine j_aload_n 0 dX1_init_36 rfl ?_
  refine j_bipush (x := 16) dX1_init_37 (by decide) (by decide) ?_
  refine j_newI (n := 16) (a' := (A.length + 5)) dX1_init_39 kac_int rfl (Nat.le_of_ble_eq_true rfl) (Nat.le_of_ble_eq_true rfl) (Nat.le_of_ble_eq_true rfl) (by rfl) (fun h5 _ => ?_)
  refine j_lay (lay' := A ++ [(5, 0, 0, 4), (0, 12, 0, 0), (0, 16, 0, 0), (0, 16, 0, 0), (0, 16, 0, 0), (0, 16, 0, 0)]) rfl ?_
  refine j_putR 4 5 0 dX1_init_41 zc_1 rfl rfl (by rfl) (by decide) lk_X1_24 rfl rfl rfl rfl (by rfl) (fun _ => ⟨rfl, rfl⟩) (by decide) ?_
  refine j_lay (lay' := A ++ [(5, 0, 0, 5), (0, 12, 0, 0), (0, 16, 0, 0), (0, 16, 0, 0), (0, 16, 0, 0), (0, 16, 0, 0)]) rfl ?_
  refine j_aload_n 0 dX1_init_44 rfl ?_
  refine j_bipush (x := 16) dX1_init_45 (by decide) (by decide) ?_
  refine j_newI (n := 16) (a' := (A.length + 6)) dX1_init_47 kac_int rfl (Nat.le_of_ble_eq_true rfl) (Nat.le_of_ble_eq_true rfl) (Nat.le_of_ble_eq_true rfl) (by rfl) (fun h6 _ => ?_)
  refine j_lay (lay' := A ++ [(5, 0, 0, 5), (0, 12, 0, 0), (0, 16, 0, 0), (0, 16, 0, 0), (0, 16, 0, 0), (0, 16, 0, 0), (0, 16, 0, 0)]) rfl ?_
  refine j_putR 5 6 0 dX1_init_49 zc_1 rfl rfl (by rfl) (by decide) lk_X1_27 rfl rfl rfl rfl (by rfl) (fun _ => ⟨rfl, rfl⟩) (by decide) ?_
  refine j_lay (lay' := A ++ [(5, 0, 0, 6), (0, 12, 0, 0), (0, 16, 0, 0), (0, 16, 0, 0), (0, 16, 0, 0), (0, 16, 0, 0), (0, 16, 0, 0)]) rfl ?_
  refine j_aload_n 0 dX1_init_52 rfl ?_
  refine j_bipush (x := 16) dX1_init_53 (by decide) (by decide) ?_
  refine j_newI (n := 16) (a' := (A.length + 7)) dX1_init_55 kac_int rfl (Nat.le_of_ble_eq_true rfl) (Nat.le_of_ble_eq_true rfl) (Nat.le_of_ble_eq_true rfl) (by rfl) (fun h7 _ => ?_)
  refine j_lay (lay' := A ++ [(5, 0, 0, 6), (0, 12, 0, 0), (0, 16, 0, 0), (0, 16, 0, 0), (0, 16, 0, 0), (0, 16, 0, 0), (0, 16, 0, 0), (0, 16, 0, 0)]) rfl ?_
  refine j_putR 6 7 0 dX1_init_57 zc_1 rfl rfl (by rfl) (by decide) lk_X1_30 rfl rfl rfl rfl (by rfl) (fun _ => ⟨rfl, rfl⟩) (by decide) ?_
  refine j_lay (lay' := A ++ [(5, 0, 0, 7), (0, 12, 0, 0), (0, 16, 0, 0), (0, 16, 0, 0), (0, 16, 0, 0), (0, 16, 0, 0), (0, 16, 0, 0), (0, 16, 0, 0)]) rfl ?_
  refine j_aload_n 0 dX1_init_60 rfl ?_
  refine j_iconst (x := 0) dX1_init_61 rfl (by decide) ?_
  refine j_putI 7 7 dX1_init_62 zc_1 rfl (ap_at (i := 0) rfl (by rfl)) (by decide) lk_X1_33 rfl rfl rfl rfl (fun h8 _ => ?_)
  refine j_aload_n 0 dX1_init_65 rfl ?_
  refine j_iconst (x := 0) dX1_init_66 rfl (by decide) ?_
  refine j_putI 8 8 dX1_init_67 zc_1 rfl (ap_at (i := 0) rfl (by rfl)) (by decide) lk_X1_37 rfl rfl rfl rfl (fun h9 _ => ?_)
  refine j_aload_n 0 dX1_init_70 rfl ?_
  refine j_iconst (x := 4) dX1_init_71 rfl (by decide) ?_
  refine j_putI 9 9 dX1_init_72 zc_1 rfl (ap_at (i := 0) rfl (by rfl)) (by decide) lk_X1_40 rfl rfl rfl rfl (fun h10 _ => ?_)
  refine j_aload_n 0 dX1_init_75 rfl ?_
  refine j_iconst (x := 3) dX1_init_76 rfl (by decide) ?_
  refine j_putI 10 10 dX1_init_77 zc_1 rfl (ap_at (i := 0) rfl (by rfl)) (by decide) lk_X1_43 rfl rfl rfl rfl (fun h11 _ => ?_)
  exact j_retV rfl rfl rfl dX1_init_80 rfl ⟨(Nat.le_of_ble_eq_true rfl), (Nat.le_of_ble_eq_true rfl)⟩ rfl
theorem ct_dr_initA (A l : List LK) {a : Nat} (ha : A.length + l.length = a) (h : Hp) : CT mi_dr_init encV (fun l' => l' = A ++ (l ++ blkDrawing)) (A ++ (l ++ [(5, 0, 0, 0)])) [vr a] h (dr_init a h) := by
  subst ha
  have q := ct_dr_init (A ++ l) h
  rw [List.append_assoc, List.append_assoc, List.length_append] at q
  exact q
abbrev mi_hi_init : MI := (yX2_init, cX2_init, 2, none, 2, 40, 65, 960, none)
theorem mv_hi_init : MV mi_hi_init 0 ∧ Cond.instanceMethod mi_hi_init.1 ∈ UW := ⟨⟨kw1_hi_init, kw2_hi_init, by decide +kernel, by decide +kernel⟩, kw3_hi_init⟩
set_option maxRecDepth 100000 in
set_option maxHeartbeats 4000000 in
theorem jl_hi_init_8 (A : List LK) : ∀ (n : Nat) (h : Hp), J mi_hi_init encV (fun l' => l' = A ++ blkHistory) (A ++ ([(6, 0, 0, 1), (2, 8, 8, 8)] ++ (blkDrawing ++ (blkDrawing ++ (blkDrawing ++ (blkDrawing ++ (blkDrawing ++ (blkDrawing ++ (blkDrawing ++ (blkDrawing)))))))))) 65 960 25 [(0, vr A.length), (1, vi 8)] [] h (iter1 (hi_init_f25 A.length) n 8 h)
  | 0, h => fun _ _ _ _ _ _ _ _ _ _ _ _ _ _ _ _ _ _ _ _ hE => by cases hE
  | n + 1, h => by
    show J _ _ _ _ _ _ _ _ _ h (hi_init_f25 A.length (iter1 (hi_init_f25 A.length) n) 8 h)
    unfold hi_init_f25
    refine j_iload_n 1 dX2_init_25 rfl ?_
    refine j_bipush (x := 8) dX2_init_26 (by decide) (by decide) ?_
    refine j_icmp_geC (tgt := 50) dX2_init_28 (by decide) (fun hc => ?_) (fun hc => ?_)
    · exact absurd hc (by decide)
    · exact j_retV rfl rfl rfl dX2_init_50 rfl ⟨(Nat.le_of_ble_eq_true rfl), (Nat.le_of_ble_eq_true rfl)⟩ rfl
set_option maxRecDepth 100000 in
set_option maxHeartbeats 4000000 in
theorem jl_hi_init_7 (A : List LK) : ∀ (n : Nat) (h : Hp), J mi_hi_init encV (fun l' => l' = A ++ blkHistory) (A ++ ([(6, 0, 0, 1), (2, 8, 8, 7)] ++ (blkDrawing ++ (blkDrawing ++ (blkDrawing ++ (blkDrawing ++ (blkDrawing ++ (blkDrawing ++ (blkDrawing))))))))) 57 841 25 [(0, vr A.length), (1, vi 7)] [] h (iter1 (hi_init_f25 A.length) n 7 h)
  | 0, h => fun _ _ _ _ _ _ _ _ _ _ _ _ _ _ _ _ _ _ _ _ hE => by cases hE
  | n + 1, h => by
    show J _ _ _ _ _ _ _ _ _ h (hi_init_f25 A.length (iter1 (hi_init_f25 A.length) n) 7 h)
    unfold hi_init_f25
    refine j_iload_n 1 dX2_init_25 rfl ?_
    refine j_bipush (x := 8) dX2_init_26 (by decide) (by decide) ?_
    refine j_icmp_geC (tgt := 50) dX2_init_28 (by decide) (fun hc => ?_) (fun hc => ?_)
    · refine j_aload_n 0 dX2_init_31 rfl ?_
      refine j_getR 0 1 0 dX2_init_32 zc_2 rfl (ap_at (i := 0) rfl (by rfl)) (by decide) lk_X2_11 rfl (by decide) (a' := (A.length + 1)) (by rfl) ?_
      refine j_iload_n 1 dX2_init_35 rfl ?_
      refine j_new (t := 1) (a' := (A.length + 58)) dX2_init_36 zc_1 rfl kcl_X2_9 kin_X1 kii_X1 zdef_1 (Nat.le_of_ble_eq_true rfl) (Nat.le_of_ble_eq_true rfl) (by rfl) (fun h1 _ => ?_)
      refine j_dup dX2_init_39 (fun _ _ => rfl) ?_
      refine j_callIN (mi2 := mi_dr_init) (enc2 := encV) (FL2 := fun l' => l' = A ++ (([(6, 0, 0, 1), (2, 8, 8, 7)] ++ (blkDrawing ++ (blkDrawing ++ (blkDrawing ++ (blkDrawing ++ (blkDrawing ++ (blkDrawing ++ (blkDrawing)))))))) ++ blkDrawing)) (stk := [vr (A.length + 58), vi 7, vr (A.length + 1)]) [] (A.length + 58) dX2_init_40 mv_dr_init.1 rfl mv_dr_init.2 rfl lm_X2_24 (ct_dr_initA A ([(6, 0, 0, 1), (2, 8, 8, 7)] ++ (blkDrawing ++ (blkDrawing ++ (blkDrawing ++ (blkDrawing ++ (blkDrawing ++ (blkDrawing ++ (blkDrawing)))))))) (by rfl) h1) rfl rfl ⟨⟨(Nat.le_of_ble_eq_true rfl), (Nat.le_of_ble_eq_true rfl)⟩, (Nat.le_of_ble_eq_true rfl), (Nat.le_of_ble_eq_true rfl)⟩ (Nat.le_of_ble_eq_true rfl) (fun _ h2 lay' hL _ => ?_)
      subst hL
      refine j_aastD (i := 1) (p := 7) dX2_init_43 rfl (by rfl) (by rfl) rfl (by decide) (ap_at (i := 58) rfl (by rfl)) ?_
      refine j_lay (lay' := A ++ ([(6, 0, 0, 1), (2, 8, 8, 8)] ++ (blkDrawing ++ (blkDrawing ++ (blkDrawing ++ (blkDrawing ++ (blkDrawing ++ (blkDrawing ++ (blkDrawing ++ (blkDrawing)))))))))) rfl ?_
      refine j_iinc 1 (lv' := [(1, vi (7 + 1)), (0, vr A.length)]) dX2_init_44 rfl (by decide) rfl ?_
      refine j_goto (tgt := 25) dX2_init_47 (by decide) ?_
      refine j_sub [1, 0] rfl ?_
      exact jl_hi_init_8 A n h2
    · exact absurd (show (7 : Int) < 8 by decide) hc
set_option maxRecDepth 100000 in
set_option maxHeartbeats 4000000 in
theorem jl_hi_init_6 (A : List LK) : ∀ (n : Nat) (h : Hp), J mi_hi_init encV (fun l' => l' = A ++ blkHistory) (A ++ ([(6, 0, 0, 1), (2, 8, 8, 6)] ++ (blkDrawing ++ (blkDrawing ++ (blkDrawing ++ (blkDrawing ++ (blkDrawing ++ (blkDrawing)))))))) 49 722 25 [(0, vr A.length), (1, vi 6)] [] h (iter1 (hi_init_f25 A.length) n 6 h)
  | 0, h => fun _ _ _ _ _ _ _ _ _ _ _ _ _ _ _ _ _ _ _ _ hE => by cases hE
  | n + 1, h => by
    show J _ _ _ _ _ _ _ _ _ h (hi_init_f25 A.length (iter1 (hi_init_f25 A.length) n) 6 h)
    unfold hi_init_f25
    refine j_iload_n 1 dX2_init_25 rfl ?_
    refine j_bipush (x := 8) dX2_init_26 (by decide) (by decide) ?_
    refine j_icmp_geC (tgt := 50) dX2_init_28 (by decide) (fun hc => ?_) (fun hc => ?_)
    · refine j_aload_n 0 dX2_init_31 rfl ?_
      refine j_getR 0 1 0 dX2_init_32 zc_2 rfl (ap_at (i := 0) rfl (by rfl)) (by decide) lk_X2_11 rfl (by decide) (a' := (A.length + 1)) (by rfl) ?_
      refine j_iload_n 1 dX2_init_35 rfl ?_
      refine j_new (t := 1) (a' := (A.length + 50)) dX2_init_36 zc_1 rfl kcl_X2_9 kin_X1 kii_X1 zdef_1 (Nat.le_of_ble_eq_true rfl) (Nat.le_of_ble_eq_true rfl) (by rfl) (fun h1 _ => ?_)
      refine j_dup dX2_init_39 (fun _ _ => rfl) ?_
      refine j_callIN (mi2 := mi_dr_init) (enc2 := encV) (FL2 := fun l' => l' = A ++ (([(6, 0, 0, 1), (2, 8, 8, 6)] ++ (blkDrawing ++ (blkDrawing ++ (blkDrawing ++ (blkDrawing ++ (blkDrawing ++ (blkDrawing))))))) ++ blkDrawing)) (stk := [vr (A.length + 50), vi 6, vr (A.length + 1)]) [] (A.length + 50) dX2_init_40 mv_dr_init.1 rfl mv_dr_init.2 rfl lm_X2_24 (ct_dr_initA A ([(6, 0, 0, 1), (2, 8, 8, 6)] ++ (blkDrawing ++ (blkDrawing ++ (blkDrawing ++ (blkDrawing ++ (blkDrawing ++ (blkDrawing))))))) (by rfl) h1) rfl rfl ⟨⟨(Nat.le_of_ble_eq_true rfl), (Nat.le_of_ble_eq_true rfl)⟩, (Nat.le_of_ble_eq_true rfl), (Nat.le_of_ble_eq_true rfl)⟩ (Nat.le_of_ble_eq_true rfl) (fun _ h2 lay' hL _ => ?_)
      subst hL
      refine j_aastD (i := 1) (p := 6) dX2_init_43 rfl (by rfl) (by rfl) rfl (by decide) (ap_at (i := 50) rfl (by rfl)) ?_
      refine j_lay (lay' := A ++ ([(6, 0, 0, 1), (2, 8, 8, 7)] ++ (blkDrawing ++ (blkDrawing ++ (blkDrawing ++ (blkDrawing ++ (blkDrawing ++ (blkDrawing ++ (blkDrawing))))))))) rfl ?_
      refine j_iinc 1 (lv' := [(1, vi (6 + 1)), (0, vr A.length)]) dX2_init_44 rfl (by decide) rfl ?_
      refine j_goto (tgt := 25) dX2_init_47 (by decide) ?_
      refine j_sub [1, 0] rfl ?_
      exact jl_hi_init_7 A n h2
    · exact absurd (show (6 : Int) < 8 by decide) hc
set_option maxRecDepth 100000 in
set_option maxHeartbeats 4000000 in
theorem jl_hi_init_5 (A : List LK) : ∀ (n : Nat) (h : Hp), J mi_hi_init encV (fun l' => l' = A ++ blkHistory) (A ++ ([(6, 0, 0, 1), (2, 8, 8, 5)] ++ (blkDrawing ++ (blkDrawing ++ (blkDrawing ++ (blkDrawing ++ (blkDrawing))))))) 41 603 25 [(0, vr A.length), (1, vi 5)] [] h (iter1 (hi_init_f25 A.length) n 5 h)
  | 0, h => fun _ _ _ _ _ _ _ _ _ _ _ _ _ _ _ _ _ _ _ _ hE => by cases hE
  | n + 1, h => by
    show J _ _ _ _ _ _ _ _ _ h (hi_init_f25 A.length (iter1 (hi_init_f25 A.length) n) 5 h)
    unfold hi_init_f25
    refine j_iload_n 1 dX2_init_25 rfl ?_
    refine j_bipush (x := 8) dX2_init_26 (by decide) (by decide) ?_
    refine j_icmp_geC (tgt := 50) dX2_init_28 (by decide) (fun hc => ?_) (fun hc => ?_)
    · refine j_aload_n 0 dX2_init_31 rfl ?_
      refine j_getR 0 1 0 dX2_init_32 zc_2 rfl (ap_at (i := 0) rfl (by rfl)) (by decide) lk_X2_11 rfl (by decide) (a' := (A.length + 1)) (by rfl) ?_
      refine j_iload_n 1 dX2_init_35 rfl ?_
      refine j_new (t := 1) (a' := (A.length + 42)) dX2_init_36 zc_1 rfl kcl_X2_9 kin_X1 kii_X1 zdef_1 (Nat.le_of_ble_eq_true rfl) (Nat.le_of_ble_eq_true rfl) (by rfl) (fun h1 _ => ?_)
      refine j_dup dX2_init_39 (fun _ _ => rfl) ?_
      refine j_callIN (mi2 := mi_dr_init) (enc2 := encV) (FL2 := fun l' => l' = A ++ (([(6, 0, 0, 1), (2, 8, 8, 5)] ++ (blkDrawing ++ (blkDrawing ++ (blkDrawing ++ (blkDrawing ++ (blkDrawing)))))) ++ blkDrawing)) (stk := [vr (A.length + 42), vi 5, vr (A.length + 1)]) [] (A.length + 42) dX2_init_40 mv_dr_init.1 rfl mv_dr_init.2 rfl lm_X2_24 (ct_dr_initA A ([(6, 0, 0, 1), (2, 8, 8, 5)] ++ (blkDrawing ++ (blkDrawing ++ (blkDrawing ++ (blkDrawing ++ (blkDrawing)))))) (by rfl) h1) rfl rfl ⟨⟨(Nat.le_of_ble_eq_true rfl), (Nat.le_of_ble_eq_true rfl)⟩, (Nat.le_of_ble_eq_true rfl), (Nat.le_of_ble_eq_true rfl)⟩ (Nat.le_of_ble_eq_true rfl) (fun _ h2 lay' hL _ => ?_)
      subst hL
      refine j_aastD (i := 1) (p := 5) dX2_init_43 rfl (by rfl) (by rfl) rfl (by decide) (ap_at (i := 42) rfl (by rfl)) ?_
      refine j_lay (lay' := A ++ ([(6, 0, 0, 1), (2, 8, 8, 6)] ++ (blkDrawing ++ (blkDrawing ++ (blkDrawing ++ (blkDrawing ++ (blkDrawing ++ (blkDrawing)))))))) rfl ?_
      refine j_iinc 1 (lv' := [(1, vi (5 + 1)), (0, vr A.length)]) dX2_init_44 rfl (by decide) rfl ?_
      refine j_goto (tgt := 25) dX2_init_47 (by decide) ?_
      refine j_sub [1, 0] rfl ?_
      exact jl_hi_init_6 A n h2
    · exact absurd (show (5 : Int) < 8 by decide) hc
set_option maxRecDepth 100000 in
set_option maxHeartbeats 4000000 in
theorem jl_hi_init_4 (A : List LK) : ∀ (n : Nat) (h : Hp), J mi_hi_init encV (fun l' => l' = A ++ blkHistory) (A ++ ([(6, 0, 0, 1), (2, 8, 8, 4)] ++ (blkDrawing ++ (blkDrawing ++ (blkDrawing ++ (blkDrawing)))))) 33 484 25 [(0, vr A.length), (1, vi 4)] [] h (iter1 (hi_init_f25 A.length) n 4 h)
  | 0, h => fun _ _ _ _ _ _ _ _ _ _ _ _ _ _ _ _ _ _ _ _ hE => by cases hE
  | n + 1, h => by
    show J _ _ _ _ _ _ _ _ _ h (hi_init_f25 A.length (iter1 (hi_init_f25 A.length) n) 4 h)
    unfold hi_init_f25
    refine j_iload_n 1 dX2_init_25 rfl ?_
    refine j_bipush (x := 8) dX2_init_26 (by decide) (by decide) ?_
    refine j_icmp_geC (tgt := 50) dX2_init_28 (by decide) (fun hc => ?_) (fun hc => ?_)
    · refine j_aload_n 0 dX2_init_31 rfl ?_
      refine j_getR 0 1 0 dX2_init_32 zc_2 rfl (ap_at (i := 0) rfl (by rfl)) (by decide) lk_X2_11 rfl (by decide) (a' := (A.length + 1)) (by rfl) ?_
      refine j_iload_n 1 dX2_init_35 rfl ?_
      refine j_new (t := 1) (a' := (A.length + 34)) dX2_init_36 zc_1 rfl kcl_X2_9 kin_X1 kii_X1 zdef_1 (Nat.le_of_ble_eq_true rfl) (Nat.le_of_ble_eq_true rfl) (by rfl) (fun h1 _ => ?_)
      refine j_dup dX2_init_39 (fun _ _ => rfl) ?_
      refine j_callIN (mi2 := mi_dr_init) (enc2 := encV) (FL2 := fun l' => l' = A ++ (([(6, 0, 0, 1), (2, 8, 8, 4)] ++ (blkDrawing ++ (blkDrawing ++ (blkDrawing ++ (blkDrawing))))) ++ blkDrawing)) (stk := [vr (A.length + 34), vi 4, vr (A.length + 1)]) [] (A.length + 34) dX2_init_40 mv_dr_init.1 rfl mv_dr_init.2 rfl lm_X2_24 (ct_dr_initA A ([(6, 0, 0, 1), (2, 8, 8, 4)] ++ (blkDrawing ++ (blkDrawing ++ (blkDrawing ++ (blkDrawing))))) (by rfl) h1) rfl rfl ⟨⟨(Nat.le_of_ble_eq_true rfl), (Nat.le_of_ble_eq_true rfl)⟩, (Nat.le_of_ble_eq_true rfl), (Nat.le_of_ble_eq_true rfl)⟩ (Nat.le_of_ble_eq_true rfl) (fun _ h2 lay' hL _ => ?_)
      subst hL
      refine j_aastD (i := 1) (p := 4) dX2_init_43 rfl (by rfl) (by rfl) rfl (by decide) (ap_at (i := 34) rfl (by rfl)) ?_
      refine j_lay (lay' := A ++ ([(6, 0, 0, 1), (2, 8, 8, 5)] ++ (blkDrawing ++ (blkDrawing ++ (blkDrawing ++ (blkDrawing ++ (blkDrawing))))))) rfl ?_
      refine j_iinc 1 (lv' := [(1, vi (4 + 1)), (0, vr A.length)]) dX2_init_44 rfl (by decide) rfl ?_
      refine j_goto (tgt := 25) dX2_init_47 (by decide) ?_
      refine j_sub [1, 0] rfl ?_
      exact jl_hi_init_5 A n h2
    · exact absurd (show (4 : Int) < 8 by decide) hc
set_option maxRecDepth 100000 in
set_option maxHeartbeats 4000000 in
theorem jl_hi_init_3 (A : List LK) : ∀ (n : Nat) (h : Hp), J mi_hi_init encV (fun l' => l' = A ++ blkHistory) (A ++ ([(6, 0, 0, 1), (2, 8, 8, 3)] ++ (blkDrawing ++ (blkDrawing ++ (blkDrawing))))) 25 365 25 [(0, vr A.length), (1, vi 3)] [] h (iter1 (hi_init_f25 A.length) n 3 h)
  | 0, h => fun _ _ _ _ _ _ _ _ _ _ _ _ _ _ _ _ _ _ _ _ hE => by cases hE
  | n + 1, h => by
    show J _ _ _ _ _ _ _ _ _ h (hi_init_f25 A.length (iter1 (hi_init_f25 A.length) n) 3 h)
    unfold hi_init_f25
    refine j_iload_n 1 dX2_init_25 rfl ?_
    refine j_bipush (x := 8) dX2_init_26 (by decide) (by decide) ?_
    refine j_icmp_geC (tgt := 50) dX2_init_28 (by decide) (fun hc => ?_) (fun hc => ?_)
    · refine j_aload_n 0 dX2_init_31 rfl ?_
      refine j_getR 0 1 0 dX2_init_32 zc_2 rfl (ap_at (i := 0) rfl (by rfl)) (by decide) lk_X2_11 rfl (by decide) (a' := (A.length + 1)) (by rfl) ?_
      refine j_iload_n 1 dX2_init_35 rfl ?_
      refine j_new (t := 1) (a' := (A.length + 26)) dX2_init_36 zc_1 rfl kcl_X2_9 kin_X1 kii_X1 zdef_1 (Nat.le_of_ble_eq_true rfl) (Nat.le_of_ble_eq_true rfl) (by rfl) (fun h1 _ => ?_)
      refine j_dup dX2_init_39 (fun _ _ => rfl) ?_
      refine j_callIN (mi2 := mi_dr_init) (enc2 := encV) (FL2 := fun l' => l' = A ++ (([(6, 0, 0, 1), (2, 8, 8, 3)] ++ (blkDrawing ++ (blkDrawing ++ (blkDrawing)))) ++ blkDrawing)) (stk := [vr (A.length + 26), vi 3, vr (A.length + 1)]) [] (A.length + 26) dX2_init_40 mv_dr_init.1 rfl mv_dr_init.2 rfl lm_X2_24 (ct_dr_initA A ([(6, 0, 0, 1), (2, 8, 8, 3)] ++ (blkDrawing ++ (blkDrawing ++ (blkDrawing)))) (by rfl) h1) rfl rfl ⟨⟨(Nat.le_of_ble_eq_true rfl), (Nat.le_of_ble_eq_true rfl)⟩, (Nat.le_of_ble_eq_true rfl), (Nat.le_of_ble_eq_true rfl)⟩ (Nat.le_of_ble_eq_true rfl) (fun _ h2 lay' hL _ => ?_)
      subst hL
      refine j_aastD (i := 1) (p := 3) dX2_init_43 rfl (by rfl) (by rfl) rfl (by decide) (ap_at (i := 26) rfl (by rfl)) ?_
      refine j_lay (lay' := A ++ ([(6, 0, 0, 1), (2, 8, 8, 4)] ++ (blkDrawing ++ (blkDrawing ++ (blkDrawing ++ (blkDrawing)))))) rfl ?_
      refine j_iinc 1 (lv' := [(1, vi (3 + 1)), (0, vr A.length)]) dX2_init_44 rfl (by decide) rfl ?_
      refine j_goto (tgt := 25) dX2_init_47 (by decide) ?_
      refine j_sub [1, 0] rfl ?_
      exact jl_hi_init_4 A n h2
    · exact absurd (show (3 : Int) < 8 by decide) hc
set_option maxRecDepth 100000 in
set_option maxHeartbeats 4000000 in
theorem jl_hi_init_2 (A : List LK) : ∀ (n : Nat) (h : Hp), J mi_hi_init encV (fun l' => l' = A ++ blkHistory) (A ++ ([(6, 0, 0, 1), (2, 8, 8, 2)] ++ (blkDrawing ++ (blkDrawing)))) 17 246 25 [(0, vr A.length), (1, vi 2)] [] h (iter1 (hi_init_f25 A.length) n 2 h)
  | 0, h => fun _ _ _ _ _ _ _ _ _ _ _ _ _ _ _ _ _ _ _ _ hE => by cases hE
  | n + 1, h => by
    show J _ _ _ _ _ _ _ _ _ h (hi_init_f25 A.length (iter1 (hi_init_f25 A.length) n) 2 h)
    unfold hi_init_f25
    refine j_iload_n 1 dX2_init_25 rfl ?_
    refine j_bipush (x := 8) dX2_init_26 (by decide) (by decide) ?_
    refine j_icmp_geC (tgt := 50) dX2_init_28 (by decide) (fun hc => ?_) (fun hc => ?_)
    · refine j_aload_n 0 dX2_init_31 rfl ?_
      refine j_getR 0 1 0 dX2_init_32 zc_2 rfl (ap_at (i := 0) rfl (by rfl)) (by decide) lk_X2_11 rfl (by decide) (a' := (A.length + 1)) (by rfl) ?_
      refine j_iload_n 1 dX2_init_35 rfl ?_
      refine j_new (t := 1) (a' := (A.length + 18)) dX2_init_36 zc_1 rfl kcl_X2_9 kin_X1 kii_X1 zdef_1 (Nat.le_of_ble_eq_true rfl) (Nat.le_of_ble_eq_true rfl) (by rfl) (fun h1 _ => ?_)
      refine j_dup dX2_init_39 (fun _ _ => rfl) ?_
      refine j_callIN (mi2 := mi_dr_init) (enc2 := encV) (FL2 := fun l' => l' = A ++ (([(6, 0, 0, 1), (2, 8, 8, 2)] ++ (blkDrawing ++ (blkDrawing))) ++ blkDrawing)) (stk := [vr (A.length + 18), vi 2, vr (A.length + 1)]) [] (A.length + 18) dX2_init_40 mv_dr_init.1 rfl mv_dr_init.2 rfl lm_X2_24 (ct_dr_initA A ([(6, 0, 0, 1), (2, 8, 8, 2)] ++ (blkDrawing ++ (blkDrawing))) (by rfl) h1) rfl rfl ⟨⟨(Nat.le_of_ble_eq_true rfl), (Nat.le_of_ble_eq_true rfl)⟩, (Nat.le_of_ble_eq_true rfl), (Nat.le_of_ble_eq_true rfl)⟩ (Nat.le_of_ble_eq_true rfl) (fun _ h2 lay' hL _ => ?_)
      subst hL
      refine j_aastD (i := 1) (p := 2) dX2_init_43 rfl (by rfl) (by rfl) rfl (by decide) (ap_at (i := 18) rfl (by rfl)) ?_
      refine j_lay (lay' := A ++ ([(6, 0, 0, 1), (2, 8, 8, 3)] ++ (blkDrawing ++ (blkDrawing ++ (blkDrawing))))) rfl ?_
      refine j_iinc 1 (lv' := [(1, vi (2 + 1)), (0, vr A.length)]) dX2_init_44 rfl (by decide) rfl ?_
      refine j_goto (tgt := 25) dX2_init_47 (by decide) ?_
      refine j_sub [1, 0] rfl ?_
      exact jl_hi_init_3 A n h2
    · exact absurd (show (2 : Int) < 8 by decide) hc
set_option maxRecDepth 100000 in
set_option maxHeartbeats 4000000 in
theorem jl_hi_init_1 (A : List LK) : ∀ (n : Nat) (h : Hp), J mi_hi_init encV (fun l' => l' = A ++ blkHistory) (A ++ ([(6, 0, 0, 1), (2, 8, 8, 1)] ++ (blkDrawing))) 9 127 25 [(0, vr A.length), (1, vi 1)] [] h (iter1 (hi_init_f25 A.length) n 1 h)
  | 0, h => fun _ _ _ _ _ _ _ _ _ _ _ _ _ _ _ _ _ _ _ _ hE => by cases hE
  | n + 1, h => by
    show J _ _ _ _ _ _ _ _ _ h (hi_init_f25 A.length (iter1 (hi_init_f25 A.length) n) 1 h)
    unfold hi_init_f25
    refine j_iload_n 1 dX2_init_25 rfl ?_
    refine j_bipush (x := 8) dX2_init_26 (by decide) (by decide) ?_
    refine j_icmp_geC (tgt := 50) dX2_init_28 (by decide) (fun hc => ?_) (fun hc => ?_)
    · refine j_aload_n 0 dX2_init_31 rfl ?_
      refine j_getR 0 1 0 dX2_init_32 zc_2 rfl (ap_at (i := 0) rfl (by rfl)) (by decide) lk_X2_11 rfl (by decide) (a' := (A.length + 1)) (by rfl) ?_
      refine j_iload_n 1 dX2_init_35 rfl ?_
      refine j_new (t := 1) (a' := (A.length + 10)) dX2_init_36 zc_1 rfl kcl_X2_9 kin_X1 kii_X1 zdef_1 (Nat.le_of_ble_eq_true rfl) (Nat.le_of_ble_eq_true rfl) (by rfl) (fun h1 _ => ?_)
      refine j_dup dX2_init_39 (fun _ _ => rfl) ?_
      refine j_callIN (mi2 := mi_dr_init) (enc2 := encV) (FL2 := fun l' => l' = A ++ (([(6, 0, 0, 1), (2, 8, 8, 1)] ++ (blkDrawing)) ++ blkDrawing)) (stk := [vr (A.length + 10), vi 1, vr (A.length + 1)]) [] (A.length + 10) dX2_init_40 mv_dr_init.1 rfl mv_dr_init.2 rfl lm_X2_24 (ct_dr_initA A ([(6, 0, 0, 1), (2, 8, 8, 1)] ++ (blkDrawing)) (by rfl) h1) rfl rfl ⟨⟨(Nat.le_of_ble_eq_true rfl), (Nat.le_of_ble_eq_true rfl)⟩, (Nat.le_of_ble_eq_true rfl), (Nat.le_of_ble_eq_true rfl)⟩ (Nat.le_of_ble_eq_true rfl) (fun _ h2 lay' hL _ => ?_)
      subst hL
      refine j_aastD (i := 1) (p := 1) dX2_init_43 rfl (by rfl) (by rfl) rfl (by decide) (ap_at (i := 10) rfl (by rfl)) ?_
      refine j_lay (lay' := A ++ ([(6, 0, 0, 1), (2, 8, 8, 2)] ++ (blkDrawing ++ (blkDrawing)))) rfl ?_
      refine j_iinc 1 (lv' := [(1, vi (1 + 1)), (0, vr A.length)]) dX2_init_44 rfl (by decide) rfl ?_
      refine j_goto (tgt := 25) dX2_init_47 (by decide) ?_
      refine j_sub [1, 0] rfl ?_
      exact jl_hi_init_2 A n h2
    · exact absurd (show (1 : Int) < 8 by decide) hc
set_option maxRecDepth 100000 in
set_option maxHeartbeats 4000000 in
theorem jl_hi_init_0 (A : List LK) : ∀ (n : Nat) (h : Hp), J mi_hi_init encV (fun l' => l' = A ++ blkHistory) (A ++ ([(6, 0, 0, 1), (2, 8, 8, 0)] ++ ([]))) 1 8 25 [(0, vr A.length), (1, vi 0)] [] h (iter1 (hi_init_f25 A.length) n 0 h)
  | 0, h => fun _ _ _ _ _ _ _ _ _ _ _ _ _ _ _ _ _ _ _ _ hE => by cases hE
  | n + 1, h => by
    show J _ _ _ _ _ _ _ _ _ h (hi_init_f25 A.length (iter1 (hi_init_f25 A.length) n) 0 h)
    unfold hi_init_f25
    refine j_iload_n 1 dX2_init_25 rfl ?_
    refine j_bipush (x := 8) dX2_init_26 (by decide) (by decide) ?_
    refine j_icmp_geC (tgt := 50) dX2_init_28 (by decide) (fun hc => ?_) (fun hc => ?_)
    · refine j_aload_n 0 dX2_init_31 rfl ?_
      refine j_getR 0 1 0 dX2_init_32 zc_2 rfl (ap_at (i := 0) rfl (by rfl)) (by decide) lk_X2_11 rfl (by decide) (a' := (A.length + 1)) (by rfl) ?_
      refine j_iload_n 1 dX2_init_35 rfl ?_
      refine j_new (t := 1) (a' := (A.length + 2)) dX2_init_36 zc_1 rfl kcl_X2_9 kin_X1 kii_X1 zdef_1 (Nat.le_of_ble_eq_true rfl) (Nat.le_of_ble_eq_true rfl) (by rfl) (fun h1 _ => ?_)
      refine j_dup dX2_init_39 (fun _ _ => rfl) ?_
      refine j_callIN (mi2 := mi_dr_init) (enc2 := encV) (FL2 := fun l' => l' = A ++ (([(6, 0, 0, 1), (2, 8, 8, 0)] ++ ([])) ++ blkDrawing)) (stk := [vr (A.length + 2), vi 0, vr (A.length + 1)]) [] (A.length + 2) dX2_init_40 mv_dr_init.1 rfl mv_dr_init.2 rfl lm_X2_24 (ct_dr_initA A ([(6, 0, 0, 1), (2, 8, 8, 0)] ++ ([])) (by rfl) h1) rfl rfl ⟨⟨(Nat.le_of_ble_eq_true rfl), (Nat.le_of_ble_eq_true rfl)⟩, (Nat.le_of_ble_eq_true rfl), (Nat.le_of_ble_eq_true rfl)⟩ (Nat.le_of_ble_eq_true rfl) (fun _ h2 lay' hL _ => ?_)
      subst hL
      refine j_aastD (i := 1) (p := 0) dX2_init_43 rfl (by rfl) (by rfl) rfl (by decide) (ap_at (i := 2) rfl (by rfl)) ?_
      refine j_lay (lay' := A ++ ([(6, 0, 0, 1), (2, 8, 8, 1)] ++ (blkDrawing))) rfl ?_
      refine j_iinc 1 (lv' := [(1, vi (0 + 1)), (0, vr A.length)]) dX2_init_44 rfl (by decide) rfl ?_
      refine j_goto (tgt := 25) dX2_init_47 (by decide) ?_
      refine j_sub [1, 0] rfl ?_
      exact jl_hi_init_1 A n h2
    · exact absurd (show (0 : Int) < 8 by decide) hc
set_option maxRecDepth 100000 in
set_option maxHeartbeats 4000000 in
theorem ct_hi_init (A : List LK) (h : Hp) : CT mi_hi_init encV (fun l' => l' = A ++ blkHistory) (A ++ [(6, 0, 0, 0)]) [vr A.length] h (hi_init A.length h) := by
  refine CT.of (by decide) rfl (Nat.le_of_ble_eq_true rfl) ?_
  show J mi_hi_init encV (fun l' => l' = A ++ blkHistory) (A ++ [(6, 0, 0, 0)]) 0 0 0 [(0, vr A.length)] [] h _
  unfold hi_init
  refine j_aload_n 0 dX2_init_0 rfl ?_
  refine j_obj dX2_init_1 lm_X2_3 kob_1 kob_2 (Nat.le_of_ble_eq_true rfl) (Nat.le_of_ble_eq_true rfl) ?_
  refine j_aload_n 0 dX2_init_4 rfl ?_
  refine j_bipush (x := 8) dX2_init_5 (by decide) (by decide) ?_
  refine j_newD (n := 8) (a' := (A.length + 1)) dX2_init_7 kcl_X2_9 rfl (Nat.le_of_ble_eq_true rfl) (Nat.le_of_ble_eq_true rfl) (Nat.le_of_ble_eq_true rfl) (by rfl) (fun h1 _ => ?_)
  refine j_lay (lay' := A ++ [(6, 0, 0, 0), (2, 8, 8, 0)]) rfl ?_
  refine j_putR 0 1 0 dX2_init_10 zc_2 rfl rfl (by rfl) (by decide) lk_X2_11 rfl rfl rfl rfl (by rfl) (fun _ => ⟨rfl, rfl⟩) (by decide) ?_
  refine j_lay (lay' := A ++ [(6, 0, 0, 1), (2, 8, 8, 0)]) rfl ?_
  refine j_aload_n 0 dX2_init_13 rfl ?_
  refine j_iconst (x := 0) dX2_init_14 rfl (by decide) ?_
  refine j_putI 1 1 dX2_init_15 zc_2 rfl (ap_at (i := 0) rfl (by rfl)) (by decide) lk_X2_17 rfl rfl rfl rfl (fun h2 _ => ?_)
  refine j_aload_n 0 dX2_init_18 rfl ?_
  refine j_iconst (x := 0) dX2_init_19 rfl (by decide) ?_
  refine j_putI 2 2 dX2_init_20 zc_2 rfl (ap_at (i := 0) rfl (by rfl)) (by decide) lk_X2_21 rfl rfl rfl rfl (fun h3 _ => ?_)
  refine j_iconst (x := 0) dX2_init_23 rfl (by decide) ?_
  refine j_istore_n (lv' := [(1, vi 0), (0, vr A.length)]) dX2_init_24 (by decide) rfl ?_
  refine j_sub [1, 0] rfl ?_
  exact jl_hi_init_0 A fuel _
theorem ct_hi_initA (A l : List LK) {a : Nat} (ha : A.length + l.length = a) (h : Hp) : CT mi_hi_init encV (fun l' => l' = A ++ (l ++ blkHistory)) (A ++ (l ++ [(6, 0, 0, 0)])) [vr a] h (hi_init a h) := by
  subst ha
  have q := ct_hi_init (A ++ l) h
  rw [List.append_assoc, List.append_assoc, List.length_append] at q
  exact q
abbrev mi_tr_init : MI := (yX4_init, cX4_init, 1, none, 2, 40, 9, 199, none)
theorem mv_tr_init : MV mi_tr_init 0 ∧ Cond.instanceMethod mi_tr_init.1 ∈ UW := ⟨⟨kw1_tr_init, kw2_tr_init, by decide +kernel, by decide +kernel⟩, kw3_tr_init⟩
set_option maxRecDepth 100000 in
set_option maxHeartbeats 4000000 in
theorem ct_tr_init (A : List LK) (h : Hp) : CT mi_tr_init encV (fun l' => l' = A ++ blkReader) (A ++ [(8, 0, 0, 0)]) [vr A.length] h (tr_init A.length h) := by
  refine CT.of (by decide) rfl (Nat.le_of_ble_eq_true rfl) ?_
  show J mi_tr_init encV (fun l' => l' = A ++ blkReader) (A ++ [(8, 0, 0, 0)]) 0 0 0 [(0, vr A.length)] [] h _
  unfold tr_init
  refine j_aload_n 0 dX4_init_0 rfl ?_
  refine j_obj dX4_init_1 lm_X4_3 kob_1 kob_2 (Nat.le_of_ble_eq_true rfl) (Nat.le_of_ble_eq_true rfl) ?_
  refine j_aload_n 0 dX4_init_4 rfl ?_
  refine j_bipush (x := 80) dX4_init_5 (by decide) (by decide) ?_
  refine j_newI (n := 80) (a' := (A.length + 1)) dX4_init_7 kac_int rfl (Nat.le_of_ble_eq_true rfl) (Nat.le_of_ble_eq_true rfl) (Nat.le_of_ble_eq_true rfl) (by rfl) (fun h1 _ => ?_)
  refine j_lay (lay' := A ++ [(8, 0, 0, 0), (0, 80, 0, 0)]) rfl ?_
  refine j_putR 0 1 0 dX4_init_9 zc_4 rfl rfl (by rfl) (by decide) lk_X4_9 rfl rfl rfl rfl (by rfl) (fun _ => ⟨rfl, rfl⟩) (by decide) ?_
  refine j_lay (lay' := A ++ [(8, 0, 0, 1), (0, 80, 0, 0)]) rfl ?_
  refine j_aload_n 0 dX4_init_12 rfl ?_
  refine j_new (t := 1) (a' := (A.length + 2)) dX4_init_13 zc_1 rfl kcl_X4_15 kin_X1 kii_X1 zdef_1 (Nat.le_of_ble_eq_true rfl) (Nat.le_of_ble_eq_true rfl) (by rfl) (fun h2 _ => ?_)
  refine j_lay (lay' := A ++ [(8, 0, 0, 1), (0, 80, 0, 0), (5, 0, 0, 0)]) rfl ?_
  refine j_dup dX4_init_16 (fun _ _ => rfl) ?_
  refine j_callIN (mi2 := mi_dr_init) (enc2 := encV) (FL2 := fun l' => l' = A ++ ([(8, 0, 0, 1), (0, 80, 0, 0)] ++ blkDrawing)) (stk := [vr (A.length + 2), vr A.length]) [] (A.length + 2) dX4_init_17 mv_dr_init.1 rfl mv_dr_init.2 rfl lm_X4_17 (ct_dr_initA A [(8, 0, 0, 1), (0, 80, 0, 0)] (by rfl) h2) rfl rfl ⟨⟨(Nat.le_of_ble_eq_true rfl), (Nat.le_of_ble_eq_true rfl)⟩, (Nat.le_of_ble_eq_true rfl), (Nat.le_of_ble_eq_true rfl)⟩ (Nat.le_of_ble_eq_true rfl) (fun _ h3 lay' hL _ => ?_)
  subst hL
  refine j_lay (lay' := A ++ [(8, 0, 0, 1), (0, 80, 0, 0), (5, 0, 0, 7), (0, 12, 0, 0), (0, 16, 0, 0), (0, 16, 0, 0), (0, 16, 0, 0), (0, 16, 0, 0), (0, 16, 0, 0), (0, 16, 0, 0)]) rfl ?_
  refine j_putR 1 2 0 dX4_init_20 zc_4 rfl rfl (by rfl) (by decide) lk_X4_18 rfl rfl rfl rfl (by rfl) (fun _ => ⟨rfl, rfl⟩) (by decide) ?_
  refine j_lay (lay' := A ++ [(8, 0, 0, 2), (0, 80, 0, 0), (5, 0, 0, 7), (0, 12, 0, 0), (0, 16, 0, 0), (0, 16, 0, 0), (0, 16, 0, 0), (0, 16, 0, 0), (0, 16, 0, 0), (0, 16, 0, 0)]) rfl ?_
  refine j_aload_n 0 dX4_init_23 rfl ?_
  refine j_iconst (x := 0) dX4_init_24 rfl (by decide) ?_
  refine j_putI 2 2 dX4_init_25 zc_4 rfl (ap_at (i := 0) rfl (by rfl)) (by decide) lk_X4_22 rfl rfl rfl rfl (fun h4 _ => ?_)
  refine j_aload_n 0 dX4_init_28 rfl ?_
  refine j_iconst (x := 0) dX4_init_29 rfl (by decide) ?_
  refine j_putI 3 3 dX4_init_30 zc_4 rfl (ap_at (i := 0) rfl (by rfl)) (by decide) lk_X4_26 rfl rfl rfl rfl (fun h5 _ => ?_)
  refine j_aload_n 0 dX4_init_33 rfl ?_
  refine j_iconst (x := 0) dX4_init_34 rfl (by decide) ?_
  refine j_putI 4 4 dX4_init_35 zc_4 rfl (ap_at (i := 0) rfl (by rfl)) (by decide) lk_X4_29 rfl rfl rfl rfl (fun h6 _ => ?_)
  refine j_aload_n 0 dX4_init_38 rfl ?_
  refine j_iconst (x := 0) dX4_init_39 rfl (by decide) ?_
  refine j_putI 5 5 dX4_init_40 zc_4 rfl (ap_at (i := 0) rfl (by rfl)) (by decide) lk_X4_32 rfl rfl rfl rfl (fun h7 _ => ?_)
  refine j_aload_n 0 dX4_init_43 rfl ?_
  refine j_iconst (x := 0) dX4_init_44 rfl (by decide) ?_
  refine j_putI 6 6 dX4_init_45 zc_4 rfl (ap_at (i := 0) rfl (by rfl)) (by decide) lk_X4_35 rfl rfl rfl rfl (fun h8 _ => ?_)
  exact j_retV rfl rfl rfl dX4_init_48 rfl ⟨(Nat.le_of_ble_eq_true rfl), (Nat.le_of_ble_eq_true rfl)⟩ rfl
theorem ct_tr_initA (A l : List LK) {a : Nat} (ha : A.length + l.length = a) (h : Hp) : CT mi_tr_init encV (fun l' => l' = A ++ (l ++ blkReader)) (A ++ (l ++ [(8, 0, 0, 0)])) [vr a] h (tr_init a h) := by
  subst ha
  have q := ct_tr_init (A ++ l) h
  rw [List.append_assoc, List.append_assoc, List.length_append] at q
  exact q
abbrev mi_la_init : MI := (yX3_init, cX3_init, 1, none, 1, 20, 12, 184, none)
theorem mv_la_init : MV mi_la_init 0 ∧ Cond.instanceMethod mi_la_init.1 ∈ UW := ⟨⟨kw1_la_init, kw2_la_init, by decide +kernel, by decide +kernel⟩, kw3_la_init⟩
set_option maxRecDepth 100000 in
set_option maxHeartbeats 4000000 in
theorem ct_la_init (A : List LK) (h : Hp) : CT mi_la_init encV (fun l' => l' = A ++ blkLanes) (A ++ [(7, 0, 0, 0)]) [vr A.length] h (la_init A.length h) := by
  refine CT.of (by decide) rfl (Nat.le_of_ble_eq_true rfl) ?_
  show J mi_la_init encV (fun l' => l' = A ++ blkLanes) (A ++ [(7, 0, 0, 0)]) 0 0 0 [(0, vr A.length)] [] h _
  unfold la_init
  refine j_aload_n 0 dX3_init_0 rfl ?_
  refine j_obj dX3_init_1 lm_X3_3 kob_1 kob_2 (Nat.le_of_ble_eq_true rfl) (Nat.le_of_ble_eq_true rfl) ?_
  refine j_aload_n 0 dX3_init_4 rfl ?_
  refine j_bipush (x := 16) dX3_init_5 (by decide) (by decide) ?_
  refine j_newI (n := 16) (a' := (A.length + 1)) dX3_init_7 kac_int rfl (Nat.le_of_ble_eq_true rfl) (Nat.le_of_ble_eq_true rfl) (Nat.le_of_ble_eq_true rfl) (by rfl) (fun h1 _ => ?_)
  refine j_lay (lay' := A ++ [(7, 0, 0, 0), (0, 16, 0, 0)]) rfl ?_
  refine j_putR 0 1 0 dX3_init_9 zc_3 rfl rfl (by rfl) (by decide) lk_X3_9 rfl rfl rfl rfl (by rfl) (fun _ => ⟨rfl, rfl⟩) (by decide) ?_
  refine j_lay (lay' := A ++ [(7, 0, 0, 1), (0, 16, 0, 0)]) rfl ?_
  refine j_aload_n 0 dX3_init_12 rfl ?_
  refine j_bipush (x := 16) dX3_init_13 (by decide) (by decide) ?_
  refine j_newI (n := 16) (a' := (A.length + 2)) dX3_init_15 kac_int rfl (Nat.le_of_ble_eq_true rfl) (Nat.le_of_ble_eq_true rfl) (Nat.le_of_ble_eq_true rfl) (by rfl) (fun h2 _ => ?_)
  refine j_lay (lay' := A ++ [(7, 0, 0, 1), (0, 16, 0, 0), (0, 16, 0, 0)]) rfl ?_
  refine j_putR 1 2 0 dX3_init_17 zc_3 rfl rfl (by rfl) (by decide) lk_X3_15 rfl rfl rfl rfl (by rfl) (fun _ => ⟨rfl, rfl⟩) (by decide) ?_
  refine j_lay (lay' := A ++ [(7, 0, 0, 2), (0, 16, 0, 0), (0, 16, 0, 0)]) rfl ?_
  refine j_aload_n 0 dX3_init_20 rfl ?_
  refine j_bipush (x := 16) dX3_init_21 (by decide) (by decide) ?_
  refine j_newI (n := 16) (a' := (A.length + 3)) dX3_init_23 kac_int rfl (Nat.le_of_ble_eq_true rfl) (Nat.le_of_ble_eq_true rfl) (Nat.le_of_ble_eq_true rfl) (by rfl) (fun h3 _ => ?_)
  refine j_lay (lay' := A ++ [(7, 0, 0, 2), (0, 16, 0, 0), (0, 16, 0, 0), (0, 16, 0, 0)]) rfl ?_
  refine j_putR 2 3 0 dX3_init_25 zc_3 rfl rfl (by rfl) (by decide) lk_X3_18 rfl rfl rfl rfl (by rfl) (fun _ => ⟨rfl, rfl⟩) (by decide) ?_
  refine j_lay (lay' := A ++ [(7, 0, 0, 3), (0, 16, 0, 0), (0, 16, 0, 0), (0, 16, 0, 0)]) rfl ?_
  refine j_aload_n 0 dX3_init_28 rfl ?_
  refine j_bipush (x := 16) dX3_init_29 (by decide) (by decide) ?_
  refine j_newI (n := 16) (a' := (A.length + 4)) dX3_init_31 kac_int rfl (Nat.le_of_ble_eq_true rfl) (Nat.le_of_ble_eq_true rfl) (Nat.le_of_ble_eq_true rfl) (by rfl) (fun h4 _ => ?_)
  refine j_lay (lay' := A ++ [(7, 0, 0, 3), (0, 16, 0, 0), (0, 16, 0, 0), (0, 16, 0, 0), (0, 16, 0, 0)]) rfl ?_
  refine j_putR 3 4 0 dX3_init_33 zc_3 rfl rfl (by rfl) (by decide) lk_X3_21 rfl rfl rfl rfl (by rfl) (fun _ => ⟨rfl, rfl⟩) (by decide) ?_
  refine j_lay (lay' := A ++ [(7, 0, 0, 4), (0, 16, 0, 0), (0, 16, 0, 0), (0, 16, 0, 0), (0, 16, 0, 0)]) rfl ?_
  refine j_aload_n 0 dX3_init_36 rfl ?_
  refine j_bipush (x := 16) dX3_init_37 (by decide) (by decide) ?_
  refine j_newI (n := 16) (a' := (A.length + 5)) dX3_init_39 kac_int rfl (Nat.le_of_ble_eq_true rfl) (Nat.le_of_ble_eq_true rfl) (Nat.le_of_ble_eq_true rfl) (by rfl) (fun h5 _ => ?_)
  refine j_lay (lay' := A ++ [(7, 0, 0, 4), (0, 16, 0, 0), (0, 16, 0, 0), (0, 16, 0, 0), (0, 16, 0, 0), (0, 16, 0, 0)]) rfl ?_
  refine j_putR 4 5 0 dX3_init_41 zc_3 rfl rfl (by rfl) (by decide) lk_X3_24 rfl rfl rfl rfl (by rfl) (fun _ => ⟨rfl, rfl⟩) (by decide) ?_
  refine j_lay (lay' := A ++ [(7, 0, 0, 5), (0, 16, 0, 0), (0, 16, 0, 0), (0, 16, 0, 0), (0, 16, 0, 0), (0, 16, 0, 0)]) rfl ?_
  refine j_aload_n 0 dX3_init_44 rfl ?_
  refine j_bipush (x := 12) dX3_init_45 (by decide) (by decide) ?_
  refine j_newI (n := 12) (a' := (A.length + 6)) dX3_init_47 kac_int rfl (Nat.le_of_ble_eq_true rfl) (Nat.le_of_ble_eq_true rfl) (Nat.le_of_ble_eq_true rfl) (by rfl) (fun h6 _ => ?_)
  refine j_lay (lay' := A ++ [(7, 0, 0, 5), (0, 16, 0, 0), (0, 16, 0, 0), (0, 16, 0, 0), (0, 16, 0, 0), (0, 16, 0, 0), (0, 12, 0, 0)]) rfl ?_
  refine j_putR 5 6 0 dX3_init_49 zc_3 rfl rfl (by rfl) (by decide) lk_X3_27 rfl rfl rfl rfl (by rfl) (fun _ => ⟨rfl, rfl⟩) (by decide) ?_
  refine j_lay (lay' := A ++ [(7, 0, 0, 6), (0, 16, 0, 0), (0, 16, 0, 0), (0, 16, 0, 0), (0, 16, 0, 0), (0, 16, 0, 0), (0, 12, 0, 0)]) rfl ?_
  refine j_aload_n 0 dX3_init_52 rfl ?_
  refine j_iconst (x := 0) dX3_init_53 rfl (by decide) ?_
  refine j_putI 6 6 dX3_init_54 zc_3 rfl (ap_at (i := 0) rfl (by rfl)) (by decide) lk_X3_30 rfl rfl rfl rfl (fun h7 _ => ?_)
  refine j_aload_n 0 dX3_init_57 rfl ?_
  refine j_iconst (x := 0) dX3_init_58 rfl (by decide) ?_
  refine j_putI 7 7 dX3_init_59 zc_3 rfl (ap_at (i := 0) rfl (by rfl)) (by decide) lk_X3_34 rfl rfl rfl rfl (fun h8 _ => ?_)
  refine j_aload_n 0 dX3_init_62 rfl ?_
  refine j_iconst (x := 0) dX3_init_63 rfl (by decide) ?_
  refine j_putI 8 8 dX3_init_64 zc_3 rfl (ap_at (i := 0) rfl (by rfl)) (by decide) lk_X3_37 rfl rfl rfl rfl (fun h9 _ => ?_)
  refine j_aload_n 0 dX3_init_67 rfl ?_
  refine j_bipush (x := 12) dX3_init_68 (by decide) (by decide) ?_
  refine j_newI (n := 12) (a' := (A.length + 7)) dX3_init_70 kac_int rfl (Nat.le_of_ble_eq_true rfl) (Nat.le_of_ble_eq_true rfl) (Nat.le_of_ble_eq_true rfl) (by rfl) (fun h10 _ => ?_)
  refine j_lay (lay' := A ++ [(7, 0, 0, 6), (0, 16, 0, 0), (0, 16, 0, 0), (0, 16, 0, 0), (0, 16, 0, 0), (0, 16, 0, 0), (0, 12, 0, 0), (0, 12, 0, 0)]) rfl ?_
  refine j_putR 9 7 0 dX3_init_72 zc_3 rfl rfl (by rfl) (by decide) lk_X3_40 rfl rfl rfl rfl (by rfl) (fun _ => ⟨rfl, rfl⟩) (by decide) ?_
  refine j_lay (lay' := A ++ [(7, 0, 0, 7), (0, 16, 0, 0), (0, 16, 0, 0), (0, 16, 0, 0), (0, 16, 0, 0), (0, 16, 0, 0), (0, 12, 0, 0), (0, 12, 0, 0)]) rfl ?_
  refine j_aload_n 0 dX3_init_75 rfl ?_
  refine j_bipush (x := 16) dX3_init_76 (by decide) (by decide) ?_
  refine j_newI (n := 16) (a' := (A.length + 8)) dX3_init_78 kac_int rfl (Nat.le_of_ble_eq_true rfl) (Nat.le_of_ble_eq_true rfl) (Nat.le_of_ble_eq_true rfl) (by rfl) (fun h11 _ => ?_)
  refine j_lay (lay' := A ++ [(7, 0, 0, 7), (0, 16, 0, 0), (0, 16, 0, 0), (0, 16, 0, 0), (0, 16, 0, 0), (0, 16, 0, 0), (0, 12, 0, 0), (0, 12, 0, 0), (0, 16, 0, 0)]) rfl ?_
  refine j_putR 10 8 0 dX3_init_80 zc_3 rfl rfl (by rfl) (by decide) lk_X3_43 rfl rfl rfl rfl (by rfl) (fun _ => ⟨rfl, rfl⟩) (by decide) ?_
  refine j_lay (lay' := A ++ [(7, 0, 0, 8), (0, 16, 0, 0), (0, 16, 0, 0), (0, 16, 0, 0), (0, 16, 0, 0), (0, 16, 0, 0), (0, 12, 0, 0), (0, 12, 0, 0), (0, 16, 0, 0)]) rfl ?_
  refine j_aload_n 0 dX3_init_83 rfl ?_
  refine j_bipush (x := 16) dX3_init_84 (by decide) (by decide) ?_
  refine j_newI (n := 16) (a' := (A.length + 9)) dX3_init_86 kac_int rfl (Nat.le_of_ble_eq_true rfl) (Nat.le_of_ble_eq_true rfl) (Nat.le_of_ble_eq_true rfl) (by rfl) (fun h12 _ => ?_)
  refine j_lay (lay' := A ++ [(7, 0, 0, 8), (0, 16, 0, 0), (0, 16, 0, 0), (0, 16, 0, 0), (0, 16, 0, 0), (0, 16, 0, 0), (0, 12, 0, 0), (0, 12, 0, 0), (0, 16, 0, 0), (0, 16, 0, 0)]) rfl ?_
  refine j_putR 11 9 0 dX3_init_88 zc_3 rfl rfl (by rfl) (by decide) lk_X3_46 rfl rfl rfl rfl (by rfl) (fun _ => ⟨rfl, rfl⟩) (by decide) ?_
  refine j_lay (lay' := A ++ [(7, 0, 0, 9), (0, 16, 0, 0), (0, 16, 0, 0), (0, 16, 0, 0), (0, 16, 0, 0), (0, 16, 0, 0), (0, 12, 0, 0), (0, 12, 0, 0), (0, 16, 0, 0), (0, 16, 0, 0)]) rfl ?_
  refine j_aload_n 0 dX3_init_91 rfl ?_
  refine j_bipush (x := 16) dX3_init_92 (by decide) (by decide) ?_
  refine j_newI (n := 16) (a' := (A.length + 10)) dX3_init_94 kac_int rfl (Nat.le_of_ble_eq_true rfl) (Nat.le_of_ble_eq_true rfl) (Nat.le_of_ble_eq_true rfl) (by rfl) (fun h13 _ => ?_)
  refine j_lay (lay' := A ++ [(7, 0, 0, 9), (0, 16, 0, 0), (0, 16, 0, 0), (0, 16, 0, 0), (0, 16, 0, 0), (0, 16, 0, 0), (0, 12, 0, 0), (0, 12, 0, 0), (0, 16, 0, 0), (0, 16, 0, 0), (0, 16, 0, 0)]) rfl ?_
  refine j_putR 12 10 0 dX3_init_96 zc_3 rfl rfl (by rfl) (by decide) lk_X3_49 rfl rfl rfl rfl (by rfl) (fun _ => ⟨rfl, rfl⟩) (by decide) ?_
  refine j_lay (lay' := A ++ [(7, 0, 0, 10), (0, 16, 0, 0), (0, 16, 0, 0), (0, 16, 0, 0), (0, 16, 0, 0), (0, 16, 0, 0), (0, 12, 0, 0), (0, 12, 0, 0), (0, 16, 0, 0), (0, 16, 0, 0), (0, 16, 0, 0)]) rfl ?_
  refine j_aload_n 0 dX3_init_99 rfl ?_
  refine j_bipush (x := 16) dX3_init_100 (by decide) (by decide) ?_
  refine j_newI (n := 16) (a' := (A.length + 11)) dX3_init_102 kac_int rfl (Nat.le_of_ble_eq_true rfl) (Nat.le_of_ble_eq_true rfl) (Nat.le_of_ble_eq_true rfl) (by rfl) (fun h14 _ => ?_)
  refine j_lay (lay' := A ++ [(7, 0, 0, 10), (0, 16, 0, 0), (0, 16, 0, 0), (0, 16, 0, 0), (0, 16, 0, 0), (0, 16, 0, 0), (0, 12, 0, 0), (0, 12, 0, 0), (0, 16, 0, 0), (0, 16, 0, 0), (0, 16, 0, 0), (0, 16, 0, 0)]) rfl ?_
  refine j_putR 13 11 0 dX3_init_104 zc_3 rfl rfl (by rfl) (by decide) lk_X3_52 rfl rfl rfl rfl (by rfl) (fun _ => ⟨rfl, rfl⟩) (by decide) ?_
  refine j_lay (lay' := A ++ [(7, 0, 0, 11), (0, 16, 0, 0), (0, 16, 0, 0), (0, 16, 0, 0), (0, 16, 0, 0), (0, 16, 0, 0), (0, 12, 0, 0), (0, 12, 0, 0), (0, 16, 0, 0), (0, 16, 0, 0), (0, 16, 0, 0), (0, 16, 0, 0)]) rfl ?_
  refine j_aload_n 0 dX3_init_107 rfl ?_
  refine j_bipush (x := 16) dX3_init_108 (by decide) (by decide) ?_
  refine j_newI (n := 16) (a' := (A.length + 12)) dX3_init_110 kac_int rfl (Nat.le_of_ble_eq_true rfl) (Nat.le_of_ble_eq_true rfl) (Nat.le_of_ble_eq_true rfl) (by rfl) (fun h15 _ => ?_)
  refine j_lay (lay' := A ++ [(7, 0, 0, 11), (0, 16, 0, 0), (0, 16, 0, 0), (0, 16, 0, 0), (0, 16, 0, 0), (0, 16, 0, 0), (0, 12, 0, 0), (0, 12, 0, 0), (0, 16, 0, 0), (0, 16, 0, 0), (0, 16, 0, 0), (0, 16, 0, 0), (0, 16, 0, 0)]) rfl ?_
  refine j_putR 14 12 0 dX3_init_112 zc_3 rfl rfl (by rfl) (by decide) lk_X3_55 rfl rfl rfl rfl (by rfl) (fun _ => ⟨rfl, rfl⟩) (by decide) ?_
  refine j_lay (lay' := A ++ [(7, 0, 0, 12), (0, 16, 0, 0), (0, 16, 0, 0), (0, 16, 0, 0), (0, 16, 0, 0), (0, 16, 0, 0), (0, 12, 0, 0), (0, 12, 0, 0), (0, 16, 0, 0), (0, 16, 0, 0), (0, 16, 0, 0), (0, 16, 0, 0), (0, 16, 0, 0)]) rfl ?_
  refine j_aload_n 0 dX3_init_115 rfl ?_
  refine j_iconst (x := 0) dX3_init_116 rfl (by decide) ?_
  refine j_putI 15 15 dX3_init_117 zc_3 rfl (ap_at (i := 0) rfl (by rfl)) (by decide) lk_X3_58 rfl rfl rfl rfl (fun h16 _ => ?_)
  exact j_retV rfl rfl rfl dX3_init_120 rfl ⟨(Nat.le_of_ble_eq_true rfl), (Nat.le_of_ble_eq_true rfl)⟩ rfl
theorem ct_la_initA (A l : List LK) {a : Nat} (ha : A.length + l.length = a) (h : Hp) : CT mi_la_init encV (fun l' => l' = A ++ (l ++ blkLanes)) (A ++ (l ++ [(7, 0, 0, 0)])) [vr a] h (la_init a h) := by
  subst ha
  have q := ct_la_init (A ++ l) h
  rw [List.append_assoc, List.append_assoc, List.length_append] at q
  exact q
abbrev mi_bo_init : MI := (yX0_init, cX0_init, 1, none, 1, 20, 20, 308, none)
theorem mv_bo_init : MV mi_bo_init 0 ∧ Cond.instanceMethod mi_bo_init.1 ∈ UW := ⟨⟨kw1_bo_init, kw2_bo_init, by decide +kernel, by decide +kernel⟩, kw3_bo_init⟩
set_option maxRecDepth 100000 in
set_option maxHeartbeats 4000000 in
theorem ct_bo_init (A : List LK) (h : Hp) : CT mi_bo_init encV (fun l' => l' = A ++ blkBounds) (A ++ [(4, 0, 0, 0)]) [vr A.length] h (bo_init A.length h) := by
  refine CT.of (by decide) rfl (Nat.le_of_ble_eq_true rfl) ?_
  show J mi_bo_init encV (fun l' => l' = A ++ blkBounds) (A ++ [(4, 0, 0, 0)]) 0 0 0 [(0, vr A.length)] [] h _
  unfold bo_init
  refine j_aload_n 0 dX0_init_0 rfl ?_
  refine j_obj dX0_init_1 lm_X0_3 kob_1 kob_2 (Nat.le_of_ble_eq_true rfl) (Nat.le_of_ble_eq_true rfl) ?_
  refine j_aload_n 0 dX0_init_4 rfl ?_
  refine j_bipush (x := 12) dX0_init_5 (by decide) (by decide) ?_
  refine j_bipush (x := 12) dX0_init_7 (by decide) (by decide) ?_
  refine j_mna (n := 12) (m := 12) (a' := (A.length + 1)) dX0_init_9 kcl_X0_9 kac_int rfl rfl (Nat.le_of_ble_eq_true rfl) (Nat.le_of_ble_eq_true rfl) (Nat.le_of_ble_eq_true rfl) (Nat.le_of_ble_eq_true rfl) (Nat.le_of_ble_eq_true rfl) (by rfl) (fun h1 _ => ?_)
  refine j_lay (lay' := A ++ [(4, 0, 0, 0), (3, 12, 0, 0), (0, 12, 0, 0), (0, 12, 0, 0), (0, 12, 0, 0), (0, 12, 0, 0), (0, 12, 0, 0), (0, 12, 0, 0), (0, 12, 0, 0), (0, 12, 0, 0), (0, 12, 0, 0), (0, 12, 0, 0), (0, 12, 0, 0), (0, 12, 0, 0)]) rfl ?_
  refine j_putR 0 1 0 dX0_init_13 zc_0 rfl rfl (by rfl) (by decide) lk_X0_11 rfl rfl rfl rfl (by rfl) (fun _ => ⟨rfl, rfl⟩) (by decide) ?_
  refine j_lay (lay' := A ++ [(4, 0, 0, 1), (3, 12, 0, 0), (0, 12, 0, 0), (0, 12, 0, 0), (0, 12, 0, 0), (0, 12, 0, 0), (0, 12, 0, 0), (0, 12, 0, 0), (0, 12, 0, 0), (0, 12, 0, 0), (0, 12, 0, 0), (0, 12, 0, 0), (0, 12, 0, 0), (0, 12, 0, 0)]) rfl ?_
  refine j_aload_n 0 dX0_init_16 rfl ?_
  refine j_bipush (x := 12) dX0_init_17 (by decide) (by decide) ?_
  refine j_newI (n := 12) (a' := (A.length + 14)) dX0_init_19 kac_int rfl (Nat.le_of_ble_eq_true rfl) (Nat.le_of_ble_eq_true rfl) (Nat.le_of_ble_eq_true rfl) (by rfl) (fun h2 _ => ?_)
  refine j_lay (lay' := A ++ [(4, 0, 0, 1), (3, 12, 0, 0), (0, 12, 0, 0), (0, 12, 0, 0), (0, 12, 0, 0), (0, 12, 0, 0), (0, 12, 0, 0), (0, 12, 0, 0), (0, 12, 0, 0), (0, 12, 0, 0), (0, 12, 0, 0), (0, 12, 0, 0), (0, 12, 0, 0), (0, 12, 0, 0), (0, 12, 0, 0)]) rfl ?_
  refine j_putR 1 14 0 dX0_init_21 zc_0 rfl rfl (by rfl) (by decide) lk_X0_16 rfl rfl rfl rfl (by rfl) (fun _ => ⟨rfl, rfl⟩) (by decide) ?_
  refine j_lay (lay' := A ++ [(4, 0, 0, 2), (3, 12, 0, 0), (0, 12, 0, 0), (0, 12, 0, 0), (0, 12, 0, 0), (0, 12, 0, 0), (0, 12, 0, 0), (0, 12, 0, 0), (0, 12, 0, 0), (0, 12, 0, 0), (0, 12, 0, 0), (0, 12, 0, 0), (0, 12, 0, 0), (0, 12, 0, 0), (0, 12, 0, 0)]) rfl ?_
  refine j_aload_n 0 dX0_init_24 rfl ?_
  refine j_bipush (x := 16) dX0_init_25 (by decide) (by decide) ?_
  refine j_newZ (n := 16) (a' := (A.length + 15)) dX0_init_27 kac_boolean rfl (Nat.le_of_ble_eq_true rfl) (Nat.le_of_ble_eq_true rfl) (Nat.le_of_ble_eq_true rfl) (by rfl) (fun h3 _ => ?_)
  refine j_lay (lay' := A ++ [(4, 0, 0, 2), (3, 12, 0, 0), (0, 12, 0, 0), (0, 12, 0, 0), (0, 12, 0, 0), (0, 12, 0, 0), (0, 12, 0, 0), (0, 12, 0, 0), (0, 12, 0, 0), (0, 12, 0, 0), (0, 12, 0, 0), (0, 12, 0, 0), (0, 12, 0, 0), (0, 12, 0, 0), (0, 12, 0, 0), (1, 16, 0, 0)]) rfl ?_
  refine j_putR 2 15 0 dX0_init_29 zc_0 rfl rfl (by rfl) (by decide) lk_X0_20 rfl rfl rfl rfl (by rfl) (fun _ => ⟨rfl, rfl⟩) (by decide) ?_
  refine j_lay (lay' := A ++ [(4, 0, 0, 3), (3, 12, 0, 0), (0, 12, 0, 0), (0, 12, 0, 0), (0, 12, 0, 0), (0, 12, 0, 0), (0, 12, 0, 0), (0, 12, 0, 0), (0, 12, 0, 0), (0, 12, 0, 0), (0, 12, 0, 0), (0, 12, 0, 0), (0, 12, 0, 0), (0, 12, 0, 0), (0, 12, 0, 0), (1, 16, 0, 0)]) rfl ?_
  refine j_aload_n 0 dX0_init_32 rfl ?_
  refine j_iconst (x := 0) dX0_init_33 rfl (by decide) ?_
  refine j_putI 3 3 dX0_init_34 zc_0 rfl (ap_at (i := 0) rfl (by rfl)) (by decide) lk_X0_24 rfl rfl rfl rfl (fun h4 _ => ?_)
  refine j_aload_n 0 dX0_init_37 rfl ?_
  refine j_iconst (x := 0) dX0_init_38 rfl (by decide) ?_
  refine j_putI 4 4 dX0_init_39 zc_0 rfl (ap_at (i := 0) rfl (by rfl)) (by decide) lk_X0_28 rfl rfl rfl rfl (fun h5 _ => ?_)
  refine j_aload_n 0 dX0_init_42 rfl ?_
  refine j_iconst (x := 0) dX0_init_43 rfl (by decide) ?_
  refine j_putI 5 5 dX0_init_44 zc_0 rfl (ap_at (i := 0) rfl (by rfl)) (by decide) lk_X0_31 rfl rfl rfl rfl (fun h6 _ => ?_)
  refine j_aload_n 0 dX0_init_47 rfl ?_
  refine j_bipush (x := 16) dX0_init_48 (by decide) (by decide) ?_
  refine j_newZ (n := 16) (a' := (A.length + 16)) dX0_init_50 kac_boolean rfl (Nat.le_of_ble_eq_true rfl) (Nat.le_of_ble_eq_true rfl) (Nat.le_of_ble_eq_true rfl) (by rfl) (fun h7 _ => ?_)
  refine j_lay (lay' := A ++ [(4, 0, 0, 3), (3, 12, 0, 0), (0, 12, 0, 0), (0, 12, 0, 0), (0, 12, 0, 0), (0, 12, 0, 0), (0, 12, 0, 0), (0, 12, 0, 0), (0, 12, 0, 0), (0, 12, 0, 0), (0, 12, 0, 0), (0, 12, 0, 0), (0, 12, 0, 0), (0, 12, 0, 0), (0, 12, 0, 0), (1, 16, 0, 0), (1, 16, 0, 0)]) rfl ?_
  refine j_putR 6 16 0 dX0_init_52 zc_0 rfl rfl (by rfl) (by decide) lk_X0_34 rfl rfl rfl rfl (by rfl) (fun _ => ⟨rfl, rfl⟩) (by decide) ?_
  refine j_lay (lay' := A ++ [(4, 0, 0, 4), (3, 12, 0, 0), (0, 12, 0, 0), (0, 12, 0, 0), (0, 12, 0, 0), (0, 12, 0, 0), (0, 12, 0, 0), (0, 12, 0, 0), (0, 12, 0, 0), (0, 12, 0, 0), (0, 12, 0, 0), (0, 12, 0, 0), (0, 12, 0, 0), (0, 12, 0, 0), (0, 12, 0, 0), (1, 16, 0, 0), (1, 16, 0, 0)]) rfl ?_
  refine j_aload_n 0 dX0_init_55 rfl ?_
  refine j_bipush (x := 12) dX0_init_56 (by decide) (by decide) ?_
  refine j_newI (n := 12) (a' := (A.length + 17)) dX0_init_58 kac_int rfl (Nat.le_of_ble_eq_true rfl) (Nat.le_of_ble_eq_true rfl) (Nat.le_of_ble_eq_true rfl) (by rfl) (fun h8 _ => ?_)
  refine j_lay (lay' := A ++ [(4, 0, 0, 4), (3, 12, 0, 0), (0, 12, 0, 0), (0, 12, 0, 0), (0, 12, 0, 0), (0, 12, 0, 0), (0, 12, 0, 0), (0, 12, 0, 0), (0, 12, 0, 0), (0, 12, 0, 0), (0, 12, 0, 0), (0, 12, 0, 0), (0, 12, 0, 0), (0, 12, 0, 0), (0, 12, 0, 0), (1, 16, 0, 0), (1, 16, 0, 0), (0, 12, 0, 0)]) rfl ?_
  refine j_putR 7 17 0 dX0_init_60 zc_0 rfl rfl (by rfl) (by decide) lk_X0_37 rfl rfl rfl rfl (by rfl) (fun _ => ⟨rfl, rfl⟩) (by decide) ?_
  refine j_lay (lay' := A ++ [(4, 0, 0, 5), (3, 12, 0, 0), (0, 12, 0, 0), (0, 12, 0, 0), (0, 12, 0, 0), (0, 12, 0, 0), (0, 12, 0, 0), (0, 12, 0, 0), (0, 12, 0, 0), (0, 12, 0, 0), (0, 12, 0, 0), (0, 12, 0, 0), (0, 12, 0, 0), (0, 12, 0, 0), (0, 12, 0, 0), (1, 16, 0, 0), (1, 16, 0, 0), (0, 12, 0, 0)]) rfl ?_
  refine j_aload_n 0 dX0_init_63 rfl ?_
  refine j_bipush (x := 32) dX0_init_64 (by decide) (by decide) ?_
  refine j_newI (n := 32) (a' := (A.length + 18)) dX0_init_66 kac_int rfl (Nat.le_of_ble_eq_true rfl) (Nat.le_of_ble_eq_true rfl) (Nat.le_of_ble_eq_true rfl) (by rfl) (fun h9 _ => ?_)
  refine j_lay (lay' := A ++ [(4, 0, 0, 5), (3, 12, 0, 0), (0, 12, 0, 0), (0, 12, 0, 0), (0, 12, 0, 0), (0, 12, 0, 0), (0, 12, 0, 0), (0, 12, 0, 0), (0, 12, 0, 0), (0, 12, 0, 0), (0, 12, 0, 0), (0, 12, 0, 0), (0, 12, 0, 0), (0, 12, 0, 0), (0, 12, 0, 0), (1, 16, 0, 0), (1, 16, 0, 0), (0, 12, 0, 0), (0, 32, 0, 0)]) rfl ?_
  refine j_putR 8 18 0 dX0_init_68 zc_0 rfl rfl (by rfl) (by decide) lk_X0_40 rfl rfl rfl rfl (by rfl) (fun _ => ⟨rfl, rfl⟩) (by decide) ?_
  refine j_lay (lay' := A ++ [(4, 0, 0, 6), (3, 12, 0, 0), (0, 12, 0, 0), (0, 12, 0, 0), (0, 12, 0, 0), (0, 12, 0, 0), (0, 12, 0, 0), (0, 12, 0, 0), (0, 12, 0, 0), (0, 12, 0, 0), (0, 12, 0, 0), (0, 12, 0, 0), (0, 12, 0, 0), (0, 12, 0, 0), (0, 12, 0, 0), (1, 16, 0, 0), (1, 16, 0, 0), (0, 12, 0, 0), (0, 32, 0, 0)]) rfl ?_
  refine j_aload_n 0 dX0_init_71 rfl ?_
  refine j_bipush (x := 32) dX0_init_72 (by decide) (by decide) ?_
  refine j_newI (n := 32) (a' := (A.length + 19)) dX0_init_74 kac_int rfl (Nat.le_of_ble_eq_true rfl) (Nat.le_of_ble_eq_true rfl) (Nat.le_of_ble_eq_true rfl) (by rfl) (fun h10 _ => ?_)
  refine j_lay (lay' := A ++ [(4, 0, 0, 6), (3, 12, 0, 0), (0, 12, 0, 0), (0, 12, 0, 0), (0, 12, 0, 0), (0, 12, 0, 0), (0, 12, 0, 0), (0, 12, 0, 0), (0, 12, 0, 0), (0, 12, 0, 0), (0, 12, 0, 0), (0, 12, 0, 0), (0, 12, 0, 0), (0, 12, 0, 0), (0, 12, 0, 0), (1, 16, 0, 0), (1, 16, 0, 0), (0, 12, 0, 0), (0, 32, 0, 0), (0, 32, 0, 0)]) rfl ?_
  refine j_putR 9 19 0 dX0_init_76 zc_0 rfl rfl (by rfl) (by decide) lk_X0_43 rfl rfl rfl rfl (by rfl) (fun _ => ⟨rfl, rfl⟩) (by decide) ?_
  refine j_lay (lay' := A ++ [(4, 0, 0, 7), (3, 12, 0, 0), (0, 12, 0, 0), (0, 12, 0, 0), (0, 12, 0, 0), (0, 12, 0, 0), (0, 12, 0, 0), (0, 12, 0, 0), (0, 12, 0, 0), (0, 12, 0, 0), (0, 12, 0, 0), (0, 12, 0, 0), (0, 12, 0, 0), (0, 12, 0, 0), (0, 12, 0, 0), (1, 16, 0, 0), (1, 16, 0, 0), (0, 12, 0, 0), (0, 32, 0, 0), (0, 32, 0, 0)]) rfl ?_
  refine j_aload_n 0 dX0_init_79 rfl ?_
  refine j_bipush (x := 32) dX0_init_80 (by decide) (by decide) ?_
  refine j_newI (n := 32) (a' := (A.length + 20)) dX0_init_82 kac_int rfl (Nat.le_of_ble_eq_true rfl) (Nat.le_of_ble_eq_true rfl) (Nat.le_of_ble_eq_true rfl) (by rfl) (fun h11 _ => ?_)
  refine j_lay (lay' := A ++ [(4, 0, 0, 7), (3, 12, 0, 0), (0, 12, 0, 0), (0, 12, 0, 0), (0, 12, 0, 0), (0, 12, 0, 0), (0, 12, 0, 0), (0, 12, 0, 0), (0, 12, 0, 0), (0, 12, 0, 0), (0, 12, 0, 0), (0, 12, 0, 0), (0, 12, 0, 0), (0, 12, 0, 0), (0, 12, 0, 0), (1, 16, 0, 0), (1, 16, 0, 0), (0, 12, 0, 0), (0, 32, 0, 0), (0, 32, 0, 0), (0, 32, 0, 0)]) rfl ?_
  refine j_putR 10 20 0 dX0_init_84 zc_0 rfl rfl (by rfl) (by decide) lk_X0_46 rfl rfl rfl rfl (by rfl) (fun _ => ⟨rfl, rfl⟩) (by decide) ?_
  refine j_lay (lay' := A ++ [(4, 0, 0, 8), (3, 12, 0, 0), (0, 12, 0, 0), (0, 12, 0, 0), (0, 12, 0, 0), (0, 12, 0, 0), (0, 12, 0, 0), (0, 12, 0, 0), (0, 12, 0, 0), (0, 12, 0, 0), (0, 12, 0, 0), (0, 12, 0, 0), (0, 12, 0, 0), (0, 12, 0, 0), (0, 12, 0, 0), (1, 16, 0, 0), (1, 16, 0, 0), (0, 12, 0, 0), (0, 32, 0, 0), (0, 32, 0, 0), (0, 32, 0, 0)]) rfl ?_
  exact j_retV rfl rfl rfl dX0_init_87 rfl ⟨(Nat.le_of_ble_eq_true rfl), (Nat.le_of_ble_eq_true rfl)⟩ rfl
theorem ct_bo_initA (A l : List LK) {a : Nat} (ha : A.length + l.length = a) (h : Hp) : CT mi_bo_init encV (fun l' => l' = A ++ (l ++ blkBounds)) (A ++ (l ++ [(4, 0, 0, 0)])) [vr a] h (bo_init a h) := by
  subst ha
  have q := ct_bo_init (A ++ l) h
  rw [List.append_assoc, List.append_assoc, List.length_append] at q
  exact q
abbrev mi_dl_init : MI := (yX5_init, cX5_init, 1, none, 3, 61, 131, 2007, none)
theorem mv_dl_init : MV mi_dl_init 0 ∧ Cond.instanceMethod mi_dl_init.1 ∈ UW := ⟨⟨kw1_dl_init, kw2_dl_init, by decide +kernel, by decide +kernel⟩, kw3_dl_init⟩
set_option maxRecDepth 100000 in
set_option maxHeartbeats 4000000 in
theorem ct_dl_init (A : List LK) (h : Hp) : CT mi_dl_init encV (fun l' => l' = A ++ blkLines) (A ++ [(9, 0, 0, 0)]) [vr A.length] h (dl_init A.length h) := by
  refine CT.of (by decide) rfl (Nat.le_of_ble_eq_true rfl) ?_
  show J mi_dl_init encV (fun l' => l' = A ++ blkLines) (A ++ [(9, 0, 0, 0)]) 0 0 0 [(0, vr A.length)] [] h _
  unfold dl_init
  refine j_aload_n 0 dX5_init_0 rfl ?_
  refine j_obj dX5_init_1 lm_X5_1 kob_1 kob_2 (Nat.le_of_ble_eq_true rfl) (Nat.le_of_ble_eq_true rfl) ?_
  refine j_aload_n 0 dX5_init_4 rfl ?_
  refine j_new (t := 1) (a' := (A.length + 1)) dX5_init_5 zc_1 rfl kcl_X5_7 kin_X1 kii_X1 zdef_1 (Nat.le_of_ble_eq_true rfl) (Nat.le_of_ble_eq_true rfl) (by rfl) (fun h1 _ => ?_)
  refine j_lay (lay' := A ++ [(9, 0, 0, 0), (5, 0, 0, 0)]) rfl ?_
  refine j_dup dX5_init_8 (fun _ _ => rfl) ?_
  refine j_callIN (mi2 := mi_dr_init) (enc2 := encV) (FL2 := fun l' => l' = A ++ ([(9, 0, 0, 0)] ++ blkDrawing)) (stk := [vr (A.length + 1), vr A.length]) [] (A.length + 1) dX5_init_9 mv_dr_init.1 rfl mv_dr_init.2 rfl lm_X5_9 (ct_dr_initA A [(9, 0, 0, 0)] (by rfl) h1) rfl rfl ⟨⟨(Nat.le_of_ble_eq_true rfl), (Nat.le_of_ble_eq_true rfl)⟩, (Nat.le_of_ble_eq_true rfl), (Nat.le_of_ble_eq_true rfl)⟩ (Nat.le_of_ble_eq_true rfl) (fun _ h2 lay' hL _ => ?_)
  subst hL
  refine j_lay (lay' := A ++ [(9, 0, 0, 0), (5, 0, 0, 7), (0, 12, 0, 0), (0, 16, 0, 0), (0, 16, 0, 0), (0, 16, 0, 0), (0, 16, 0, 0), (0, 16, 0, 0), (0, 16, 0, 0)]) rfl ?_
  refine j_putR 0 1 0 dX5_init_12 zc_5 rfl rfl (by rfl) (by decide) lk_X5_10 rfl rfl rfl rfl (by rfl) (fun _ => ⟨rfl, rfl⟩) (by decide) ?_
  refine j_lay (lay' := A ++ [(9, 0, 0, 1), (5, 0, 0, 7), (0, 12, 0, 0), (0, 16, 0, 0), (0, 16, 0, 0), (0, 16, 0, 0), (0, 16, 0, 0), (0, 16, 0, 0), (0, 16, 0, 0)]) rfl ?_
  refine j_aload_n 0 dX5_init_15 rfl ?_
  refine j_new (t := 2) (a' := (A.length + 9)) dX5_init_16 zc_2 rfl kcl_X5_16 kin_X2 kii_X2 zdef_2 (Nat.le_of_ble_eq_true rfl) (Nat.le_of_ble_eq_true rfl) (by rfl) (fun h3 _ => ?_)
  refine j_lay (lay' := A ++ [(9, 0, 0, 1), (5, 0, 0, 7), (0, 12, 0, 0), (0, 16, 0, 0), (0, 16, 0, 0), (0, 16, 0, 0), (0, 16, 0, 0), (0, 16, 0, 0), (0, 16, 0, 0), (6, 0, 0, 0)]) rfl ?_
  refine j_dup dX5_init_19 (fun _ _ => rfl) ?_
  refine j_callI (mi2 := mi_hi_init) (enc2 := encV) (FL2 := fun l' => l' = A ++ ([(9, 0, 0, 1), (5, 0, 0, 7), (0, 12, 0, 0), (0, 16, 0, 0), (0, 16, 0, 0), (0, 16, 0, 0), (0, 16, 0, 0), (0, 16, 0, 0), (0, 16, 0, 0)] ++ blkHistory)) (stk := [vr (A.length + 9), vr A.length]) [] (A.length + 9) dX5_init_20 mv_hi_init.1 rfl mv_hi_init.2 rfl lm_X5_18 (ct_hi_initA A [(9, 0, 0, 1), (5, 0, 0, 7), (0, 12, 0, 0), (0, 16, 0, 0), (0, 16, 0, 0), (0, 16, 0, 0), (0, 16, 0, 0), (0, 16, 0, 0), (0, 16, 0, 0)] (by rfl) h3) rfl rfl ⟨⟨(Nat.le_of_ble_eq_true rfl), (Nat.le_of_ble_eq_true rfl)⟩, (Nat.le_of_ble_eq_true rfl), (Nat.le_of_ble_eq_true rfl)⟩ (Nat.le_of_ble_eq_true rfl) (fun _ h4 lay' hL _ => ?_)
  subst hL
  refine j_lay (lay' := A ++ [(9, 0, 0, 1), (5, 0, 0, 7), (0, 12, 0, 0), (0, 16, 0, 0), (0, 16, 0, 0), (0, 16, 0, 0), (0, 16, 0, 0), (0, 16, 0, 0), (0, 16, 0, 0), (6, 0, 0, 1), (2, 8, 8, 8), (5, 0, 0, 7), (0, 12, 0, 0), (0, 16, 0, 0), (0, 16, 0, 0), (0, 16, 0, 0), (0, 16, 0, 0), (0, 16, 0, 0), (0, 16, 0, 0), (5, 0, 0, 7), (0, 12, 0, 0), (0, 16, 0, 0), (0, 16, 0, 0), (0, 16, 0, 0), (0, 16, 0, 0), (0, 16, 0, 0), (0, 16, 0, 0), (5, 0, 0, 7), (0, 12, 0, 0), (0, 16, 0, 0), (0, 16, 0, 0), (0, 16, 0, 0), (0, 16, 0, 0), (0, 16, 0, 0), (0, 16, 0, 0), (5, 0, 0, 7), (0, 12, 0, 0), (0, 16, 0, 0), (0, 16, 0, 0), (0, 16, 0, 0), (0, 16, 0, 0), (0, 16, 0, 0), (0, 16, 0, 0), (5, 0, 0, 7), (0, 12, 0, 0), (0, 16, 0, 0), (0, 16, 0, 0), (0, 16, 0, 0), (0, 16, 0, 0), (0, 16, 0, 0), (0, 16, 0, 0), (5, 0, 0, 7), (0, 12, 0, 0), (0, 16, 0, 0), (0, 16, 0, 0), (0, 16, 0, 0), (0, 16, 0, 0), (0, 16, 0, 0), (0, 16, 0, 0), (5, 0, 0, 7), (0, 12, 0, 0), (0, 16, 0, 0), (0, 16, 0, 0), (0, 16, 0, 0), (0, 16, 0, 0), (0, 16, 0, 0), (0, 16, 0, 0), (5, 0, 0, 7), (0, 12, 0, 0), (0, 16, 0, 0), (0, 16, 0, 0), (0, 16, 0, 0), (0, 16, 0, 0), (0, 16, 0, 0), (0, 16, 0, 0)]) rfl ?_
  refine j_putR 1 9 0 dX5_init_23 zc_5 rfl rfl (by rfl) (by decide) lk_X5_19 rfl rfl rfl rfl (by rfl) (fun _ => ⟨rfl, rfl⟩) (by decide) ?_
  refine j_lay (lay' := A ++ [(9, 0, 0, 2), (5, 0, 0, 7), (0, 12, 0, 0), (0, 16, 0, 0), (0, 16, 0, 0), (0, 16, 0, 0), (0, 16, 0, 0), (0, 16, 0, 0), (0, 16, 0, 0), (6, 0, 0, 1), (2, 8, 8, 8), (5, 0, 0, 7), (0, 12, 0, 0), (0, 16, 0, 0), (0, 16, 0, 0), (0, 16, 0, 0), (0, 16, 0, 0), (0, 16, 0, 0), (0, 16, 0, 0), (5, 0, 0, 7), (0, 12, 0, 0), (0, 16, 0, 0), (0, 16, 0, 0), (0, 16, 0, 0), (0, 16, 0, 0), (0, 16, 0, 0), (0, 16, 0, 0), (5, 0, 0, 7), (0, 12, 0, 0), (0, 16, 0, 0), (0, 16, 0, 0), (0, 16, 0, 0), (0, 16, 0, 0), (0, 16, 0, 0), (0, 16, 0, 0), (5, 0, 0, 7), (0, 12, 0, 0), (0, 16, 0, 0), (0, 16, 0, 0), (0, 16, 0, 0), (0, 16, 0, 0), (0, 16, 0, 0), (0, 16, 0, 0), (5, 0, 0, 7), (0, 12, 0, 0), (0, 16, 0, 0), (0, 16, 0, 0), (0, 16, 0, 0), (0, 16, 0, 0), (0, 16, 0, 0), (0, 16, 0, 0), (5, 0, 0, 7), (0, 12, 0, 0), (0, 16, 0, 0), (0, 16, 0, 0), (0, 16, 0, 0), (0, 16, 0, 0), (0, 16, 0, 0), (0, 16, 0, 0), (5, 0, 0, 7), (0, 12, 0, 0), (0, 16, 0, 0), (0, 16, 0, 0), (0, 16, 0, 0), (0, 16, 0, 0), (0, 16, 0, 0), (0, 16, 0, 0), (5, 0, 0, 7), (0, 12, 0, 0), (0, 16, 0, 0), (0, 16, 0, 0), (0, 16, 0, 0), (0, 16, 0, 0), (0, 16, 0, 0), (0, 16, 0, 0)]) rfl ?_
  refine j_aload_n 0 dX5_init_26 rfl ?_
  refine j_new (t := 4) (a' := (A.length + 75)) dX5_init_27 zc_4 rfl kcl_X5_23 kin_X4 kii_X4 zdef_4 (Nat.le_of_ble_eq_true rfl) (Nat.le_of_ble_eq_true rfl) (by rfl) (fun h5 _ => ?_)
  refine j_lay (lay' := A ++ [(9, 0, 0, 2), (5, 0, 0, 7), (0, 12, 0, 0), (0, 16, 0, 0), (0, 16, 0, 0), (0, 16, 0, 0), (0, 16, 0, 0), (0, 16, 0, 0), (0, 16, 0, 0), (6, 0, 0, 1), (2, 8, 8, 8), (5, 0, 0, 7), (0, 12, 0, 0), (0, 16, 0, 0), (0, 16, 0, 0), (0, 16, 0, 0), (0, 16, 0, 0), (0, 16, 0, 0), (0, 16, 0, 0), (5, 0, 0, 7), (0, 12, 0, 0), (0, 16, 0, 0), (0, 16, 0, 0), (0, 16, 0, 0), (0, 16, 0, 0), (0, 16, 0, 0), (0, 16, 0, 0), (5, 0, 0, 7), (0, 12, 0, 0), (0, 16, 0, 0), (0, 16, 0, 0), (0, 16, 0, 0), (0, 16, 0, 0), (0, 16, 0, 0), (0, 16, 0, 0), (5, 0, 0, 7), (0, 12, 0, 0), (0, 16, 0, 0), (0, 16, 0, 0), (0, 16, 0, 0), (0, 16, 0, 0), (0, 16, 0, 0), (0, 16, 0, 0), (5, 0, 0, 7), (0, 12, 0, 0), (0, 16, 0, 0), (0, 16, 0, 0), (0, 16, 0, 0), (0, 16, 0, 0), (0, 16, 0, 0), (0, 16, 0, 0), (5, 0, 0, 7), (0, 12, 0, 0), (0, 16, 0, 0), (0, 16, 0, 0), (0, 16, 0, 0), (0, 16, 0, 0), (0, 16, 0, 0), (0, 16, 0, 0), (5, 0, 0, 7), (0, 12, 0, 0), (0, 16, 0, 0), (0, 16, 0, 0), (0, 16, 0, 0), (0, 16, 0, 0), (0, 16, 0, 0), (0, 16, 0, 0), (5, 0, 0, 7), (0, 12, 0, 0), (0, 16, 0, 0), (0, 16, 0, 0), (0, 16, 0, 0), (0, 16, 0, 0), (0, 16, 0, 0), (0, 16, 0, 0), (8, 0, 0, 0)]) rfl ?_
  refine j_dup dX5_init_30 (fun _ _ => rfl) ?_
  refine j_callIN (mi2 := mi_tr_init) (enc2 := encV) (FL2 := fun l' => l' = A ++ ([(9, 0, 0, 2), (5, 0, 0, 7), (0, 12, 0, 0), (0, 16, 0, 0), (0, 16, 0, 0), (0, 16, 0, 0), (0, 16, 0, 0), (0, 16, 0, 0), (0, 16, 0, 0), (6, 0, 0, 1), (2, 8, 8, 8), (5, 0, 0, 7), (0, 12, 0, 0), (0, 16, 0, 0), (0, 16, 0, 0), (0, 16, 0, 0), (0, 16, 0, 0), (0, 16, 0, 0), (0, 16, 0, 0), (5, 0, 0, 7), (0, 12, 0, 0), (0, 16, 0, 0), (0, 16, 0, 0), (0, 16, 0, 0), (0, 16, 0, 0), (0, 16, 0, 0), (0, 16, 0, 0), (5, 0, 0, 7), (0, 12, 0, 0), (0, 16, 0, 0), (0, 16, 0, 0), (0, 16, 0, 0), (0, 16, 0, 0), (0, 16, 0, 0), (0, 16, 0, 0), (5, 0, 0, 7), (0, 12, 0, 0), (0, 16, 0, 0), (0, 16, 0, 0), (0, 16, 0, 0), (0, 16, 0, 0), (0, 16, 0, 0), (0, 16, 0, 0), (5, 0, 0, 7), (0, 12, 0, 0), (0, 16, 0, 0), (0, 16, 0, 0), (0, 16, 0, 0), (0, 16, 0, 0), (0, 16, 0, 0), (0, 16, 0, 0), (5, 0, 0, 7), (0, 12, 0, 0), (0, 16, 0, 0), (0, 16, 0, 0), (0, 16, 0, 0), (0, 16, 0, 0), (0, 16, 0, 0), (0, 16, 0, 0), (5, 0, 0, 7), (0, 12, 0, 0), (0, 16, 0, 0), (0, 16, 0, 0), (0, 16, 0, 0), (0, 16, 0, 0), (0, 16, 0, 0), (0, 16, 0, 0), (5, 0, 0, 7), (0, 12, 0, 0), (0, 16, 0, 0), (0, 16, 0, 0), (0, 16, 0, 0), (0, 16, 0, 0), (0, 16, 0, 0), (0, 16, 0, 0)] ++ blkReader)) (stk := [vr (A.length + 75), vr A.length]) [] (A.length + 75) dX5_init_31 mv_tr_init.1 rfl mv_tr_init.2 rfl lm_X5_25 (ct_tr_initA A [(9, 0, 0, 2), (5, 0, 0, 7), (0, 12, 0, 0), (0, 16, 0, 0), (0, 16, 0, 0), (0, 16, 0, 0), (0, 16, 0, 0), (0, 16, 0, 0), (0, 16, 0, 0), (6, 0, 0, 1), (2, 8, 8, 8), (5, 0, 0, 7), (0, 12, 0, 0), (0, 16, 0, 0), (0, 16, 0, 0), (0, 16, 0, 0), (0, 16, 0, 0), (0, 16, 0, 0), (0, 16, 0, 0), (5, 0, 0, 7), (0, 12, 0, 0), (0, 16, 0, 0), (0, 16, 0, 0), (0, 16, 0, 0), (0, 16, 0, 0), (0, 16, 0, 0), (0, 16, 0, 0), (5, 0, 0, 7), (0, 12, 0, 0), (0, 16, 0, 0), (0, 16, 0, 0), (0, 16, 0, 0), (0, 16, 0, 0), (0, 16, 0, 0), (0, 16, 0, 0), (5, 0, 0, 7), (0, 12, 0, 0), (0, 16, 0, 0), (0, 16, 0, 0), (0, 16, 0, 0), (0, 16, 0, 0), (0, 16, 0, 0), (0, 16, 0, 0), (5, 0, 0, 7), (0, 12, 0, 0), (0, 16, 0, 0), (0, 16, 0, 0), (0, 16, 0, 0), (0, 16, 0, 0), (0, 16, 0, 0), (0, 16, 0, 0), (5, 0, 0, 7), (0, 12, 0, 0), (0, 16, 0, 0), (0, 16, 0, 0), (0, 16, 0, 0), (0, 16, 0, 0), (0, 16, 0, 0), (0, 16, 0, 0), (5, 0, 0, 7), (0, 12, 0, 0), (0, 16, 0, 0), (0, 16, 0, 0), (0, 16, 0, 0), (0, 16, 0, 0), (0, 16, 0, 0), (0, 16, 0, 0), (5, 0, 0, 7), (0, 12, 0, 0), (0, 16, 0, 0), (0, 16, 0, 0), (0, 16, 0, 0), (0, 16, 0, 0), (0, 16, 0, 0), (0, 16, 0, 0)] (by rfl) h5) rfl rfl ⟨⟨(Nat.le_of_ble_eq_true rfl), (Nat.le_of_ble_eq_true rfl)⟩, (Nat.le_of_ble_eq_true rfl), (Nat.le_of_ble_eq_true rfl)⟩ (Nat.le_of_ble_eq_true rfl) (fun _ h6 lay' hL _ => ?_)
  subst hL
  refine j_lay (lay' := A ++ [(9, 0, 0, 2), (5, 0, 0, 7), (0, 12, 0, 0), (0, 16, 0, 0), (0, 16, 0, 0), (0, 16, 0, 0), (0, 16, 0, 0), (0, 16, 0, 0), (0, 16, 0, 0), (6, 0, 0, 1), (2, 8, 8, 8), (5, 0, 0, 7), (0, 12, 0, 0), (0, 16, 0, 0), (0, 16, 0, 0), (0, 16, 0, 0), (0, 16, 0, 0), (0, 16, 0, 0), (0, 16, 0, 0), (5, 0, 0, 7), (0, 12, 0, 0), (0, 16, 0, 0), (0, 16, 0, 0), (0, 16, 0, 0), (0, 16, 0, 0), (0, 16, 0, 0), (0, 16, 0, 0), (5, 0, 0, 7), (0, 12, 0, 0), (0, 16, 0, 0), (0, 16, 0, 0), (0, 16, 0, 0), (0, 16, 0, 0), (0, 16, 0, 0), (0, 16, 0, 0), (5, 0, 0, 7), (0, 12, 0, 0), (0, 16, 0, 0), (0, 16, 0, 0), (0, 16, 0, 0), (0, 16, 0, 0), (0, 16, 0, 0), (0, 16, 0, 0), (5, 0, 0, 7), (0, 12, 0, 0), (0, 16, 0, 0), (0, 16, 0, 0), (0, 16, 0, 0), (0, 16, 0, 0), (0, 16, 0, 0), (0, 16, 0, 0), (5, 0, 0, 7), (0, 12, 0, 0), (0, 16, 0, 0), (0, 16, 0, 0), (0, 16, 0, 0), (0, 16, 0, 0), (0, 16, 0, 0), (0, 16, 0, 0), (5, 0, 0, 7), (0, 12, 0, 0), (0, 16, 0, 0), (0, 16, 0, 0), (0, 16, 0, 0), (0, 16, 0, 0), (0, 16, 0, 0), (0, 16, 0, 0), (5, 0, 0, 7), (0, 12, 0, 0), (0, 16, 0, 0), (0, 16, 0, 0), (0, 16, 0, 0), (0, 16, 0, 0), (0, 16, 0, 0), (0, 16, 0, 0), (8, 0, 0, 2), (0, 80, 0, 0), (5, 0, 0, 7), (0, 12, 0, 0), (0, 16, 0, 0), (0, 16, 0, 0), (0, 16, 0, 0), (0, 16, 0, 0), (0, 16, 0, 0), (0, 16, 0, 0)]) rfl ?_
  refine j_putR 2 75 0 dX5_init_34 zc_5 rfl rfl (by rfl) (by decide) lk_X5_26 rfl rfl rfl rfl (by rfl) (fun _ => ⟨rfl, rfl⟩) (by decide) ?_
  refine j_lay (lay' := A ++ [(9, 0, 0, 3), (5, 0, 0, 7), (0, 12, 0, 0), (0, 16, 0, 0), (0, 16, 0, 0), (0, 16, 0, 0), (0, 16, 0, 0), (0, 16, 0, 0), (0, 16, 0, 0), (6, 0, 0, 1), (2, 8, 8, 8), (5, 0, 0, 7), (0, 12, 0, 0), (0, 16, 0, 0), (0, 16, 0, 0), (0, 16, 0, 0), (0, 16, 0, 0), (0, 16, 0, 0), (0, 16, 0, 0), (5, 0, 0, 7), (0, 12, 0, 0), (0, 16, 0, 0), (0, 16, 0, 0), (0, 16, 0, 0), (0, 16, 0, 0), (0, 16, 0, 0), (0, 16, 0, 0), (5, 0, 0, 7), (0, 12, 0, 0), (0, 16, 0, 0), (0, 16, 0, 0), (0, 16, 0, 0), (0, 16, 0, 0), (0, 16, 0, 0), (0, 16, 0, 0), (5, 0, 0, 7), (0, 12, 0, 0), (0, 16, 0, 0), (0, 16, 0, 0), (0, 16, 0, 0), (0, 16, 0, 0), (0, 16, 0, 0), (0, 16, 0, 0), (5, 0, 0, 7), (0, 12, 0, 0), (0, 16, 0, 0), (0, 16, 0, 0), (0, 16, 0, 0), (0, 16, 0, 0), (0, 16, 0, 0), (0, 16, 0, 0), (5, 0, 0, 7), (0, 12, 0, 0), (0, 16, 0, 0), (0, 16, 0, 0), (0, 16, 0, 0), (0, 16, 0, 0), (0, 16, 0, 0), (0, 16, 0, 0), (5, 0, 0, 7), (0, 12, 0, 0), (0, 16, 0, 0), (0, 16, 0, 0), (0, 16, 0, 0), (0, 16, 0, 0), (0, 16, 0, 0), (0, 16, 0, 0), (5, 0, 0, 7), (0, 12, 0, 0), (0, 16, 0, 0), (0, 16, 0, 0), (0, 16, 0, 0), (0, 16, 0, 0), (0, 16, 0, 0), (0, 16, 0, 0), (8, 0, 0, 2), (0, 80, 0, 0), (5, 0, 0, 7), (0, 12, 0, 0), (0, 16, 0, 0), (0, 16, 0, 0), (0, 16, 0, 0), (0, 16, 0, 0), (0, 16, 0, 0), (0, 16, 0, 0)]) rfl ?_
  refine j_aload_n 0 dX5_init_37 rfl ?_
  refine j_new (t := 3) (a' := (A.length + 85)) dX5_init_38 zc_3 rfl kcl_X5_30 kin_X3 kii_X3 zdef_3 (Nat.le_of_ble_eq_true rfl) (Nat.le_of_ble_eq_true rfl) (by rfl) (fun h7 _ => ?_)
  refine j_lay (lay' := A ++ [(9, 0, 0, 3), (5, 0, 0, 7), (0, 12, 0, 0), (0, 16, 0, 0), (0, 16, 0, 0), (0, 16, 0, 0), (0, 16, 0, 0), (0, 16, 0, 0), (0, 16, 0, 0), (6, 0, 0, 1), (2, 8, 8, 8), (5, 0, 0, 7), (0, 12, 0, 0), (0, 16, 0, 0), (0, 16, 0, 0), (0, 16, 0, 0), (0, 16, 0, 0), (0, 16, 0, 0), (0, 16, 0, 0), (5, 0, 0, 7), (0, 12, 0, 0), (0, 16, 0, 0), (0, 16, 0, 0), (0, 16, 0, 0), (0, 16, 0, 0), (0, 16, 0, 0), (0, 16, 0, 0), (5, 0, 0, 7), (0, 12, 0, 0), (0, 16, 0, 0), (0, 16, 0, 0), (0, 16, 0, 0), (0, 16, 0, 0), (0, 16, 0, 0), (0, 16, 0, 0), (5, 0, 0, 7), (0, 12, 0, 0), (0, 16, 0, 0), (0, 16, 0, 0), (0, 16, 0, 0), (0, 16, 0, 0), (0, 16, 0, 0), (0, 16, 0, 0), (5, 0, 0, 7), (0, 12, 0, 0), (0, 16, 0, 0), (0, 16, 0, 0), (0, 16, 0, 0), (0, 16, 0, 0), (0, 16, 0, 0), (0, 16, 0, 0), (5, 0, 0, 7), (0, 12, 0, 0), (0, 16, 0, 0), (0, 16, 0, 0), (0, 16, 0, 0), (0, 16, 0, 0), (0, 16, 0, 0), (0, 16, 0, 0), (5, 0, 0, 7), (0, 12, 0, 0), (0, 16, 0, 0), (0, 16, 0, 0), (0, 16, 0, 0), (0, 16, 0, 0), (0, 16, 0, 0), (0, 16, 0, 0), (5, 0, 0, 7), (0, 12, 0, 0), (0, 16, 0, 0), (0, 16, 0, 0), (0, 16, 0, 0), (0, 16, 0, 0), (0, 16, 0, 0), (0, 16, 0, 0), (8, 0, 0, 2), (0, 80, 0, 0), (5, 0, 0, 7), (0, 12, 0, 0), (0, 16, 0, 0), (0, 16, 0, 0), (0, 16, 0, 0), (0, 16, 0, 0), (0, 16, 0, 0), (0, 16, 0, 0), (7, 0, 0, 0)]) rfl ?_
  refine j_dup dX5_init_41 (fun _ _ => rfl) ?_
  refine j_callIN (mi2 := mi_la_init) (enc2 := encV) (FL2 := fun l' => l' = A ++ ([(9, 0, 0, 3), (5, 0, 0, 7), (0, 12, 0, 0), (0, 16, 0, 0), (0, 16, 0, 0), (0, 16, 0, 0), (0, 16, 0, 0), (0, 16, 0, 0), (0, 16, 0, 0), (6, 0, 0, 1), (2, 8, 8, 8), (5, 0, 0, 7), (0, 12, 0, 0), (0, 16, 0, 0), (0, 16, 0, 0), (0, 16, 0, 0), (0, 16, 0, 0), (0, 16, 0, 0), (0, 16, 0, 0), (5, 0, 0, 7), (0, 12, 0, 0), (0, 16, 0, 0), (0, 16, 0, 0), (0, 16, 0, 0), (0, 16, 0, 0), (0, 16, 0, 0), (0, 16, 0, 0), (5, 0, 0, 7), (0, 12, 0, 0), (0, 16, 0, 0), (0, 16, 0, 0), (0, 16, 0, 0), (0, 16, 0, 0), (0, 16, 0, 0), (0, 16, 0, 0), (5, 0, 0, 7), (0, 12, 0, 0), (0, 16, 0, 0), (0, 16, 0, 0), (0, 16, 0, 0), (0, 16, 0, 0), (0, 16, 0, 0), (0, 16, 0, 0), (5, 0, 0, 7), (0, 12, 0, 0), (0, 16, 0, 0), (0, 16, 0, 0), (0, 16, 0, 0), (0, 16, 0, 0), (0, 16, 0, 0), (0, 16, 0, 0), (5, 0, 0, 7), (0, 12, 0, 0), (0, 16, 0, 0), (0, 16, 0, 0), (0, 16, 0, 0), (0, 16, 0, 0), (0, 16, 0, 0), (0, 16, 0, 0), (5, 0, 0, 7), (0, 12, 0, 0), (0, 16, 0, 0), (0, 16, 0, 0), (0, 16, 0, 0), (0, 16, 0, 0), (0, 16, 0, 0), (0, 16, 0, 0), (5, 0, 0, 7), (0, 12, 0, 0), (0, 16, 0, 0), (0, 16, 0, 0), (0, 16, 0, 0), (0, 16, 0, 0), (0, 16, 0, 0), (0, 16, 0, 0), (8, 0, 0, 2), (0, 80, 0, 0), (5, 0, 0, 7), (0, 12, 0, 0), (0, 16, 0, 0), (0, 16, 0, 0), (0, 16, 0, 0), (0, 16, 0, 0), (0, 16, 0, 0), (0, 16, 0, 0)] ++ blkLanes)) (stk := [vr (A.length + 85), vr A.length]) [] (A.length + 85) dX5_init_42 mv_la_init.1 rfl mv_la_init.2 rfl lm_X5_32 (ct_la_initA A [(9, 0, 0, 3), (5, 0, 0, 7), (0, 12, 0, 0), (0, 16, 0, 0), (0, 16, 0, 0), (0, 16, 0, 0), (0, 16, 0, 0), (0, 16, 0, 0), (0, 16, 0, 0), (6, 0, 0, 1), (2, 8, 8, 8), (5, 0, 0, 7), (0, 12, 0, 0), (0, 16, 0, 0), (0, 16, 0, 0), (0, 16, 0, 0), (0, 16, 0, 0), (0, 16, 0, 0), (0, 16, 0, 0), (5, 0, 0, 7), (0, 12, 0, 0), (0, 16, 0, 0), (0, 16, 0, 0), (0, 16, 0, 0), (0, 16, 0, 0), (0, 16, 0, 0), (0, 16, 0, 0), (5, 0, 0, 7), (0, 12, 0, 0), (0, 16, 0, 0), (0, 16, 0, 0), (0, 16, 0, 0), (0, 16, 0, 0), (0, 16, 0, 0), (0, 16, 0, 0), (5, 0, 0, 7), (0, 12, 0, 0), (0, 16, 0, 0), (0, 16, 0, 0), (0, 16, 0, 0), (0, 16, 0, 0), (0, 16, 0, 0), (0, 16, 0, 0), (5, 0, 0, 7), (0, 12, 0, 0), (0, 16, 0, 0), (0, 16, 0, 0), (0, 16, 0, 0), (0, 16, 0, 0), (0, 16, 0, 0), (0, 16, 0, 0), (5, 0, 0, 7), (0, 12, 0, 0), (0, 16, 0, 0), (0, 16, 0, 0), (0, 16, 0, 0), (0, 16, 0, 0), (0, 16, 0, 0), (0, 16, 0, 0), (5, 0, 0, 7), (0, 12, 0, 0), (0, 16, 0, 0), (0, 16, 0, 0), (0, 16, 0, 0), (0, 16, 0, 0), (0, 16, 0, 0), (0, 16, 0, 0), (5, 0, 0, 7), (0, 12, 0, 0), (0, 16, 0, 0), (0, 16, 0, 0), (0, 16, 0, 0), (0, 16, 0, 0), (0, 16, 0, 0), (0, 16, 0, 0), (8, 0, 0, 2), (0, 80, 0, 0), (5, 0, 0, 7), (0, 12, 0, 0), (0, 16, 0, 0), (0, 16, 0, 0), (0, 16, 0, 0), (0, 16, 0, 0), (0, 16, 0, 0), (0, 16, 0, 0)] (by rfl) h7) rfl rfl ⟨⟨(Nat.le_of_ble_eq_true rfl), (Nat.le_of_ble_eq_true rfl)⟩, (Nat.le_of_ble_eq_true rfl), (Nat.le_of_ble_eq_true rfl)⟩ (Nat.le_of_ble_eq_true rfl) (fun _ h8 lay' hL _ => ?_)
  subst hL
  refine j_lay (lay' := A ++ [(9, 0, 0, 3), (5, 0, 0, 7), (0, 12, 0, 0), (0, 16, 0, 0), (0, 16, 0, 0), (0, 16, 0, 0), (0, 16, 0, 0), (0, 16, 0, 0), (0, 16, 0, 0), (6, 0, 0, 1), (2, 8, 8, 8), (5, 0, 0, 7), (0, 12, 0, 0), (0, 16, 0, 0), (0, 16, 0, 0), (0, 16, 0, 0), (0, 16, 0, 0), (0, 16, 0, 0), (0, 16, 0, 0), (5, 0, 0, 7), (0, 12, 0, 0), (0, 16, 0, 0), (0, 16, 0, 0), (0, 16, 0, 0), (0, 16, 0, 0), (0, 16, 0, 0), (0, 16, 0, 0), (5, 0, 0, 7), (0, 12, 0, 0), (0, 16, 0, 0), (0, 16, 0, 0), (0, 16, 0, 0), (0, 16, 0, 0), (0, 16, 0, 0), (0, 16, 0, 0), (5, 0, 0, 7), (0, 12, 0, 0), (0, 16, 0, 0), (0, 16, 0, 0), (0, 16, 0, 0), (0, 16, 0, 0), (0, 16, 0, 0), (0, 16, 0, 0), (5, 0, 0, 7), (0, 12, 0, 0), (0, 16, 0, 0), (0, 16, 0, 0), (0, 16, 0, 0), (0, 16, 0, 0), (0, 16, 0, 0), (0, 16, 0, 0), (5, 0, 0, 7), (0, 12, 0, 0), (0, 16, 0, 0), (0, 16, 0, 0), (0, 16, 0, 0), (0, 16, 0, 0), (0, 16, 0, 0), (0, 16, 0, 0), (5, 0, 0, 7), (0, 12, 0, 0), (0, 16, 0, 0), (0, 16, 0, 0), (0, 16, 0, 0), (0, 16, 0, 0), (0, 16, 0, 0), (0, 16, 0, 0), (5, 0, 0, 7), (0, 12, 0, 0), (0, 16, 0, 0), (0, 16, 0, 0), (0, 16, 0, 0), (0, 16, 0, 0), (0, 16, 0, 0), (0, 16, 0, 0), (8, 0, 0, 2), (0, 80, 0, 0), (5, 0, 0, 7), (0, 12, 0, 0), (0, 16, 0, 0), (0, 16, 0, 0), (0, 16, 0, 0), (0, 16, 0, 0), (0, 16, 0, 0), (0, 16, 0, 0), (7, 0, 0, 12), (0, 16, 0, 0), (0, 16, 0, 0), (0, 16, 0, 0), (0, 16, 0, 0), (0, 16, 0, 0), (0, 12, 0, 0), (0, 12, 0, 0), (0, 16, 0, 0), (0, 16, 0, 0), (0, 16, 0, 0), (0, 16, 0, 0), (0, 16, 0, 0)]) rfl ?_
  refine j_putR 3 85 0 dX5_init_45 zc_5 rfl rfl (by rfl) (by decide) lk_X5_33 rfl rfl rfl rfl (by rfl) (fun _ => ⟨rfl, rfl⟩) (by decide) ?_
  refine j_lay (lay' := A ++ [(9, 0, 0, 4), (5, 0, 0, 7), (0, 12, 0, 0), (0, 16, 0, 0), (0, 16, 0, 0), (0, 16, 0, 0), (0, 16, 0, 0), (0, 16, 0, 0), (0, 16, 0, 0), (6, 0, 0, 1), (2, 8, 8, 8), (5, 0, 0, 7), (0, 12, 0, 0), (0, 16, 0, 0), (0, 16, 0, 0), (0, 16, 0, 0), (0, 16, 0, 0), (0, 16, 0, 0), (0, 16, 0, 0), (5, 0, 0, 7), (0, 12, 0, 0), (0, 16, 0, 0), (0, 16, 0, 0), (0, 16, 0, 0), (0, 16, 0, 0), (0, 16, 0, 0), (0, 16, 0, 0), (5, 0, 0, 7), (0, 12, 0, 0), (0, 16, 0, 0), (0, 16, 0, 0), (0, 16, 0, 0), (0, 16, 0, 0), (0, 16, 0, 0), (0, 16, 0, 0), (5, 0, 0, 7), (0, 12, 0, 0), (0, 16, 0, 0), (0, 16, 0, 0), (0, 16, 0, 0), (0, 16, 0, 0), (0, 16, 0, 0), (0, 16, 0, 0), (5, 0, 0, 7), (0, 12, 0, 0), (0, 16, 0, 0), (0, 16, 0, 0), (0, 16, 0, 0), (0, 16, 0, 0), (0, 16, 0, 0), (0, 16, 0, 0), (5, 0, 0, 7), (0, 12, 0, 0), (0, 16, 0, 0), (0, 16, 0, 0), (0, 16, 0, 0), (0, 16, 0, 0), (0, 16, 0, 0), (0, 16, 0, 0), (5, 0, 0, 7), (0, 12, 0, 0), (0, 16, 0, 0), (0, 16, 0, 0), (0, 16, 0, 0), (0, 16, 0, 0), (0, 16, 0, 0), (0, 16, 0, 0), (5, 0, 0, 7), (0, 12, 0, 0), (0, 16, 0, 0), (0, 16, 0, 0), (0, 16, 0, 0), (0, 16, 0, 0), (0, 16, 0, 0), (0, 16, 0, 0), (8, 0, 0, 2), (0, 80, 0, 0), (5, 0, 0, 7), (0, 12, 0, 0), (0, 16, 0, 0), (0, 16, 0, 0), (0, 16, 0, 0), (0, 16, 0, 0), (0, 16, 0, 0), (0, 16, 0, 0), (7, 0, 0, 12), (0, 16, 0, 0), (0, 16, 0, 0), (0, 16, 0, 0), (0, 16, 0, 0), (0, 16, 0, 0), (0, 12, 0, 0), (0, 12, 0, 0), (0, 16, 0, 0), (0, 16, 0, 0), (0, 16, 0, 0), (0, 16, 0, 0), (0, 16, 0, 0)]) rfl ?_
  refine j_aload_n 0 dX5_init_48 rfl ?_
  refine j_new (t := 3) (a' := (A.length + 98)) dX5_init_49 zc_3 rfl kcl_X5_30 kin_X3 kii_X3 zdef_3 (Nat.le_of_ble_eq_true rfl) (Nat.le_of_ble_eq_true rfl) (by rfl) (fun h9 _ => ?_)
  refine j_lay (lay' := A ++ [(9, 0, 0, 4), (5, 0, 0, 7), (0, 12, 0, 0), (0, 16, 0, 0), (0, 16, 0, 0), (0, 16, 0, 0), (0, 16, 0, 0), (0, 16, 0, 0), (0, 16, 0, 0), (6, 0, 0, 1), (2, 8, 8, 8), (5, 0, 0, 7), (0, 12, 0, 0), (0, 16, 0, 0), (0, 16, 0, 0), (0, 16, 0, 0), (0, 16, 0, 0), (0, 16, 0, 0), (0, 16, 0, 0), (5, 0, 0, 7), (0, 12, 0, 0), (0, 16, 0, 0), (0, 16, 0, 0), (0, 16, 0, 0), (0, 16, 0, 0), (0, 16, 0, 0), (0, 16, 0, 0), (5, 0, 0, 7), (0, 12, 0, 0), (0, 16, 0, 0), (0, 16, 0, 0), (0, 16, 0, 0), (0, 16, 0, 0), (0, 16, 0, 0), (0, 16, 0, 0), (5, 0, 0, 7), (0, 12, 0, 0), (0, 16, 0, 0), (0, 16, 0, 0), (0, 16, 0, 0), (0, 16, 0, 0), (0, 16, 0, 0), (0, 16, 0, 0), (5, 0, 0, 7), (0, 12, 0, 0), (0, 16, 0, 0), (0, 16, 0, 0), (0, 16, 0, 0), (0, 16, 0, 0), (0, 16, 0, 0), (0, 16, 0, 0), (5, 0, 0, 7), (0, 12, 0, 0), (0, 16, 0, 0), (0, 16, 0, 0), (0, 16, 0, 0), (0, 16, 0, 0), (0, 16, 0, 0), (0, 16, 0, 0), (5, 0, 0, 7), (0, 12, 0, 0), (0, 16, 0, 0), (0, 16, 0, 0), (0, 16, 0, 0), (0, 16, 0, 0), (0, 16, 0, 0), (0, 16, 0, 0), (5, 0, 0, 7), (0, 12, 0, 0), (0, 16, 0, 0), (0, 16, 0, 0), (0, 16, 0, 0), (0, 16, 0, 0), (0, 16, 0, 0), (0, 16, 0, 0), (8, 0, 0, 2), (0, 80, 0, 0), (5, 0, 0, 7), (0, 12, 0, 0), (0, 16, 0, 0), (0, 16, 0, 0), (0, 16, 0, 0), (0, 16, 0, 0), (0, 16, 0, 0), (0, 16, 0, 0), (7, 0, 0, 12), (0, 16, 0, 0), (0, 16, 0, 0), (0, 16, 0, 0), (0, 16, 0, 0), (0, 16, 0, 0), (0, 12, 0, 0), (0, 12, 0, 0), (0, 16, 0, 0), (0, 16, 0, 0), (0, 16, 0, 0), (0, 16, 0, 0), (0, 16, 0, 0), (7, 0, 0, 0)]) rfl ?_
  refine j_dup dX5_init_52 (fun _ _ => rfl) ?_
  refine j_callIN (mi2 := mi_la_init) (enc2 := encV) (FL2 := fun l' => l' = A ++ ([(9, 0, 0, 4), (5, 0, 0, 7), (0, 12, 0, 0), (0, 16, 0, 0), (0, 16, 0, 0), (0, 16, 0, 0), (0, 16, 0, 0), (0, 16, 0, 0), (0, 16, 0, 0), (6, 0, 0, 1), (2, 8, 8, 8), (5, 0, 0, 7), (0, 12, 0, 0), (0, 16, 0, 0), (0, 16, 0, 0), (0, 16, 0, 0), (0, 16, 0, 0), (0, 16, 0, 0), (0, 16, 0, 0), (5, 0, 0, 7), (0, 12, 0, 0), (0, 16, 0, 0), (0, 16, 0, 0), (0, 16, 0, 0), (0, 16, 0, 0), (0, 16, 0, 0), (0, 16, 0, 0), (5, 0, 0, 7), (0, 12, 0, 0), (0, 16, 0, 0), (0, 16, 0, 0), (0, 16, 0, 0), (0, 16, 0, 0), (0, 16, 0, 0), (0, 16, 0, 0), (5, 0, 0, 7), (0, 12, 0, 0), (0, 16, 0, 0), (0, 16, 0, 0), (0, 16, 0, 0), (0, 16, 0, 0), (0, 16, 0, 0), (0, 16, 0, 0), (5, 0, 0, 7), (0, 12, 0, 0), (0, 16, 0, 0), (0, 16, 0, 0), (0, 16, 0, 0), (0, 16, 0, 0), (0, 16, 0, 0), (0, 16, 0, 0), (5, 0, 0, 7), (0, 12, 0, 0), (0, 16, 0, 0), (0, 16, 0, 0), (0, 16, 0, 0), (0, 16, 0, 0), (0, 16, 0, 0), (0, 16, 0, 0), (5, 0, 0, 7), (0, 12, 0, 0), (0, 16, 0, 0), (0, 16, 0, 0), (0, 16, 0, 0), (0, 16, 0, 0), (0, 16, 0, 0), (0, 16, 0, 0), (5, 0, 0, 7), (0, 12, 0, 0), (0, 16, 0, 0), (0, 16, 0, 0), (0, 16, 0, 0), (0, 16, 0, 0), (0, 16, 0, 0), (0, 16, 0, 0), (8, 0, 0, 2), (0, 80, 0, 0), (5, 0, 0, 7), (0, 12, 0, 0), (0, 16, 0, 0), (0, 16, 0, 0), (0, 16, 0, 0), (0, 16, 0, 0), (0, 16, 0, 0), (0, 16, 0, 0), (7, 0, 0, 12), (0, 16, 0, 0), (0, 16, 0, 0), (0, 16, 0, 0), (0, 16, 0, 0), (0, 16, 0, 0), (0, 12, 0, 0), (0, 12, 0, 0), (0, 16, 0, 0), (0, 16, 0, 0), (0, 16, 0, 0), (0, 16, 0, 0), (0, 16, 0, 0)] ++ blkLanes)) (stk := [vr (A.length + 98), vr A.length]) [] (A.length + 98) dX5_init_53 mv_la_init.1 rfl mv_la_init.2 rfl lm_X5_32 (ct_la_initA A [(9, 0, 0, 4), (5, 0, 0, 7), (0, 12, 0, 0), (0, 16, 0, 0), (0, 16, 0, 0), (0, 16, 0, 0), (0, 16, 0, 0), (0, 16, 0, 0), (0, 16, 0, 0), (6, 0, 0, 1), (2, 8, 8, 8), (5, 0, 0, 7), (0, 12, 0, 0), (0, 16, 0, 0), (0, 16, 0, 0), (0, 16, 0, 0), (0, 16, 0, 0), (0, 16, 0, 0), (0, 16, 0, 0), (5, 0, 0, 7), (0, 12, 0, 0), (0, 16, 0, 0), (0, 16, 0, 0), (0, 16, 0, 0), (0, 16, 0, 0), (0, 16, 0, 0), (0, 16, 0, 0), (5, 0, 0, 7), (0, 12, 0, 0), (0, 16, 0, 0), (0, 16, 0, 0), (0, 16, 0, 0), (0, 16, 0, 0), (0, 16, 0, 0), (0, 16, 0, 0), (5, 0, 0, 7), (0, 12, 0, 0), (0, 16, 0, 0), (0, 16, 0, 0), (0, 16, 0, 0), (0, 16, 0, 0), (0, 16, 0, 0), (0, 16, 0, 0), (5, 0, 0, 7), (0, 12, 0, 0), (0, 16, 0, 0), (0, 16, 0, 0), (0, 16, 0, 0), (0, 16, 0, 0), (0, 16, 0, 0), (0, 16, 0, 0), (5, 0, 0, 7), (0, 12, 0, 0), (0, 16, 0, 0), (0, 16, 0, 0), (0, 16, 0, 0), (0, 16, 0, 0), (0, 16, 0, 0), (0, 16, 0, 0), (5, 0, 0, 7), (0, 12, 0, 0), (0, 16, 0, 0), (0, 16, 0, 0), (0, 16, 0, 0), (0, 16, 0, 0), (0, 16, 0, 0), (0, 16, 0, 0), (5, 0, 0, 7), (0, 12, 0, 0), (0, 16, 0, 0), (0, 16, 0, 0), (0, 16, 0, 0), (0, 16, 0, 0), (0, 16, 0, 0), (0, 16, 0, 0), (8, 0, 0, 2), (0, 80, 0, 0), (5, 0, 0, 7), (0, 12, 0, 0), (0, 16, 0, 0), (0, 16, 0, 0), (0, 16, 0, 0), (0, 16, 0, 0), (0, 16, 0, 0), (0, 16, 0, 0), (7, 0, 0, 12), (0, 16, 0, 0), (0, 16, 0, 0), (0, 16, 0, 0), (0, 16, 0, 0), (0, 16, 0, 0), (0, 12, 0, 0), (0, 12, 0, 0), (0, 16, 0, 0), (0, 16, 0, 0), (0, 16, 0, 0), (0, 16, 0, 0), (0, 16, 0, 0)] (by rfl) h9) rfl rfl ⟨⟨(Nat.le_of_ble_eq_true rfl), (Nat.le_of_ble_eq_true rfl)⟩, (Nat.le_of_ble_eq_true rfl), (Nat.le_of_ble_eq_true rfl)⟩ (Nat.le_of_ble_eq_true rfl) (fun _ h10 lay' hL _ => ?_)
  subst hL
  refine j_lay (lay' := A ++ [(9, 0, 0, 4), (5, 0, 0, 7), (0, 12, 0, 0), (0, 16, 0, 0), (0, 16, 0, 0), (0, 16, 0, 0), (0, 16, 0, 0), (0, 16, 0, 0), (0, 16, 0, 0), (6, 0, 0, 1), (2, 8, 8, 8), (5, 0, 0, 7), (0, 12, 0, 0), (0, 16, 0, 0), (0, 16, 0, 0), (0, 16, 0, 0), (0, 16, 0, 0), (0, 16, 0, 0), (0, 16, 0, 0), (5, 0, 0, 7), (0, 12, 0, 0), (0, 16, 0, 0), (0, 16, 0, 0), (0, 16, 0, 0), (0, 16, 0, 0), (0, 16, 0, 0), (0, 16, 0, 0), (5, 0, 0, 7), (0, 12, 0, 0), (0, 16, 0, 0), (0, 16, 0, 0), (0, 16, 0, 0), (0, 16, 0, 0), (0, 16, 0, 0), (0, 16, 0, 0), (5, 0, 0, 7), (0, 12, 0, 0), (0, 16, 0, 0), (0, 16, 0, 0), (0, 16, 0, 0), (0, 16, 0, 0), (0, 16, 0, 0), (0, 16, 0, 0), (5, 0, 0, 7), (0, 12, 0, 0), (0, 16, 0, 0), (0, 16, 0, 0), (0, 16, 0, 0), (0, 16, 0, 0), (0, 16, 0, 0), (0, 16, 0, 0), (5, 0, 0, 7), (0, 12, 0, 0), (0, 16, 0, 0), (0, 16, 0, 0), (0, 16, 0, 0), (0, 16, 0, 0), (0, 16, 0, 0), (0, 16, 0, 0), (5, 0, 0, 7), (0, 12, 0, 0), (0, 16, 0, 0), (0, 16, 0, 0), (0, 16, 0, 0), (0, 16, 0, 0), (0, 16, 0, 0), (0, 16, 0, 0), (5, 0, 0, 7), (0, 12, 0, 0), (0, 16, 0, 0), (0, 16, 0, 0), (0, 16, 0, 0), (0, 16, 0, 0), (0, 16, 0, 0), (0, 16, 0, 0), (8, 0, 0, 2), (0, 80, 0, 0), (5, 0, 0, 7), (0, 12, 0, 0), (0, 16, 0, 0), (0, 16, 0, 0), (0, 16, 0, 0), (0, 16, 0, 0), (0, 16, 0, 0), (0, 16, 0, 0), (7, 0, 0, 12), (0, 16, 0, 0), (0, 16, 0, 0), (0, 16, 0, 0), (0, 16, 0, 0), (0, 16, 0, 0), (0, 12, 0, 0), (0, 12, 0, 0), (0, 16, 0, 0), (0, 16, 0, 0), (0, 16, 0, 0), (0, 16, 0, 0), (0, 16, 0, 0), (7, 0, 0, 12), (0, 16, 0, 0), (0, 16, 0, 0), (0, 16, 0, 0), (0, 16, 0, 0), (0, 16, 0, 0), (0, 12, 0, 0), (0, 12, 0, 0), (0, 16, 0, 0), (0, 16, 0, 0), (0, 16, 0, 0), (0, 16, 0, 0), (0, 16, 0, 0)]) rfl ?_
  refine j_putR 4 98 0 dX5_init_56 zc_5 rfl rfl (by rfl) (by decide) lk_X5_37 rfl rfl rfl rfl (by rfl) (fun _ => ⟨rfl, rfl⟩) (by decide) ?_
  refine j_lay (lay' := A ++ [(9, 0, 0, 5), (5, 0, 0, 7), (0, 12, 0, 0), (0, 16, 0, 0), (0, 16, 0, 0), (0, 16, 0, 0), (0, 16, 0, 0), (0, 16, 0, 0), (0, 16, 0, 0), (6, 0, 0, 1), (2, 8, 8, 8), (5, 0, 0, 7), (0, 12, 0, 0), (0, 16, 0, 0), (0, 16, 0, 0), (0, 16, 0, 0), (0, 16, 0, 0), (0, 16, 0, 0), (0, 16, 0, 0), (5, 0, 0, 7), (0, 12, 0, 0), (0, 16, 0, 0), (0, 16, 0, 0), (0, 16, 0, 0), (0, 16, 0, 0), (0, 16, 0, 0), (0, 16, 0, 0), (5, 0, 0, 7), (0, 12, 0, 0), (0, 16, 0, 0), (0, 16, 0, 0), (0, 16, 0, 0), (0, 16, 0, 0), (0, 16, 0, 0), (0, 16, 0, 0), (5, 0, 0, 7), (0, 12, 0, 0), (0, 16, 0, 0), (0, 16, 0, 0), (0, 16, 0, 0), (0, 16, 0, 0), (0, 16, 0, 0), (0, 16, 0, 0), (5, 0, 0, 7), (0, 12, 0, 0), (0, 16, 0, 0), (0, 16, 0, 0), (0, 16, 0, 0), (0, 16, 0, 0), (0, 16, 0, 0), (0, 16, 0, 0), (5, 0, 0, 7), (0, 12, 0, 0), (0, 16, 0, 0), (0, 16, 0, 0), (0, 16, 0, 0), (0, 16, 0, 0), (0, 16, 0, 0), (0, 16, 0, 0), (5, 0, 0, 7), (0, 12, 0, 0), (0, 16, 0, 0), (0, 16, 0, 0), (0, 16, 0, 0), (0, 16, 0, 0), (0, 16, 0, 0), (0, 16, 0, 0), (5, 0, 0, 7), (0, 12, 0, 0), (0, 16, 0, 0), (0, 16, 0, 0), (0, 16, 0, 0), (0, 16, 0, 0), (0, 16, 0, 0), (0, 16, 0, 0), (8, 0, 0, 2), (0, 80, 0, 0), (5, 0, 0, 7), (0, 12, 0, 0), (0, 16, 0, 0), (0, 16, 0, 0), (0, 16, 0, 0), (0, 16, 0, 0), (0, 16, 0, 0), (0, 16, 0, 0), (7, 0, 0, 12), (0, 16, 0, 0), (0, 16, 0, 0), (0, 16, 0, 0), (0, 16, 0, 0), (0, 16, 0, 0), (0, 12, 0, 0), (0, 12, 0, 0), (0, 16, 0, 0), (0, 16, 0, 0), (0, 16, 0, 0), (0, 16, 0, 0), (0, 16, 0, 0), (7, 0, 0, 12), (0, 16, 0, 0), (0, 16, 0, 0), (0, 16, 0, 0), (0, 16, 0, 0), (0, 16, 0, 0), (0, 12, 0, 0), (0, 12, 0, 0), (0, 16, 0, 0), (0, 16, 0, 0), (0, 16, 0, 0), (0, 16, 0, 0), (0, 16, 0, 0)]) rfl ?_
  refine j_aload_n 0 dX5_init_59 rfl ?_
  refine j_new (t := 0) (a' := (A.length + 111)) dX5_init_60 zc_0 rfl kcl_X5_40 kin_X0 kii_X0 zdef_0 (Nat.le_of_ble_eq_true rfl) (Nat.le_of_ble_eq_true rfl) (by rfl) (fun h11 _ => ?_)
  refine j_lay (lay' := A ++ [(9, 0, 0, 5), (5, 0, 0, 7), (0, 12, 0, 0), (0, 16, 0, 0), (0, 16, 0, 0), (0, 16, 0, 0), (0, 16, 0, 0), (0, 16, 0, 0), (0, 16, 0, 0), (6, 0, 0, 1), (2, 8, 8, 8), (5, 0, 0, 7), (0, 12, 0, 0), (0, 16, 0, 0), (0, 16, 0, 0), (0, 16, 0, 0), (0, 16, 0, 0), (0, 16, 0, 0), (0, 16, 0, 0), (5, 0, 0, 7), (0, 12, 0, 0), (0, 16, 0, 0), (0, 16, 0, 0), (0, 16, 0, 0), (0, 16, 0, 0), (0, 16, 0, 0), (0, 16, 0, 0), (5, 0, 0, 7), (0, 12, 0, 0), (0, 16, 0, 0), (0, 16, 0, 0), (0, 16, 0, 0), (0, 16, 0, 0), (0, 16, 0, 0), (0, 16, 0, 0), (5, 0, 0, 7), (0, 12, 0, 0), (0, 16, 0, 0), (0, 16, 0, 0), (0, 16, 0, 0), (0, 16, 0, 0), (0, 16, 0, 0), (0, 16, 0, 0), (5, 0, 0, 7), (0, 12, 0, 0), (0, 16, 0, 0), (0, 16, 0, 0), (0, 16, 0, 0), (0, 16, 0, 0), (0, 16, 0, 0), (0, 16, 0, 0), (5, 0, 0, 7), (0, 12, 0, 0), (0, 16, 0, 0), (0, 16, 0, 0), (0, 16, 0, 0), (0, 16, 0, 0), (0, 16, 0, 0), (0, 16, 0, 0), (5, 0, 0, 7), (0, 12, 0, 0), (0, 16, 0, 0), (0, 16, 0, 0), (0, 16, 0, 0), (0, 16, 0, 0), (0, 16, 0, 0), (0, 16, 0, 0), (5, 0, 0, 7), (0, 12, 0, 0), (0, 16, 0, 0), (0, 16, 0, 0), (0, 16, 0, 0), (0, 16, 0, 0), (0, 16, 0, 0), (0, 16, 0, 0), (8, 0, 0, 2), (0, 80, 0, 0), (5, 0, 0, 7), (0, 12, 0, 0), (0, 16, 0, 0), (0, 16, 0, 0), (0, 16, 0, 0), (0, 16, 0, 0), (0, 16, 0, 0), (0, 16, 0, 0), (7, 0, 0, 12), (0, 16, 0, 0), (0, 16, 0, 0), (0, 16, 0, 0), (0, 16, 0, 0), (0, 16, 0, 0), (0, 12, 0, 0), (0, 12, 0, 0), (0, 16, 0, 0), (0, 16, 0, 0), (0, 16, 0, 0), (0, 16, 0, 0), (0, 16, 0, 0), (7, 0, 0, 12), (0, 16, 0, 0), (0, 16, 0, 0), (0, 16, 0, 0), (0, 16, 0, 0), (0, 16, 0, 0), (0, 12, 0, 0), (0, 12, 0, 0), (0, 16, 0, 0), (0, 16, 0, 0), (0, 16, 0, 0), (0, 16, 0, 0), (0, 16, 0, 0), (4, 0, 0, 0)]) rfl ?_
  refine j_dup dX5_init_63 (fun _ _ => rfl) ?_
  refine j_callIN (mi2 := mi_bo_init) (enc2 := encV) (FL2 := fun l' => l' = A ++ ([(9, 0, 0, 5), (5, 0, 0, 7), (0, 12, 0, 0), (0, 16, 0, 0), (0, 16, 0, 0), (0, 16, 0, 0), (0, 16, 0, 0), (0, 16, 0, 0), (0, 16, 0, 0), (6, 0, 0, 1), (2, 8, 8, 8), (5, 0, 0, 7), (0, 12, 0, 0), (0, 16, 0, 0), (0, 16, 0, 0), (0, 16, 0, 0), (0, 16, 0, 0), (0, 16, 0, 0), (0, 16, 0, 0), (5, 0, 0, 7), (0, 12, 0, 0), (0, 16, 0, 0), (0, 16, 0, 0), (0, 16, 0, 0), (0, 16, 0, 0), (0, 16, 0, 0), (0, 16, 0, 0), (5, 0, 0, 7), (0, 12, 0, 0), (0, 16, 0, 0), (0, 16, 0, 0), (0, 16, 0, 0), (0, 16, 0, 0), (0, 16, 0, 0), (0, 16, 0, 0), (5, 0, 0, 7), (0, 12, 0, 0), (0, 16, 0, 0), (0, 16, 0, 0), (0, 16, 0, 0), (0, 16, 0, 0), (0, 16, 0, 0), (0, 16, 0, 0), (5, 0, 0, 7), (0, 12, 0, 0), (0, 16, 0, 0), (0, 16, 0, 0), (0, 16, 0, 0), (0, 16, 0, 0), (0, 16, 0, 0), (0, 16, 0, 0), (5, 0, 0, 7), (0, 12, 0, 0), (0, 16, 0, 0), (0, 16, 0, 0), (0, 16, 0, 0), (0, 16, 0, 0), (0, 16, 0, 0), (0, 16, 0, 0), (5, 0, 0, 7), (0, 12, 0, 0), (0, 16, 0, 0), (0, 16, 0, 0), (0, 16, 0, 0), (0, 16, 0, 0), (0, 16, 0, 0), (0, 16, 0, 0), (5, 0, 0, 7), (0, 12, 0, 0), (0, 16, 0, 0), (0, 16, 0, 0), (0, 16, 0, 0), (0, 16, 0, 0), (0, 16, 0, 0), (0, 16, 0, 0), (8, 0, 0, 2), (0, 80, 0, 0), (5, 0, 0, 7), (0, 12, 0, 0), (0, 16, 0, 0), (0, 16, 0, 0), (0, 16, 0, 0), (0, 16, 0, 0), (0, 16, 0, 0), (0, 16, 0, 0), (7, 0, 0, 12), (0, 16, 0, 0), (0, 16, 0, 0), (0, 16, 0, 0), (0, 16, 0, 0), (0, 16, 0, 0), (0, 12, 0, 0), (0, 12, 0, 0), (0, 16, 0, 0), (0, 16, 0, 0), (0, 16, 0, 0), (0, 16, 0, 0), (0, 16, 0, 0), (7, 0, 0, 12), (0, 16, 0, 0), (0, 16, 0, 0), (0, 16, 0, 0), (0, 16, 0, 0), (0, 16, 0, 0), (0, 12, 0, 0), (0, 12, 0, 0), (0, 16, 0, 0), (0, 16, 0, 0), (0, 16, 0, 0), (0, 16, 0, 0), (0, 16, 0, 0)] ++ blkBounds)) (stk := [vr (A.length + 111), vr A.length]) [] (A.length + 111) dX5_init_64 mv_bo_init.1 rfl mv_bo_init.2 rfl lm_X5_42 (ct_bo_initA A [(9, 0, 0, 5), (5, 0, 0, 7), (0, 12, 0, 0), (0, 16, 0, 0), (0, 16, 0, 0), (0, 16, 0, 0), (0, 16, 0, 0), (0, 16, 0, 0), (0, 16, 0, 0), (6, 0, 0, 1), (2, 8, 8, 8), (5, 0, 0, 7), (0, 12, 0, 0), (0, 16, 0, 0), (0, 16, 0, 0), (0, 16, 0, 0), (0, 16, 0, 0), (0, 16, 0, 0), (0, 16, 0, 0), (5, 0, 0, 7), (0, 12, 0, 0), (0, 16, 0, 0), (0, 16, 0, 0), (0, 16, 0, 0), (0, 16, 0, 0), (0, 16, 0, 0), (0, 16, 0, 0), (5, 0, 0, 7), (0, 12, 0, 0), (0, 16, 0, 0), (0, 16, 0, 0), (0, 16, 0, 0), (0, 16, 0, 0), (0, 16, 0, 0), (0, 16, 0, 0), (5, 0, 0, 7), (0, 12, 0, 0), (0, 16, 0, 0), (0, 16, 0, 0), (0, 16, 0, 0), (0, 16, 0, 0), (0, 16, 0, 0), (0, 16, 0, 0), (5, 0, 0, 7), (0, 12, 0, 0), (0, 16, 0, 0), (0, 16, 0, 0), (0, 16, 0, 0), (0, 16, 0, 0), (0, 16, 0, 0), (0, 16, 0, 0), (5, 0, 0, 7), (0, 12, 0, 0), (0, 16, 0, 0), (0, 16, 0, 0), (0, 16, 0, 0), (0, 16, 0, 0), (0, 16, 0, 0), (0, 16, 0, 0), (5, 0, 0, 7), (0, 12, 0, 0), (0, 16, 0, 0), (0, 16, 0, 0), (0, 16, 0, 0), (0, 16, 0, 0), (0, 16, 0, 0), (0, 16, 0, 0), (5, 0, 0, 7), (0, 12, 0, 0), (0, 16, 0, 0), (0, 16, 0, 0), (0, 16, 0, 0), (0, 16, 0, 0), (0, 16, 0, 0), (0, 16, 0, 0), (8, 0, 0, 2), (0, 80, 0, 0), (5, 0, 0, 7), (0, 12, 0, 0), (0, 16, 0, 0), (0, 16, 0, 0), (0, 16, 0, 0), (0, 16, 0, 0), (0, 16, 0, 0), (0, 16, 0, 0), (7, 0, 0, 12), (0, 16, 0, 0), (0, 16, 0, 0), (0, 16, 0, 0), (0, 16, 0, 0), (0, 16, 0, 0), (0, 12, 0, 0), (0, 12, 0, 0), (0, 16, 0, 0), (0, 16, 0, 0), (0, 16, 0, 0), (0, 16, 0, 0), (0, 16, 0, 0), (7, 0, 0, 12), (0, 16, 0, 0), (0, 16, 0, 0), (0, 16, 0, 0), (0, 16, 0, 0), (0, 16, 0, 0), (0, 12, 0, 0), (0, 12, 0, 0), (0, 16, 0, 0), (0, 16, 0, 0), (0, 16, 0, 0), (0, 16, 0, 0), (0, 16, 0, 0)] (by rfl) h11) rfl rfl ⟨⟨(Nat.le_of_ble_eq_true rfl), (Nat.le_of_ble_eq_true rfl)⟩, (Nat.le_of_ble_eq_true rfl), (Nat.le_of_ble_eq_true rfl)⟩ (Nat.le_of_ble_eq_true rfl) (fun _ h12 lay' hL _ => ?_)
  subst hL
  refine j_lay (lay' := A ++ [(9, 0, 0, 5), (5, 0, 0, 7), (0, 12, 0, 0), (0, 16, 0, 0), (0, 16, 0, 0), (0, 16, 0, 0), (0, 16, 0, 0), (0, 16, 0, 0), (0, 16, 0, 0), (6, 0, 0, 1), (2, 8, 8, 8), (5, 0, 0, 7), (0, 12, 0, 0), (0, 16, 0, 0), (0, 16, 0, 0), (0, 16, 0, 0), (0, 16, 0, 0), (0, 16, 0, 0), (0, 16, 0, 0), (5, 0, 0, 7), (0, 12, 0, 0), (0, 16, 0, 0), (0, 16, 0, 0), (0, 16, 0, 0), (0, 16, 0, 0), (0, 16, 0, 0), (0, 16, 0, 0), (5, 0, 0, 7), (0, 12, 0, 0), (0, 16, 0, 0), (0, 16, 0, 0), (0, 16, 0, 0), (0, 16, 0, 0), (0, 16, 0, 0), (0, 16, 0, 0), (5, 0, 0, 7), (0, 12, 0, 0), (0, 16, 0, 0), (0, 16, 0, 0), (0, 16, 0, 0), (0, 16, 0, 0), (0, 16, 0, 0), (0, 16, 0, 0), (5, 0, 0, 7), (0, 12, 0, 0), (0, 16, 0, 0), (0, 16, 0, 0), (0, 16, 0, 0), (0, 16, 0, 0), (0, 16, 0, 0), (0, 16, 0, 0), (5, 0, 0, 7), (0, 12, 0, 0), (0, 16, 0, 0), (0, 16, 0, 0), (0, 16, 0, 0), (0, 16, 0, 0), (0, 16, 0, 0), (0, 16, 0, 0), (5, 0, 0, 7), (0, 12, 0, 0), (0, 16, 0, 0), (0, 16, 0, 0), (0, 16, 0, 0), (0, 16, 0, 0), (0, 16, 0, 0), (0, 16, 0, 0), (5, 0, 0, 7), (0, 12, 0, 0), (0, 16, 0, 0), (0, 16, 0, 0), (0, 16, 0, 0), (0, 16, 0, 0), (0, 16, 0, 0), (0, 16, 0, 0), (8, 0, 0, 2), (0, 80, 0, 0), (5, 0, 0, 7), (0, 12, 0, 0), (0, 16, 0, 0), (0, 16, 0, 0), (0, 16, 0, 0), (0, 16, 0, 0), (0, 16, 0, 0), (0, 16, 0, 0), (7, 0, 0, 12), (0, 16, 0, 0), (0, 16, 0, 0), (0, 16, 0, 0), (0, 16, 0, 0), (0, 16, 0, 0), (0, 12, 0, 0), (0, 12, 0, 0), (0, 16, 0, 0), (0, 16, 0, 0), (0, 16, 0, 0), (0, 16, 0, 0), (0, 16, 0, 0), (7, 0, 0, 12), (0, 16, 0, 0), (0, 16, 0, 0), (0, 16, 0, 0), (0, 16, 0, 0), (0, 16, 0, 0), (0, 12, 0, 0), (0, 12, 0, 0), (0, 16, 0, 0), (0, 16, 0, 0), (0, 16, 0, 0), (0, 16, 0, 0), (0, 16, 0, 0), (4, 0, 0, 8), (3, 12, 0, 0), (0, 12, 0, 0), (0, 12, 0, 0), (0, 12, 0, 0), (0, 12, 0, 0), (0, 12, 0, 0), (0, 12, 0, 0), (0, 12, 0, 0), (0, 12, 0, 0), (0, 12, 0, 0), (0, 12, 0, 0), (0, 12, 0, 0), (0, 12, 0, 0), (0, 12, 0, 0), (1, 16, 0, 0), (1, 16, 0, 0), (0, 12, 0, 0), (0, 32, 0, 0), (0, 32, 0, 0), (0, 32, 0, 0)]) rfl ?_
  refine j_putR 5 111 0 dX5_init_67 zc_5 rfl rfl (by rfl) (by decide) lk_X5_43 rfl rfl rfl rfl (by rfl) (fun _ => ⟨rfl, rfl⟩) (by decide) ?_
  refine j_lay (lay' := A ++ [(9, 0, 0, 6), (5, 0, 0, 7), (0, 12, 0, 0), (0, 16, 0, 0), (0, 16, 0, 0), (0, 16, 0, 0), (0, 16, 0, 0), (0, 16, 0, 0), (0, 16, 0, 0), (6, 0, 0, 1), (2, 8, 8, 8), (5, 0, 0, 7), (0, 12, 0, 0), (0, 16, 0, 0), (0, 16, 0, 0), (0, 16, 0, 0), (0, 16, 0, 0), (0, 16, 0, 0), (0, 16, 0, 0), (5, 0, 0, 7), (0, 12, 0, 0), (0, 16, 0, 0), (0, 16, 0, 0), (0, 16, 0, 0), (0, 16, 0, 0), (0, 16, 0, 0), (0, 16, 0, 0), (5, 0, 0, 7), (0, 12, 0, 0), (0, 16, 0, 0), (0, 16, 0, 0), (0, 16, 0, 0), (0, 16, 0, 0), (0, 16, 0, 0), (0, 16, 0, 0), (5, 0, 0, 7), (0, 12, 0, 0), (0, 16, 0, 0), (0, 16, 0, 0), (0, 16, 0, 0), (0, 16, 0, 0), (0, 16, 0, 0), (0, 16, 0, 0), (5, 0, 0, 7), (0, 12, 0, 0), (0, 16, 0, 0), (0, 16, 0, 0), (0, 16, 0, 0), (0, 16, 0, 0), (0, 16, 0, 0), (0, 16, 0, 0), (5, 0, 0, 7), (0, 12, 0, 0), (0, 16, 0, 0), (0, 16, 0, 0), (0, 16, 0, 0), (0, 16, 0, 0), (0, 16, 0, 0), (0, 16, 0, 0), (5, 0, 0, 7), (0, 12, 0, 0), (0, 16, 0, 0), (0, 16, 0, 0), (0, 16, 0, 0), (0, 16, 0, 0), (0, 16, 0, 0), (0, 16, 0, 0), (5, 0, 0, 7), (0, 12, 0, 0), (0, 16, 0, 0), (0, 16, 0, 0), (0, 16, 0, 0), (0, 16, 0, 0), (0, 16, 0, 0), (0, 16, 0, 0), (8, 0, 0, 2), (0, 80, 0, 0), (5, 0, 0, 7), (0, 12, 0, 0), (0, 16, 0, 0), (0, 16, 0, 0), (0, 16, 0, 0), (0, 16, 0, 0), (0, 16, 0, 0), (0, 16, 0, 0), (7, 0, 0, 12), (0, 16, 0, 0), (0, 16, 0, 0), (0, 16, 0, 0), (0, 16, 0, 0), (0, 16, 0, 0), (0, 12, 0, 0), (0, 12, 0, 0), (0, 16, 0, 0), (0, 16, 0, 0), (0, 16, 0, 0), (0, 16, 0, 0), (0, 16, 0, 0), (7, 0, 0, 12), (0, 16, 0, 0), (0, 16, 0, 0), (0, 16, 0, 0), (0, 16, 0, 0), (0, 16, 0, 0), (0, 12, 0, 0), (0, 12, 0, 0), (0, 16, 0, 0), (0, 16, 0, 0), (0, 16, 0, 0), (0, 16, 0, 0), (0, 16, 0, 0), (4, 0, 0, 8), (3, 12, 0, 0), (0, 12, 0, 0), (0, 12, 0, 0), (0, 12, 0, 0), (0, 12, 0, 0), (0, 12, 0, 0), (0, 12, 0, 0), (0, 12, 0, 0), (0, 12, 0, 0), (0, 12, 0, 0), (0, 12, 0, 0), (0, 12, 0, 0), (0, 12, 0, 0), (0, 12, 0, 0), (1, 16, 0, 0), (1, 16, 0, 0), (0, 12, 0, 0), (0, 32, 0, 0), (0, 32, 0, 0), (0, 32, 0, 0)]) rfl ?_
  refine j_aload_n 0 dX5_init_70 rfl ?_
  refine j_iconst (x := 0) dX5_init_71 rfl (by decide) ?_
  refine j_putZ 6 6 dX5_init_72 zc_5 rfl (ap_at (i := 0) rfl (by rfl)) (by decide) lk_X5_47 rfl rfl rfl rfl (fun h13 _ => ?_)
  refine j_aload_n 0 dX5_init_75 rfl ?_
  refine j_iconst (x := 0) dX5_init_76 rfl (by decide) ?_
  refine j_putZ 7 7 dX5_init_77 zc_5 rfl (ap_at (i := 0) rfl (by rfl)) (by decide) lk_X5_51 rfl rfl rfl rfl (fun h14 _ => ?_)
  exact j_retV rfl rfl rfl dX5_init_80 rfl ⟨(Nat.le_of_ble_eq_true rfl), (Nat.le_of_ble_eq_true rfl)⟩ rfl
theorem ct_dl_initA (A l : List LK) {a : Nat} (ha : A.length + l.length = a) (h : Hp) : CT mi_dl_init encV (fun l' => l' = A ++ (l ++ blkLines)) (A ++ (l ++ [(9, 0, 0, 0)])) [vr a] h (dl_init a h) := by
  subst ha
  have q := ct_dl_init (A ++ l) h
  rw [List.append_assoc, List.append_assoc, List.length_append] at q
  exact q

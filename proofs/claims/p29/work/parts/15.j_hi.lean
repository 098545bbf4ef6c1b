set_option maxRecDepth 100000 in
set_option maxHeartbeats 4000000 in
theorem ct_hi_record {lay : List LK} {th : Nat} {q1 : Nat} (hs : sub lay th blkHistory) (hq1 : sub lay q1 blkDrawing) (h : Hp) : CT mi_hi_record encV (Same lay) lay [vr th, vr q1] h (hi_record th q1 h) := by
  refine CT.of (by decide) rfl (Nat.le_of_ble_eq_true rfl) ?_
  show J mi_hi_record encV (Same lay) lay 0 0 0 [(0, vr th), (1, vr q1)] [] h _
  unfold hi_record
  refine j_aload_n 0 dX2_record_0 rfl ?_
  refine j_aload_n 0 dX2_record_1 rfl ?_
  refine j_getI 1 1 dX2_record_2 zc_2 rfl (sub_k hs 0 rfl rfl) (by decide) lk_X2_17 rfl rfl ?_
  refine j_iconst (x := 1) dX2_record_5 rfl (by decide) ?_
  refine j_iadd dX2_record_6 ?_
  refine j_bipush (x := 8) dX2_record_7 (by decide) (by decide) ?_
  refine j_irem dX2_record_9 ?_
  refine j_putI 1 1 dX2_record_10 zc_2 rfl (sub_k hs 0 rfl rfl) (by decide) lk_X2_17 rfl rfl rfl rfl (fun h1 _ => ?_)
  refine j_aload_n 0 dX2_record_13 rfl ?_
  refine j_getR 0 1 0 dX2_record_14 zc_2 rfl (sub_k hs 0 rfl rfl) (by decide) lk_X2_11 rfl (by decide) (rfl : th + 1 = (th + 1)) ?_
  refine j_aload_n 0 dX2_record_17 rfl ?_
  refine j_getI 1 1 dX2_record_18 zc_2 rfl (sub_k hs 0 rfl rfl) (by decide) lk_X2_17 rfl rfl ?_
  refine j_aaldD dX2_record_21 (sub_k hs 1 rfl rfl) (by decide) rfl (a' := (th + 2 + 8 * (h1 th 1).toNat)) rfl (fun hi2 hj2 => ?_)
  refine j_aload_n 1 dX2_record_22 rfl ?_
  refine j_cV (stk := []) [vr q1] (th + 2 + 8 * (h1 th 1).toNat) dX2_record_23 mv_dr_copyFrom lm_X2_25 (sub_k (sub_hist hs hi2 hj2 (a' := (th + 2 + 8 * (h1 th 1).toNat)) rfl) 0 rfl rfl) zc_1 (ct_dr_copyFrom (sub_hist hs hi2 hj2 (a' := (th + 2 + 8 * (h1 th 1).toNat)) rfl) hq1 h1) rfl rfl ⟨⟨Nat.le_of_ble_eq_true rfl, Nat.le_of_ble_eq_true rfl⟩, Nat.le_of_ble_eq_true rfl, Nat.le_of_ble_eq_true rfl⟩ (Nat.le_of_ble_eq_true rfl) rfl rfl (fun _ h3 _ => ?_)
  refine j_aload_n 0 dX2_record_26 rfl ?_
  refine j_aload_n 0 dX2_record_27 rfl ?_
  refine j_getI 2 2 dX2_record_28 zc_2 rfl (sub_k hs 0 rfl rfl) (by decide) lk_X2_21 rfl rfl ?_
  refine j_iconst (x := 1) dX2_record_31 rfl (by decide) ?_
  refine j_iadd dX2_record_32 ?_
  refine j_bipush (x := 8) dX2_record_33 (by decide) (by decide) ?_
  refine j_mmin dX2_record_35 lm_X2_29 km_min1 km_2 km_min3 (Nat.le_of_ble_eq_true rfl) (Nat.le_of_ble_eq_true rfl) (Nat.le_of_ble_eq_true rfl) (Nat.le_of_ble_eq_true rfl) ?_
  refine j_putI 2 2 dX2_record_38 zc_2 rfl (sub_k hs 0 rfl rfl) (by decide) lk_X2_21 rfl rfl rfl rfl (fun h4 _ => ?_)
  exact j_retV rfl rfl rfl dX2_record_41 rfl ⟨Nat.le_refl _, Nat.le_refl _⟩ rfl


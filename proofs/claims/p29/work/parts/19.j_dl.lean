set_option maxRecDepth 100000 in
set_option maxHeartbeats 4000000 in
theorem ct_dl_forgetWhatWasWorkedOut {lay : List LK} {th : Nat} (hs : sub lay th blkLines) (h : Hp) : CT mi_dl_forgetWhatWasWorkedOut encV (Same lay) lay [vr th] h (dl_forgetWhatWasWorkedOut th h) := by
  refine CT.of (by decide) rfl (Nat.le_of_ble_eq_true rfl) ?_
  show J mi_dl_forgetWhatWasWorkedOut encV (Same lay) lay 0 0 0 [(0, vr th)] [] h _
  unfold dl_forgetWhatWasWorkedOut
  refine j_aload_n 0 dX5_forgetWhatWasWorkedOut_0 rfl ?_
  refine j_iconst (x := 0) dX5_forgetWhatWasWorkedOut_1 rfl (by decide) ?_
  refine j_putZ 6 6 dX5_forgetWhatWasWorkedOut_2 zc_5 rfl (sub_k hs 0 rfl rfl) (by decide) lk_X5_47 rfl rfl rfl rfl (fun h1 _ => ?_)
  refine j_aload_n 0 dX5_forgetWhatWasWorkedOut_5 rfl ?_
  refine j_iconst (x := 0) dX5_forgetWhatWasWorkedOut_6 rfl (by decide) ?_
  refine j_putZ 7 7 dX5_forgetWhatWasWorkedOut_7 zc_5 rfl (sub_k hs 0 rfl rfl) (by decide) lk_X5_51 rfl rfl rfl rfl (fun h2 _ => ?_)
  exact j_retV rfl rfl rfl dX5_forgetWhatWasWorkedOut_10 rfl ⟨Nat.le_refl _, Nat.le_refl _⟩ rfl

set_option maxRecDepth 100000 in
set_option maxHeartbeats 4000000 in
theorem ct_dl_beginChange {lay : List LK} {th : Nat} (hs : sub lay th blkLines) (h : Hp) : CT mi_dl_beginChange encV (Same lay) lay [vr th] h (dl_beginChange th h) := by
  refine CT.of (by decide) rfl (Nat.le_of_ble_eq_true rfl) ?_
  show J mi_dl_beginChange encV (Same lay) lay 0 0 0 [(0, vr th)] [] h _
  unfold dl_beginChange
  refine j_aload_n 0 dX5_beginChange_0 rfl ?_
  refine j_getR 1 9 1 dX5_beginChange_1 zc_5 rfl (sub_k hs 0 rfl rfl) (by decide) lk_X5_19 rfl (by decide) (rfl : th + 9 = (th + 9)) ?_
  refine j_aload_n 0 dX5_beginChange_4 rfl ?_
  refine j_getR 0 1 0 dX5_beginChange_5 zc_5 rfl (sub_k hs 0 rfl rfl) (by decide) lk_X5_10 rfl (by decide) (rfl : th + 1 = (th + 1)) ?_
  refine j_cV (stk := []) [vr (th + 1)] (th + 9) dX5_beginChange_8 mv_hi_record lm_X5_305 (sub_k (sub_drop (blk' := blkHistory) hs 9 rfl (rfl : th + 9 = (th + 9))) 0 rfl rfl) zc_2 (ct_hi_record (sub_drop (blk' := blkHistory) hs 9 rfl (rfl : th + 9 = (th + 9))) (sub_drop (blk' := blkDrawing) hs 1 rfl (rfl : th + 1 = (th + 1))) h) rfl rfl ⟨⟨Nat.le_of_ble_eq_true rfl, Nat.le_of_ble_eq_true rfl⟩, Nat.le_of_ble_eq_true rfl, Nat.le_of_ble_eq_true rfl⟩ (Nat.le_of_ble_eq_true rfl) rfl rfl (fun _ h1 _ => ?_)
  refine j_aload_n 0 dX5_beginChange_11 rfl ?_
  refine j_cV (stk := []) [] th dX5_beginChange_12 mv_dl_forgetWhatWasWorkedOut lm_X5_260 (sub_k hs 0 rfl rfl) zc_5 (ct_dl_forgetWhatWasWorkedOut hs h1) rfl rfl ⟨⟨Nat.le_of_ble_eq_true rfl, Nat.le_of_ble_eq_true rfl⟩, Nat.le_of_ble_eq_true rfl, Nat.le_of_ble_eq_true rfl⟩ (Nat.le_of_ble_eq_true rfl) rfl rfl (fun _ h2 _ => ?_)
  exact j_retV rfl rfl rfl dX5_beginChange_15 rfl ⟨Nat.le_refl _, Nat.le_refl _⟩ rfl

set_option maxRecDepth 100000 in
set_option maxHeartbeats 4000000 in
theorem ct_dl_addPoint {lay : List LK} {th : Nat} {p1 : Int} (hs : sub lay th blkLines) (h : Hp) : CT mi_dl_addPoint encI (Same lay) lay [vr th, vi p1] h (dl_addPoint th p1 h) := by
  refine CT.of (by decide) rfl (Nat.le_of_ble_eq_true rfl) ?_
  show J mi_dl_addPoint encI (Same lay) lay 0 0 0 [(0, vr th), (1, vi p1)] [] h _
  unfold dl_addPoint
  refine j_iload_n 1 dX5_addPoint_0 rfl ?_
  refine j_iconst (x := 0) dX5_addPoint_1 rfl (by decide) ?_
  refine j_sipush (x := 300) dX5_addPoint_2 (by decide) (by decide) ?_
  refine j_cS (stk := []) [vi p1, vi 0, vi 300] dX5_addPoint_5 mv_dl_isWithin lm_X5_54 (ct_dl_isWithin h) rfl rfl ⟨⟨Nat.le_of_ble_eq_true rfl, Nat.le_of_ble_eq_true rfl⟩, Nat.le_of_ble_eq_true rfl, Nat.le_of_ble_eq_true rfl⟩ (Nat.le_of_ble_eq_true rfl) rfl rfl (fun r1 h1 _ => ?_)
  refine j_if_ne (tgt := 13) dX5_addPoint_8 (by decide) ?_ ?_
  · refine j_iconst (x := (-1)) dX5_addPoint_11 rfl (by decide) ?_
    exact j_retI (h0 := h1) (r := 0) rfl rfl rfl dX5_addPoint_12 rfl ⟨Nat.le_refl _, Nat.le_refl _⟩ rfl
  · refine j_aload_n 0 dX5_addPoint_13 rfl ?_
    refine j_getR 0 1 0 dX5_addPoint_14 zc_5 rfl (sub_k hs 0 rfl rfl) (by decide) lk_X5_10 rfl (by decide) (rfl : th + 1 = (th + 1)) ?_
    refine j_iload_n 1 dX5_addPoint_17 rfl ?_
    refine j_cV (stk := []) [vi p1] (th + 1) dX5_addPoint_18 mv_dr_hasPointAt lm_X5_92 (sub_k (sub_drop (blk' := blkDrawing) hs 1 rfl (rfl : th + 1 = (th + 1))) 0 rfl rfl) zc_1 (ct_dr_hasPointAt (sub_drop (blk' := blkDrawing) hs 1 rfl (rfl : th + 1 = (th + 1))) h1) rfl rfl ⟨⟨Nat.le_of_ble_eq_true rfl, Nat.le_of_ble_eq_true rfl⟩, Nat.le_of_ble_eq_true rfl, Nat.le_of_ble_eq_true rfl⟩ (Nat.le_of_ble_eq_true rfl) rfl rfl (fun r2 h2 _ => ?_)
    refine j_if_eq (tgt := 27) dX5_addPoint_21 (by decide) ?_ ?_
    · refine j_aload_n 0 dX5_addPoint_27 rfl ?_
      refine j_getR 0 1 0 dX5_addPoint_28 zc_5 rfl (sub_k hs 0 rfl rfl) (by decide) lk_X5_10 rfl (by decide) (rfl : th + 1 = (th + 1)) ?_
      refine j_getI 7 7 dX5_addPoint_31 zc_1 rfl (sub_k (sub_drop (blk' := blkDrawing) hs 1 rfl (rfl : th + 1 = (th + 1))) 0 rfl rfl) (by decide) lk_X5_96 rfl rfl ?_
      refine j_bipush (x := 12) dX5_addPoint_34 (by decide) (by decide) ?_
      refine j_icmp_ne (tgt := 42) dX5_addPoint_36 (by decide) ?_ ?_
      · refine j_bipush (x := (-3)) dX5_addPoint_39 (by decide) (by decide) ?_
        exact j_retI (h0 := h2) (r := 0) rfl rfl rfl dX5_addPoint_41 rfl ⟨Nat.le_refl _, Nat.le_refl _⟩ rfl
      · refine j_aload_n 0 dX5_addPoint_42 rfl ?_
        refine j_cV (stk := []) [] th dX5_addPoint_43 mv_dl_beginChange lm_X5_79 (sub_k hs 0 rfl rfl) zc_5 (ct_dl_beginChange hs h2) rfl rfl ⟨⟨Nat.le_of_ble_eq_true rfl, Nat.le_of_ble_eq_true rfl⟩, Nat.le_of_ble_eq_true rfl, Nat.le_of_ble_eq_true rfl⟩ (Nat.le_of_ble_eq_true rfl) rfl rfl (fun _ h3 _ => ?_)
        refine j_aload_n 0 dX5_addPoint_46 rfl ?_
        refine j_getR 0 1 0 dX5_addPoint_47 zc_5 rfl (sub_k hs 0 rfl rfl) (by decide) lk_X5_10 rfl (by decide) (rfl : th + 1 = (th + 1)) ?_
        refine j_iload_n 1 dX5_addPoint_50 rfl ?_
        refine j_cV (stk := []) [vi p1] (th + 1) dX5_addPoint_51 mv_dr_insertPoint lm_X5_99 (sub_k (sub_drop (blk' := blkDrawing) hs 1 rfl (rfl : th + 1 = (th + 1))) 0 rfl rfl) zc_1 (ct_dr_insertPoint (sub_drop (blk' := blkDrawing) hs 1 rfl (rfl : th + 1 = (th + 1))) h3) rfl rfl ⟨⟨Nat.le_of_ble_eq_true rfl, Nat.le_of_ble_eq_true rfl⟩, Nat.le_of_ble_eq_true rfl, Nat.le_of_ble_eq_true rfl⟩ (Nat.le_of_ble_eq_true rfl) rfl rfl (fun r4 h4 _ => ?_)
        exact j_retI (h0 := h4) (r := 0) rfl rfl rfl dX5_addPoint_54 rfl ⟨Nat.le_refl _, Nat.le_refl _⟩ rfl
    · refine j_bipush (x := (-2)) dX5_addPoint_24 (by decide) (by decide) ?_
      exact j_retI (h0 := h2) (r := 0) rfl rfl rfl dX5_addPoint_26 rfl ⟨Nat.le_refl _, Nat.le_refl _⟩ rfl

set_option maxRecDepth 100000 in
set_option maxHeartbeats 4000000 in
theorem jb_dl_areTwoPoints_32 {lay : List LK} {th : Nat} {p1 : Int} {p2 : Int}  (hs : sub lay th blkLines)  (s0 : Int) (h : Hp) : J mi_dl_areTwoPoints encI (Same lay) lay 0 0 32 [] [vi s0] h (dl_areTwoPoints_b32 th p1 p2 s0 h) := by
  unfold dl_areTwoPoints_b32
  exact j_retZ rfl rfl rfl dX5_areTwoPoints_32 rfl ⟨Nat.le_refl _, Nat.le_refl _⟩ rfl

set_option maxRecDepth 100000 in
set_option maxHeartbeats 4000000 in
theorem jb_dl_areTwoPoints_31 {lay : List LK} {th : Nat} {p1 : Int} {p2 : Int}  (hs : sub lay th blkLines)  (h : Hp) : J mi_dl_areTwoPoints encI (Same lay) lay 0 0 31 [] [] h (dl_areTwoPoints_b31 th p1 p2 h) := by
  unfold dl_areTwoPoints_b31
  refine j_iconst (x := 0) dX5_areTwoPoints_31 rfl (by decide) ?_
  exact jb_dl_areTwoPoints_32 hs _ _

set_option maxRecDepth 100000 in
set_option maxHeartbeats 4000000 in
theorem ct_dl_areTwoPoints {lay : List LK} {th : Nat} {p1 : Int} {p2 : Int} (hs : sub lay th blkLines) (h : Hp) : CT mi_dl_areTwoPoints encI (Same lay) lay [vr th, vi p1, vi p2] h (dl_areTwoPoints th p1 p2 h) := by
  refine CT.of (by decide) rfl (Nat.le_of_ble_eq_true rfl) ?_
  show J mi_dl_areTwoPoints encI (Same lay) lay 0 0 0 [(0, vr th), (1, vi p1), (2, vi p2)] [] h _
  unfold dl_areTwoPoints
  refine j_aload_n 0 dX5_areTwoPoints_0 rfl ?_
  refine j_getR 0 1 0 dX5_areTwoPoints_1 zc_5 rfl (sub_k hs 0 rfl rfl) (by decide) lk_X5_10 rfl (by decide) (rfl : th + 1 = (th + 1)) ?_
  refine j_iload_n 1 dX5_areTwoPoints_4 rfl ?_
  refine j_cV (stk := []) [vi p1] (th + 1) dX5_areTwoPoints_5 mv_dr_hasPoint lm_X5_102 (sub_k (sub_drop (blk' := blkDrawing) hs 1 rfl (rfl : th + 1 = (th + 1))) 0 rfl rfl) zc_1 (ct_dr_hasPoint (sub_drop (blk' := blkDrawing) hs 1 rfl (rfl : th + 1 = (th + 1))) h) rfl rfl ⟨⟨Nat.le_of_ble_eq_true rfl, Nat.le_of_ble_eq_true rfl⟩, Nat.le_of_ble_eq_true rfl, Nat.le_of_ble_eq_true rfl⟩ (Nat.le_of_ble_eq_true rfl) rfl rfl (fun r1 h1 _ => ?_)
  refine j_if_eq (tgt := 31) dX5_areTwoPoints_8 (by decide) ?_ ?_
  · refine j_sub [] rfl ?_
    exact jb_dl_areTwoPoints_31 hs _
  · refine j_aload_n 0 dX5_areTwoPoints_11 rfl ?_
    refine j_getR 0 1 0 dX5_areTwoPoints_12 zc_5 rfl (sub_k hs 0 rfl rfl) (by decide) lk_X5_10 rfl (by decide) (rfl : th + 1 = (th + 1)) ?_
    refine j_iload_n 2 dX5_areTwoPoints_15 rfl ?_
    refine j_cV (stk := []) [vi p2] (th + 1) dX5_areTwoPoints_16 mv_dr_hasPoint lm_X5_102 (sub_k (sub_drop (blk' := blkDrawing) hs 1 rfl (rfl : th + 1 = (th + 1))) 0 rfl rfl) zc_1 (ct_dr_hasPoint (sub_drop (blk' := blkDrawing) hs 1 rfl (rfl : th + 1 = (th + 1))) h1) rfl rfl ⟨⟨Nat.le_of_ble_eq_true rfl, Nat.le_of_ble_eq_true rfl⟩, Nat.le_of_ble_eq_true rfl, Nat.le_of_ble_eq_true rfl⟩ (Nat.le_of_ble_eq_true rfl) rfl rfl (fun r2 h2 _ => ?_)
    refine j_if_eq (tgt := 31) dX5_areTwoPoints_19 (by decide) ?_ ?_
    · refine j_sub [] rfl ?_
      exact jb_dl_areTwoPoints_31 hs _
    · refine j_iload_n 1 dX5_areTwoPoints_22 rfl ?_
      refine j_iload_n 2 dX5_areTwoPoints_23 rfl ?_
      refine j_icmp_eq (tgt := 31) dX5_areTwoPoints_24 (by decide) ?_ ?_
      · refine j_sub [] rfl ?_
        exact jb_dl_areTwoPoints_31 hs _
      · refine j_iconst (x := 1) dX5_areTwoPoints_27 rfl (by decide) ?_
        refine j_goto (tgt := 32) dX5_areTwoPoints_28 (by decide) ?_
        refine j_sub [] rfl ?_
        exact jb_dl_areTwoPoints_32 hs _ _

set_option maxRecDepth 100000 in
set_option maxHeartbeats 4000000 in
theorem ct_dl_add {lay : List LK} {th : Nat} {p1 : Int} {p2 : Int} (hs : sub lay th blkLines) (h : Hp) : CT mi_dl_add encI (Same lay) lay [vr th, vi p1, vi p2] h (dl_add th p1 p2 h) := by
  refine CT.of (by decide) rfl (Nat.le_of_ble_eq_true rfl) ?_
  show J mi_dl_add encI (Same lay) lay 0 0 0 [(0, vr th), (1, vi p1), (2, vi p2)] [] h _
  unfold dl_add
  refine j_aload_n 0 dX5_add_0 rfl ?_
  refine j_iload_n 1 dX5_add_1 rfl ?_
  refine j_iload_n 2 dX5_add_2 rfl ?_
  refine j_cV (stk := []) [vi p1, vi p2] th dX5_add_3 mv_dl_areTwoPoints lm_X5_120 (sub_k hs 0 rfl rfl) zc_5 (ct_dl_areTwoPoints hs h) rfl rfl ⟨⟨Nat.le_of_ble_eq_true rfl, Nat.le_of_ble_eq_true rfl⟩, Nat.le_of_ble_eq_true rfl, Nat.le_of_ble_eq_true rfl⟩ (Nat.le_of_ble_eq_true rfl) rfl rfl (fun r1 h1 _ => ?_)
  refine j_if_ne (tgt := 11) dX5_add_6 (by decide) ?_ ?_
  · refine j_iconst (x := (-1)) dX5_add_9 rfl (by decide) ?_
    exact j_retI (h0 := h1) (r := 0) rfl rfl rfl dX5_add_10 rfl ⟨Nat.le_refl _, Nat.le_refl _⟩ rfl
  · refine j_aload_n 0 dX5_add_11 rfl ?_
    refine j_getR 0 1 0 dX5_add_12 zc_5 rfl (sub_k hs 0 rfl rfl) (by decide) lk_X5_10 rfl (by decide) (rfl : th + 1 = (th + 1)) ?_
    refine j_getI 8 8 dX5_add_15 zc_1 rfl (sub_k (sub_drop (blk' := blkDrawing) hs 1 rfl (rfl : th + 1 = (th + 1))) 0 rfl rfl) (by decide) lk_X5_89 rfl rfl ?_
    refine j_bipush (x := 16) dX5_add_18 (by decide) (by decide) ?_
    refine j_icmp_ne (tgt := 26) dX5_add_20 (by decide) ?_ ?_
    · refine j_bipush (x := (-3)) dX5_add_23 (by decide) (by decide) ?_
      exact j_retI (h0 := h1) (r := 0) rfl rfl rfl dX5_add_25 rfl ⟨Nat.le_refl _, Nat.le_refl _⟩ rfl
    · refine j_aload_n 0 dX5_add_26 rfl ?_
      refine j_cV (stk := []) [] th dX5_add_27 mv_dl_beginChange lm_X5_79 (sub_k hs 0 rfl rfl) zc_5 (ct_dl_beginChange hs h1) rfl rfl ⟨⟨Nat.le_of_ble_eq_true rfl, Nat.le_of_ble_eq_true rfl⟩, Nat.le_of_ble_eq_true rfl, Nat.le_of_ble_eq_true rfl⟩ (Nat.le_of_ble_eq_true rfl) rfl rfl (fun _ h2 _ => ?_)
      refine j_aload_n 0 dX5_add_30 rfl ?_
      refine j_getR 0 1 0 dX5_add_31 zc_5 rfl (sub_k hs 0 rfl rfl) (by decide) lk_X5_10 rfl (by decide) (rfl : th + 1 = (th + 1)) ?_
      refine j_iload_n 1 dX5_add_34 rfl ?_
      refine j_iload_n 2 dX5_add_35 rfl ?_
      refine j_mmin dX5_add_36 lm_X5_124 km_min1 km_2 km_min3 (Nat.le_of_ble_eq_true rfl) (Nat.le_of_ble_eq_true rfl) (Nat.le_of_ble_eq_true rfl) (Nat.le_of_ble_eq_true rfl) ?_
      refine j_iload_n 1 dX5_add_39 rfl ?_
      refine j_iload_n 2 dX5_add_40 rfl ?_
      refine j_mmax dX5_add_41 lm_X5_129 km_max1 km_2 km_max3 (Nat.le_of_ble_eq_true rfl) (Nat.le_of_ble_eq_true rfl) (Nat.le_of_ble_eq_true rfl) (Nat.le_of_ble_eq_true rfl) ?_
      refine j_cV (stk := []) [vi (min p1 p2), vi (max p1 p2)] (th + 1) dX5_add_44 mv_dr_append lm_X5_132 (sub_k (sub_drop (blk' := blkDrawing) hs 1 rfl (rfl : th + 1 = (th + 1))) 0 rfl rfl) zc_1 (ct_dr_append (sub_drop (blk' := blkDrawing) hs 1 rfl (rfl : th + 1 = (th + 1))) h2) rfl rfl ⟨⟨Nat.le_of_ble_eq_true rfl, Nat.le_of_ble_eq_true rfl⟩, Nat.le_of_ble_eq_true rfl, Nat.le_of_ble_eq_true rfl⟩ (Nat.le_of_ble_eq_true rfl) rfl rfl (fun r3 h3 _ => ?_)
      exact j_retI (h0 := h3) (r := 0) rfl rfl rfl dX5_add_47 rfl ⟨Nat.le_refl _, Nat.le_refl _⟩ rfl

set_option maxRecDepth 100000 in
set_option maxHeartbeats 4000000 in
theorem ct_dl_drop {lay : List LK} {th : Nat} {p1 : Int} (hs : sub lay th blkLines) (h : Hp) : CT mi_dl_drop encI (Same lay) lay [vr th, vi p1] h (dl_drop th p1 h) := by
  refine CT.of (by decide) rfl (Nat.le_of_ble_eq_true rfl) ?_
  show J mi_dl_drop encI (Same lay) lay 0 0 0 [(0, vr th), (1, vi p1)] [] h _
  unfold dl_drop
  refine j_aload_n 0 dX5_drop_0 rfl ?_
  refine j_getR 0 1 0 dX5_drop_1 zc_5 rfl (sub_k hs 0 rfl rfl) (by decide) lk_X5_10 rfl (by decide) (rfl : th + 1 = (th + 1)) ?_
  refine j_iload_n 1 dX5_drop_4 rfl ?_
  refine j_cV (stk := []) [vi p1] (th + 1) dX5_drop_5 mv_dr_hasDimension lm_X5_134 (sub_k (sub_drop (blk' := blkDrawing) hs 1 rfl (rfl : th + 1 = (th + 1))) 0 rfl rfl) zc_1 (ct_dr_hasDimension (sub_drop (blk' := blkDrawing) hs 1 rfl (rfl : th + 1 = (th + 1))) h) rfl rfl ⟨⟨Nat.le_of_ble_eq_true rfl, Nat.le_of_ble_eq_true rfl⟩, Nat.le_of_ble_eq_true rfl, Nat.le_of_ble_eq_true rfl⟩ (Nat.le_of_ble_eq_true rfl) rfl rfl (fun r1 h1 _ => ?_)
  refine j_if_ne (tgt := 13) dX5_drop_8 (by decide) ?_ ?_
  · refine j_iconst (x := (-1)) dX5_drop_11 rfl (by decide) ?_
    exact j_retI (h0 := h1) (r := 0) rfl rfl rfl dX5_drop_12 rfl ⟨Nat.le_refl _, Nat.le_refl _⟩ rfl
  · refine j_aload_n 0 dX5_drop_13 rfl ?_
    refine j_cV (stk := []) [] th dX5_drop_14 mv_dl_beginChange lm_X5_79 (sub_k hs 0 rfl rfl) zc_5 (ct_dl_beginChange hs h1) rfl rfl ⟨⟨Nat.le_of_ble_eq_true rfl, Nat.le_of_ble_eq_true rfl⟩, Nat.le_of_ble_eq_true rfl, Nat.le_of_ble_eq_true rfl⟩ (Nat.le_of_ble_eq_true rfl) rfl rfl (fun _ h2 _ => ?_)
    refine j_aload_n 0 dX5_drop_17 rfl ?_
    refine j_getR 0 1 0 dX5_drop_18 zc_5 rfl (sub_k hs 0 rfl rfl) (by decide) lk_X5_10 rfl (by decide) (rfl : th + 1 = (th + 1)) ?_
    refine j_iload_n 1 dX5_drop_21 rfl ?_
    refine j_cV (stk := []) [vi p1] (th + 1) dX5_drop_22 mv_dr_removeDimension lm_X5_137 (sub_k (sub_drop (blk' := blkDrawing) hs 1 rfl (rfl : th + 1 = (th + 1))) 0 rfl rfl) zc_1 (ct_dr_removeDimension (sub_drop (blk' := blkDrawing) hs 1 rfl (rfl : th + 1 = (th + 1))) h2) rfl rfl ⟨⟨Nat.le_of_ble_eq_true rfl, Nat.le_of_ble_eq_true rfl⟩, Nat.le_of_ble_eq_true rfl, Nat.le_of_ble_eq_true rfl⟩ (Nat.le_of_ble_eq_true rfl) rfl rfl (fun _ h3 _ => ?_)
    refine j_aload_n 0 dX5_drop_25 rfl ?_
    refine j_getR 0 1 0 dX5_drop_26 zc_5 rfl (sub_k hs 0 rfl rfl) (by decide) lk_X5_10 rfl (by decide) (rfl : th + 1 = (th + 1)) ?_
    refine j_getI 8 8 dX5_drop_29 zc_1 rfl (sub_k (sub_drop (blk' := blkDrawing) hs 1 rfl (rfl : th + 1 = (th + 1))) 0 rfl rfl) (by decide) lk_X5_89 rfl rfl ?_
    exact j_retI (h0 := h3) (r := 0) rfl rfl rfl dX5_drop_32 rfl ⟨Nat.le_refl _, Nat.le_refl _⟩ rfl

set_option maxRecDepth 100000 in
set_option maxHeartbeats 4000000 in
theorem jb_dl_setTolerance_31 {lay : List LK} {th : Nat} {p1 : Int} {p2 : Int} {p3 : Int}  (hs : sub lay th blkLines)  (h : Hp) : J mi_dl_setTolerance encI (Same lay) lay 0 0 31 [] [] h (dl_setTolerance_b31 th p1 p2 p3 h) := by
  unfold dl_setTolerance_b31
  refine j_iconst (x := (-1)) dX5_setTolerance_31 rfl (by decide) ?_
  exact j_retI (h0 := h) (r := 0) rfl rfl rfl dX5_setTolerance_32 rfl ⟨Nat.le_refl _, Nat.le_refl _⟩ rfl

set_option maxRecDepth 100000 in
set_option maxHeartbeats 4000000 in
theorem ct_dl_setTolerance {lay : List LK} {th : Nat} {p1 : Int} {p2 : Int} {p3 : Int} (hs : sub lay th blkLines) (h : Hp) : CT mi_dl_setTolerance encI (Same lay) lay [vr th, vi p1, vi p2, vi p3] h (dl_setTolerance th p1 p2 p3 h) := by
  refine CT.of (by decide) rfl (Nat.le_of_ble_eq_true rfl) ?_
  show J mi_dl_setTolerance encI (Same lay) lay 0 0 0 [(0, vr th), (1, vi p1), (2, vi p2), (3, vi p3)] [] h _
  unfold dl_setTolerance
  refine j_aload_n 0 dX5_setTolerance_0 rfl ?_
  refine j_getR 0 1 0 dX5_setTolerance_1 zc_5 rfl (sub_k hs 0 rfl rfl) (by decide) lk_X5_10 rfl (by decide) (rfl : th + 1 = (th + 1)) ?_
  refine j_iload_n 1 dX5_setTolerance_4 rfl ?_
  refine j_cV (stk := []) [vi p1] (th + 1) dX5_setTolerance_5 mv_dr_hasDimension lm_X5_134 (sub_k (sub_drop (blk' := blkDrawing) hs 1 rfl (rfl : th + 1 = (th + 1))) 0 rfl rfl) zc_1 (ct_dr_hasDimension (sub_drop (blk' := blkDrawing) hs 1 rfl (rfl : th + 1 = (th + 1))) h) rfl rfl ⟨⟨Nat.le_of_ble_eq_true rfl, Nat.le_of_ble_eq_true rfl⟩, Nat.le_of_ble_eq_true rfl, Nat.le_of_ble_eq_true rfl⟩ (Nat.le_of_ble_eq_true rfl) rfl rfl (fun r1 h1 _ => ?_)
  refine j_if_eq (tgt := 31) dX5_setTolerance_8 (by decide) ?_ ?_
  · refine j_sub [] rfl ?_
    exact jb_dl_setTolerance_31 hs _
  · refine j_iload_n 2 dX5_setTolerance_11 rfl ?_
    refine j_iconst (x := 0) dX5_setTolerance_12 rfl (by decide) ?_
    refine j_bipush (x := 20) dX5_setTolerance_13 (by decide) (by decide) ?_
    refine j_cS (stk := []) [vi p2, vi 0, vi 20] dX5_setTolerance_15 mv_dl_isWithin lm_X5_54 (ct_dl_isWithin h1) rfl rfl ⟨⟨Nat.le_of_ble_eq_true rfl, Nat.le_of_ble_eq_true rfl⟩, Nat.le_of_ble_eq_true rfl, Nat.le_of_ble_eq_true rfl⟩ (Nat.le_of_ble_eq_true rfl) rfl rfl (fun r2 h2 _ => ?_)
    refine j_if_eq (tgt := 31) dX5_setTolerance_18 (by decide) ?_ ?_
    · refine j_sub [] rfl ?_
      exact jb_dl_setTolerance_31 hs _
    · refine j_iload_n 3 dX5_setTolerance_21 rfl ?_
      refine j_iconst (x := 0) dX5_setTolerance_22 rfl (by decide) ?_
      refine j_bipush (x := 20) dX5_setTolerance_23 (by decide) (by decide) ?_
      refine j_cS (stk := []) [vi p3, vi 0, vi 20] dX5_setTolerance_25 mv_dl_isWithin lm_X5_54 (ct_dl_isWithin h2) rfl rfl ⟨⟨Nat.le_of_ble_eq_true rfl, Nat.le_of_ble_eq_true rfl⟩, Nat.le_of_ble_eq_true rfl, Nat.le_of_ble_eq_true rfl⟩ (Nat.le_of_ble_eq_true rfl) rfl rfl (fun r3 h3 _ => ?_)
      refine j_if_ne (tgt := 33) dX5_setTolerance_28 (by decide) ?_ ?_
      · refine j_sub [] rfl ?_
        exact jb_dl_setTolerance_31 hs _
      · refine j_bipush (x := 100) dX5_setTolerance_33 (by decide) (by decide) ?_
        refine j_aload_n 0 dX5_setTolerance_35 rfl ?_
        refine j_getR 0 1 0 dX5_setTolerance_36 zc_5 rfl (sub_k hs 0 rfl rfl) (by decide) lk_X5_10 rfl (by decide) (rfl : th + 1 = (th + 1)) ?_
        refine j_getR 3 4 3 dX5_setTolerance_39 zc_1 rfl (sub_k (sub_drop (blk' := blkDrawing) hs 1 rfl (rfl : th + 1 = (th + 1))) 0 rfl rfl) (by decide) lk_X5_140 rfl (by decide) (rfl : (th + 1) + 4 = (th + 5)) ?_
        refine j_iload_n 1 dX5_setTolerance_42 rfl ?_
        refine j_iald dX5_setTolerance_43 (sub_k (sub_drop (blk' := blkDrawing) hs 1 rfl (rfl : th + 1 = (th + 1))) 4 rfl rfl) rfl ?_
        refine j_imul dX5_setTolerance_44 ?_
        refine j_aload_n 0 dX5_setTolerance_45 rfl ?_
        refine j_getR 0 1 0 dX5_setTolerance_46 zc_5 rfl (sub_k hs 0 rfl rfl) (by decide) lk_X5_10 rfl (by decide) (rfl : th + 1 = (th + 1)) ?_
        refine j_getR 4 5 4 dX5_setTolerance_49 zc_1 rfl (sub_k (sub_drop (blk' := blkDrawing) hs 1 rfl (rfl : th + 1 = (th + 1))) 0 rfl rfl) (by decide) lk_X5_143 rfl (by decide) (rfl : (th + 1) + 5 = (th + 6)) ?_
        refine j_iload_n 1 dX5_setTolerance_52 rfl ?_
        refine j_iald dX5_setTolerance_53 (sub_k (sub_drop (blk' := blkDrawing) hs 1 rfl (rfl : th + 1 = (th + 1))) 5 rfl rfl) rfl ?_
        refine j_iadd dX5_setTolerance_54 ?_
        refine j_istore (lv' := [(4, vi ((100 * (h3 (th + 5) p1)) + (h3 (th + 6) p1))), (0, vr th), (1, vi p1), (2, vi p2), (3, vi p3)]) dX5_setTolerance_55 (by decide) rfl ?_
        refine j_aload_n 1 dX5_setTolerance_57 rfl ?_
        refine j_cV (stk := []) [] th dX5_setTolerance_58 mv_dl_beginChange lm_X5_79 (sub_k hs 0 rfl rfl) zc_5 (ct_dl_beginChange hs h3) rfl rfl ⟨⟨Nat.le_of_ble_eq_true rfl, Nat.le_of_ble_eq_true rfl⟩, Nat.le_of_ble_eq_true rfl, Nat.le_of_ble_eq_true rfl⟩ (Nat.le_of_ble_eq_true rfl) rfl rfl (fun _ h4 _ => ?_)
        refine j_aload_n 1 dX5_setTolerance_61 rfl ?_
        refine j_getR 0 1 0 dX5_setTolerance_62 zc_5 rfl (sub_k hs 0 rfl rfl) (by decide) lk_X5_10 rfl (by decide) (rfl : th + 1 = (th + 1)) ?_
        refine j_getR 3 4 3 dX5_setTolerance_65 zc_1 rfl (sub_k (sub_drop (blk' := blkDrawing) hs 1 rfl (rfl : th + 1 = (th + 1))) 0 rfl rfl) (by decide) lk_X5_140 rfl (by decide) (rfl : (th + 1) + 4 = (th + 5)) ?_
        refine j_iload_n 2 dX5_setTolerance_68 rfl ?_
        refine j_iload_n 3 dX5_setTolerance_69 rfl ?_
        refine j_iast dX5_setTolerance_70 (sub_k (sub_drop (blk' := blkDrawing) hs 1 rfl (rfl : th + 1 = (th + 1))) 4 rfl rfl) rfl (fun h5 _ => ?_)
        refine j_aload_n 1 dX5_setTolerance_71 rfl ?_
        refine j_getR 0 1 0 dX5_setTolerance_72 zc_5 rfl (sub_k hs 0 rfl rfl) (by decide) lk_X5_10 rfl (by decide) (rfl : th + 1 = (th + 1)) ?_
        refine j_getR 4 5 4 dX5_setTolerance_75 zc_1 rfl (sub_k (sub_drop (blk' := blkDrawing) hs 1 rfl (rfl : th + 1 = (th + 1))) 0 rfl rfl) (by decide) lk_X5_143 rfl (by decide) (rfl : (th + 1) + 5 = (th + 6)) ?_
        refine j_iload_n 2 dX5_setTolerance_78 rfl ?_
        refine j_iload_n 4 dX5_setTolerance_79 rfl ?_
        refine j_iast dX5_setTolerance_80 (sub_k (sub_drop (blk' := blkDrawing) hs 1 rfl (rfl : th + 1 = (th + 1))) 5 rfl rfl) rfl (fun h6 _ => ?_)
        refine j_iload 0 dX5_setTolerance_81 rfl ?_
        exact j_retI (h0 := h6) (r := 0) rfl rfl rfl dX5_setTolerance_83 rfl ⟨Nat.le_refl _, Nat.le_refl _⟩ rfl

set_option maxRecDepth 100000 in
set_option maxHeartbeats 4000000 in
theorem jb_dl_setChain_20 {lay : List LK} {th : Nat} {p1 : Int} {p2 : Int}  (hs : sub lay th blkLines)  (h : Hp) : J mi_dl_setChain encI (Same lay) lay 0 0 20 [] [] h (dl_setChain_b20 th p1 p2 h) := by
  unfold dl_setChain_b20
  refine j_iconst (x := (-1)) dX5_setChain_20 rfl (by decide) ?_
  exact j_retI (h0 := h) (r := 0) rfl rfl rfl dX5_setChain_21 rfl ⟨Nat.le_refl _, Nat.le_refl _⟩ rfl

set_option maxRecDepth 100000 in
set_option maxHeartbeats 4000000 in
theorem ct_dl_setChain {lay : List LK} {th : Nat} {p1 : Int} {p2 : Int} (hs : sub lay th blkLines) (h : Hp) : CT mi_dl_setChain encI (Same lay) lay [vr th, vi p1, vi p2] h (dl_setChain th p1 p2 h) := by
  refine CT.of (by decide) rfl (Nat.le_of_ble_eq_true rfl) ?_
  show J mi_dl_setChain encI (Same lay) lay 0 0 0 [(0, vr th), (1, vi p1), (2, vi p2)] [] h _
  unfold dl_setChain
  refine j_aload_n 0 dX5_setChain_0 rfl ?_
  refine j_getR 0 1 0 dX5_setChain_1 zc_5 rfl (sub_k hs 0 rfl rfl) (by decide) lk_X5_10 rfl (by decide) (rfl : th + 1 = (th + 1)) ?_
  refine j_iload_n 1 dX5_setChain_4 rfl ?_
  refine j_cV (stk := []) [vi p1] (th + 1) dX5_setChain_5 mv_dr_hasDimension lm_X5_134 (sub_k (sub_drop (blk' := blkDrawing) hs 1 rfl (rfl : th + 1 = (th + 1))) 0 rfl rfl) zc_1 (ct_dr_hasDimension (sub_drop (blk' := blkDrawing) hs 1 rfl (rfl : th + 1 = (th + 1))) h) rfl rfl ⟨⟨Nat.le_of_ble_eq_true rfl, Nat.le_of_ble_eq_true rfl⟩, Nat.le_of_ble_eq_true rfl, Nat.le_of_ble_eq_true rfl⟩ (Nat.le_of_ble_eq_true rfl) rfl rfl (fun r1 h1 _ => ?_)
  refine j_if_eq (tgt := 20) dX5_setChain_8 (by decide) ?_ ?_
  · refine j_sub [] rfl ?_
    exact jb_dl_setChain_20 hs _
  · refine j_iload_n 2 dX5_setChain_11 rfl ?_
    refine j_iconst (x := 0) dX5_setChain_12 rfl (by decide) ?_
    refine j_iconst (x := 5) dX5_setChain_13 rfl (by decide) ?_
    refine j_cS (stk := []) [vi p2, vi 0, vi 5] dX5_setChain_14 mv_dl_isWithin lm_X5_54 (ct_dl_isWithin h1) rfl rfl ⟨⟨Nat.le_of_ble_eq_true rfl, Nat.le_of_ble_eq_true rfl⟩, Nat.le_of_ble_eq_true rfl, Nat.le_of_ble_eq_true rfl⟩ (Nat.le_of_ble_eq_true rfl) rfl rfl (fun r2 h2 _ => ?_)
    refine j_if_ne (tgt := 22) dX5_setChain_17 (by decide) ?_ ?_
    · refine j_sub [] rfl ?_
      exact jb_dl_setChain_20 hs _
    · refine j_aload_n 0 dX5_setChain_22 rfl ?_
      refine j_getR 0 1 0 dX5_setChain_23 zc_5 rfl (sub_k hs 0 rfl rfl) (by decide) lk_X5_10 rfl (by decide) (rfl : th + 1 = (th + 1)) ?_
      refine j_getR 5 6 5 dX5_setChain_26 zc_1 rfl (sub_k (sub_drop (blk' := blkDrawing) hs 1 rfl (rfl : th + 1 = (th + 1))) 0 rfl rfl) (by decide) lk_X5_146 rfl (by decide) (rfl : (th + 1) + 6 = (th + 7)) ?_
      refine j_iload_n 1 dX5_setChain_29 rfl ?_
      refine j_iald dX5_setChain_30 (sub_k (sub_drop (blk' := blkDrawing) hs 1 rfl (rfl : th + 1 = (th + 1))) 6 rfl rfl) rfl ?_
      refine j_istore_n (lv' := [(3, vi (h2 (th + 7) p1)), (0, vr th), (1, vi p1), (2, vi p2)]) dX5_setChain_31 (by decide) rfl ?_
      refine j_aload_n 1 dX5_setChain_32 rfl ?_
      refine j_cV (stk := []) [] th dX5_setChain_33 mv_dl_beginChange lm_X5_79 (sub_k hs 0 rfl rfl) zc_5 (ct_dl_beginChange hs h2) rfl rfl ⟨⟨Nat.le_of_ble_eq_true rfl, Nat.le_of_ble_eq_true rfl⟩, Nat.le_of_ble_eq_true rfl, Nat.le_of_ble_eq_true rfl⟩ (Nat.le_of_ble_eq_true rfl) rfl rfl (fun _ h3 _ => ?_)
      refine j_aload_n 1 dX5_setChain_36 rfl ?_
      refine j_getR 0 1 0 dX5_setChain_37 zc_5 rfl (sub_k hs 0 rfl rfl) (by decide) lk_X5_10 rfl (by decide) (rfl : th + 1 = (th + 1)) ?_
      refine j_getR 5 6 5 dX5_setChain_40 zc_1 rfl (sub_k (sub_drop (blk' := blkDrawing) hs 1 rfl (rfl : th + 1 = (th + 1))) 0 rfl rfl) (by decide) lk_X5_146 rfl (by decide) (rfl : (th + 1) + 6 = (th + 7)) ?_
      refine j_iload_n 2 dX5_setChain_43 rfl ?_
      refine j_iload_n 3 dX5_setChain_44 rfl ?_
      refine j_iast dX5_setChain_45 (sub_k (sub_drop (blk' := blkDrawing) hs 1 rfl (rfl : th + 1 = (th + 1))) 6 rfl rfl) rfl (fun h4 _ => ?_)
      refine j_iload_n 0 dX5_setChain_46 rfl ?_
      exact j_retI (h0 := h4) (r := 0) rfl rfl rfl dX5_setChain_47 rfl ⟨Nat.le_refl _, Nat.le_refl _⟩ rfl

set_option maxRecDepth 100000 in
set_option maxHeartbeats 4000000 in
theorem jb_dl_setLeast_21 {lay : List LK} {th : Nat} {p1 : Int} {p2 : Int}  (hs : sub lay th blkLines)  (h : Hp) : J mi_dl_setLeast encI (Same lay) lay 0 0 21 [] [] h (dl_setLeast_b21 th p1 p2 h) := by
  unfold dl_setLeast_b21
  refine j_iconst (x := (-1)) dX5_setLeast_21 rfl (by decide) ?_
  exact j_retI (h0 := h) (r := 0) rfl rfl rfl dX5_setLeast_22 rfl ⟨Nat.le_refl _, Nat.le_refl _⟩ rfl

set_option maxRecDepth 100000 in
set_option maxHeartbeats 4000000 in
theorem ct_dl_setLeast {lay : List LK} {th : Nat} {p1 : Int} {p2 : Int} (hs : sub lay th blkLines) (h : Hp) : CT mi_dl_setLeast encI (Same lay) lay [vr th, vi p1, vi p2] h (dl_setLeast th p1 p2 h) := by
  refine CT.of (by decide) rfl (Nat.le_of_ble_eq_true rfl) ?_
  show J mi_dl_setLeast encI (Same lay) lay 0 0 0 [(0, vr th), (1, vi p1), (2, vi p2)] [] h _
  unfold dl_setLeast
  refine j_aload_n 0 dX5_setLeast_0 rfl ?_
  refine j_getR 0 1 0 dX5_setLeast_1 zc_5 rfl (sub_k hs 0 rfl rfl) (by decide) lk_X5_10 rfl (by decide) (rfl : th + 1 = (th + 1)) ?_
  refine j_iload_n 1 dX5_setLeast_4 rfl ?_
  refine j_cV (stk := []) [vi p1] (th + 1) dX5_setLeast_5 mv_dr_hasDimension lm_X5_134 (sub_k (sub_drop (blk' := blkDrawing) hs 1 rfl (rfl : th + 1 = (th + 1))) 0 rfl rfl) zc_1 (ct_dr_hasDimension (sub_drop (blk' := blkDrawing) hs 1 rfl (rfl : th + 1 = (th + 1))) h) rfl rfl ⟨⟨Nat.le_of_ble_eq_true rfl, Nat.le_of_ble_eq_true rfl⟩, Nat.le_of_ble_eq_true rfl, Nat.le_of_ble_eq_true rfl⟩ (Nat.le_of_ble_eq_true rfl) rfl rfl (fun r1 h1 _ => ?_)
  refine j_if_eq (tgt := 21) dX5_setLeast_8 (by decide) ?_ ?_
  · refine j_sub [] rfl ?_
    exact jb_dl_setLeast_21 hs _
  · refine j_iload_n 2 dX5_setLeast_11 rfl ?_
    refine j_iconst (x := 0) dX5_setLeast_12 rfl (by decide) ?_
    refine j_bipush (x := 9) dX5_setLeast_13 (by decide) (by decide) ?_
    refine j_cS (stk := []) [vi p2, vi 0, vi 9] dX5_setLeast_15 mv_dl_isWithin lm_X5_54 (ct_dl_isWithin h1) rfl rfl ⟨⟨Nat.le_of_ble_eq_true rfl, Nat.le_of_ble_eq_true rfl⟩, Nat.le_of_ble_eq_true rfl, Nat.le_of_ble_eq_true rfl⟩ (Nat.le_of_ble_eq_true rfl) rfl rfl (fun r2 h2 _ => ?_)
    refine j_if_ne (tgt := 23) dX5_setLeast_18 (by decide) ?_ ?_
    · refine j_sub [] rfl ?_
      exact jb_dl_setLeast_21 hs _
    · refine j_aload_n 0 dX5_setLeast_23 rfl ?_
      refine j_getR 0 1 0 dX5_setLeast_24 zc_5 rfl (sub_k hs 0 rfl rfl) (by decide) lk_X5_10 rfl (by decide) (rfl : th + 1 = (th + 1)) ?_
      refine j_getR 6 7 6 dX5_setLeast_27 zc_1 rfl (sub_k (sub_drop (blk' := blkDrawing) hs 1 rfl (rfl : th + 1 = (th + 1))) 0 rfl rfl) (by decide) lk_X5_149 rfl (by decide) (rfl : (th + 1) + 7 = (th + 8)) ?_
      refine j_iload_n 1 dX5_setLeast_30 rfl ?_
      refine j_iald dX5_setLeast_31 (sub_k (sub_drop (blk' := blkDrawing) hs 1 rfl (rfl : th + 1 = (th + 1))) 7 rfl rfl) rfl ?_
      refine j_istore_n (lv' := [(3, vi (h2 (th + 8) p1)), (0, vr th), (1, vi p1), (2, vi p2)]) dX5_setLeast_32 (by decide) rfl ?_
      refine j_aload_n 1 dX5_setLeast_33 rfl ?_
      refine j_cV (stk := []) [] th dX5_setLeast_34 mv_dl_beginChange lm_X5_79 (sub_k hs 0 rfl rfl) zc_5 (ct_dl_beginChange hs h2) rfl rfl ⟨⟨Nat.le_of_ble_eq_true rfl, Nat.le_of_ble_eq_true rfl⟩, Nat.le_of_ble_eq_true rfl, Nat.le_of_ble_eq_true rfl⟩ (Nat.le_of_ble_eq_true rfl) rfl rfl (fun _ h3 _ => ?_)
      refine j_aload_n 1 dX5_setLeast_37 rfl ?_
      refine j_getR 0 1 0 dX5_setLeast_38 zc_5 rfl (sub_k hs 0 rfl rfl) (by decide) lk_X5_10 rfl (by decide) (rfl : th + 1 = (th + 1)) ?_
      refine j_getR 6 7 6 dX5_setLeast_41 zc_1 rfl (sub_k (sub_drop (blk' := blkDrawing) hs 1 rfl (rfl : th + 1 = (th + 1))) 0 rfl rfl) (by decide) lk_X5_149 rfl (by decide) (rfl : (th + 1) + 7 = (th + 8)) ?_
      refine j_iload_n 2 dX5_setLeast_44 rfl ?_
      refine j_iload_n 3 dX5_setLeast_45 rfl ?_
      refine j_iast dX5_setLeast_46 (sub_k (sub_drop (blk' := blkDrawing) hs 1 rfl (rfl : th + 1 = (th + 1))) 7 rfl rfl) rfl (fun h4 _ => ?_)
      refine j_iload_n 0 dX5_setLeast_47 rfl ?_
      exact j_retI (h0 := h4) (r := 0) rfl rfl rfl dX5_setLeast_48 rfl ⟨Nat.le_refl _, Nat.le_refl _⟩ rfl

set_option maxRecDepth 100000 in
set_option maxHeartbeats 4000000 in
theorem ct_dl_setLetter {lay : List LK} {th : Nat} {p1 : Int} (hs : sub lay th blkLines) (h : Hp) : CT mi_dl_setLetter encI (Same lay) lay [vr th, vi p1] h (dl_setLetter th p1 h) := by
  refine CT.of (by decide) rfl (Nat.le_of_ble_eq_true rfl) ?_
  show J mi_dl_setLetter encI (Same lay) lay 0 0 0 [(0, vr th), (1, vi p1)] [] h _
  unfold dl_setLetter
  refine j_iload_n 1 dX5_setLetter_0 rfl ?_
  refine j_iconst (x := 1) dX5_setLetter_1 rfl (by decide) ?_
  refine j_bipush (x := 9) dX5_setLetter_2 (by decide) (by decide) ?_
  refine j_cS (stk := []) [vi p1, vi 1, vi 9] dX5_setLetter_4 mv_dl_isWithin lm_X5_54 (ct_dl_isWithin h) rfl rfl ⟨⟨Nat.le_of_ble_eq_true rfl, Nat.le_of_ble_eq_true rfl⟩, Nat.le_of_ble_eq_true rfl, Nat.le_of_ble_eq_true rfl⟩ (Nat.le_of_ble_eq_true rfl) rfl rfl (fun r1 h1 _ => ?_)
  refine j_if_ne (tgt := 12) dX5_setLetter_7 (by decide) ?_ ?_
  · refine j_iconst (x := (-1)) dX5_setLetter_10 rfl (by decide) ?_
    exact j_retI (h0 := h1) (r := 0) rfl rfl rfl dX5_setLetter_11 rfl ⟨Nat.le_refl _, Nat.le_refl _⟩ rfl
  · refine j_aload_n 0 dX5_setLetter_12 rfl ?_
    refine j_getR 0 1 0 dX5_setLetter_13 zc_5 rfl (sub_k hs 0 rfl rfl) (by decide) lk_X5_10 rfl (by decide) (rfl : th + 1 = (th + 1)) ?_
    refine j_getI 9 9 dX5_setLetter_16 zc_1 rfl (sub_k (sub_drop (blk' := blkDrawing) hs 1 rfl (rfl : th + 1 = (th + 1))) 0 rfl rfl) (by decide) lk_X5_152 rfl rfl ?_
    refine j_istore_n (lv' := [(2, vi (h1 (th + 1) 9)), (0, vr th), (1, vi p1)]) dX5_setLetter_19 (by decide) rfl ?_
    refine j_aload_n 1 dX5_setLetter_20 rfl ?_
    refine j_cV (stk := []) [] th dX5_setLetter_21 mv_dl_beginChange lm_X5_79 (sub_k hs 0 rfl rfl) zc_5 (ct_dl_beginChange hs h1) rfl rfl ⟨⟨Nat.le_of_ble_eq_true rfl, Nat.le_of_ble_eq_true rfl⟩, Nat.le_of_ble_eq_true rfl, Nat.le_of_ble_eq_true rfl⟩ (Nat.le_of_ble_eq_true rfl) rfl rfl (fun _ h2 _ => ?_)
    refine j_aload_n 1 dX5_setLetter_24 rfl ?_
    refine j_getR 0 1 0 dX5_setLetter_25 zc_5 rfl (sub_k hs 0 rfl rfl) (by decide) lk_X5_10 rfl (by decide) (rfl : th + 1 = (th + 1)) ?_
    refine j_iload_n 2 dX5_setLetter_28 rfl ?_
    refine j_putI 9 9 dX5_setLetter_29 zc_1 rfl (sub_k (sub_drop (blk' := blkDrawing) hs 1 rfl (rfl : th + 1 = (th + 1))) 0 rfl rfl) (by decide) lk_X5_152 rfl rfl rfl rfl (fun h3 _ => ?_)
    refine j_iload_n 0 dX5_setLetter_32 rfl ?_
    exact j_retI (h0 := h3) (r := 0) rfl rfl rfl dX5_setLetter_33 rfl ⟨Nat.le_refl _, Nat.le_refl _⟩ rfl

set_option maxRecDepth 100000 in
set_option maxHeartbeats 4000000 in
theorem ct_dl_setArrow {lay : List LK} {th : Nat} {p1 : Int} (hs : sub lay th blkLines) (h : Hp) : CT mi_dl_setArrow encI (Same lay) lay [vr th, vi p1] h (dl_setArrow th p1 h) := by
  refine CT.of (by decide) rfl (Nat.le_of_ble_eq_true rfl) ?_
  show J mi_dl_setArrow encI (Same lay) lay 0 0 0 [(0, vr th), (1, vi p1)] [] h _
  unfold dl_setArrow
  refine j_iload_n 1 dX5_setArrow_0 rfl ?_
  refine j_iconst (x := 1) dX5_setArrow_1 rfl (by decide) ?_
  refine j_bipush (x := 9) dX5_setArrow_2 (by decide) (by decide) ?_
  refine j_cS (stk := []) [vi p1, vi 1, vi 9] dX5_setArrow_4 mv_dl_isWithin lm_X5_54 (ct_dl_isWithin h) rfl rfl ⟨⟨Nat.le_of_ble_eq_true rfl, Nat.le_of_ble_eq_true rfl⟩, Nat.le_of_ble_eq_true rfl, Nat.le_of_ble_eq_true rfl⟩ (Nat.le_of_ble_eq_true rfl) rfl rfl (fun r1 h1 _ => ?_)
  refine j_if_ne (tgt := 12) dX5_setArrow_7 (by decide) ?_ ?_
  · refine j_iconst (x := (-1)) dX5_setArrow_10 rfl (by decide) ?_
    exact j_retI (h0 := h1) (r := 0) rfl rfl rfl dX5_setArrow_11 rfl ⟨Nat.le_refl _, Nat.le_refl _⟩ rfl
  · refine j_aload_n 0 dX5_setArrow_12 rfl ?_
    refine j_getR 0 1 0 dX5_setArrow_13 zc_5 rfl (sub_k hs 0 rfl rfl) (by decide) lk_X5_10 rfl (by decide) (rfl : th + 1 = (th + 1)) ?_
    refine j_getI 10 10 dX5_setArrow_16 zc_1 rfl (sub_k (sub_drop (blk' := blkDrawing) hs 1 rfl (rfl : th + 1 = (th + 1))) 0 rfl rfl) (by decide) lk_X5_155 rfl rfl ?_
    refine j_istore_n (lv' := [(2, vi (h1 (th + 1) 10)), (0, vr th), (1, vi p1)]) dX5_setArrow_19 (by decide) rfl ?_
    refine j_aload_n 1 dX5_setArrow_20 rfl ?_
    refine j_cV (stk := []) [] th dX5_setArrow_21 mv_dl_beginChange lm_X5_79 (sub_k hs 0 rfl rfl) zc_5 (ct_dl_beginChange hs h1) rfl rfl ⟨⟨Nat.le_of_ble_eq_true rfl, Nat.le_of_ble_eq_true rfl⟩, Nat.le_of_ble_eq_true rfl, Nat.le_of_ble_eq_true rfl⟩ (Nat.le_of_ble_eq_true rfl) rfl rfl (fun _ h2 _ => ?_)
    refine j_aload_n 1 dX5_setArrow_24 rfl ?_
    refine j_getR 0 1 0 dX5_setArrow_25 zc_5 rfl (sub_k hs 0 rfl rfl) (by decide) lk_X5_10 rfl (by decide) (rfl : th + 1 = (th + 1)) ?_
    refine j_iload_n 2 dX5_setArrow_28 rfl ?_
    refine j_putI 10 10 dX5_setArrow_29 zc_1 rfl (sub_k (sub_drop (blk' := blkDrawing) hs 1 rfl (rfl : th + 1 = (th + 1))) 0 rfl rfl) (by decide) lk_X5_155 rfl rfl rfl rfl (fun h3 _ => ?_)
    refine j_iload_n 0 dX5_setArrow_32 rfl ?_
    exact j_retI (h0 := h3) (r := 0) rfl rfl rfl dX5_setArrow_33 rfl ⟨Nat.le_refl _, Nat.le_refl _⟩ rfl

set_option maxRecDepth 100000 in
set_option maxHeartbeats 4000000 in
theorem jb_dl_laidLanes_30 {lay : List LK} {th : Nat}  (hs : sub lay th blkLines)  (h : Hp) : J mi_dl_laidLanes encR (Same lay) lay 0 0 30 [(0, vr th)] [] h (dl_laidLanes_b30 th h) := by
  unfold dl_laidLanes_b30
  refine j_aload_n 0 dX5_laidLanes_30 rfl ?_
  refine j_getR 3 85 3 dX5_laidLanes_31 zc_5 rfl (sub_k hs 0 rfl rfl) (by decide) lk_X5_33 rfl (by decide) (rfl : th + 85 = (th + 85)) ?_
  exact j_retR rfl rfl rfl dX5_laidLanes_34 rfl ⟨Nat.le_refl _, Nat.le_refl _⟩ rfl

set_option maxRecDepth 100000 in
set_option maxHeartbeats 4000000 in
theorem ct_dl_laidLanes {lay : List LK} {th : Nat} (hs : sub lay th blkLines) (h : Hp) : CT mi_dl_laidLanes encR (Same lay) lay [vr th] h (dl_laidLanes th h) := by
  refine CT.of (by decide) rfl (Nat.le_of_ble_eq_true rfl) ?_
  show J mi_dl_laidLanes encR (Same lay) lay 0 0 0 [(0, vr th)] [] h _
  unfold dl_laidLanes
  refine j_aload_n 0 dX5_laidLanes_0 rfl ?_
  refine j_getI 6 6 dX5_laidLanes_1 zc_5 rfl (sub_k hs 0 rfl rfl) (by decide) lk_X5_47 rfl rfl ?_
  refine j_if_ne (tgt := 30) dX5_laidLanes_4 (by decide) ?_ ?_
  · refine j_aload_n 0 dX5_laidLanes_7 rfl ?_
    refine j_getR 3 85 3 dX5_laidLanes_8 zc_5 rfl (sub_k hs 0 rfl rfl) (by decide) lk_X5_33 rfl (by decide) (rfl : th + 85 = (th + 85)) ?_
    refine j_aload_n 0 dX5_laidLanes_11 rfl ?_
    refine j_getR 0 1 0 dX5_laidLanes_12 zc_5 rfl (sub_k hs 0 rfl rfl) (by decide) lk_X5_10 rfl (by decide) (rfl : th + 1 = (th + 1)) ?_
    refine j_aload_n 0 dX5_laidLanes_15 rfl ?_
    refine j_getR 0 1 0 dX5_laidLanes_16 zc_5 rfl (sub_k hs 0 rfl rfl) (by decide) lk_X5_10 rfl (by decide) (rfl : th + 1 = (th + 1)) ?_
    refine j_getI 10 10 dX5_laidLanes_19 zc_1 rfl (sub_k (sub_drop (blk' := blkDrawing) hs 1 rfl (rfl : th + 1 = (th + 1))) 0 rfl rfl) (by decide) lk_X5_155 rfl rfl ?_
    refine j_cV (stk := []) [vr (th + 1), vi (h (th + 1) 10)] (th + 85) dX5_laidLanes_22 mv_la_layOut lm_X5_247 (sub_k (sub_drop (blk' := blkLanes) hs 85 rfl (rfl : th + 85 = (th + 85))) 0 rfl rfl) zc_3 (ct_la_layOut (sub_drop (blk' := blkLanes) hs 85 rfl (rfl : th + 85 = (th + 85))) (sub_drop (blk' := blkDrawing) hs 1 rfl (rfl : th + 1 = (th + 1))) h) rfl rfl ⟨⟨Nat.le_of_ble_eq_true rfl, Nat.le_of_ble_eq_true rfl⟩, Nat.le_of_ble_eq_true rfl, Nat.le_of_ble_eq_true rfl⟩ (Nat.le_of_ble_eq_true rfl) rfl rfl (fun _ h1 _ => ?_)
    refine j_aload_n 0 dX5_laidLanes_25 rfl ?_
    refine j_iconst (x := 1) dX5_laidLanes_26 rfl (by decide) ?_
    refine j_putZ 6 6 dX5_laidLanes_27 zc_5 rfl (sub_k hs 0 rfl rfl) (by decide) lk_X5_47 rfl rfl rfl rfl (fun h2 _ => ?_)
    exact jb_dl_laidLanes_30 hs _
  · exact jb_dl_laidLanes_30 hs _

set_option maxRecDepth 100000 in
set_option maxHeartbeats 4000000 in
theorem jb_dl_knownBounds_23 {lay : List LK} {th : Nat}  (hs : sub lay th blkLines)  (h : Hp) : J mi_dl_knownBounds encR (Same lay) lay 0 0 23 [(0, vr th)] [] h (dl_knownBounds_b23 th h) := by
  unfold dl_knownBounds_b23
  refine j_aload_n 0 dX5_knownBounds_23 rfl ?_
  refine j_getR 5 111 5 dX5_knownBounds_24 zc_5 rfl (sub_k hs 0 rfl rfl) (by decide) lk_X5_43 rfl (by decide) (rfl : th + 111 = (th + 111)) ?_
  exact j_retR rfl rfl rfl dX5_knownBounds_27 rfl ⟨Nat.le_refl _, Nat.le_refl _⟩ rfl

set_option maxRecDepth 100000 in
set_option maxHeartbeats 4000000 in
theorem ct_dl_knownBounds {lay : List LK} {th : Nat} (hs : sub lay th blkLines) (h : Hp) : CT mi_dl_knownBounds encR (Same lay) lay [vr th] h (dl_knownBounds th h) := by
  refine CT.of (by decide) rfl (Nat.le_of_ble_eq_true rfl) ?_
  show J mi_dl_knownBounds encR (Same lay) lay 0 0 0 [(0, vr th)] [] h _
  unfold dl_knownBounds
  refine j_aload_n 0 dX5_knownBounds_0 rfl ?_
  refine j_getI 7 7 dX5_knownBounds_1 zc_5 rfl (sub_k hs 0 rfl rfl) (by decide) lk_X5_51 rfl rfl ?_
  refine j_if_ne (tgt := 23) dX5_knownBounds_4 (by decide) ?_ ?_
  · refine j_aload_n 0 dX5_knownBounds_7 rfl ?_
    refine j_getR 5 111 5 dX5_knownBounds_8 zc_5 rfl (sub_k hs 0 rfl rfl) (by decide) lk_X5_43 rfl (by decide) (rfl : th + 111 = (th + 111)) ?_
    refine j_aload_n 0 dX5_knownBounds_11 rfl ?_
    refine j_getR 0 1 0 dX5_knownBounds_12 zc_5 rfl (sub_k hs 0 rfl rfl) (by decide) lk_X5_10 rfl (by decide) (rfl : th + 1 = (th + 1)) ?_
    refine j_cV (stk := []) [vr (th + 1)] (th + 111) dX5_knownBounds_15 mv_bo_workOut lm_X5_308 (sub_k (sub_drop (blk' := blkBounds) hs 111 rfl (rfl : th + 111 = (th + 111))) 0 rfl rfl) zc_0 (ct_bo_workOut (sub_drop (blk' := blkBounds) hs 111 rfl (rfl : th + 111 = (th + 111))) (sub_drop (blk' := blkDrawing) hs 1 rfl (rfl : th + 1 = (th + 1))) h) rfl rfl ⟨⟨Nat.le_of_ble_eq_true rfl, Nat.le_of_ble_eq_true rfl⟩, Nat.le_of_ble_eq_true rfl, Nat.le_of_ble_eq_true rfl⟩ (Nat.le_of_ble_eq_true rfl) rfl rfl (fun _ h1 _ => ?_)
    refine j_aload_n 0 dX5_knownBounds_18 rfl ?_
    refine j_iconst (x := 1) dX5_knownBounds_19 rfl (by decide) ?_
    refine j_putZ 7 7 dX5_knownBounds_20 zc_5 rfl (sub_k hs 0 rfl rfl) (by decide) lk_X5_51 rfl rfl rfl rfl (fun h2 _ => ?_)
    exact jb_dl_knownBounds_23 hs _
  · exact jb_dl_knownBounds_23 hs _

set_option maxRecDepth 100000 in
set_option maxHeartbeats 4000000 in
theorem ct_dl_point {lay : List LK} {th : Nat} {p1 : Int} {p2 : Int} (hs : sub lay th blkLines) (h : Hp) : CT mi_dl_point encI (Same lay) lay [vr th, vi p1, vi p2] h (dl_point th p1 p2 h) := by
  refine CT.of (by decide) rfl (Nat.le_of_ble_eq_true rfl) ?_
  show J mi_dl_point encI (Same lay) lay 0 0 0 [(0, vr th), (1, vi p1), (2, vi p2)] [] h _
  unfold dl_point
  refine j_aload_n 0 dX5_point_0 rfl ?_
  refine j_getR 0 1 0 dX5_point_1 zc_5 rfl (sub_k hs 0 rfl rfl) (by decide) lk_X5_10 rfl (by decide) (rfl : th + 1 = (th + 1)) ?_
  refine j_iload_n 1 dX5_point_4 rfl ?_
  refine j_cV (stk := []) [vi p1] (th + 1) dX5_point_5 mv_dr_hasPoint lm_X5_102 (sub_k (sub_drop (blk' := blkDrawing) hs 1 rfl (rfl : th + 1 = (th + 1))) 0 rfl rfl) zc_1 (ct_dr_hasPoint (sub_drop (blk' := blkDrawing) hs 1 rfl (rfl : th + 1 = (th + 1))) h) rfl rfl ⟨⟨Nat.le_of_ble_eq_true rfl, Nat.le_of_ble_eq_true rfl⟩, Nat.le_of_ble_eq_true rfl, Nat.le_of_ble_eq_true rfl⟩ (Nat.le_of_ble_eq_true rfl) rfl rfl (fun r1 h1 _ => ?_)
  refine j_if_ne (tgt := 13) dX5_point_8 (by decide) ?_ ?_
  · refine j_iconst (x := (-1)) dX5_point_11 rfl (by decide) ?_
    exact j_retI (h0 := h1) (r := 0) rfl rfl rfl dX5_point_12 rfl ⟨Nat.le_refl _, Nat.le_refl _⟩ rfl
  · refine j_iload_n 2 dX5_point_13 rfl ?_
    refine j_table [48, 58, 67, 76, 86] 96 dX5_point_14 rfl (by decide) (by decide) ⟨?_, ?_, ?_, ?_, ?_, trivial⟩ ?_
    · refine j_aload_n 0 dX5_point_48 rfl ?_
      refine j_getR 0 1 0 dX5_point_49 zc_5 rfl (sub_k hs 0 rfl rfl) (by decide) lk_X5_10 rfl (by decide) (rfl : th + 1 = (th + 1)) ?_
      refine j_getR 0 1 0 dX5_point_52 zc_1 rfl (sub_k (sub_drop (blk' := blkDrawing) hs 1 rfl (rfl : th + 1 = (th + 1))) 0 rfl rfl) (by decide) lk_X5_105 rfl (by decide) (rfl : (th + 1) + 1 = (th + 2)) ?_
      refine j_iload_n 1 dX5_point_55 rfl ?_
      refine j_iald dX5_point_56 (sub_k (sub_drop (blk' := blkDrawing) hs 1 rfl (rfl : th + 1 = (th + 1))) 1 rfl rfl) rfl ?_
      exact j_retI (h0 := h1) (r := 0) rfl rfl rfl dX5_point_57 rfl ⟨Nat.le_refl _, Nat.le_refl _⟩ rfl
    · refine j_aload_n 0 dX5_point_58 rfl ?_
      refine j_getR 0 1 0 dX5_point_59 zc_5 rfl (sub_k hs 0 rfl rfl) (by decide) lk_X5_10 rfl (by decide) (rfl : th + 1 = (th + 1)) ?_
      refine j_iload_n 1 dX5_point_62 rfl ?_
      refine j_cV (stk := []) [vi p1] (th + 1) dX5_point_63 mv_dr_countDimensionsAt lm_X5_113 (sub_k (sub_drop (blk' := blkDrawing) hs 1 rfl (rfl : th + 1 = (th + 1))) 0 rfl rfl) zc_1 (ct_dr_countDimensionsAt (sub_drop (blk' := blkDrawing) hs 1 rfl (rfl : th + 1 = (th + 1))) h1) rfl rfl ⟨⟨Nat.le_of_ble_eq_true rfl, Nat.le_of_ble_eq_true rfl⟩, Nat.le_of_ble_eq_true rfl, Nat.le_of_ble_eq_true rfl⟩ (Nat.le_of_ble_eq_true rfl) rfl rfl (fun r2 h2 _ => ?_)
      exact j_retI (h0 := h2) (r := 0) rfl rfl rfl dX5_point_66 rfl ⟨Nat.le_refl _, Nat.le_refl _⟩ rfl
    · refine j_aload_n 0 dX5_point_67 rfl ?_
      refine j_cV (stk := []) [] th dX5_point_68 mv_dl_laidLanes lm_X5_158 (sub_k hs 0 rfl rfl) zc_5 (ct_dl_laidLanes hs h1) rfl rfl ⟨⟨Nat.le_of_ble_eq_true rfl, Nat.le_of_ble_eq_true rfl⟩, Nat.le_of_ble_eq_true rfl, Nat.le_of_ble_eq_true rfl⟩ (Nat.le_of_ble_eq_true rfl) rfl rfl (fun rr h3 he => ?_)
      obtain rfl := dl_laidLanes_ref he
      refine j_iload_n 1 dX5_point_71 rfl ?_
      refine j_cV (stk := []) [vi p1] (th + 85) dX5_point_72 mv_la_topOf lm_X5_162 (sub_k (sub_drop (blk' := blkLanes) hs 85 rfl (rfl : th + 85 = (th + 85))) 0 rfl rfl) zc_3 (ct_la_topOf (sub_drop (blk' := blkLanes) hs 85 rfl (rfl : th + 85 = (th + 85))) h3) rfl rfl ⟨⟨Nat.le_of_ble_eq_true rfl, Nat.le_of_ble_eq_true rfl⟩, Nat.le_of_ble_eq_true rfl, Nat.le_of_ble_eq_true rfl⟩ (Nat.le_of_ble_eq_true rfl) rfl rfl (fun r4 h4 _ => ?_)
      exact j_retI (h0 := h4) (r := 0) rfl rfl rfl dX5_point_75 rfl ⟨Nat.le_refl _, Nat.le_refl _⟩ rfl
    · refine j_aload_n 0 dX5_point_76 rfl ?_
      refine j_cV (stk := []) [] th dX5_point_77 mv_dl_laidLanes lm_X5_158 (sub_k hs 0 rfl rfl) zc_5 (ct_dl_laidLanes hs h1) rfl rfl ⟨⟨Nat.le_of_ble_eq_true rfl, Nat.le_of_ble_eq_true rfl⟩, Nat.le_of_ble_eq_true rfl, Nat.le_of_ble_eq_true rfl⟩ (Nat.le_of_ble_eq_true rfl) rfl rfl (fun rr h5 he => ?_)
      obtain rfl := dl_laidLanes_ref he
      refine j_getR 5 6 5 dX5_point_80 zc_3 rfl (sub_k (sub_drop (blk' := blkLanes) hs 85 rfl (rfl : th + 85 = (th + 85))) 0 rfl rfl) (by decide) lk_X5_165 rfl (by decide) (rfl : (th + 85) + 6 = (th + 91)) ?_
      refine j_iload_n 1 dX5_point_83 rfl ?_
      refine j_iald dX5_point_84 (sub_k (sub_drop (blk' := blkLanes) hs 85 rfl (rfl : th + 85 = (th + 85))) 6 rfl rfl) rfl ?_
      exact j_retI (h0 := h5) (r := 0) rfl rfl rfl dX5_point_85 rfl ⟨Nat.le_refl _, Nat.le_refl _⟩ rfl
    · refine j_aload_n 0 dX5_point_86 rfl ?_
      refine j_cV (stk := []) [] th dX5_point_87 mv_dl_knownBounds lm_X5_168 (sub_k hs 0 rfl rfl) zc_5 (ct_dl_knownBounds hs h1) rfl rfl ⟨⟨Nat.le_of_ble_eq_true rfl, Nat.le_of_ble_eq_true rfl⟩, Nat.le_of_ble_eq_true rfl, Nat.le_of_ble_eq_true rfl⟩ (Nat.le_of_ble_eq_true rfl) rfl rfl (fun rr h6 he => ?_)
      obtain rfl := dl_knownBounds_ref he
      refine j_getR 1 14 1 dX5_point_90 zc_0 rfl (sub_k (sub_drop (blk' := blkBounds) hs 111 rfl (rfl : th + 111 = (th + 111))) 0 rfl rfl) (by decide) lk_X5_172 rfl (by decide) (rfl : (th + 111) + 14 = (th + 125)) ?_
      refine j_iload_n 1 dX5_point_93 rfl ?_
      refine j_iald dX5_point_94 (sub_k (sub_drop (blk' := blkBounds) hs 111 rfl (rfl : th + 111 = (th + 111))) 14 rfl rfl) rfl ?_
      exact j_retI (h0 := h6) (r := 0) rfl rfl rfl dX5_point_95 rfl ⟨Nat.le_refl _, Nat.le_refl _⟩ rfl
    · refine j_iconst (x := (-1)) dX5_point_96 rfl (by decide) ?_
      exact j_retI (h0 := h1) (r := 0) rfl rfl rfl dX5_point_97 rfl ⟨Nat.le_refl _, Nat.le_refl _⟩ rfl

set_option maxRecDepth 100000 in
set_option maxHeartbeats 4000000 in
theorem jb_dl_dimension_206 {lay : List LK} {th : Nat} {p1 : Int} {p2 : Int}  (hs : sub lay th blkLines)  (s0 : Int) (h : Hp) : J mi_dl_dimension encI (Same lay) lay 0 0 206 [] [vi s0] h (dl_dimension_b206 th p1 p2 s0 h) := by
  unfold dl_dimension_b206
  exact j_retI (h0 := h) (r := 0) rfl rfl rfl dX5_dimension_206 rfl ⟨Nat.le_refl _, Nat.le_refl _⟩ rfl

set_option maxRecDepth 100000 in
set_option maxHeartbeats 4000000 in
theorem ct_dl_dimension {lay : List LK} {th : Nat} {p1 : Int} {p2 : Int} (hs : sub lay th blkLines) (h : Hp) : CT mi_dl_dimension encI (Same lay) lay [vr th, vi p1, vi p2] h (dl_dimension th p1 p2 h) := by
  refine CT.of (by decide) rfl (Nat.le_of_ble_eq_true rfl) ?_
  show J mi_dl_dimension encI (Same lay) lay 0 0 0 [(0, vr th), (1, vi p1), (2, vi p2)] [] h _
  unfold dl_dimension
  refine j_aload_n 0 dX5_dimension_0 rfl ?_
  refine j_getR 0 1 0 dX5_dimension_1 zc_5 rfl (sub_k hs 0 rfl rfl) (by decide) lk_X5_10 rfl (by decide) (rfl : th + 1 = (th + 1)) ?_
  refine j_iload_n 1 dX5_dimension_4 rfl ?_
  refine j_cV (stk := []) [vi p1] (th + 1) dX5_dimension_5 mv_dr_hasDimension lm_X5_134 (sub_k (sub_drop (blk' := blkDrawing) hs 1 rfl (rfl : th + 1 = (th + 1))) 0 rfl rfl) zc_1 (ct_dr_hasDimension (sub_drop (blk' := blkDrawing) hs 1 rfl (rfl : th + 1 = (th + 1))) h) rfl rfl ⟨⟨Nat.le_of_ble_eq_true rfl, Nat.le_of_ble_eq_true rfl⟩, Nat.le_of_ble_eq_true rfl, Nat.le_of_ble_eq_true rfl⟩ (Nat.le_of_ble_eq_true rfl) rfl rfl (fun r1 h1 _ => ?_)
  refine j_if_ne (tgt := 13) dX5_dimension_8 (by decide) ?_ ?_
  · refine j_iconst (x := (-1)) dX5_dimension_11 rfl (by decide) ?_
    exact j_retI (h0 := h1) (r := 0) rfl rfl rfl dX5_dimension_12 rfl ⟨Nat.le_refl _, Nat.le_refl _⟩ rfl
  · refine j_iload_n 2 dX5_dimension_13 rfl ?_
    refine j_table [80, 90, 100, 109, 119, 129, 139, 149, 159, 169, 179, 189, 207] 217 dX5_dimension_14 rfl (by decide) (by decide) ⟨?_, ?_, ?_, ?_, ?_, ?_, ?_, ?_, ?_, ?_, ?_, ?_, ?_, trivial⟩ ?_
    · refine j_aload_n 0 dX5_dimension_80 rfl ?_
      refine j_getR 0 1 0 dX5_dimension_81 zc_5 rfl (sub_k hs 0 rfl rfl) (by decide) lk_X5_10 rfl (by decide) (rfl : th + 1 = (th + 1)) ?_
      refine j_getR 1 2 1 dX5_dimension_84 zc_1 rfl (sub_k (sub_drop (blk' := blkDrawing) hs 1 rfl (rfl : th + 1 = (th + 1))) 0 rfl rfl) (by decide) lk_X5_175 rfl (by decide) (rfl : (th + 1) + 2 = (th + 3)) ?_
      refine j_iload_n 1 dX5_dimension_87 rfl ?_
      refine j_iald dX5_dimension_88 (sub_k (sub_drop (blk' := blkDrawing) hs 1 rfl (rfl : th + 1 = (th + 1))) 2 rfl rfl) rfl ?_
      exact j_retI (h0 := h1) (r := 0) rfl rfl rfl dX5_dimension_89 rfl ⟨Nat.le_refl _, Nat.le_refl _⟩ rfl
    · refine j_aload_n 0 dX5_dimension_90 rfl ?_
      refine j_getR 0 1 0 dX5_dimension_91 zc_5 rfl (sub_k hs 0 rfl rfl) (by decide) lk_X5_10 rfl (by decide) (rfl : th + 1 = (th + 1)) ?_
      refine j_getR 2 3 2 dX5_dimension_94 zc_1 rfl (sub_k (sub_drop (blk' := blkDrawing) hs 1 rfl (rfl : th + 1 = (th + 1))) 0 rfl rfl) (by decide) lk_X5_178 rfl (by decide) (rfl : (th + 1) + 3 = (th + 4)) ?_
      refine j_iload_n 1 dX5_dimension_97 rfl ?_
      refine j_iald dX5_dimension_98 (sub_k (sub_drop (blk' := blkDrawing) hs 1 rfl (rfl : th + 1 = (th + 1))) 3 rfl rfl) rfl ?_
      exact j_retI (h0 := h1) (r := 0) rfl rfl rfl dX5_dimension_99 rfl ⟨Nat.le_refl _, Nat.le_refl _⟩ rfl
    · refine j_aload_n 0 dX5_dimension_100 rfl ?_
      refine j_getR 0 1 0 dX5_dimension_101 zc_5 rfl (sub_k hs 0 rfl rfl) (by decide) lk_X5_10 rfl (by decide) (rfl : th + 1 = (th + 1)) ?_
      refine j_iload_n 1 dX5_dimension_104 rfl ?_
      refine j_cV (stk := []) [vi p1] (th + 1) dX5_dimension_105 mv_dr_valueOf lm_X5_181 (sub_k (sub_drop (blk' := blkDrawing) hs 1 rfl (rfl : th + 1 = (th + 1))) 0 rfl rfl) zc_1 (ct_dr_valueOf (sub_drop (blk' := blkDrawing) hs 1 rfl (rfl : th + 1 = (th + 1))) h1) rfl rfl ⟨⟨Nat.le_of_ble_eq_true rfl, Nat.le_of_ble_eq_true rfl⟩, Nat.le_of_ble_eq_true rfl, Nat.le_of_ble_eq_true rfl⟩ (Nat.le_of_ble_eq_true rfl) rfl rfl (fun r2 h2 _ => ?_)
      exact j_retI (h0 := h2) (r := 0) rfl rfl rfl dX5_dimension_108 rfl ⟨Nat.le_refl _, Nat.le_refl _⟩ rfl
    · refine j_aload_n 0 dX5_dimension_109 rfl ?_
      refine j_getR 0 1 0 dX5_dimension_110 zc_5 rfl (sub_k hs 0 rfl rfl) (by decide) lk_X5_10 rfl (by decide) (rfl : th + 1 = (th + 1)) ?_
      refine j_getR 3 4 3 dX5_dimension_113 zc_1 rfl (sub_k (sub_drop (blk' := blkDrawing) hs 1 rfl (rfl : th + 1 = (th + 1))) 0 rfl rfl) (by decide) lk_X5_140 rfl (by decide) (rfl : (th + 1) + 4 = (th + 5)) ?_
      refine j_iload_n 1 dX5_dimension_116 rfl ?_
      refine j_iald dX5_dimension_117 (sub_k (sub_drop (blk' := blkDrawing) hs 1 rfl (rfl : th + 1 = (th + 1))) 4 rfl rfl) rfl ?_
      exact j_retI (h0 := h1) (r := 0) rfl rfl rfl dX5_dimension_118 rfl ⟨Nat.le_refl _, Nat.le_refl _⟩ rfl
    · refine j_aload_n 0 dX5_dimension_119 rfl ?_
      refine j_getR 0 1 0 dX5_dimension_120 zc_5 rfl (sub_k hs 0 rfl rfl) (by decide) lk_X5_10 rfl (by decide) (rfl : th + 1 = (th + 1)) ?_
      refine j_getR 4 5 4 dX5_dimension_123 zc_1 rfl (sub_k (sub_drop (blk' := blkDrawing) hs 1 rfl (rfl : th + 1 = (th + 1))) 0 rfl rfl) (by decide) lk_X5_143 rfl (by decide) (rfl : (th + 1) + 5 = (th + 6)) ?_
      refine j_iload_n 1 dX5_dimension_126 rfl ?_
      refine j_iald dX5_dimension_127 (sub_k (sub_drop (blk' := blkDrawing) hs 1 rfl (rfl : th + 1 = (th + 1))) 5 rfl rfl) rfl ?_
      exact j_retI (h0 := h1) (r := 0) rfl rfl rfl dX5_dimension_128 rfl ⟨Nat.le_refl _, Nat.le_refl _⟩ rfl
    · refine j_aload_n 0 dX5_dimension_129 rfl ?_
      refine j_getR 0 1 0 dX5_dimension_130 zc_5 rfl (sub_k hs 0 rfl rfl) (by decide) lk_X5_10 rfl (by decide) (rfl : th + 1 = (th + 1)) ?_
      refine j_getR 5 6 5 dX5_dimension_133 zc_1 rfl (sub_k (sub_drop (blk' := blkDrawing) hs 1 rfl (rfl : th + 1 = (th + 1))) 0 rfl rfl) (by decide) lk_X5_146 rfl (by decide) (rfl : (th + 1) + 6 = (th + 7)) ?_
      refine j_iload_n 1 dX5_dimension_136 rfl ?_
      refine j_iald dX5_dimension_137 (sub_k (sub_drop (blk' := blkDrawing) hs 1 rfl (rfl : th + 1 = (th + 1))) 6 rfl rfl) rfl ?_
      exact j_retI (h0 := h1) (r := 0) rfl rfl rfl dX5_dimension_138 rfl ⟨Nat.le_refl _, Nat.le_refl _⟩ rfl
    · refine j_aload_n 0 dX5_dimension_139 rfl ?_
      refine j_getR 0 1 0 dX5_dimension_140 zc_5 rfl (sub_k hs 0 rfl rfl) (by decide) lk_X5_10 rfl (by decide) (rfl : th + 1 = (th + 1)) ?_
      refine j_getR 6 7 6 dX5_dimension_143 zc_1 rfl (sub_k (sub_drop (blk' := blkDrawing) hs 1 rfl (rfl : th + 1 = (th + 1))) 0 rfl rfl) (by decide) lk_X5_149 rfl (by decide) (rfl : (th + 1) + 7 = (th + 8)) ?_
      refine j_iload_n 1 dX5_dimension_146 rfl ?_
      refine j_iald dX5_dimension_147 (sub_k (sub_drop (blk' := blkDrawing) hs 1 rfl (rfl : th + 1 = (th + 1))) 7 rfl rfl) rfl ?_
      exact j_retI (h0 := h1) (r := 0) rfl rfl rfl dX5_dimension_148 rfl ⟨Nat.le_refl _, Nat.le_refl _⟩ rfl
    · refine j_aload_n 0 dX5_dimension_149 rfl ?_
      refine j_cV (stk := []) [] th dX5_dimension_150 mv_dl_laidLanes lm_X5_158 (sub_k hs 0 rfl rfl) zc_5 (ct_dl_laidLanes hs h1) rfl rfl ⟨⟨Nat.le_of_ble_eq_true rfl, Nat.le_of_ble_eq_true rfl⟩, Nat.le_of_ble_eq_true rfl, Nat.le_of_ble_eq_true rfl⟩ (Nat.le_of_ble_eq_true rfl) rfl rfl (fun rr h3 he => ?_)
      obtain rfl := dl_laidLanes_ref he
      refine j_getR 0 1 0 dX5_dimension_153 zc_3 rfl (sub_k (sub_drop (blk' := blkLanes) hs 85 rfl (rfl : th + 85 = (th + 85))) 0 rfl rfl) (by decide) lk_X5_184 rfl (by decide) (rfl : (th + 85) + 1 = (th + 86)) ?_
      refine j_iload_n 1 dX5_dimension_156 rfl ?_
      refine j_iald dX5_dimension_157 (sub_k (sub_drop (blk' := blkLanes) hs 85 rfl (rfl : th + 85 = (th + 85))) 1 rfl rfl) rfl ?_
      exact j_retI (h0 := h3) (r := 0) rfl rfl rfl dX5_dimension_158 rfl ⟨Nat.le_refl _, Nat.le_refl _⟩ rfl
    · refine j_aload_n 0 dX5_dimension_159 rfl ?_
      refine j_cV (stk := []) [] th dX5_dimension_160 mv_dl_laidLanes lm_X5_158 (sub_k hs 0 rfl rfl) zc_5 (ct_dl_laidLanes hs h1) rfl rfl ⟨⟨Nat.le_of_ble_eq_true rfl, Nat.le_of_ble_eq_true rfl⟩, Nat.le_of_ble_eq_true rfl, Nat.le_of_ble_eq_true rfl⟩ (Nat.le_of_ble_eq_true rfl) rfl rfl (fun rr h4 he => ?_)
      obtain rfl := dl_laidLanes_ref he
      refine j_getR 1 2 1 dX5_dimension_163 zc_3 rfl (sub_k (sub_drop (blk' := blkLanes) hs 85 rfl (rfl : th + 85 = (th + 85))) 0 rfl rfl) (by decide) lk_X5_187 rfl (by decide) (rfl : (th + 85) + 2 = (th + 87)) ?_
      refine j_iload_n 1 dX5_dimension_166 rfl ?_
      refine j_iald dX5_dimension_167 (sub_k (sub_drop (blk' := blkLanes) hs 85 rfl (rfl : th + 85 = (th + 85))) 2 rfl rfl) rfl ?_
      exact j_retI (h0 := h4) (r := 0) rfl rfl rfl dX5_dimension_168 rfl ⟨Nat.le_refl _, Nat.le_refl _⟩ rfl
    · refine j_aload_n 0 dX5_dimension_169 rfl ?_
      refine j_cV (stk := []) [] th dX5_dimension_170 mv_dl_laidLanes lm_X5_158 (sub_k hs 0 rfl rfl) zc_5 (ct_dl_laidLanes hs h1) rfl rfl ⟨⟨Nat.le_of_ble_eq_true rfl, Nat.le_of_ble_eq_true rfl⟩, Nat.le_of_ble_eq_true rfl, Nat.le_of_ble_eq_true rfl⟩ (Nat.le_of_ble_eq_true rfl) rfl rfl (fun rr h5 he => ?_)
      obtain rfl := dl_laidLanes_ref he
      refine j_getR 2 3 2 dX5_dimension_173 zc_3 rfl (sub_k (sub_drop (blk' := blkLanes) hs 85 rfl (rfl : th + 85 = (th + 85))) 0 rfl rfl) (by decide) lk_X5_190 rfl (by decide) (rfl : (th + 85) + 3 = (th + 88)) ?_
      refine j_iload_n 1 dX5_dimension_176 rfl ?_
      refine j_iald dX5_dimension_177 (sub_k (sub_drop (blk' := blkLanes) hs 85 rfl (rfl : th + 85 = (th + 85))) 3 rfl rfl) rfl ?_
      exact j_retI (h0 := h5) (r := 0) rfl rfl rfl dX5_dimension_178 rfl ⟨Nat.le_refl _, Nat.le_refl _⟩ rfl
    · refine j_aload_n 0 dX5_dimension_179 rfl ?_
      refine j_cV (stk := []) [] th dX5_dimension_180 mv_dl_laidLanes lm_X5_158 (sub_k hs 0 rfl rfl) zc_5 (ct_dl_laidLanes hs h1) rfl rfl ⟨⟨Nat.le_of_ble_eq_true rfl, Nat.le_of_ble_eq_true rfl⟩, Nat.le_of_ble_eq_true rfl, Nat.le_of_ble_eq_true rfl⟩ (Nat.le_of_ble_eq_true rfl) rfl rfl (fun rr h6 he => ?_)
      obtain rfl := dl_laidLanes_ref he
      refine j_getR 3 4 3 dX5_dimension_183 zc_3 rfl (sub_k (sub_drop (blk' := blkLanes) hs 85 rfl (rfl : th + 85 = (th + 85))) 0 rfl rfl) (by decide) lk_X5_193 rfl (by decide) (rfl : (th + 85) + 4 = (th + 89)) ?_
      refine j_iload_n 1 dX5_dimension_186 rfl ?_
      refine j_iald dX5_dimension_187 (sub_k (sub_drop (blk' := blkLanes) hs 85 rfl (rfl : th + 85 = (th + 85))) 4 rfl rfl) rfl ?_
      exact j_retI (h0 := h6) (r := 0) rfl rfl rfl dX5_dimension_188 rfl ⟨Nat.le_refl _, Nat.le_refl _⟩ rfl
    · refine j_aload_n 0 dX5_dimension_189 rfl ?_
      refine j_cV (stk := []) [] th dX5_dimension_190 mv_dl_knownBounds lm_X5_168 (sub_k hs 0 rfl rfl) zc_5 (ct_dl_knownBounds hs h1) rfl rfl ⟨⟨Nat.le_of_ble_eq_true rfl, Nat.le_of_ble_eq_true rfl⟩, Nat.le_of_ble_eq_true rfl, Nat.le_of_ble_eq_true rfl⟩ (Nat.le_of_ble_eq_true rfl) rfl rfl (fun rr h7 he => ?_)
      obtain rfl := dl_knownBounds_ref he
      refine j_getR 2 15 2 dX5_dimension_193 zc_0 rfl (sub_k (sub_drop (blk' := blkBounds) hs 111 rfl (rfl : th + 111 = (th + 111))) 0 rfl rfl) (by decide) lk_X5_196 rfl (by decide) (rfl : (th + 111) + 15 = (th + 126)) ?_
      refine j_iload_n 1 dX5_dimension_196 rfl ?_
      refine j_zald dX5_dimension_197 (sub_k (sub_drop (blk' := blkBounds) hs 111 rfl (rfl : th + 111 = (th + 111))) 15 rfl rfl) rfl ?_
      refine j_if_eq (tgt := 205) dX5_dimension_198 (by decide) ?_ ?_
      · refine j_iconst (x := 0) dX5_dimension_205 rfl (by decide) ?_
        refine j_sub [] rfl ?_
        exact jb_dl_dimension_206 hs _ _
      · refine j_iconst (x := 1) dX5_dimension_201 rfl (by decide) ?_
        refine j_goto (tgt := 206) dX5_dimension_202 (by decide) ?_
        refine j_sub [] rfl ?_
        exact jb_dl_dimension_206 hs _ _
    · refine j_aload_n 0 dX5_dimension_207 rfl ?_
      refine j_cV (stk := []) [] th dX5_dimension_208 mv_dl_laidLanes lm_X5_158 (sub_k hs 0 rfl rfl) zc_5 (ct_dl_laidLanes hs h1) rfl rfl ⟨⟨Nat.le_of_ble_eq_true rfl, Nat.le_of_ble_eq_true rfl⟩, Nat.le_of_ble_eq_true rfl, Nat.le_of_ble_eq_true rfl⟩ (Nat.le_of_ble_eq_true rfl) rfl rfl (fun rr h8 he => ?_)
      obtain rfl := dl_laidLanes_ref he
      refine j_getR 4 5 4 dX5_dimension_211 zc_3 rfl (sub_k (sub_drop (blk' := blkLanes) hs 85 rfl (rfl : th + 85 = (th + 85))) 0 rfl rfl) (by decide) lk_X5_200 rfl (by decide) (rfl : (th + 85) + 5 = (th + 90)) ?_
      refine j_iload_n 1 dX5_dimension_214 rfl ?_
      refine j_iald dX5_dimension_215 (sub_k (sub_drop (blk' := blkLanes) hs 85 rfl (rfl : th + 85 = (th + 85))) 5 rfl rfl) rfl ?_
      exact j_retI (h0 := h8) (r := 0) rfl rfl rfl dX5_dimension_216 rfl ⟨Nat.le_refl _, Nat.le_refl _⟩ rfl
    · refine j_iconst (x := (-1)) dX5_dimension_217 rfl (by decide) ?_
      exact j_retI (h0 := h1) (r := 0) rfl rfl rfl dX5_dimension_218 rfl ⟨Nat.le_refl _, Nat.le_refl _⟩ rfl

set_option maxRecDepth 100000 in
set_option maxHeartbeats 4000000 in
theorem jb_dl_distance_57 {lay : List LK} {th : Nat} {p1 : Int} {p2 : Int} {p3 : Int}  (hs : sub lay th blkLines)  (s0 : Int) (h : Hp) : J mi_dl_distance encI (Same lay) lay 0 0 57 [] [vi s0] h (dl_distance_b57 th p1 p2 p3 s0 h) := by
  unfold dl_distance_b57
  exact j_retI (h0 := h) (r := 0) rfl rfl rfl dX5_distance_57 rfl ⟨Nat.le_refl _, Nat.le_refl _⟩ rfl

set_option maxRecDepth 100000 in
set_option maxHeartbeats 4000000 in
theorem ct_dl_distance {lay : List LK} {th : Nat} {p1 : Int} {p2 : Int} {p3 : Int} (hs : sub lay th blkLines) (h : Hp) : CT mi_dl_distance encI (Same lay) lay [vr th, vi p1, vi p2, vi p3] h (dl_distance th p1 p2 p3 h) := by
  refine CT.of (by decide) rfl (Nat.le_of_ble_eq_true rfl) ?_
  show J mi_dl_distance encI (Same lay) lay 0 0 0 [(0, vr th), (1, vi p1), (2, vi p2), (3, vi p3)] [] h _
  unfold dl_distance
  refine j_aload_n 0 dX5_distance_0 rfl ?_
  refine j_iload_n 1 dX5_distance_1 rfl ?_
  refine j_iload_n 2 dX5_distance_2 rfl ?_
  refine j_cV (stk := []) [vi p1, vi p2] th dX5_distance_3 mv_dl_areTwoPoints lm_X5_120 (sub_k hs 0 rfl rfl) zc_5 (ct_dl_areTwoPoints hs h) rfl rfl ⟨⟨Nat.le_of_ble_eq_true rfl, Nat.le_of_ble_eq_true rfl⟩, Nat.le_of_ble_eq_true rfl, Nat.le_of_ble_eq_true rfl⟩ (Nat.le_of_ble_eq_true rfl) rfl rfl (fun r1 h1 _ => ?_)
  refine j_if_ne (tgt := 11) dX5_distance_6 (by decide) ?_ ?_
  · refine j_iconst (x := (-1)) dX5_distance_9 rfl (by decide) ?_
    exact j_retI (h0 := h1) (r := 0) rfl rfl rfl dX5_distance_10 rfl ⟨Nat.le_refl _, Nat.le_refl _⟩ rfl
  · refine j_aload_n 0 dX5_distance_11 rfl ?_
    refine j_cV (stk := []) [] th dX5_distance_12 mv_dl_knownBounds lm_X5_168 (sub_k hs 0 rfl rfl) zc_5 (ct_dl_knownBounds hs h1) rfl rfl ⟨⟨Nat.le_of_ble_eq_true rfl, Nat.le_of_ble_eq_true rfl⟩, Nat.le_of_ble_eq_true rfl, Nat.le_of_ble_eq_true rfl⟩ (Nat.le_of_ble_eq_true rfl) rfl rfl (fun rr h2 he => ?_)
    obtain rfl := dl_knownBounds_ref he
    refine j_astore (lv' := [(4, vr (th + 111)), (0, vr th), (1, vi p1), (2, vi p2), (3, vi p3)]) dX5_distance_15 (by decide) rfl ?_
    refine j_aload 0 dX5_distance_17 rfl ?_
    refine j_iload_n 2 dX5_distance_19 rfl ?_
    refine j_iload_n 3 dX5_distance_20 rfl ?_
    refine j_cV (stk := []) [vi p1, vi p2] (th + 111) dX5_distance_21 mv_bo_areBound lm_X5_203 (sub_k (sub_drop (blk' := blkBounds) hs 111 rfl (rfl : th + 111 = (th + 111))) 0 rfl rfl) zc_0 (ct_bo_areBound (sub_drop (blk' := blkBounds) hs 111 rfl (rfl : th + 111 = (th + 111))) h2) rfl rfl ⟨⟨Nat.le_of_ble_eq_true rfl, Nat.le_of_ble_eq_true rfl⟩, Nat.le_of_ble_eq_true rfl, Nat.le_of_ble_eq_true rfl⟩ (Nat.le_of_ble_eq_true rfl) rfl rfl (fun r3 h3 _ => ?_)
    refine j_if_ne (tgt := 31) dX5_distance_24 (by decide) ?_ ?_
    · refine j_sipush (x := (-999)) dX5_distance_27 (by decide) (by decide) ?_
      exact j_retI (h0 := h3) (r := 0) rfl rfl rfl dX5_distance_30 rfl ⟨Nat.le_refl _, Nat.le_refl _⟩ rfl
    · refine j_iload_n 4 dX5_distance_31 rfl ?_
      refine j_if_eq (tgt := 47) dX5_distance_32 (by decide) ?_ ?_
      · refine j_aload 0 dX5_distance_47 rfl ?_
        refine j_getR 0 1 0 dX5_distance_49 zc_0 rfl (sub_k (sub_drop (blk' := blkBounds) hs 111 rfl (rfl : th + 111 = (th + 111))) 0 rfl rfl) (by decide) lk_X5_206 rfl (by decide) (rfl : (th + 111) + 1 = (th + 112)) ?_
        refine j_iload_n 3 dX5_distance_52 rfl ?_
        refine j_aaldI dX5_distance_53 (sub_k (sub_drop (blk' := blkBounds) hs 111 rfl (rfl : th + 111 = (th + 111))) 1 rfl rfl) rfl (a' := ((th + 111) + 2 + p2.toNat)) rfl (fun hi4 hj4 => ?_)
        refine j_iload_n 2 dX5_distance_54 rfl ?_
        refine j_iald dX5_distance_55 (sub_row (sub_drop (blk' := blkBounds) hs 111 rfl (rfl : th + 111 = (th + 111))) hi4 hj4 (a' := ((th + 111) + 2 + p2.toNat)) rfl) rfl ?_
        refine j_ineg dX5_distance_56 ?_
        refine j_sub [] rfl ?_
        exact jb_dl_distance_57 hs _ _
      · refine j_aload 0 dX5_distance_35 rfl ?_
        refine j_getR 0 1 0 dX5_distance_37 zc_0 rfl (sub_k (sub_drop (blk' := blkBounds) hs 111 rfl (rfl : th + 111 = (th + 111))) 0 rfl rfl) (by decide) lk_X5_206 rfl (by decide) (rfl : (th + 111) + 1 = (th + 112)) ?_
        refine j_iload_n 2 dX5_distance_40 rfl ?_
        refine j_aaldI dX5_distance_41 (sub_k (sub_drop (blk' := blkBounds) hs 111 rfl (rfl : th + 111 = (th + 111))) 1 rfl rfl) rfl (a' := ((th + 111) + 2 + p1.toNat)) rfl (fun hi5 hj5 => ?_)
        refine j_iload_n 3 dX5_distance_42 rfl ?_
        refine j_iald dX5_distance_43 (sub_row (sub_drop (blk' := blkBounds) hs 111 rfl (rfl : th + 111 = (th + 111))) hi5 hj5 (a' := ((th + 111) + 2 + p1.toNat)) rfl) rfl ?_
        refine j_goto (tgt := 57) dX5_distance_44 (by decide) ?_
        refine j_sub [] rfl ?_
        exact jb_dl_distance_57 hs _ _

set_option maxRecDepth 100000 in
set_option maxHeartbeats 4000000 in
theorem jb_dl_ifExact_56 {lay : List LK} {th : Nat} {p1 : Int} {p2 : Int} {p3 : Int}  (hs : sub lay th blkLines)  (s0 : Int) (h : Hp) : J mi_dl_ifExact encI (Same lay) lay 0 0 56 [] [vi s0] h (dl_ifExact_b56 th p1 p2 p3 s0 h) := by
  unfold dl_ifExact_b56
  exact j_retI (h0 := h) (r := 0) rfl rfl rfl dX5_ifExact_56 rfl ⟨Nat.le_refl _, Nat.le_refl _⟩ rfl

set_option maxRecDepth 100000 in
set_option maxHeartbeats 4000000 in
theorem jb_dl_ifExact_20 {lay : List LK} {th : Nat} {p1 : Int} {p2 : Int} {p3 : Int}  (hs : sub lay th blkLines)  (h : Hp) : J mi_dl_ifExact encI (Same lay) lay 0 0 20 [] [] h (dl_ifExact_b20 th p1 p2 p3 h) := by
  unfold dl_ifExact_b20
  refine j_iconst (x := (-1)) dX5_ifExact_20 rfl (by decide) ?_
  exact j_retI (h0 := h) (r := 0) rfl rfl rfl dX5_ifExact_21 rfl ⟨Nat.le_refl _, Nat.le_refl _⟩ rfl

set_option maxRecDepth 100000 in
set_option maxHeartbeats 4000000 in
theorem ct_dl_ifExact {lay : List LK} {th : Nat} {p1 : Int} {p2 : Int} {p3 : Int} (hs : sub lay th blkLines) (h : Hp) : CT mi_dl_ifExact encI (Same lay) lay [vr th, vi p1, vi p2, vi p3] h (dl_ifExact th p1 p2 p3 h) := by
  refine CT.of (by decide) rfl (Nat.le_of_ble_eq_true rfl) ?_
  show J mi_dl_ifExact encI (Same lay) lay 0 0 0 [(0, vr th), (1, vi p1), (2, vi p2), (3, vi p3)] [] h _
  unfold dl_ifExact
  refine j_aload_n 0 dX5_ifExact_0 rfl ?_
  refine j_getR 0 1 0 dX5_ifExact_1 zc_5 rfl (sub_k hs 0 rfl rfl) (by decide) lk_X5_10 rfl (by decide) (rfl : th + 1 = (th + 1)) ?_
  refine j_iload_n 1 dX5_ifExact_4 rfl ?_
  refine j_cV (stk := []) [vi p1] (th + 1) dX5_ifExact_5 mv_dr_hasDimension lm_X5_134 (sub_k (sub_drop (blk' := blkDrawing) hs 1 rfl (rfl : th + 1 = (th + 1))) 0 rfl rfl) zc_1 (ct_dr_hasDimension (sub_drop (blk' := blkDrawing) hs 1 rfl (rfl : th + 1 = (th + 1))) h) rfl rfl ⟨⟨Nat.le_of_ble_eq_true rfl, Nat.le_of_ble_eq_true rfl⟩, Nat.le_of_ble_eq_true rfl, Nat.le_of_ble_eq_true rfl⟩ (Nat.le_of_ble_eq_true rfl) rfl rfl (fun r1 h1 _ => ?_)
  refine j_if_eq (tgt := 20) dX5_ifExact_8 (by decide) ?_ ?_
  · refine j_sub [] rfl ?_
    exact jb_dl_ifExact_20 hs _
  · refine j_aload_n 0 dX5_ifExact_11 rfl ?_
    refine j_iload_n 2 dX5_ifExact_12 rfl ?_
    refine j_iload_n 3 dX5_ifExact_13 rfl ?_
    refine j_cV (stk := []) [vi p2, vi p3] th dX5_ifExact_14 mv_dl_areTwoPoints lm_X5_120 (sub_k hs 0 rfl rfl) zc_5 (ct_dl_areTwoPoints hs h1) rfl rfl ⟨⟨Nat.le_of_ble_eq_true rfl, Nat.le_of_ble_eq_true rfl⟩, Nat.le_of_ble_eq_true rfl, Nat.le_of_ble_eq_true rfl⟩ (Nat.le_of_ble_eq_true rfl) rfl rfl (fun r2 h2 _ => ?_)
    refine j_if_ne (tgt := 22) dX5_ifExact_17 (by decide) ?_ ?_
    · refine j_sub [] rfl ?_
      exact jb_dl_ifExact_20 hs _
    · refine j_aload_n 0 dX5_ifExact_22 rfl ?_
      refine j_cV (stk := []) [] th dX5_ifExact_23 mv_dl_knownBounds lm_X5_168 (sub_k hs 0 rfl rfl) zc_5 (ct_dl_knownBounds hs h2) rfl rfl ⟨⟨Nat.le_of_ble_eq_true rfl, Nat.le_of_ble_eq_true rfl⟩, Nat.le_of_ble_eq_true rfl, Nat.le_of_ble_eq_true rfl⟩ (Nat.le_of_ble_eq_true rfl) rfl rfl (fun rr h3 he => ?_)
      obtain rfl := dl_knownBounds_ref he
      refine j_astore (lv' := [(4, vr (th + 111)), (0, vr th), (1, vi p1), (2, vi p2), (3, vi p3)]) dX5_ifExact_26 (by decide) rfl ?_
      refine j_aload 0 dX5_ifExact_28 rfl ?_
      refine j_iload_n 3 dX5_ifExact_30 rfl ?_
      refine j_iload_n 4 dX5_ifExact_31 rfl ?_
      refine j_cV (stk := []) [vi p2, vi p3] (th + 111) dX5_ifExact_32 mv_bo_areBound lm_X5_203 (sub_k (sub_drop (blk' := blkBounds) hs 111 rfl (rfl : th + 111 = (th + 111))) 0 rfl rfl) zc_0 (ct_bo_areBound (sub_drop (blk' := blkBounds) hs 111 rfl (rfl : th + 111 = (th + 111))) h3) rfl rfl ⟨⟨Nat.le_of_ble_eq_true rfl, Nat.le_of_ble_eq_true rfl⟩, Nat.le_of_ble_eq_true rfl, Nat.le_of_ble_eq_true rfl⟩ (Nat.le_of_ble_eq_true rfl) rfl rfl (fun r4 h4 _ => ?_)
      refine j_if_eq (tgt := 53) dX5_ifExact_35 (by decide) ?_ ?_
      · refine j_sipush (x := (-999)) dX5_ifExact_53 (by decide) (by decide) ?_
        refine j_sub [] rfl ?_
        exact jb_dl_ifExact_56 hs _ _
      · refine j_aload 0 dX5_ifExact_38 rfl ?_
        refine j_aload_n 1 dX5_ifExact_40 rfl ?_
        refine j_getR 0 1 0 dX5_ifExact_41 zc_5 rfl (sub_k hs 0 rfl rfl) (by decide) lk_X5_10 rfl (by decide) (rfl : th + 1 = (th + 1)) ?_
        refine j_iload_n 2 dX5_ifExact_44 rfl ?_
        refine j_iload_n 3 dX5_ifExact_45 rfl ?_
        refine j_iload_n 4 dX5_ifExact_46 rfl ?_
        refine j_cV (stk := []) [vr (th + 1), vi p1, vi p2, vi p3] (th + 111) dX5_ifExact_47 mv_bo_gain lm_X5_210 (sub_k (sub_drop (blk' := blkBounds) hs 111 rfl (rfl : th + 111 = (th + 111))) 0 rfl rfl) zc_0 (ct_bo_gain (sub_drop (blk' := blkBounds) hs 111 rfl (rfl : th + 111 = (th + 111))) (sub_drop (blk' := blkDrawing) hs 1 rfl (rfl : th + 1 = (th + 1))) h4) rfl rfl ⟨⟨Nat.le_of_ble_eq_true rfl, Nat.le_of_ble_eq_true rfl⟩, Nat.le_of_ble_eq_true rfl, Nat.le_of_ble_eq_true rfl⟩ (Nat.le_of_ble_eq_true rfl) rfl rfl (fun r5 h5 _ => ?_)
        refine j_goto (tgt := 56) dX5_ifExact_50 (by decide) ?_
        refine j_sub [] rfl ?_
        exact jb_dl_ifExact_56 hs _ _

set_option maxRecDepth 100000 in
set_option maxHeartbeats 4000000 in
theorem jb_dl_critical_41 {lay : List LK} {th : Nat} {p1 : Int} {p2 : Int}  (hs : sub lay th blkLines)  (s0 : Int) (h : Hp) : J mi_dl_critical encI (Same lay) lay 0 0 41 [] [vi s0] h (dl_critical_b41 th p1 p2 s0 h) := by
  unfold dl_critical_b41
  exact j_retI (h0 := h) (r := 0) rfl rfl rfl dX5_critical_41 rfl ⟨Nat.le_refl _, Nat.le_refl _⟩ rfl

set_option maxRecDepth 100000 in
set_option maxHeartbeats 4000000 in
theorem ct_dl_critical {lay : List LK} {th : Nat} {p1 : Int} {p2 : Int} (hs : sub lay th blkLines) (h : Hp) : CT mi_dl_critical encI (Same lay) lay [vr th, vi p1, vi p2] h (dl_critical th p1 p2 h) := by
  refine CT.of (by decide) rfl (Nat.le_of_ble_eq_true rfl) ?_
  show J mi_dl_critical encI (Same lay) lay 0 0 0 [(0, vr th), (1, vi p1), (2, vi p2)] [] h _
  unfold dl_critical
  refine j_aload_n 0 dX5_critical_0 rfl ?_
  refine j_iload_n 1 dX5_critical_1 rfl ?_
  refine j_iload_n 2 dX5_critical_2 rfl ?_
  refine j_cV (stk := []) [vi p1, vi p2] th dX5_critical_3 mv_dl_areTwoPoints lm_X5_120 (sub_k hs 0 rfl rfl) zc_5 (ct_dl_areTwoPoints hs h) rfl rfl ⟨⟨Nat.le_of_ble_eq_true rfl, Nat.le_of_ble_eq_true rfl⟩, Nat.le_of_ble_eq_true rfl, Nat.le_of_ble_eq_true rfl⟩ (Nat.le_of_ble_eq_true rfl) rfl rfl (fun r1 h1 _ => ?_)
  refine j_if_ne (tgt := 11) dX5_critical_6 (by decide) ?_ ?_
  · refine j_iconst (x := (-1)) dX5_critical_9 rfl (by decide) ?_
    exact j_retI (h0 := h1) (r := 0) rfl rfl rfl dX5_critical_10 rfl ⟨Nat.le_refl _, Nat.le_refl _⟩ rfl
  · refine j_aload_n 0 dX5_critical_11 rfl ?_
    refine j_cV (stk := []) [] th dX5_critical_12 mv_dl_knownBounds lm_X5_168 (sub_k hs 0 rfl rfl) zc_5 (ct_dl_knownBounds hs h1) rfl rfl ⟨⟨Nat.le_of_ble_eq_true rfl, Nat.le_of_ble_eq_true rfl⟩, Nat.le_of_ble_eq_true rfl, Nat.le_of_ble_eq_true rfl⟩ (Nat.le_of_ble_eq_true rfl) rfl rfl (fun rr h2 he => ?_)
    obtain rfl := dl_knownBounds_ref he
    refine j_astore_n (lv' := [(3, vr (th + 111)), (0, vr th), (1, vi p1), (2, vi p2)]) dX5_critical_15 (by decide) rfl ?_
    refine j_aload_n 0 dX5_critical_16 rfl ?_
    refine j_iload_n 2 dX5_critical_17 rfl ?_
    refine j_iload_n 3 dX5_critical_18 rfl ?_
    refine j_cV (stk := []) [vi p1, vi p2] (th + 111) dX5_critical_19 mv_bo_areBound lm_X5_203 (sub_k (sub_drop (blk' := blkBounds) hs 111 rfl (rfl : th + 111 = (th + 111))) 0 rfl rfl) zc_0 (ct_bo_areBound (sub_drop (blk' := blkBounds) hs 111 rfl (rfl : th + 111 = (th + 111))) h2) rfl rfl ⟨⟨Nat.le_of_ble_eq_true rfl, Nat.le_of_ble_eq_true rfl⟩, Nat.le_of_ble_eq_true rfl, Nat.le_of_ble_eq_true rfl⟩ (Nat.le_of_ble_eq_true rfl) rfl rfl (fun r3 h3 _ => ?_)
    refine j_if_eq (tgt := 38) dX5_critical_22 (by decide) ?_ ?_
    · refine j_sipush (x := (-999)) dX5_critical_38 (by decide) (by decide) ?_
      refine j_sub [] rfl ?_
      exact jb_dl_critical_41 hs _ _
    · refine j_aload_n 0 dX5_critical_25 rfl ?_
      refine j_aload_n 1 dX5_critical_26 rfl ?_
      refine j_getR 0 1 0 dX5_critical_27 zc_5 rfl (sub_k hs 0 rfl rfl) (by decide) lk_X5_10 rfl (by decide) (rfl : th + 1 = (th + 1)) ?_
      refine j_iload_n 2 dX5_critical_30 rfl ?_
      refine j_iload_n 3 dX5_critical_31 rfl ?_
      refine j_cV (stk := []) [vr (th + 1), vi p1, vi p2] (th + 111) dX5_critical_32 mv_bo_bestToMakeExact lm_X5_214 (sub_k (sub_drop (blk' := blkBounds) hs 111 rfl (rfl : th + 111 = (th + 111))) 0 rfl rfl) zc_0 (ct_bo_bestToMakeExact (sub_drop (blk' := blkBounds) hs 111 rfl (rfl : th + 111 = (th + 111))) (sub_drop (blk' := blkDrawing) hs 1 rfl (rfl : th + 1 = (th + 1))) h3) rfl rfl ⟨⟨Nat.le_of_ble_eq_true rfl, Nat.le_of_ble_eq_true rfl⟩, Nat.le_of_ble_eq_true rfl, Nat.le_of_ble_eq_true rfl⟩ (Nat.le_of_ble_eq_true rfl) rfl rfl (fun r4 h4 _ => ?_)
      refine j_goto (tgt := 41) dX5_critical_35 (by decide) ?_
      refine j_sub [] rfl ?_
      exact jb_dl_critical_41 hs _ _

set_option maxRecDepth 100000 in
set_option maxHeartbeats 4000000 in
theorem ct_dl_needed {lay : List LK} {th : Nat} (hs : sub lay th blkLines) (h : Hp) : CT mi_dl_needed encI (Same lay) lay [vr th] h (dl_needed th h) := by
  refine CT.of (by decide) rfl (Nat.le_of_ble_eq_true rfl) ?_
  show J mi_dl_needed encI (Same lay) lay 0 0 0 [(0, vr th)] [] h _
  unfold dl_needed
  refine j_aload_n 0 dX5_needed_0 rfl ?_
  refine j_cV (stk := []) [] th dX5_needed_1 mv_dl_knownBounds lm_X5_168 (sub_k hs 0 rfl rfl) zc_5 (ct_dl_knownBounds hs h) rfl rfl ⟨⟨Nat.le_of_ble_eq_true rfl, Nat.le_of_ble_eq_true rfl⟩, Nat.le_of_ble_eq_true rfl, Nat.le_of_ble_eq_true rfl⟩ (Nat.le_of_ble_eq_true rfl) rfl rfl (fun rr h1 he => ?_)
  obtain rfl := dl_knownBounds_ref he
  refine j_cV (stk := []) [] (th + 111) dX5_needed_4 mv_bo_countLeft lm_X5_218 (sub_k (sub_drop (blk' := blkBounds) hs 111 rfl (rfl : th + 111 = (th + 111))) 0 rfl rfl) zc_0 (ct_bo_countLeft (sub_drop (blk' := blkBounds) hs 111 rfl (rfl : th + 111 = (th + 111))) h1) rfl rfl ⟨⟨Nat.le_of_ble_eq_true rfl, Nat.le_of_ble_eq_true rfl⟩, Nat.le_of_ble_eq_true rfl, Nat.le_of_ble_eq_true rfl⟩ (Nat.le_of_ble_eq_true rfl) rfl rfl (fun r2 h2 _ => ?_)
  exact j_retI (h0 := h2) (r := 0) rfl rfl rfl dX5_needed_7 rfl ⟨Nat.le_refl _, Nat.le_refl _⟩ rfl

set_option maxRecDepth 100000 in
set_option maxHeartbeats 4000000 in
theorem ct_dl_count {lay : List LK} {th : Nat} {p1 : Int} (hs : sub lay th blkLines) (h : Hp) : CT mi_dl_count encI (Same lay) lay [vr th, vi p1] h (dl_count th p1 h) := by
  refine CT.of (by decide) rfl (Nat.le_of_ble_eq_true rfl) ?_
  show J mi_dl_count encI (Same lay) lay 0 0 0 [(0, vr th), (1, vi p1)] [] h _
  unfold dl_count
  refine j_iload_n 1 dX5_count_0 rfl ?_
  refine j_table [60, 68, 76, 84, 92, 100, 108, 116, 124, 132, 140] 148 dX5_count_1 rfl (by decide) (by decide) ⟨?_, ?_, ?_, ?_, ?_, ?_, ?_, ?_, ?_, ?_, ?_, trivial⟩ ?_
  · refine j_aload_n 0 dX5_count_60 rfl ?_
    refine j_getR 0 1 0 dX5_count_61 zc_5 rfl (sub_k hs 0 rfl rfl) (by decide) lk_X5_10 rfl (by decide) (rfl : th + 1 = (th + 1)) ?_
    refine j_getI 7 7 dX5_count_64 zc_1 rfl (sub_k (sub_drop (blk' := blkDrawing) hs 1 rfl (rfl : th + 1 = (th + 1))) 0 rfl rfl) (by decide) lk_X5_96 rfl rfl ?_
    exact j_retI (h0 := h) (r := 0) rfl rfl rfl dX5_count_67 rfl ⟨Nat.le_refl _, Nat.le_refl _⟩ rfl
  · refine j_aload_n 0 dX5_count_68 rfl ?_
    refine j_getR 0 1 0 dX5_count_69 zc_5 rfl (sub_k hs 0 rfl rfl) (by decide) lk_X5_10 rfl (by decide) (rfl : th + 1 = (th + 1)) ?_
    refine j_getI 8 8 dX5_count_72 zc_1 rfl (sub_k (sub_drop (blk' := blkDrawing) hs 1 rfl (rfl : th + 1 = (th + 1))) 0 rfl rfl) (by decide) lk_X5_89 rfl rfl ?_
    exact j_retI (h0 := h) (r := 0) rfl rfl rfl dX5_count_75 rfl ⟨Nat.le_refl _, Nat.le_refl _⟩ rfl
  · refine j_aload_n 0 dX5_count_76 rfl ?_
    refine j_cV (stk := []) [] th dX5_count_77 mv_dl_laidLanes lm_X5_158 (sub_k hs 0 rfl rfl) zc_5 (ct_dl_laidLanes hs h) rfl rfl ⟨⟨Nat.le_of_ble_eq_true rfl, Nat.le_of_ble_eq_true rfl⟩, Nat.le_of_ble_eq_true rfl, Nat.le_of_ble_eq_true rfl⟩ (Nat.le_of_ble_eq_true rfl) rfl rfl (fun rr h1 he => ?_)
    obtain rfl := dl_laidLanes_ref he
    refine j_getI 6 6 dX5_count_80 zc_3 rfl (sub_k (sub_drop (blk' := blkLanes) hs 85 rfl (rfl : th + 85 = (th + 85))) 0 rfl rfl) (by decide) lk_X5_263 rfl rfl ?_
    exact j_retI (h0 := h1) (r := 0) rfl rfl rfl dX5_count_83 rfl ⟨Nat.le_refl _, Nat.le_refl _⟩ rfl
  · refine j_aload_n 0 dX5_count_84 rfl ?_
    refine j_cV (stk := []) [] th dX5_count_85 mv_dl_laidLanes lm_X5_158 (sub_k hs 0 rfl rfl) zc_5 (ct_dl_laidLanes hs h) rfl rfl ⟨⟨Nat.le_of_ble_eq_true rfl, Nat.le_of_ble_eq_true rfl⟩, Nat.le_of_ble_eq_true rfl, Nat.le_of_ble_eq_true rfl⟩ (Nat.le_of_ble_eq_true rfl) rfl rfl (fun rr h2 he => ?_)
    obtain rfl := dl_laidLanes_ref he
    refine j_getI 7 7 dX5_count_88 zc_3 rfl (sub_k (sub_drop (blk' := blkLanes) hs 85 rfl (rfl : th + 85 = (th + 85))) 0 rfl rfl) (by decide) lk_X5_251 rfl rfl ?_
    exact j_retI (h0 := h2) (r := 0) rfl rfl rfl dX5_count_91 rfl ⟨Nat.le_refl _, Nat.le_refl _⟩ rfl
  · refine j_aload_n 0 dX5_count_92 rfl ?_
    refine j_cV (stk := []) [] th dX5_count_93 mv_dl_laidLanes lm_X5_158 (sub_k hs 0 rfl rfl) zc_5 (ct_dl_laidLanes hs h) rfl rfl ⟨⟨Nat.le_of_ble_eq_true rfl, Nat.le_of_ble_eq_true rfl⟩, Nat.le_of_ble_eq_true rfl, Nat.le_of_ble_eq_true rfl⟩ (Nat.le_of_ble_eq_true rfl) rfl rfl (fun rr h3 he => ?_)
    obtain rfl := dl_laidLanes_ref he
    refine j_getI 8 8 dX5_count_96 zc_3 rfl (sub_k (sub_drop (blk' := blkLanes) hs 85 rfl (rfl : th + 85 = (th + 85))) 0 rfl rfl) (by decide) lk_X5_266 rfl rfl ?_
    exact j_retI (h0 := h3) (r := 0) rfl rfl rfl dX5_count_99 rfl ⟨Nat.le_refl _, Nat.le_refl _⟩ rfl
  · refine j_aload_n 0 dX5_count_100 rfl ?_
    refine j_cV (stk := []) [] th dX5_count_101 mv_dl_knownBounds lm_X5_168 (sub_k hs 0 rfl rfl) zc_5 (ct_dl_knownBounds hs h) rfl rfl ⟨⟨Nat.le_of_ble_eq_true rfl, Nat.le_of_ble_eq_true rfl⟩, Nat.le_of_ble_eq_true rfl, Nat.le_of_ble_eq_true rfl⟩ (Nat.le_of_ble_eq_true rfl) rfl rfl (fun rr h4 he => ?_)
    obtain rfl := dl_knownBounds_ref he
    refine j_getI 3 3 dX5_count_104 zc_0 rfl (sub_k (sub_drop (blk' := blkBounds) hs 111 rfl (rfl : th + 111 = (th + 111))) 0 rfl rfl) (by decide) lk_X5_269 rfl rfl ?_
    exact j_retI (h0 := h4) (r := 0) rfl rfl rfl dX5_count_107 rfl ⟨Nat.le_refl _, Nat.le_refl _⟩ rfl
  · refine j_aload_n 0 dX5_count_108 rfl ?_
    refine j_cV (stk := []) [] th dX5_count_109 mv_dl_knownBounds lm_X5_168 (sub_k hs 0 rfl rfl) zc_5 (ct_dl_knownBounds hs h) rfl rfl ⟨⟨Nat.le_of_ble_eq_true rfl, Nat.le_of_ble_eq_true rfl⟩, Nat.le_of_ble_eq_true rfl, Nat.le_of_ble_eq_true rfl⟩ (Nat.le_of_ble_eq_true rfl) rfl rfl (fun rr h5 he => ?_)
    obtain rfl := dl_knownBounds_ref he
    refine j_getI 4 4 dX5_count_112 zc_0 rfl (sub_k (sub_drop (blk' := blkBounds) hs 111 rfl (rfl : th + 111 = (th + 111))) 0 rfl rfl) (by decide) lk_X5_272 rfl rfl ?_
    exact j_retI (h0 := h5) (r := 0) rfl rfl rfl dX5_count_115 rfl ⟨Nat.le_refl _, Nat.le_refl _⟩ rfl
  · refine j_aload_n 0 dX5_count_116 rfl ?_
    refine j_getR 0 1 0 dX5_count_117 zc_5 rfl (sub_k hs 0 rfl rfl) (by decide) lk_X5_10 rfl (by decide) (rfl : th + 1 = (th + 1)) ?_
    refine j_getI 9 9 dX5_count_120 zc_1 rfl (sub_k (sub_drop (blk' := blkDrawing) hs 1 rfl (rfl : th + 1 = (th + 1))) 0 rfl rfl) (by decide) lk_X5_152 rfl rfl ?_
    exact j_retI (h0 := h) (r := 0) rfl rfl rfl dX5_count_123 rfl ⟨Nat.le_refl _, Nat.le_refl _⟩ rfl
  · refine j_aload_n 0 dX5_count_124 rfl ?_
    refine j_getR 0 1 0 dX5_count_125 zc_5 rfl (sub_k hs 0 rfl rfl) (by decide) lk_X5_10 rfl (by decide) (rfl : th + 1 = (th + 1)) ?_
    refine j_getI 10 10 dX5_count_128 zc_1 rfl (sub_k (sub_drop (blk' := blkDrawing) hs 1 rfl (rfl : th + 1 = (th + 1))) 0 rfl rfl) (by decide) lk_X5_155 rfl rfl ?_
    exact j_retI (h0 := h) (r := 0) rfl rfl rfl dX5_count_131 rfl ⟨Nat.le_refl _, Nat.le_refl _⟩ rfl
  · refine j_aload_n 0 dX5_count_132 rfl ?_
    refine j_getR 2 75 2 dX5_count_133 zc_5 rfl (sub_k hs 0 rfl rfl) (by decide) lk_X5_26 rfl (by decide) (rfl : th + 75 = (th + 75)) ?_
    refine j_getI 2 2 dX5_count_136 zc_4 rfl (sub_k (sub_drop (blk' := blkReader) hs 75 rfl (rfl : th + 75 = (th + 75))) 0 rfl rfl) (by decide) lk_X5_58 rfl rfl ?_
    exact j_retI (h0 := h) (r := 0) rfl rfl rfl dX5_count_139 rfl ⟨Nat.le_refl _, Nat.le_refl _⟩ rfl
  · refine j_aload_n 0 dX5_count_140 rfl ?_
    refine j_getR 1 9 1 dX5_count_141 zc_5 rfl (sub_k hs 0 rfl rfl) (by decide) lk_X5_19 rfl (by decide) (rfl : th + 9 = (th + 9)) ?_
    refine j_getI 2 2 dX5_count_144 zc_2 rfl (sub_k (sub_drop (blk' := blkHistory) hs 9 rfl (rfl : th + 9 = (th + 9))) 0 rfl rfl) (by decide) lk_X5_254 rfl rfl ?_
    exact j_retI (h0 := h) (r := 0) rfl rfl rfl dX5_count_147 rfl ⟨Nat.le_refl _, Nat.le_refl _⟩ rfl
  · refine j_iconst (x := (-1)) dX5_count_148 rfl (by decide) ?_
    exact j_retI (h0 := h) (r := 0) rfl rfl rfl dX5_count_149 rfl ⟨Nat.le_refl _, Nat.le_refl _⟩ rfl


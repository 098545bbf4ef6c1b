set_option maxRecDepth 100000 in
set_option maxHeartbeats 4000000 in
theorem jb_mo_in_15 {lay : List LK} {p0 : Int} {p1 : Int} {p2 : Int}    (s0 : Int) (h : Hp) : J mi_mo_in encI (Same lay) lay 0 0 15 [] [vi s0] h (mo_in_b15 p0 p1 p2 s0 h) := by
  unfold mo_in_b15
  exact j_retZ rfl rfl rfl dX6_in_15 rfl ⟨Nat.le_refl _, Nat.le_refl _⟩ rfl

set_option maxRecDepth 100000 in
set_option maxHeartbeats 4000000 in
theorem jb_mo_in_14 {lay : List LK} {p0 : Int} {p1 : Int} {p2 : Int}    (h : Hp) : J mi_mo_in encI (Same lay) lay 0 0 14 [] [] h (mo_in_b14 p0 p1 p2 h) := by
  unfold mo_in_b14
  refine j_iconst (x := 0) dX6_in_14 rfl (by decide) ?_
  exact jb_mo_in_15  _ _

set_option maxRecDepth 100000 in
set_option maxHeartbeats 4000000 in
theorem ct_mo_in {lay : List LK} {p0 : Int} {p1 : Int} {p2 : Int}  (h : Hp) : CT mi_mo_in encI (Same lay) lay [vi p0, vi p1, vi p2] h (mo_in p0 p1 p2 h) := by
  refine CT.of (by decide) rfl (Nat.le_of_ble_eq_true rfl) ?_
  show J mi_mo_in encI (Same lay) lay 0 0 0 [(0, vi p0), (1, vi p1), (2, vi p2)] [] h _
  unfold mo_in
  refine j_iload_n 0 dX6_in_0 rfl ?_
  refine j_iload_n 1 dX6_in_1 rfl ?_
  refine j_icmp_lt (tgt := 14) dX6_in_2 (by decide) ?_ ?_
  · refine j_sub [] rfl ?_
    exact jb_mo_in_14  _
  · refine j_iload_n 0 dX6_in_5 rfl ?_
    refine j_iload_n 2 dX6_in_6 rfl ?_
    refine j_icmp_gt (tgt := 14) dX6_in_7 (by decide) ?_ ?_
    · refine j_sub [] rfl ?_
      exact jb_mo_in_14  _
    · refine j_iconst (x := 1) dX6_in_10 rfl (by decide) ?_
      refine j_goto (tgt := 15) dX6_in_11 (by decide) ?_
      refine j_sub [] rfl ?_
      exact jb_mo_in_15  _ _

set_option maxRecDepth 100000 in
set_option maxHeartbeats 4000000 in
theorem jl_mo_copies_2 {lay : List LK} {th : Nat} {p1 : Int} {p2 : Int}  (hs : sub lay th blkModel)  : ∀ (n : Nat) (x3 : Int) (h : Hp), J mi_mo_copies encV (Same lay) lay 0 0 2 [(0, vr th), (1, vi p1), (2, vi p2), (3, vi x3)] [] h (iter1 (mo_copies_f2 th p1 p2) n x3 h) := by
  refine j_iter1 (lf := fun x3 => [(0, vr th), (1, vi p1), (2, vi p2), (3, vi x3)]) (fun k2 hk2 x3 h => ?_)
  unfold mo_copies_f2
  refine j_iload_n 3 dX6_copies_2 rfl ?_
  refine j_bipush (x := 112) dX6_copies_3 (by decide) (by decide) ?_
  refine j_icmp_ge (tgt := 36) dX6_copies_5 (by decide) ?_ ?_
  · refine j_aload_n 0 dX6_copies_8 rfl ?_
    refine j_getR 0 1 0 dX6_copies_9 zc_6 rfl (sub_k hs 0 rfl rfl) (by decide) lk_X6_7 rfl (by decide) (rfl : th + 1 = (th + 1)) ?_
    refine j_bipush (x := 112) dX6_copies_12 (by decide) (by decide) ?_
    refine j_iload_n 2 dX6_copies_14 rfl ?_
    refine j_imul dX6_copies_15 ?_
    refine j_iload_n 3 dX6_copies_16 rfl ?_
    refine j_iadd dX6_copies_17 ?_
    refine j_aload_n 0 dX6_copies_18 rfl ?_
    refine j_getR 0 1 0 dX6_copies_19 zc_6 rfl (sub_k hs 0 rfl rfl) (by decide) lk_X6_7 rfl (by decide) (rfl : th + 1 = (th + 1)) ?_
    refine j_bipush (x := 112) dX6_copies_22 (by decide) (by decide) ?_
    refine j_iload_n 1 dX6_copies_24 rfl ?_
    refine j_imul dX6_copies_25 ?_
    refine j_iload_n 3 dX6_copies_26 rfl ?_
    refine j_iadd dX6_copies_27 ?_
    refine j_iald dX6_copies_28 (sub_k hs 1 rfl rfl) rfl ?_
    refine j_iast dX6_copies_29 (sub_k hs 1 rfl rfl) rfl (fun h1 _ => ?_)
    refine j_iinc 3 (lv' := [(3, vi (x3 + 1)), (0, vr th), (1, vi p1), (2, vi p2)]) dX6_copies_30 rfl (by decide) rfl ?_
    refine j_goto (tgt := 2) dX6_copies_33 (by decide) ?_
    refine j_sub [1, 2, 3, 0] rfl ?_
    exact hk2 _ _
  · exact j_retV rfl rfl rfl dX6_copies_36 rfl ⟨Nat.le_refl _, Nat.le_refl _⟩ rfl

set_option maxRecDepth 100000 in
set_option maxHeartbeats 4000000 in
theorem ct_mo_copies {lay : List LK} {th : Nat} {p1 : Int} {p2 : Int} (hs : sub lay th blkModel) (h : Hp) : CT mi_mo_copies encV (Same lay) lay [vr th, vi p1, vi p2] h (mo_copies th p1 p2 h) := by
  refine CT.of (by decide) rfl (Nat.le_of_ble_eq_true rfl) ?_
  show J mi_mo_copies encV (Same lay) lay 0 0 0 [(0, vr th), (1, vi p1), (2, vi p2)] [] h _
  unfold mo_copies
  refine j_iconst (x := 0) dX6_copies_0 rfl (by decide) ?_
  refine j_istore_n (lv' := [(3, vi 0), (0, vr th), (1, vi p1), (2, vi p2)]) dX6_copies_1 (by decide) rfl ?_
  refine j_sub [1, 2, 3, 0] rfl ?_
  exact jl_mo_copies_2 hs fuel _ _

set_option maxRecDepth 100000 in
set_option maxHeartbeats 4000000 in
theorem jb_mo_records_41 {lay : List LK} {th : Nat}  (hs : sub lay th blkModel)  (h : Hp) : J mi_mo_records encV (Same lay) lay 0 0 41 [(0, vr th)] [] h (mo_records_b41 th h) := by
  unfold mo_records_b41
  refine j_aload_n 0 dX6_records_41 rfl ?_
  refine j_dup dX6_records_42 (fun _ _ => rfl) ?_
  refine j_getI 1 1 dX6_records_43 zc_6 rfl (sub_k hs 0 rfl rfl) (by decide) lk_X6_38 rfl rfl ?_
  refine j_iconst (x := 1) dX6_records_46 rfl (by decide) ?_
  refine j_iadd dX6_records_47 ?_
  refine j_putI 1 1 dX6_records_48 zc_6 rfl (sub_k hs 0 rfl rfl) (by decide) lk_X6_38 rfl rfl rfl rfl (fun h1 _ => ?_)
  refine j_aload_n 0 dX6_records_51 rfl ?_
  refine j_iconst (x := 0) dX6_records_52 rfl (by decide) ?_
  refine j_aload_n 0 dX6_records_53 rfl ?_
  refine j_getI 1 1 dX6_records_54 zc_6 rfl (sub_k hs 0 rfl rfl) (by decide) lk_X6_38 rfl rfl ?_
  refine j_cV (stk := []) [vi 0, vi (h1 th 1)] th dX6_records_57 mv_mo_copies lm_X6_42 (sub_k hs 0 rfl rfl) zc_6 (ct_mo_copies hs h1) rfl rfl ⟨⟨Nat.le_of_ble_eq_true rfl, Nat.le_of_ble_eq_true rfl⟩, Nat.le_of_ble_eq_true rfl, Nat.le_of_ble_eq_true rfl⟩ (Nat.le_of_ble_eq_true rfl) rfl rfl (fun _ h2 _ => ?_)
  exact j_retV rfl rfl rfl dX6_records_60 rfl ⟨Nat.le_refl _, Nat.le_refl _⟩ rfl

set_option maxRecDepth 100000 in
set_option maxHeartbeats 4000000 in
theorem jl_mo_records_11 {lay : List LK} {th : Nat}  (hs : sub lay th blkModel)  : ∀ (n : Nat) (x1 : Int) (h : Hp), J mi_mo_records encV (Same lay) lay 0 0 11 [(0, vr th), (1, vi x1)] [] h (iter1 (mo_records_f11 th) n x1 h) := by
  refine j_iter1 (lf := fun x1 => [(0, vr th), (1, vi x1)]) (fun k11 hk11 x1 h => ?_)
  unfold mo_records_f11
  refine j_iload_n 1 dX6_records_11 rfl ?_
  refine j_bipush (x := 8) dX6_records_12 (by decide) (by decide) ?_
  refine j_icmp_ge (tgt := 31) dX6_records_14 (by decide) ?_ ?_
  · refine j_aload_n 0 dX6_records_17 rfl ?_
    refine j_iload_n 1 dX6_records_18 rfl ?_
    refine j_iconst (x := 1) dX6_records_19 rfl (by decide) ?_
    refine j_iadd dX6_records_20 ?_
    refine j_iload_n 1 dX6_records_21 rfl ?_
    refine j_cV (stk := []) [vi (x1 + 1), vi x1] th dX6_records_22 mv_mo_copies lm_X6_42 (sub_k hs 0 rfl rfl) zc_6 (ct_mo_copies hs h) rfl rfl ⟨⟨Nat.le_of_ble_eq_true rfl, Nat.le_of_ble_eq_true rfl⟩, Nat.le_of_ble_eq_true rfl, Nat.le_of_ble_eq_true rfl⟩ (Nat.le_of_ble_eq_true rfl) rfl rfl (fun _ h1 _ => ?_)
    refine j_iinc 1 (lv' := [(1, vi (x1 + 1)), (0, vr th)]) dX6_records_25 rfl (by decide) rfl ?_
    refine j_goto (tgt := 11) dX6_records_28 (by decide) ?_
    refine j_sub [1, 0] rfl ?_
    exact hk11 _ _
  · refine j_aload_n 0 dX6_records_31 rfl ?_
    refine j_dup dX6_records_32 (fun _ _ => rfl) ?_
    refine j_getI 1 1 dX6_records_33 zc_6 rfl (sub_k hs 0 rfl rfl) (by decide) lk_X6_38 rfl rfl ?_
    refine j_iconst (x := 1) dX6_records_36 rfl (by decide) ?_
    refine j_isub dX6_records_37 ?_
    refine j_putI 1 1 dX6_records_38 zc_6 rfl (sub_k hs 0 rfl rfl) (by decide) lk_X6_38 rfl rfl rfl rfl (fun h2 _ => ?_)
    refine j_sub [0] rfl ?_
    exact jb_mo_records_41 hs _

set_option maxRecDepth 100000 in
set_option maxHeartbeats 4000000 in
theorem ct_mo_records {lay : List LK} {th : Nat} (hs : sub lay th blkModel) (h : Hp) : CT mi_mo_records encV (Same lay) lay [vr th] h (mo_records th h) := by
  refine CT.of (by decide) rfl (Nat.le_of_ble_eq_true rfl) ?_
  show J mi_mo_records encV (Same lay) lay 0 0 0 [(0, vr th)] [] h _
  unfold mo_records
  refine j_aload_n 0 dX6_records_0 rfl ?_
  refine j_getI 1 1 dX6_records_1 zc_6 rfl (sub_k hs 0 rfl rfl) (by decide) lk_X6_38 rfl rfl ?_
  refine j_bipush (x := 8) dX6_records_4 (by decide) (by decide) ?_
  refine j_icmp_ne (tgt := 41) dX6_records_6 (by decide) ?_ ?_
  · refine j_iconst (x := 1) dX6_records_9 rfl (by decide) ?_
    refine j_istore_n (lv' := [(1, vi 1), (0, vr th)]) dX6_records_10 (by decide) rfl ?_
    refine j_sub [1, 0] rfl ?_
    exact jl_mo_records_11 hs fuel _ _
  · exact jb_mo_records_41 hs _

set_option maxRecDepth 100000 in
set_option maxHeartbeats 4000000 in
theorem ct_mo_undo {lay : List LK} {th : Nat} (hs : sub lay th blkModel) (h : Hp) : CT mi_mo_undo encI (Same lay) lay [vr th] h (mo_undo th h) := by
  refine CT.of (by decide) rfl (Nat.le_of_ble_eq_true rfl) ?_
  show J mi_mo_undo encI (Same lay) lay 0 0 0 [(0, vr th)] [] h _
  unfold mo_undo
  refine j_aload_n 0 dX6_undo_0 rfl ?_
  refine j_getI 1 1 dX6_undo_1 zc_6 rfl (sub_k hs 0 rfl rfl) (by decide) lk_X6_38 rfl rfl ?_
  refine j_if_ne (tgt := 10) dX6_undo_4 (by decide) ?_ ?_
  · refine j_bipush (x := (-2)) dX6_undo_7 (by decide) (by decide) ?_
    exact j_retI (h0 := h) (r := 0) rfl rfl rfl dX6_undo_9 rfl ⟨Nat.le_refl _, Nat.le_refl _⟩ rfl
  · refine j_aload_n 0 dX6_undo_10 rfl ?_
    refine j_aload_n 0 dX6_undo_11 rfl ?_
    refine j_getI 1 1 dX6_undo_12 zc_6 rfl (sub_k hs 0 rfl rfl) (by decide) lk_X6_38 rfl rfl ?_
    refine j_iconst (x := 0) dX6_undo_15 rfl (by decide) ?_
    refine j_cV (stk := []) [vi (h th 1), vi 0] th dX6_undo_16 mv_mo_copies lm_X6_42 (sub_k hs 0 rfl rfl) zc_6 (ct_mo_copies hs h) rfl rfl ⟨⟨Nat.le_of_ble_eq_true rfl, Nat.le_of_ble_eq_true rfl⟩, Nat.le_of_ble_eq_true rfl, Nat.le_of_ble_eq_true rfl⟩ (Nat.le_of_ble_eq_true rfl) rfl rfl (fun _ h1 _ => ?_)
    refine j_aload_n 0 dX6_undo_19 rfl ?_
    refine j_dup dX6_undo_20 (fun _ _ => rfl) ?_
    refine j_getI 1 1 dX6_undo_21 zc_6 rfl (sub_k hs 0 rfl rfl) (by decide) lk_X6_38 rfl rfl ?_
    refine j_iconst (x := 1) dX6_undo_24 rfl (by decide) ?_
    refine j_isub dX6_undo_25 ?_
    refine j_putI 1 1 dX6_undo_26 zc_6 rfl (sub_k hs 0 rfl rfl) (by decide) lk_X6_38 rfl rfl rfl rfl (fun h2 _ => ?_)
    refine j_aload_n 0 dX6_undo_29 rfl ?_
    refine j_getI 1 1 dX6_undo_30 zc_6 rfl (sub_k hs 0 rfl rfl) (by decide) lk_X6_38 rfl rfl ?_
    exact j_retI (h0 := h2) (r := 0) rfl rfl rfl dX6_undo_33 rfl ⟨Nat.le_refl _, Nat.le_refl _⟩ rfl

set_option maxRecDepth 100000 in
set_option maxHeartbeats 4000000 in
theorem ct_mo_isPoint {lay : List LK} {th : Nat} {p1 : Int} (hs : sub lay th blkModel) (h : Hp) : CT mi_mo_isPoint encI (Same lay) lay [vr th, vi p1] h (mo_isPoint th p1 h) := by
  refine CT.of (by decide) rfl (Nat.le_of_ble_eq_true rfl) ?_
  show J mi_mo_isPoint encI (Same lay) lay 0 0 0 [(0, vr th), (1, vi p1)] [] h _
  unfold mo_isPoint
  refine j_iload_n 1 dX6_isPoint_0 rfl ?_
  refine j_iconst (x := 0) dX6_isPoint_1 rfl (by decide) ?_
  refine j_aload_n 0 dX6_isPoint_2 rfl ?_
  refine j_getR 0 1 0 dX6_isPoint_3 zc_6 rfl (sub_k hs 0 rfl rfl) (by decide) lk_X6_7 rfl (by decide) (rfl : th + 1 = (th + 1)) ?_
  refine j_iconst (x := 0) dX6_isPoint_6 rfl (by decide) ?_
  refine j_iald dX6_isPoint_7 (sub_k hs 1 rfl rfl) rfl ?_
  refine j_iconst (x := 1) dX6_isPoint_8 rfl (by decide) ?_
  refine j_isub dX6_isPoint_9 ?_
  refine j_cS (stk := []) [vi p1, vi 0, vi ((h (th + 1) 0) - 1)] dX6_isPoint_10 mv_mo_in lm_X6_46 (ct_mo_in h) rfl rfl ⟨⟨Nat.le_of_ble_eq_true rfl, Nat.le_of_ble_eq_true rfl⟩, Nat.le_of_ble_eq_true rfl, Nat.le_of_ble_eq_true rfl⟩ (Nat.le_of_ble_eq_true rfl) rfl rfl (fun r1 h1 _ => ?_)
  exact j_retZ rfl rfl rfl dX6_isPoint_13 rfl ⟨Nat.le_refl _, Nat.le_refl _⟩ rfl

set_option maxRecDepth 100000 in
set_option maxHeartbeats 4000000 in
theorem ct_mo_isDimension {lay : List LK} {th : Nat} {p1 : Int} (hs : sub lay th blkModel) (h : Hp) : CT mi_mo_isDimension encI (Same lay) lay [vr th, vi p1] h (mo_isDimension th p1 h) := by
  refine CT.of (by decide) rfl (Nat.le_of_ble_eq_true rfl) ?_
  show J mi_mo_isDimension encI (Same lay) lay 0 0 0 [(0, vr th), (1, vi p1)] [] h _
  unfold mo_isDimension
  refine j_iload_n 1 dX6_isDimension_0 rfl ?_
  refine j_iconst (x := 0) dX6_isDimension_1 rfl (by decide) ?_
  refine j_aload_n 0 dX6_isDimension_2 rfl ?_
  refine j_getR 0 1 0 dX6_isDimension_3 zc_6 rfl (sub_k hs 0 rfl rfl) (by decide) lk_X6_7 rfl (by decide) (rfl : th + 1 = (th + 1)) ?_
  refine j_bipush (x := 13) dX6_isDimension_6 (by decide) (by decide) ?_
  refine j_iald dX6_isDimension_8 (sub_k hs 1 rfl rfl) rfl ?_
  refine j_iconst (x := 1) dX6_isDimension_9 rfl (by decide) ?_
  refine j_isub dX6_isDimension_10 ?_
  refine j_cS (stk := []) [vi p1, vi 0, vi ((h (th + 1) 13) - 1)] dX6_isDimension_11 mv_mo_in lm_X6_46 (ct_mo_in h) rfl rfl ⟨⟨Nat.le_of_ble_eq_true rfl, Nat.le_of_ble_eq_true rfl⟩, Nat.le_of_ble_eq_true rfl, Nat.le_of_ble_eq_true rfl⟩ (Nat.le_of_ble_eq_true rfl) rfl rfl (fun r1 h1 _ => ?_)
  exact j_retZ rfl rfl rfl dX6_isDimension_14 rfl ⟨Nat.le_refl _, Nat.le_refl _⟩ rfl

set_option maxRecDepth 100000 in
set_option maxHeartbeats 4000000 in
theorem ct_mo_of {lay : List LK} {th : Nat} {p1 : Int} {p2 : Int} (hs : sub lay th blkModel) (h : Hp) : CT mi_mo_of encI (Same lay) lay [vr th, vi p1, vi p2] h (mo_of th p1 p2 h) := by
  refine CT.of (by decide) rfl (Nat.le_of_ble_eq_true rfl) ?_
  show J mi_mo_of encI (Same lay) lay 0 0 0 [(0, vr th), (1, vi p1), (2, vi p2)] [] h _
  unfold mo_of
  refine j_aload_n 0 dX6_of_0 rfl ?_
  refine j_getR 0 1 0 dX6_of_1 zc_6 rfl (sub_k hs 0 rfl rfl) (by decide) lk_X6_7 rfl (by decide) (rfl : th + 1 = (th + 1)) ?_
  refine j_bipush (x := 14) dX6_of_4 (by decide) (by decide) ?_
  refine j_bipush (x := 6) dX6_of_6 (by decide) (by decide) ?_
  refine j_iload_n 1 dX6_of_8 rfl ?_
  refine j_imul dX6_of_9 ?_
  refine j_iadd dX6_of_10 ?_
  refine j_iload_n 2 dX6_of_11 rfl ?_
  refine j_iadd dX6_of_12 ?_
  refine j_iald dX6_of_13 (sub_k hs 1 rfl rfl) rfl ?_
  exact j_retI (h0 := h) (r := 0) rfl rfl rfl dX6_of_14 rfl ⟨Nat.le_refl _, Nat.le_refl _⟩ rfl

set_option maxRecDepth 100000 in
set_option maxHeartbeats 4000000 in
theorem ct_mo_sets {lay : List LK} {th : Nat} {p1 : Int} {p2 : Int} {p3 : Int} (hs : sub lay th blkModel) (h : Hp) : CT mi_mo_sets encV (Same lay) lay [vr th, vi p1, vi p2, vi p3] h (mo_sets th p1 p2 p3 h) := by
  refine CT.of (by decide) rfl (Nat.le_of_ble_eq_true rfl) ?_
  show J mi_mo_sets encV (Same lay) lay 0 0 0 [(0, vr th), (1, vi p1), (2, vi p2), (3, vi p3)] [] h _
  unfold mo_sets
  refine j_aload_n 0 dX6_sets_0 rfl ?_
  refine j_getR 0 1 0 dX6_sets_1 zc_6 rfl (sub_k hs 0 rfl rfl) (by decide) lk_X6_7 rfl (by decide) (rfl : th + 1 = (th + 1)) ?_
  refine j_bipush (x := 14) dX6_sets_4 (by decide) (by decide) ?_
  refine j_bipush (x := 6) dX6_sets_6 (by decide) (by decide) ?_
  refine j_iload_n 1 dX6_sets_8 rfl ?_
  refine j_imul dX6_sets_9 ?_
  refine j_iadd dX6_sets_10 ?_
  refine j_iload_n 2 dX6_sets_11 rfl ?_
  refine j_iadd dX6_sets_12 ?_
  refine j_iload_n 3 dX6_sets_13 rfl ?_
  refine j_iast dX6_sets_14 (sub_k hs 1 rfl rfl) rfl (fun h1 _ => ?_)
  exact j_retV rfl rfl rfl dX6_sets_15 rfl ⟨Nat.le_refl _, Nat.le_refl _⟩ rfl

set_option maxRecDepth 100000 in
set_option maxHeartbeats 4000000 in
theorem ct_mo_position {lay : List LK} {th : Nat} {p1 : Int} (hs : sub lay th blkModel) (h : Hp) : CT mi_mo_position encI (Same lay) lay [vr th, vi p1] h (mo_position th p1 h) := by
  refine CT.of (by decide) rfl (Nat.le_of_ble_eq_true rfl) ?_
  show J mi_mo_position encI (Same lay) lay 0 0 0 [(0, vr th), (1, vi p1)] [] h _
  unfold mo_position
  refine j_aload_n 0 dX6_position_0 rfl ?_
  refine j_getR 0 1 0 dX6_position_1 zc_6 rfl (sub_k hs 0 rfl rfl) (by decide) lk_X6_7 rfl (by decide) (rfl : th + 1 = (th + 1)) ?_
  refine j_iconst (x := 1) dX6_position_4 rfl (by decide) ?_
  refine j_iload_n 1 dX6_position_5 rfl ?_
  refine j_iadd dX6_position_6 ?_
  refine j_iald dX6_position_7 (sub_k hs 1 rfl rfl) rfl ?_
  exact j_retI (h0 := h) (r := 0) rfl rfl rfl dX6_position_8 rfl ⟨Nat.le_refl _, Nat.le_refl _⟩ rfl

set_option maxRecDepth 100000 in
set_option maxHeartbeats 4000000 in
theorem ct_mo_from {lay : List LK} {th : Nat} {p1 : Int} (hs : sub lay th blkModel) (h : Hp) : CT mi_mo_from encI (Same lay) lay [vr th, vi p1] h (mo_from th p1 h) := by
  refine CT.of (by decide) rfl (Nat.le_of_ble_eq_true rfl) ?_
  show J mi_mo_from encI (Same lay) lay 0 0 0 [(0, vr th), (1, vi p1)] [] h _
  unfold mo_from
  refine j_aload_n 0 dX6_from_0 rfl ?_
  refine j_aload_n 0 dX6_from_1 rfl ?_
  refine j_iload_n 1 dX6_from_2 rfl ?_
  refine j_iconst (x := 0) dX6_from_3 rfl (by decide) ?_
  refine j_cV (stk := [vr th]) [vi p1, vi 0] th dX6_from_4 mv_mo_of lm_X6_50 (sub_k hs 0 rfl rfl) zc_6 (ct_mo_of hs h) rfl rfl ⟨⟨Nat.le_of_ble_eq_true rfl, Nat.le_of_ble_eq_true rfl⟩, Nat.le_of_ble_eq_true rfl, Nat.le_of_ble_eq_true rfl⟩ (Nat.le_of_ble_eq_true rfl) rfl rfl (fun r1 h1 _ => ?_)
  refine j_cV (stk := []) [vi r1] th dX6_from_7 mv_mo_position lm_X6_54 (sub_k hs 0 rfl rfl) zc_6 (ct_mo_position hs h1) rfl rfl ⟨⟨Nat.le_of_ble_eq_true rfl, Nat.le_of_ble_eq_true rfl⟩, Nat.le_of_ble_eq_true rfl, Nat.le_of_ble_eq_true rfl⟩ (Nat.le_of_ble_eq_true rfl) rfl rfl (fun r2 h2 _ => ?_)
  exact j_retI (h0 := h2) (r := 0) rfl rfl rfl dX6_from_10 rfl ⟨Nat.le_refl _, Nat.le_refl _⟩ rfl

set_option maxRecDepth 100000 in
set_option maxHeartbeats 4000000 in
theorem ct_mo_to {lay : List LK} {th : Nat} {p1 : Int} (hs : sub lay th blkModel) (h : Hp) : CT mi_mo_to encI (Same lay) lay [vr th, vi p1] h (mo_to th p1 h) := by
  refine CT.of (by decide) rfl (Nat.le_of_ble_eq_true rfl) ?_
  show J mi_mo_to encI (Same lay) lay 0 0 0 [(0, vr th), (1, vi p1)] [] h _
  unfold mo_to
  refine j_aload_n 0 dX6_to_0 rfl ?_
  refine j_aload_n 0 dX6_to_1 rfl ?_
  refine j_iload_n 1 dX6_to_2 rfl ?_
  refine j_iconst (x := 1) dX6_to_3 rfl (by decide) ?_
  refine j_cV (stk := [vr th]) [vi p1, vi 1] th dX6_to_4 mv_mo_of lm_X6_50 (sub_k hs 0 rfl rfl) zc_6 (ct_mo_of hs h) rfl rfl ⟨⟨Nat.le_of_ble_eq_true rfl, Nat.le_of_ble_eq_true rfl⟩, Nat.le_of_ble_eq_true rfl, Nat.le_of_ble_eq_true rfl⟩ (Nat.le_of_ble_eq_true rfl) rfl rfl (fun r1 h1 _ => ?_)
  refine j_cV (stk := []) [vi r1] th dX6_to_7 mv_mo_position lm_X6_54 (sub_k hs 0 rfl rfl) zc_6 (ct_mo_position hs h1) rfl rfl ⟨⟨Nat.le_of_ble_eq_true rfl, Nat.le_of_ble_eq_true rfl⟩, Nat.le_of_ble_eq_true rfl, Nat.le_of_ble_eq_true rfl⟩ (Nat.le_of_ble_eq_true rfl) rfl rfl (fun r2 h2 _ => ?_)
  exact j_retI (h0 := h2) (r := 0) rfl rfl rfl dX6_to_10 rfl ⟨Nat.le_refl _, Nat.le_refl _⟩ rfl

set_option maxRecDepth 100000 in
set_option maxHeartbeats 4000000 in
theorem ct_mo_value {lay : List LK} {th : Nat} {p1 : Int} (hs : sub lay th blkModel) (h : Hp) : CT mi_mo_value encI (Same lay) lay [vr th, vi p1] h (mo_value th p1 h) := by
  refine CT.of (by decide) rfl (Nat.le_of_ble_eq_true rfl) ?_
  show J mi_mo_value encI (Same lay) lay 0 0 0 [(0, vr th), (1, vi p1)] [] h _
  unfold mo_value
  refine j_aload_n 0 dX6_value_0 rfl ?_
  refine j_iload_n 1 dX6_value_1 rfl ?_
  refine j_cV (stk := []) [vi p1] th dX6_value_2 mv_mo_to lm_X6_58 (sub_k hs 0 rfl rfl) zc_6 (ct_mo_to hs h) rfl rfl ⟨⟨Nat.le_of_ble_eq_true rfl, Nat.le_of_ble_eq_true rfl⟩, Nat.le_of_ble_eq_true rfl, Nat.le_of_ble_eq_true rfl⟩ (Nat.le_of_ble_eq_true rfl) rfl rfl (fun r1 h1 _ => ?_)
  refine j_aload_n 0 dX6_value_5 rfl ?_
  refine j_iload_n 1 dX6_value_6 rfl ?_
  refine j_cV (stk := [vi r1]) [vi p1] th dX6_value_7 mv_mo_from lm_X6_61 (sub_k hs 0 rfl rfl) zc_6 (ct_mo_from hs h1) rfl rfl ⟨⟨Nat.le_of_ble_eq_true rfl, Nat.le_of_ble_eq_true rfl⟩, Nat.le_of_ble_eq_true rfl, Nat.le_of_ble_eq_true rfl⟩ (Nat.le_of_ble_eq_true rfl) rfl rfl (fun r2 h2 _ => ?_)
  refine j_isub dX6_value_10 ?_
  exact j_retI (h0 := h2) (r := 0) rfl rfl rfl dX6_value_11 rfl ⟨Nat.le_refl _, Nat.le_refl _⟩ rfl

set_option maxRecDepth 100000 in
set_option maxHeartbeats 4000000 in
theorem jl_mo_pointWith_2 {lay : List LK} {th : Nat} {p1 : Int}  (hs : sub lay th blkModel)  : ∀ (n : Nat) (x2 : Int) (h : Hp), J mi_mo_pointWith encI (Same lay) lay 0 0 2 [(0, vr th), (1, vi p1), (2, vi x2)] [] h (iter1 (mo_pointWith_f2 th p1) n x2 h) := by
  refine j_iter1 (lf := fun x2 => [(0, vr th), (1, vi p1), (2, vi x2)]) (fun k2 hk2 x2 h => ?_)
  unfold mo_pointWith_f2
  refine j_iload_n 2 dX6_pointWith_2 rfl ?_
  refine j_aload_n 0 dX6_pointWith_3 rfl ?_
  refine j_getR 0 1 0 dX6_pointWith_4 zc_6 rfl (sub_k hs 0 rfl rfl) (by decide) lk_X6_7 rfl (by decide) (rfl : th + 1 = (th + 1)) ?_
  refine j_iconst (x := 0) dX6_pointWith_7 rfl (by decide) ?_
  refine j_iald dX6_pointWith_8 (sub_k hs 1 rfl rfl) rfl ?_
  refine j_icmp_ge (tgt := 29) dX6_pointWith_9 (by decide) ?_ ?_
  · refine j_aload_n 0 dX6_pointWith_12 rfl ?_
    refine j_iload_n 2 dX6_pointWith_13 rfl ?_
    refine j_cV (stk := []) [vi x2] th dX6_pointWith_14 mv_mo_position lm_X6_54 (sub_k hs 0 rfl rfl) zc_6 (ct_mo_position hs h) rfl rfl ⟨⟨Nat.le_of_ble_eq_true rfl, Nat.le_of_ble_eq_true rfl⟩, Nat.le_of_ble_eq_true rfl, Nat.le_of_ble_eq_true rfl⟩ (Nat.le_of_ble_eq_true rfl) rfl rfl (fun r1 h1 _ => ?_)
    refine j_iload_n 1 dX6_pointWith_17 rfl ?_
    refine j_icmp_ne (tgt := 23) dX6_pointWith_18 (by decide) ?_ ?_
    · refine j_iload_n 2 dX6_pointWith_21 rfl ?_
      exact j_retI (h0 := h1) (r := 0) rfl rfl rfl dX6_pointWith_22 rfl ⟨Nat.le_refl _, Nat.le_refl _⟩ rfl
    · refine j_iinc 2 (lv' := [(2, vi (x2 + 1)), (0, vr th), (1, vi p1)]) dX6_pointWith_23 rfl (by decide) rfl ?_
      refine j_goto (tgt := 2) dX6_pointWith_26 (by decide) ?_
      refine j_sub [1, 2, 0] rfl ?_
      exact hk2 _ _
  · refine j_sipush (x := (-999)) dX6_pointWith_29 (by decide) (by decide) ?_
    exact j_retI (h0 := h) (r := 0) rfl rfl rfl dX6_pointWith_32 rfl ⟨Nat.le_refl _, Nat.le_refl _⟩ rfl

set_option maxRecDepth 100000 in
set_option maxHeartbeats 4000000 in
theorem ct_mo_pointWith {lay : List LK} {th : Nat} {p1 : Int} (hs : sub lay th blkModel) (h : Hp) : CT mi_mo_pointWith encI (Same lay) lay [vr th, vi p1] h (mo_pointWith th p1 h) := by
  refine CT.of (by decide) rfl (Nat.le_of_ble_eq_true rfl) ?_
  show J mi_mo_pointWith encI (Same lay) lay 0 0 0 [(0, vr th), (1, vi p1)] [] h _
  unfold mo_pointWith
  refine j_iconst (x := 0) dX6_pointWith_0 rfl (by decide) ?_
  refine j_istore_n (lv' := [(2, vi 0), (0, vr th), (1, vi p1)]) dX6_pointWith_1 (by decide) rfl ?_
  refine j_sub [1, 2, 0] rfl ?_
  exact jl_mo_pointWith_2 hs fuel _ _

set_option maxRecDepth 100000 in
set_option maxHeartbeats 4000000 in
theorem jb_mo_comes_114 {lay : List LK} {th : Nat} {p1 : Int} {k67 : Int → Int → Hp → O Int} (hs : sub lay th blkModel) (hk67 : ∀ (x2 x3 : Int) (h : Hp), J mi_mo_comes encI (Same lay) lay 0 0 67 [(0, vr th), (2, vi x2), (3, vi x3)] [] h (k67 x2 x3 h)) (x2 x3 s0 s1 s2 : Int) (h : Hp) : J mi_mo_comes encI (Same lay) lay 0 0 114 [(0, vr th), (2, vi x2), (3, vi x3)] [vi s0, vi s1, vi s2, vr th] h (mo_comes_b114 th p1 k67 x2 x3 s0 s1 s2 h) := by
  unfold mo_comes_b114
  refine j_cV (stk := []) [vi s2, vi s1, vi s0] th dX6_comes_114 mv_mo_sets lm_X6_64 (sub_k hs 0 rfl rfl) zc_6 (ct_mo_sets hs h) rfl rfl ⟨⟨Nat.le_of_ble_eq_true rfl, Nat.le_of_ble_eq_true rfl⟩, Nat.le_of_ble_eq_true rfl, Nat.le_of_ble_eq_true rfl⟩ (Nat.le_of_ble_eq_true rfl) rfl rfl (fun _ h1 _ => ?_)
  refine j_iinc 2 (lv' := [(3, vi (x3 + 1)), (0, vr th), (2, vi x2)]) dX6_comes_117 rfl (by decide) rfl ?_
  refine j_goto (tgt := 67) dX6_comes_120 (by decide) ?_
  refine j_sub [1, 2, 0] rfl ?_
  exact hk67 _ _ _

set_option maxRecDepth 100000 in
set_option maxHeartbeats 4000000 in
theorem jl_mo_comes_67 {lay : List LK} {th : Nat} {p1 : Int}  (hs : sub lay th blkModel)  : ∀ (n : Nat) (x2 x3 : Int) (h : Hp), J mi_mo_comes encI (Same lay) lay 0 0 67 [(0, vr th), (2, vi x2), (3, vi x3)] [] h (iter2 (mo_comes_f67 th p1) n x2 x3 h) := by
  refine j_iter2 (lf := fun x2 x3 => [(0, vr th), (2, vi x2), (3, vi x3)]) (fun k67 hk67 x2 x3 h => ?_)
  unfold mo_comes_f67
  refine j_iload_n 2 dX6_comes_67 rfl ?_
  refine j_iconst (x := 2) dX6_comes_68 rfl (by decide) ?_
  refine j_aload_n 0 dX6_comes_69 rfl ?_
  refine j_getR 0 1 0 dX6_comes_70 zc_6 rfl (sub_k hs 0 rfl rfl) (by decide) lk_X6_7 rfl (by decide) (rfl : th + 1 = (th + 1)) ?_
  refine j_bipush (x := 13) dX6_comes_73 (by decide) (by decide) ?_
  refine j_iald dX6_comes_75 (sub_k hs 1 rfl rfl) rfl ?_
  refine j_imul dX6_comes_76 ?_
  refine j_icmp_ge (tgt := 123) dX6_comes_77 (by decide) ?_ ?_
  · refine j_aload_n 0 dX6_comes_80 rfl ?_
    refine j_iload_n 2 dX6_comes_81 rfl ?_
    refine j_iconst (x := 2) dX6_comes_82 rfl (by decide) ?_
    refine j_idiv dX6_comes_83 ?_
    refine j_iload_n 2 dX6_comes_84 rfl ?_
    refine j_iconst (x := 2) dX6_comes_85 rfl (by decide) ?_
    refine j_irem dX6_comes_86 ?_
    refine j_cV (stk := []) [vi (x3 / 2), vi (x3 % 2)] th dX6_comes_87 mv_mo_of lm_X6_50 (sub_k hs 0 rfl rfl) zc_6 (ct_mo_of hs h) rfl rfl ⟨⟨Nat.le_of_ble_eq_true rfl, Nat.le_of_ble_eq_true rfl⟩, Nat.le_of_ble_eq_true rfl, Nat.le_of_ble_eq_true rfl⟩ (Nat.le_of_ble_eq_true rfl) rfl rfl (fun r1 h1 _ => ?_)
    refine j_istore (lv' := [(4, vi r1), (0, vr th), (2, vi x2), (3, vi x3)]) dX6_comes_90 (by decide) rfl ?_
    refine j_aload_n 1 dX6_comes_92 rfl ?_
    refine j_iload_n 3 dX6_comes_93 rfl ?_
    refine j_iconst (x := 2) dX6_comes_94 rfl (by decide) ?_
    refine j_idiv dX6_comes_95 ?_
    refine j_iload_n 3 dX6_comes_96 rfl ?_
    refine j_iconst (x := 2) dX6_comes_97 rfl (by decide) ?_
    refine j_irem dX6_comes_98 ?_
    refine j_iload 0 dX6_comes_99 rfl ?_
    refine j_iload_n 2 dX6_comes_101 rfl ?_
    refine j_icmp_lt (tgt := 112) dX6_comes_102 (by decide) ?_ ?_
    · refine j_iload 0 dX6_comes_112 rfl ?_
      refine j_sub [1, 2, 3] rfl ?_
      exact jb_mo_comes_114 hs hk67 _ _ _ _ _ _
    · refine j_iload 0 dX6_comes_105 rfl ?_
      refine j_iconst (x := 1) dX6_comes_107 rfl (by decide) ?_
      refine j_iadd dX6_comes_108 ?_
      refine j_goto (tgt := 114) dX6_comes_109 (by decide) ?_
      refine j_sub [1, 2, 3] rfl ?_
      exact jb_mo_comes_114 hs hk67 _ _ _ _ _ _
  · refine j_iload_n 1 dX6_comes_123 rfl ?_
    exact j_retI (h0 := h) (r := 0) rfl rfl rfl dX6_comes_124 rfl ⟨Nat.le_refl _, Nat.le_refl _⟩ rfl

set_option maxRecDepth 100000 in
set_option maxHeartbeats 4000000 in
theorem jb_mo_comes_46 {lay : List LK} {th : Nat} {p1 : Int}  (hs : sub lay th blkModel)  (x2 : Int) (h : Hp) : J mi_mo_comes encI (Same lay) lay 0 0 46 [(0, vr th), (1, vi p1), (2, vi x2)] [] h (mo_comes_b46 th p1 x2 h) := by
  unfold mo_comes_b46
  refine j_aload_n 0 dX6_comes_46 rfl ?_
  refine j_getR 0 1 0 dX6_comes_47 zc_6 rfl (sub_k hs 0 rfl rfl) (by decide) lk_X6_7 rfl (by decide) (rfl : th + 1 = (th + 1)) ?_
  refine j_iconst (x := 1) dX6_comes_50 rfl (by decide) ?_
  refine j_iload_n 2 dX6_comes_51 rfl ?_
  refine j_iadd dX6_comes_52 ?_
  refine j_iload_n 1 dX6_comes_53 rfl ?_
  refine j_iast dX6_comes_54 (sub_k hs 1 rfl rfl) rfl (fun h1 _ => ?_)
  refine j_aload_n 0 dX6_comes_55 rfl ?_
  refine j_getR 0 1 0 dX6_comes_56 zc_6 rfl (sub_k hs 0 rfl rfl) (by decide) lk_X6_7 rfl (by decide) (rfl : th + 1 = (th + 1)) ?_
  refine j_iconst (x := 0) dX6_comes_59 rfl (by decide) ?_
  refine j_dup2 dX6_comes_60 (fun _ _ => rfl) (fun _ _ => rfl) ?_
  refine j_iald dX6_comes_61 (sub_k hs 1 rfl rfl) rfl ?_
  refine j_iconst (x := 1) dX6_comes_62 rfl (by decide) ?_
  refine j_iadd dX6_comes_63 ?_
  refine j_iast dX6_comes_64 (sub_k hs 1 rfl rfl) rfl (fun h2 _ => ?_)
  refine j_iconst (x := 0) dX6_comes_65 rfl (by decide) ?_
  refine j_istore_n (lv' := [(3, vi 0), (0, vr th), (1, vi p1), (2, vi x2)]) dX6_comes_66 (by decide) rfl ?_
  refine j_sub [1, 3, 0] rfl ?_
  exact jl_mo_comes_67 hs fuel _ _ _

set_option maxRecDepth 100000 in
set_option maxHeartbeats 4000000 in
theorem jl_mo_comes_7 {lay : List LK} {th : Nat} {p1 : Int}  (hs : sub lay th blkModel)  : ∀ (n : Nat) (x2 : Int) (h : Hp), J mi_mo_comes encI (Same lay) lay 0 0 7 [(0, vr th), (1, vi p1), (2, vi x2)] [] h (iter1 (mo_comes_f7 th p1) n x2 h) := by
  refine j_iter1 (lf := fun x2 => [(0, vr th), (1, vi p1), (2, vi x2)]) (fun k7 hk7 x2 h => ?_)
  unfold mo_comes_f7
  refine j_iload_n 2 dX6_comes_7 rfl ?_
  refine j_if_le (tgt := 46) dX6_comes_8 (by decide) ?_ ?_
  · refine j_aload_n 0 dX6_comes_11 rfl ?_
    refine j_iload_n 2 dX6_comes_12 rfl ?_
    refine j_iconst (x := 1) dX6_comes_13 rfl (by decide) ?_
    refine j_isub dX6_comes_14 ?_
    refine j_cV (stk := []) [vi (x2 - 1)] th dX6_comes_15 mv_mo_position lm_X6_54 (sub_k hs 0 rfl rfl) zc_6 (ct_mo_position hs h) rfl rfl ⟨⟨Nat.le_of_ble_eq_true rfl, Nat.le_of_ble_eq_true rfl⟩, Nat.le_of_ble_eq_true rfl, Nat.le_of_ble_eq_true rfl⟩ (Nat.le_of_ble_eq_true rfl) rfl rfl (fun r1 h1 _ => ?_)
    refine j_iload_n 1 dX6_comes_18 rfl ?_
    refine j_icmp_le (tgt := 46) dX6_comes_19 (by decide) ?_ ?_
    · refine j_aload_n 0 dX6_comes_22 rfl ?_
      refine j_getR 0 1 0 dX6_comes_23 zc_6 rfl (sub_k hs 0 rfl rfl) (by decide) lk_X6_7 rfl (by decide) (rfl : th + 1 = (th + 1)) ?_
      refine j_iconst (x := 1) dX6_comes_26 rfl (by decide) ?_
      refine j_iload_n 2 dX6_comes_27 rfl ?_
      refine j_iadd dX6_comes_28 ?_
      refine j_aload_n 0 dX6_comes_29 rfl ?_
      refine j_getR 0 1 0 dX6_comes_30 zc_6 rfl (sub_k hs 0 rfl rfl) (by decide) lk_X6_7 rfl (by decide) (rfl : th + 1 = (th + 1)) ?_
      refine j_iconst (x := 1) dX6_comes_33 rfl (by decide) ?_
      refine j_iload_n 2 dX6_comes_34 rfl ?_
      refine j_iadd dX6_comes_35 ?_
      refine j_iconst (x := 1) dX6_comes_36 rfl (by decide) ?_
      refine j_isub dX6_comes_37 ?_
      refine j_iald dX6_comes_38 (sub_k hs 1 rfl rfl) rfl ?_
      refine j_iast dX6_comes_39 (sub_k hs 1 rfl rfl) rfl (fun h2 _ => ?_)
      refine j_iinc 2 (lv' := [(2, vi (x2 + (-1))), (0, vr th), (1, vi p1)]) dX6_comes_40 rfl (by decide) rfl ?_
      refine j_goto (tgt := 7) dX6_comes_43 (by decide) ?_
      refine j_sub [1, 2, 0] rfl ?_
      exact hk7 _ _
    · exact jb_mo_comes_46 hs _ _
  · exact jb_mo_comes_46 hs _ _

set_option maxRecDepth 100000 in
set_option maxHeartbeats 4000000 in
theorem ct_mo_comes {lay : List LK} {th : Nat} {p1 : Int} (hs : sub lay th blkModel) (h : Hp) : CT mi_mo_comes encI (Same lay) lay [vr th, vi p1] h (mo_comes th p1 h) := by
  refine CT.of (by decide) rfl (Nat.le_of_ble_eq_true rfl) ?_
  show J mi_mo_comes encI (Same lay) lay 0 0 0 [(0, vr th), (1, vi p1)] [] h _
  unfold mo_comes
  refine j_aload_n 0 dX6_comes_0 rfl ?_
  refine j_getR 0 1 0 dX6_comes_1 zc_6 rfl (sub_k hs 0 rfl rfl) (by decide) lk_X6_7 rfl (by decide) (rfl : th + 1 = (th + 1)) ?_
  refine j_iconst (x := 0) dX6_comes_4 rfl (by decide) ?_
  refine j_iald dX6_comes_5 (sub_k hs 1 rfl rfl) rfl ?_
  refine j_istore_n (lv' := [(2, vi (h (th + 1) 0)), (0, vr th), (1, vi p1)]) dX6_comes_6 (by decide) rfl ?_
  refine j_sub [1, 2, 0] rfl ?_
  exact jl_mo_comes_7 hs fuel _ _

set_option maxRecDepth 100000 in
set_option maxHeartbeats 4000000 in
theorem ct_mo_addPoint {lay : List LK} {th : Nat} {p1 : Int} (hs : sub lay th blkModel) (h : Hp) : CT mi_mo_addPoint encI (Same lay) lay [vr th, vi p1] h (mo_addPoint th p1 h) := by
  refine CT.of (by decide) rfl (Nat.le_of_ble_eq_true rfl) ?_
  show J mi_mo_addPoint encI (Same lay) lay 0 0 0 [(0, vr th), (1, vi p1)] [] h _
  unfold mo_addPoint
  refine j_iload_n 1 dX6_addPoint_0 rfl ?_
  refine j_iconst (x := 0) dX6_addPoint_1 rfl (by decide) ?_
  refine j_sipush (x := 300) dX6_addPoint_2 (by decide) (by decide) ?_
  refine j_cS (stk := []) [vi p1, vi 0, vi 300] dX6_addPoint_5 mv_mo_in lm_X6_46 (ct_mo_in h) rfl rfl ⟨⟨Nat.le_of_ble_eq_true rfl, Nat.le_of_ble_eq_true rfl⟩, Nat.le_of_ble_eq_true rfl, Nat.le_of_ble_eq_true rfl⟩ (Nat.le_of_ble_eq_true rfl) rfl rfl (fun r1 h1 _ => ?_)
  refine j_if_ne (tgt := 13) dX6_addPoint_8 (by decide) ?_ ?_
  · refine j_iconst (x := (-1)) dX6_addPoint_11 rfl (by decide) ?_
    exact j_retI (h0 := h1) (r := 0) rfl rfl rfl dX6_addPoint_12 rfl ⟨Nat.le_refl _, Nat.le_refl _⟩ rfl
  · refine j_aload_n 0 dX6_addPoint_13 rfl ?_
    refine j_iload_n 1 dX6_addPoint_14 rfl ?_
    refine j_cV (stk := []) [vi p1] th dX6_addPoint_15 mv_mo_pointWith lm_X6_68 (sub_k hs 0 rfl rfl) zc_6 (ct_mo_pointWith hs h1) rfl rfl ⟨⟨Nat.le_of_ble_eq_true rfl, Nat.le_of_ble_eq_true rfl⟩, Nat.le_of_ble_eq_true rfl, Nat.le_of_ble_eq_true rfl⟩ (Nat.le_of_ble_eq_true rfl) rfl rfl (fun r2 h2 _ => ?_)
    refine j_sipush (x := (-999)) dX6_addPoint_18 (by decide) (by decide) ?_
    refine j_icmp_eq (tgt := 27) dX6_addPoint_21 (by decide) ?_ ?_
    · refine j_aload_n 0 dX6_addPoint_27 rfl ?_
      refine j_getR 0 1 0 dX6_addPoint_28 zc_6 rfl (sub_k hs 0 rfl rfl) (by decide) lk_X6_7 rfl (by decide) (rfl : th + 1 = (th + 1)) ?_
      refine j_iconst (x := 0) dX6_addPoint_31 rfl (by decide) ?_
      refine j_iald dX6_addPoint_32 (sub_k hs 1 rfl rfl) rfl ?_
      refine j_bipush (x := 12) dX6_addPoint_33 (by decide) (by decide) ?_
      refine j_icmp_ne (tgt := 41) dX6_addPoint_35 (by decide) ?_ ?_
      · refine j_bipush (x := (-3)) dX6_addPoint_38 (by decide) (by decide) ?_
        exact j_retI (h0 := h2) (r := 0) rfl rfl rfl dX6_addPoint_40 rfl ⟨Nat.le_refl _, Nat.le_refl _⟩ rfl
      · refine j_aload_n 0 dX6_addPoint_41 rfl ?_
        refine j_cV (stk := []) [] th dX6_addPoint_42 mv_mo_records lm_X6_71 (sub_k hs 0 rfl rfl) zc_6 (ct_mo_records hs h2) rfl rfl ⟨⟨Nat.le_of_ble_eq_true rfl, Nat.le_of_ble_eq_true rfl⟩, Nat.le_of_ble_eq_true rfl, Nat.le_of_ble_eq_true rfl⟩ (Nat.le_of_ble_eq_true rfl) rfl rfl (fun _ h3 _ => ?_)
        refine j_aload_n 0 dX6_addPoint_45 rfl ?_
        refine j_iload_n 1 dX6_addPoint_46 rfl ?_
        refine j_cV (stk := []) [vi p1] th dX6_addPoint_47 mv_mo_comes lm_X6_74 (sub_k hs 0 rfl rfl) zc_6 (ct_mo_comes hs h3) rfl rfl ⟨⟨Nat.le_of_ble_eq_true rfl, Nat.le_of_ble_eq_true rfl⟩, Nat.le_of_ble_eq_true rfl, Nat.le_of_ble_eq_true rfl⟩ (Nat.le_of_ble_eq_true rfl) rfl rfl (fun r4 h4 _ => ?_)
        exact j_retI (h0 := h4) (r := 0) rfl rfl rfl dX6_addPoint_50 rfl ⟨Nat.le_refl _, Nat.le_refl _⟩ rfl
    · refine j_bipush (x := (-2)) dX6_addPoint_24 (by decide) (by decide) ?_
      exact j_retI (h0 := h2) (r := 0) rfl rfl rfl dX6_addPoint_26 rfl ⟨Nat.le_refl _, Nat.le_refl _⟩ rfl

set_option maxRecDepth 100000 in
set_option maxHeartbeats 4000000 in
theorem jb_mo_goes_100 {lay : List LK} {th : Nat} {p1 : Int} {k48 : Int → Hp → O Unit} (hs : sub lay th blkModel) (hk48 : ∀ (x2 : Int) (h : Hp), J mi_mo_goes encV (Same lay) lay 0 0 48 [(0, vr th), (1, vi p1), (2, vi x2)] [] h (k48 x2 h)) (x2 s0 s1 s2 : Int) (h : Hp) : J mi_mo_goes encV (Same lay) lay 0 0 100 [(0, vr th), (1, vi p1), (2, vi x2)] [vi s0, vi s1, vi s2, vr th] h (mo_goes_b100 th p1 k48 x2 s0 s1 s2 h) := by
  unfold mo_goes_b100
  refine j_cV (stk := []) [vi s2, vi s1, vi s0] th dX6_goes_100 mv_mo_sets lm_X6_64 (sub_k hs 0 rfl rfl) zc_6 (ct_mo_sets hs h) rfl rfl ⟨⟨Nat.le_of_ble_eq_true rfl, Nat.le_of_ble_eq_true rfl⟩, Nat.le_of_ble_eq_true rfl, Nat.le_of_ble_eq_true rfl⟩ (Nat.le_of_ble_eq_true rfl) rfl rfl (fun _ h1 _ => ?_)
  refine j_iinc 2 (lv' := [(2, vi (x2 + 1)), (0, vr th), (1, vi p1)]) dX6_goes_103 rfl (by decide) rfl ?_
  refine j_goto (tgt := 48) dX6_goes_106 (by decide) ?_
  refine j_sub [1, 2, 0] rfl ?_
  exact hk48 _ _

set_option maxRecDepth 100000 in
set_option maxHeartbeats 4000000 in
theorem jl_mo_goes_48 {lay : List LK} {th : Nat} {p1 : Int}  (hs : sub lay th blkModel)  : ∀ (n : Nat) (x2 : Int) (h : Hp), J mi_mo_goes encV (Same lay) lay 0 0 48 [(0, vr th), (1, vi p1), (2, vi x2)] [] h (iter1 (mo_goes_f48 th p1) n x2 h) := by
  refine j_iter1 (lf := fun x2 => [(0, vr th), (1, vi p1), (2, vi x2)]) (fun k48 hk48 x2 h => ?_)
  unfold mo_goes_f48
  refine j_iload_n 2 dX6_goes_48 rfl ?_
  refine j_iconst (x := 2) dX6_goes_49 rfl (by decide) ?_
  refine j_aload_n 0 dX6_goes_50 rfl ?_
  refine j_getR 0 1 0 dX6_goes_51 zc_6 rfl (sub_k hs 0 rfl rfl) (by decide) lk_X6_7 rfl (by decide) (rfl : th + 1 = (th + 1)) ?_
  refine j_bipush (x := 13) dX6_goes_54 (by decide) (by decide) ?_
  refine j_iald dX6_goes_56 (sub_k hs 1 rfl rfl) rfl ?_
  refine j_imul dX6_goes_57 ?_
  refine j_icmp_ge (tgt := 109) dX6_goes_58 (by decide) ?_ ?_
  · refine j_aload_n 0 dX6_goes_61 rfl ?_
    refine j_iload_n 2 dX6_goes_62 rfl ?_
    refine j_iconst (x := 2) dX6_goes_63 rfl (by decide) ?_
    refine j_idiv dX6_goes_64 ?_
    refine j_iload_n 2 dX6_goes_65 rfl ?_
    refine j_iconst (x := 2) dX6_goes_66 rfl (by decide) ?_
    refine j_irem dX6_goes_67 ?_
    refine j_cV (stk := []) [vi (x2 / 2), vi (x2 % 2)] th dX6_goes_68 mv_mo_of lm_X6_50 (sub_k hs 0 rfl rfl) zc_6 (ct_mo_of hs h) rfl rfl ⟨⟨Nat.le_of_ble_eq_true rfl, Nat.le_of_ble_eq_true rfl⟩, Nat.le_of_ble_eq_true rfl, Nat.le_of_ble_eq_true rfl⟩ (Nat.le_of_ble_eq_true rfl) rfl rfl (fun r1 h1 _ => ?_)
    refine j_istore_n (lv' := [(3, vi r1), (0, vr th), (1, vi p1), (2, vi x2)]) dX6_goes_71 (by decide) rfl ?_
    refine j_aload_n 1 dX6_goes_72 rfl ?_
    refine j_iload_n 3 dX6_goes_73 rfl ?_
    refine j_iconst (x := 2) dX6_goes_74 rfl (by decide) ?_
    refine j_idiv dX6_goes_75 ?_
    refine j_iload_n 3 dX6_goes_76 rfl ?_
    refine j_iconst (x := 2) dX6_goes_77 rfl (by decide) ?_
    refine j_irem dX6_goes_78 ?_
    refine j_iload_n 0 dX6_goes_79 rfl ?_
    refine j_iload_n 2 dX6_goes_80 rfl ?_
    refine j_icmp_ne (tgt := 88) dX6_goes_81 (by decide) ?_ ?_
    · refine j_iconst (x := (-1)) dX6_goes_84 rfl (by decide) ?_
      refine j_goto (tgt := 100) dX6_goes_85 (by decide) ?_
      refine j_sub [1, 2, 3] rfl ?_
      exact jb_mo_goes_100 hs hk48 _ _ _ _ _
    · refine j_iload_n 0 dX6_goes_88 rfl ?_
      refine j_iload_n 2 dX6_goes_89 rfl ?_
      refine j_icmp_le (tgt := 99) dX6_goes_90 (by decide) ?_ ?_
      · refine j_iload_n 0 dX6_goes_93 rfl ?_
        refine j_iconst (x := 1) dX6_goes_94 rfl (by decide) ?_
        refine j_isub dX6_goes_95 ?_
        refine j_goto (tgt := 100) dX6_goes_96 (by decide) ?_
        refine j_sub [1, 2, 3] rfl ?_
        exact jb_mo_goes_100 hs hk48 _ _ _ _ _
      · refine j_iload_n 0 dX6_goes_99 rfl ?_
        refine j_sub [1, 2, 3] rfl ?_
        exact jb_mo_goes_100 hs hk48 _ _ _ _ _
  · exact j_retV rfl rfl rfl dX6_goes_109 rfl ⟨Nat.le_refl _, Nat.le_refl _⟩ rfl

set_option maxRecDepth 100000 in
set_option maxHeartbeats 4000000 in
theorem jl_mo_goes_12 {lay : List LK} {th : Nat} {p1 : Int}  (hs : sub lay th blkModel)  : ∀ (n : Nat) (x2 : Int) (h : Hp), J mi_mo_goes encV (Same lay) lay 0 0 12 [(0, vr th), (1, vi p1), (2, vi x2)] [] h (iter1 (mo_goes_f12 th p1) n x2 h) := by
  refine j_iter1 (lf := fun x2 => [(0, vr th), (1, vi p1), (2, vi x2)]) (fun k12 hk12 x2 h => ?_)
  unfold mo_goes_f12
  refine j_iload_n 2 dX6_goes_12 rfl ?_
  refine j_aload_n 0 dX6_goes_13 rfl ?_
  refine j_getR 0 1 0 dX6_goes_14 zc_6 rfl (sub_k hs 0 rfl rfl) (by decide) lk_X6_7 rfl (by decide) (rfl : th + 1 = (th + 1)) ?_
  refine j_iconst (x := 0) dX6_goes_17 rfl (by decide) ?_
  refine j_iald dX6_goes_18 (sub_k hs 1 rfl rfl) rfl ?_
  refine j_icmp_ge (tgt := 46) dX6_goes_19 (by decide) ?_ ?_
  · refine j_aload_n 0 dX6_goes_22 rfl ?_
    refine j_getR 0 1 0 dX6_goes_23 zc_6 rfl (sub_k hs 0 rfl rfl) (by decide) lk_X6_7 rfl (by decide) (rfl : th + 1 = (th + 1)) ?_
    refine j_iconst (x := 1) dX6_goes_26 rfl (by decide) ?_
    refine j_iload_n 2 dX6_goes_27 rfl ?_
    refine j_iadd dX6_goes_28 ?_
    refine j_aload_n 0 dX6_goes_29 rfl ?_
    refine j_getR 0 1 0 dX6_goes_30 zc_6 rfl (sub_k hs 0 rfl rfl) (by decide) lk_X6_7 rfl (by decide) (rfl : th + 1 = (th + 1)) ?_
    refine j_iconst (x := 1) dX6_goes_33 rfl (by decide) ?_
    refine j_iload_n 2 dX6_goes_34 rfl ?_
    refine j_iadd dX6_goes_35 ?_
    refine j_iconst (x := 1) dX6_goes_36 rfl (by decide) ?_
    refine j_iadd dX6_goes_37 ?_
    refine j_iald dX6_goes_38 (sub_k hs 1 rfl rfl) rfl ?_
    refine j_iast dX6_goes_39 (sub_k hs 1 rfl rfl) rfl (fun h1 _ => ?_)
    refine j_iinc 2 (lv' := [(2, vi (x2 + 1)), (0, vr th), (1, vi p1)]) dX6_goes_40 rfl (by decide) rfl ?_
    refine j_goto (tgt := 12) dX6_goes_43 (by decide) ?_
    refine j_sub [1, 2, 0] rfl ?_
    exact hk12 _ _
  · refine j_iconst (x := 0) dX6_goes_46 rfl (by decide) ?_
    refine j_istore_n (lv' := [(2, vi 0), (0, vr th), (1, vi p1)]) dX6_goes_47 (by decide) rfl ?_
    refine j_sub [1, 2, 0] rfl ?_
    exact jl_mo_goes_48 hs fuel _ _

set_option maxRecDepth 100000 in
set_option maxHeartbeats 4000000 in
theorem ct_mo_goes {lay : List LK} {th : Nat} {p1 : Int} (hs : sub lay th blkModel) (h : Hp) : CT mi_mo_goes encV (Same lay) lay [vr th, vi p1] h (mo_goes th p1 h) := by
  refine CT.of (by decide) rfl (Nat.le_of_ble_eq_true rfl) ?_
  show J mi_mo_goes encV (Same lay) lay 0 0 0 [(0, vr th), (1, vi p1)] [] h _
  unfold mo_goes
  refine j_aload_n 0 dX6_goes_0 rfl ?_
  refine j_getR 0 1 0 dX6_goes_1 zc_6 rfl (sub_k hs 0 rfl rfl) (by decide) lk_X6_7 rfl (by decide) (rfl : th + 1 = (th + 1)) ?_
  refine j_iconst (x := 0) dX6_goes_4 rfl (by decide) ?_
  refine j_dup2 dX6_goes_5 (fun _ _ => rfl) (fun _ _ => rfl) ?_
  refine j_iald dX6_goes_6 (sub_k hs 1 rfl rfl) rfl ?_
  refine j_iconst (x := 1) dX6_goes_7 rfl (by decide) ?_
  refine j_isub dX6_goes_8 ?_
  refine j_iast dX6_goes_9 (sub_k hs 1 rfl rfl) rfl (fun h1 _ => ?_)
  refine j_iload_n 1 dX6_goes_10 rfl ?_
  refine j_istore_n (lv' := [(2, vi p1), (0, vr th), (1, vi p1)]) dX6_goes_11 (by decide) rfl ?_
  refine j_sub [1, 2, 0] rfl ?_
  exact jl_mo_goes_12 hs fuel _ _

set_option maxRecDepth 100000 in
set_option maxHeartbeats 4000000 in
theorem jb_mo_movePoint_162 {lay : List LK} {th : Nat} {p1 : Int} {p2 : Int} {k61 : Int → Int → Hp → O Int} (hs : sub lay th blkModel) (hk61 : ∀ (x4 x5 : Int) (h : Hp), J mi_mo_movePoint encI (Same lay) lay 0 0 61 [(0, vr th), (4, vi x4), (5, vi x5)] [] h (k61 x4 x5 h)) (x4 x5 s0 s1 s2 : Int) (h : Hp) : J mi_mo_movePoint encI (Same lay) lay 0 0 162 [(0, vr th), (4, vi x4), (5, vi x5)] [vi s0, vi s1, vi s2, vr th] h (mo_movePoint_b162 th p1 p2 k61 x4 x5 s0 s1 s2 h) := by
  unfold mo_movePoint_b162
  refine j_cV (stk := []) [vi s2, vi s1, vi s0] th dX6_movePoint_162 mv_mo_sets lm_X6_64 (sub_k hs 0 rfl rfl) zc_6 (ct_mo_sets hs h) rfl rfl ⟨⟨Nat.le_of_ble_eq_true rfl, Nat.le_of_ble_eq_true rfl⟩, Nat.le_of_ble_eq_true rfl, Nat.le_of_ble_eq_true rfl⟩ (Nat.le_of_ble_eq_true rfl) rfl rfl (fun _ h1 _ => ?_)
  refine j_iinc 2 (lv' := [(5, vi (x5 + 1)), (0, vr th), (4, vi x4)]) dX6_movePoint_165 rfl (by decide) rfl ?_
  refine j_goto (tgt := 61) dX6_movePoint_168 (by decide) ?_
  refine j_sub [1, 2, 0] rfl ?_
  exact hk61 _ _ _

set_option maxRecDepth 100000 in
set_option maxHeartbeats 4000000 in
theorem jb_mo_movePoint_141 {lay : List LK} {th : Nat} {p1 : Int} {p2 : Int} {k61 : Int → Int → Hp → O Int} (hs : sub lay th blkModel) (hk61 : ∀ (x4 x5 : Int) (h : Hp), J mi_mo_movePoint encI (Same lay) lay 0 0 61 [(0, vr th), (4, vi x4), (5, vi x5)] [] h (k61 x4 x5 h)) (x4 x5 x6 x7 s0 s1 s2 : Int) (h : Hp) : J mi_mo_movePoint encI (Same lay) lay 0 0 141 [(0, vr th), (4, vi x4), (5, vi x5), (6, vi x6), (7, vi x7)] [vi s0, vi s1, vi s2, vr th] h (mo_movePoint_b141 th p1 p2 k61 x4 x5 x6 x7 s0 s1 s2 h) := by
  unfold mo_movePoint_b141
  refine j_cV (stk := []) [vi s2, vi s1, vi s0] th dX6_movePoint_141 mv_mo_sets lm_X6_64 (sub_k hs 0 rfl rfl) zc_6 (ct_mo_sets hs h) rfl rfl ⟨⟨Nat.le_of_ble_eq_true rfl, Nat.le_of_ble_eq_true rfl⟩, Nat.le_of_ble_eq_true rfl, Nat.le_of_ble_eq_true rfl⟩ (Nat.le_of_ble_eq_true rfl) rfl rfl (fun _ h1 _ => ?_)
  refine j_aload_n 0 dX6_movePoint_144 rfl ?_
  refine j_iload 2 dX6_movePoint_145 rfl ?_
  refine j_iconst (x := 1) dX6_movePoint_147 rfl (by decide) ?_
  refine j_iload 3 dX6_movePoint_148 rfl ?_
  refine j_iload 4 dX6_movePoint_150 rfl ?_
  refine j_icmp_ge (tgt := 160) dX6_movePoint_152 (by decide) ?_ ?_
  · refine j_iload 4 dX6_movePoint_155 rfl ?_
    refine j_goto (tgt := 162) dX6_movePoint_157 (by decide) ?_
    refine j_sub [0, 1, 2] rfl ?_
    exact jb_mo_movePoint_162 hs hk61 _ _ _ _ _ _
  · refine j_iload 3 dX6_movePoint_160 rfl ?_
    refine j_sub [0, 1, 2] rfl ?_
    exact jb_mo_movePoint_162 hs hk61 _ _ _ _ _ _

set_option maxRecDepth 100000 in
set_option maxHeartbeats 4000000 in
theorem jb_mo_movePoint_121 {lay : List LK} {th : Nat} {p1 : Int} {p2 : Int} {k61 : Int → Int → Hp → O Int} (hs : sub lay th blkModel) (hk61 : ∀ (x4 x5 : Int) (h : Hp), J mi_mo_movePoint encI (Same lay) lay 0 0 61 [(0, vr th), (4, vi x4), (5, vi x5)] [] h (k61 x4 x5 h)) (x4 x5 x6 s0 : Int) (h : Hp) : J mi_mo_movePoint encI (Same lay) lay 0 0 121 [(0, vr th), (4, vi x4), (5, vi x5), (6, vi x6)] [vi s0] h (mo_movePoint_b121 th p1 p2 k61 x4 x5 x6 s0 h) := by
  unfold mo_movePoint_b121
  refine j_istore (lv' := [(7, vi s0), (0, vr th), (4, vi x4), (5, vi x5), (6, vi x6)]) dX6_movePoint_121 (by decide) rfl ?_
  refine j_aload_n 1 dX6_movePoint_123 rfl ?_
  refine j_iload 3 dX6_movePoint_124 rfl ?_
  refine j_iconst (x := 0) dX6_movePoint_126 rfl (by decide) ?_
  refine j_iload 4 dX6_movePoint_127 rfl ?_
  refine j_iload 0 dX6_movePoint_129 rfl ?_
  refine j_icmp_ge (tgt := 139) dX6_movePoint_131 (by decide) ?_ ?_
  · refine j_iload 4 dX6_movePoint_134 rfl ?_
    refine j_goto (tgt := 141) dX6_movePoint_136 (by decide) ?_
    refine j_sub [1, 2, 3, 4, 0] rfl ?_
    exact jb_mo_movePoint_141 hs hk61 _ _ _ _ _ _ _ _
  · refine j_iload 0 dX6_movePoint_139 rfl ?_
    refine j_sub [1, 2, 3, 4, 0] rfl ?_
    exact jb_mo_movePoint_141 hs hk61 _ _ _ _ _ _ _ _

set_option maxRecDepth 100000 in
set_option maxHeartbeats 4000000 in
theorem jb_mo_movePoint_96 {lay : List LK} {th : Nat} {p1 : Int} {p2 : Int} {k61 : Int → Int → Hp → O Int} (hs : sub lay th blkModel) (hk61 : ∀ (x4 x5 : Int) (h : Hp), J mi_mo_movePoint encI (Same lay) lay 0 0 61 [(0, vr th), (4, vi x4), (5, vi x5)] [] h (k61 x4 x5 h)) (x4 x5 s0 : Int) (h : Hp) : J mi_mo_movePoint encI (Same lay) lay 0 0 96 [(0, vr th), (4, vi x4), (5, vi x5)] [vi s0] h (mo_movePoint_b96 th p1 p2 k61 x4 x5 s0 h) := by
  unfold mo_movePoint_b96
  refine j_istore (lv' := [(6, vi s0), (0, vr th), (4, vi x4), (5, vi x5)]) dX6_movePoint_96 (by decide) rfl ?_
  refine j_aload_n 1 dX6_movePoint_98 rfl ?_
  refine j_iload 3 dX6_movePoint_99 rfl ?_
  refine j_iconst (x := 1) dX6_movePoint_101 rfl (by decide) ?_
  refine j_cV (stk := []) [vi x5, vi 1] th dX6_movePoint_102 mv_mo_of lm_X6_50 (sub_k hs 0 rfl rfl) zc_6 (ct_mo_of hs h) rfl rfl ⟨⟨Nat.le_of_ble_eq_true rfl, Nat.le_of_ble_eq_true rfl⟩, Nat.le_of_ble_eq_true rfl, Nat.le_of_ble_eq_true rfl⟩ (Nat.le_of_ble_eq_true rfl) rfl rfl (fun r1 h1 _ => ?_)
  refine j_iconst (x := (-1)) dX6_movePoint_105 rfl (by decide) ?_
  refine j_icmp_ne (tgt := 114) dX6_movePoint_106 (by decide) ?_ ?_
  · refine j_iload 2 dX6_movePoint_109 rfl ?_
    refine j_goto (tgt := 121) dX6_movePoint_111 (by decide) ?_
    refine j_sub [1, 2, 3, 0] rfl ?_
    exact jb_mo_movePoint_121 hs hk61 _ _ _ _ _
  · refine j_aload_n 1 dX6_movePoint_114 rfl ?_
    refine j_iload 3 dX6_movePoint_115 rfl ?_
    refine j_iconst (x := 1) dX6_movePoint_117 rfl (by decide) ?_
    refine j_cV (stk := []) [vi x5, vi 1] th dX6_movePoint_118 mv_mo_of lm_X6_50 (sub_k hs 0 rfl rfl) zc_6 (ct_mo_of hs h1) rfl rfl ⟨⟨Nat.le_of_ble_eq_true rfl, Nat.le_of_ble_eq_true rfl⟩, Nat.le_of_ble_eq_true rfl, Nat.le_of_ble_eq_true rfl⟩ (Nat.le_of_ble_eq_true rfl) rfl rfl (fun r2 h2 _ => ?_)
    refine j_sub [1, 2, 3, 0] rfl ?_
    exact jb_mo_movePoint_121 hs hk61 _ _ _ _ _

set_option maxRecDepth 100000 in
set_option maxHeartbeats 4000000 in
theorem jl_mo_movePoint_61 {lay : List LK} {th : Nat} {p1 : Int} {p2 : Int}  (hs : sub lay th blkModel)  : ∀ (n : Nat) (x4 x5 : Int) (h : Hp), J mi_mo_movePoint encI (Same lay) lay 0 0 61 [(0, vr th), (4, vi x4), (5, vi x5)] [] h (iter2 (mo_movePoint_f61 th p1 p2) n x4 x5 h) := by
  refine j_iter2 (lf := fun x4 x5 => [(0, vr th), (4, vi x4), (5, vi x5)]) (fun k61 hk61 x4 x5 h => ?_)
  unfold mo_movePoint_f61
  refine j_iload 2 dX6_movePoint_61 rfl ?_
  refine j_aload_n 0 dX6_movePoint_63 rfl ?_
  refine j_getR 0 1 0 dX6_movePoint_64 zc_6 rfl (sub_k hs 0 rfl rfl) (by decide) lk_X6_7 rfl (by decide) (rfl : th + 1 = (th + 1)) ?_
  refine j_bipush (x := 13) dX6_movePoint_67 (by decide) (by decide) ?_
  refine j_iald dX6_movePoint_69 (sub_k hs 1 rfl rfl) rfl ?_
  refine j_icmp_ge (tgt := 171) dX6_movePoint_70 (by decide) ?_ ?_
  · refine j_aload_n 0 dX6_movePoint_73 rfl ?_
    refine j_iload 2 dX6_movePoint_74 rfl ?_
    refine j_iconst (x := 0) dX6_movePoint_76 rfl (by decide) ?_
    refine j_cV (stk := []) [vi x5, vi 0] th dX6_movePoint_77 mv_mo_of lm_X6_50 (sub_k hs 0 rfl rfl) zc_6 (ct_mo_of hs h) rfl rfl ⟨⟨Nat.le_of_ble_eq_true rfl, Nat.le_of_ble_eq_true rfl⟩, Nat.le_of_ble_eq_true rfl, Nat.le_of_ble_eq_true rfl⟩ (Nat.le_of_ble_eq_true rfl) rfl rfl (fun r1 h1 _ => ?_)
    refine j_iconst (x := (-1)) dX6_movePoint_80 rfl (by decide) ?_
    refine j_icmp_ne (tgt := 89) dX6_movePoint_81 (by decide) ?_ ?_
    · refine j_iload 1 dX6_movePoint_84 rfl ?_
      refine j_goto (tgt := 96) dX6_movePoint_86 (by decide) ?_
      exact jb_mo_movePoint_96 hs hk61 _ _ _ _
    · refine j_aload_n 0 dX6_movePoint_89 rfl ?_
      refine j_iload 2 dX6_movePoint_90 rfl ?_
      refine j_iconst (x := 0) dX6_movePoint_92 rfl (by decide) ?_
      refine j_cV (stk := []) [vi x5, vi 0] th dX6_movePoint_93 mv_mo_of lm_X6_50 (sub_k hs 0 rfl rfl) zc_6 (ct_mo_of hs h1) rfl rfl ⟨⟨Nat.le_of_ble_eq_true rfl, Nat.le_of_ble_eq_true rfl⟩, Nat.le_of_ble_eq_true rfl, Nat.le_of_ble_eq_true rfl⟩ (Nat.le_of_ble_eq_true rfl) rfl rfl (fun r2 h2 _ => ?_)
      exact jb_mo_movePoint_96 hs hk61 _ _ _ _
  · refine j_iload 1 dX6_movePoint_171 rfl ?_
    exact j_retI (h0 := h) (r := 0) rfl rfl rfl dX6_movePoint_173 rfl ⟨Nat.le_refl _, Nat.le_refl _⟩ rfl

set_option maxRecDepth 100000 in
set_option maxHeartbeats 4000000 in
theorem jb_mo_movePoint_42 {lay : List LK} {th : Nat} {p1 : Int} {p2 : Int}  (hs : sub lay th blkModel)  (h : Hp) : J mi_mo_movePoint encI (Same lay) lay 0 0 42 [(0, vr th), (1, vi p1), (2, vi p2)] [] h (mo_movePoint_b42 th p1 p2 h) := by
  unfold mo_movePoint_b42
  refine j_aload_n 0 dX6_movePoint_42 rfl ?_
  refine j_cV (stk := []) [] th dX6_movePoint_43 mv_mo_records lm_X6_71 (sub_k hs 0 rfl rfl) zc_6 (ct_mo_records hs h) rfl rfl ⟨⟨Nat.le_of_ble_eq_true rfl, Nat.le_of_ble_eq_true rfl⟩, Nat.le_of_ble_eq_true rfl, Nat.le_of_ble_eq_true rfl⟩ (Nat.le_of_ble_eq_true rfl) rfl rfl (fun _ h1 _ => ?_)
  refine j_aload_n 0 dX6_movePoint_46 rfl ?_
  refine j_iload_n 1 dX6_movePoint_47 rfl ?_
  refine j_cV (stk := []) [vi p1] th dX6_movePoint_48 mv_mo_goes lm_X6_81 (sub_k hs 0 rfl rfl) zc_6 (ct_mo_goes hs h1) rfl rfl ⟨⟨Nat.le_of_ble_eq_true rfl, Nat.le_of_ble_eq_true rfl⟩, Nat.le_of_ble_eq_true rfl, Nat.le_of_ble_eq_true rfl⟩ (Nat.le_of_ble_eq_true rfl) rfl rfl (fun _ h2 _ => ?_)
  refine j_aload_n 0 dX6_movePoint_51 rfl ?_
  refine j_iload_n 2 dX6_movePoint_52 rfl ?_
  refine j_cV (stk := []) [vi p2] th dX6_movePoint_53 mv_mo_comes lm_X6_74 (sub_k hs 0 rfl rfl) zc_6 (ct_mo_comes hs h2) rfl rfl ⟨⟨Nat.le_of_ble_eq_true rfl, Nat.le_of_ble_eq_true rfl⟩, Nat.le_of_ble_eq_true rfl, Nat.le_of_ble_eq_true rfl⟩ (Nat.le_of_ble_eq_true rfl) rfl rfl (fun r3 h3 _ => ?_)
  refine j_istore (lv' := [(4, vi r3), (0, vr th), (1, vi p1), (2, vi p2)]) dX6_movePoint_56 (by decide) rfl ?_
  refine j_iconst (x := 0) dX6_movePoint_58 rfl (by decide) ?_
  refine j_istore (lv' := [(5, vi 0), (4, vi r3), (0, vr th), (1, vi p1), (2, vi p2)]) dX6_movePoint_59 (by decide) rfl ?_
  refine j_sub [2, 1, 0] rfl ?_
  exact jl_mo_movePoint_61 hs fuel _ _ _

set_option maxRecDepth 100000 in
set_option maxHeartbeats 4000000 in
theorem jb_mo_movePoint_19 {lay : List LK} {th : Nat} {p1 : Int} {p2 : Int}  (hs : sub lay th blkModel)  (h : Hp) : J mi_mo_movePoint encI (Same lay) lay 0 0 19 [] [] h (mo_movePoint_b19 th p1 p2 h) := by
  unfold mo_movePoint_b19
  refine j_iconst (x := (-1)) dX6_movePoint_19 rfl (by decide) ?_
  exact j_retI (h0 := h) (r := 0) rfl rfl rfl dX6_movePoint_20 rfl ⟨Nat.le_refl _, Nat.le_refl _⟩ rfl

set_option maxRecDepth 100000 in
set_option maxHeartbeats 4000000 in
theorem ct_mo_movePoint {lay : List LK} {th : Nat} {p1 : Int} {p2 : Int} (hs : sub lay th blkModel) (h : Hp) : CT mi_mo_movePoint encI (Same lay) lay [vr th, vi p1, vi p2] h (mo_movePoint th p1 p2 h) := by
  refine CT.of (by decide) rfl (Nat.le_of_ble_eq_true rfl) ?_
  show J mi_mo_movePoint encI (Same lay) lay 0 0 0 [(0, vr th), (1, vi p1), (2, vi p2)] [] h _
  unfold mo_movePoint
  refine j_aload_n 0 dX6_movePoint_0 rfl ?_
  refine j_iload_n 1 dX6_movePoint_1 rfl ?_
  refine j_cV (stk := []) [vi p1] th dX6_movePoint_2 mv_mo_isPoint lm_X6_77 (sub_k hs 0 rfl rfl) zc_6 (ct_mo_isPoint hs h) rfl rfl ⟨⟨Nat.le_of_ble_eq_true rfl, Nat.le_of_ble_eq_true rfl⟩, Nat.le_of_ble_eq_true rfl, Nat.le_of_ble_eq_true rfl⟩ (Nat.le_of_ble_eq_true rfl) rfl rfl (fun r1 h1 _ => ?_)
  refine j_if_eq (tgt := 19) dX6_movePoint_5 (by decide) ?_ ?_
  · refine j_sub [] rfl ?_
    exact jb_mo_movePoint_19 hs _
  · refine j_iload_n 2 dX6_movePoint_8 rfl ?_
    refine j_iconst (x := 0) dX6_movePoint_9 rfl (by decide) ?_
    refine j_sipush (x := 300) dX6_movePoint_10 (by decide) (by decide) ?_
    refine j_cS (stk := []) [vi p2, vi 0, vi 300] dX6_movePoint_13 mv_mo_in lm_X6_46 (ct_mo_in h1) rfl rfl ⟨⟨Nat.le_of_ble_eq_true rfl, Nat.le_of_ble_eq_true rfl⟩, Nat.le_of_ble_eq_true rfl, Nat.le_of_ble_eq_true rfl⟩ (Nat.le_of_ble_eq_true rfl) rfl rfl (fun r2 h2 _ => ?_)
    refine j_if_ne (tgt := 21) dX6_movePoint_16 (by decide) ?_ ?_
    · refine j_sub [] rfl ?_
      exact jb_mo_movePoint_19 hs _
    · refine j_aload_n 0 dX6_movePoint_21 rfl ?_
      refine j_iload_n 2 dX6_movePoint_22 rfl ?_
      refine j_cV (stk := []) [vi p2] th dX6_movePoint_23 mv_mo_pointWith lm_X6_68 (sub_k hs 0 rfl rfl) zc_6 (ct_mo_pointWith hs h2) rfl rfl ⟨⟨Nat.le_of_ble_eq_true rfl, Nat.le_of_ble_eq_true rfl⟩, Nat.le_of_ble_eq_true rfl, Nat.le_of_ble_eq_true rfl⟩ (Nat.le_of_ble_eq_true rfl) rfl rfl (fun r3 h3 _ => ?_)
      refine j_istore_n (lv' := [(3, vi r3), (0, vr th), (1, vi p1), (2, vi p2)]) dX6_movePoint_26 (by decide) rfl ?_
      refine j_iload_n 0 dX6_movePoint_27 rfl ?_
      refine j_sipush (x := (-999)) dX6_movePoint_28 (by decide) (by decide) ?_
      refine j_icmp_eq (tgt := 42) dX6_movePoint_31 (by decide) ?_ ?_
      · refine j_sub [1, 2, 3] rfl ?_
        exact jb_mo_movePoint_42 hs _
      · refine j_iload_n 0 dX6_movePoint_34 rfl ?_
        refine j_iload_n 2 dX6_movePoint_35 rfl ?_
        refine j_icmp_eq (tgt := 42) dX6_movePoint_36 (by decide) ?_ ?_
        · refine j_sub [1, 2, 3] rfl ?_
          exact jb_mo_movePoint_42 hs _
        · refine j_bipush (x := (-2)) dX6_movePoint_39 (by decide) (by decide) ?_
          exact j_retI (h0 := h3) (r := 0) rfl rfl rfl dX6_movePoint_41 rfl ⟨Nat.le_refl _, Nat.le_refl _⟩ rfl

set_option maxRecDepth 100000 in
set_option maxHeartbeats 4000000 in
theorem jb_mo_ends_41 {lay : List LK} {th : Nat} {p1 : Int} {k4 : Int → Int → Hp → O Int} (hs : sub lay th blkModel) (hk4 : ∀ (x2 x3 : Int) (h : Hp), J mi_mo_ends encI (Same lay) lay 0 0 4 [(0, vr th), (1, vi p1), (2, vi x2), (3, vi x3)] [] h (k4 x2 x3 h)) (x3 s0 s1 : Int) (h : Hp) : J mi_mo_ends encI (Same lay) lay 0 0 41 [(0, vr th), (1, vi p1), (3, vi x3)] [vi s0, vi s1] h (mo_ends_b41 th p1 k4 x3 s0 s1 h) := by
  unfold mo_ends_b41
  refine j_iadd dX6_ends_41 ?_
  refine j_istore_n (lv' := [(2, vi (s1 + s0)), (0, vr th), (1, vi p1), (3, vi x3)]) dX6_ends_42 (by decide) rfl ?_
  refine j_iinc 3 (lv' := [(3, vi (x3 + 1)), (2, vi (s1 + s0)), (0, vr th), (1, vi p1)]) dX6_ends_43 rfl (by decide) rfl ?_
  refine j_goto (tgt := 4) dX6_ends_46 (by decide) ?_
  refine j_sub [2, 3, 1, 0] rfl ?_
  exact hk4 _ _ _

set_option maxRecDepth 100000 in
set_option maxHeartbeats 4000000 in
theorem jb_mo_ends_36 {lay : List LK} {th : Nat} {p1 : Int} {k4 : Int → Int → Hp → O Int} (hs : sub lay th blkModel) (hk4 : ∀ (x2 x3 : Int) (h : Hp), J mi_mo_ends encI (Same lay) lay 0 0 4 [(0, vr th), (1, vi p1), (2, vi x2), (3, vi x3)] [] h (k4 x2 x3 h)) (x3 s0 : Int) (h : Hp) : J mi_mo_ends encI (Same lay) lay 0 0 36 [(0, vr th), (1, vi p1), (3, vi x3)] [vi s0] h (mo_ends_b36 th p1 k4 x3 s0 h) := by
  unfold mo_ends_b36
  refine j_iconst (x := 1) dX6_ends_36 rfl (by decide) ?_
  refine j_goto (tgt := 41) dX6_ends_37 (by decide) ?_
  exact jb_mo_ends_41 hs hk4 _ _ _ _

set_option maxRecDepth 100000 in
set_option maxHeartbeats 4000000 in
theorem jl_mo_ends_4 {lay : List LK} {th : Nat} {p1 : Int}  (hs : sub lay th blkModel)  : ∀ (n : Nat) (x2 x3 : Int) (h : Hp), J mi_mo_ends encI (Same lay) lay 0 0 4 [(0, vr th), (1, vi p1), (2, vi x2), (3, vi x3)] [] h (iter2 (mo_ends_f4 th p1) n x2 x3 h) := by
  refine j_iter2 (lf := fun x2 x3 => [(0, vr th), (1, vi p1), (2, vi x2), (3, vi x3)]) (fun k4 hk4 x2 x3 h => ?_)
  unfold mo_ends_f4
  refine j_iload_n 3 dX6_ends_4 rfl ?_
  refine j_aload_n 0 dX6_ends_5 rfl ?_
  refine j_getR 0 1 0 dX6_ends_6 zc_6 rfl (sub_k hs 0 rfl rfl) (by decide) lk_X6_7 rfl (by decide) (rfl : th + 1 = (th + 1)) ?_
  refine j_bipush (x := 13) dX6_ends_9 (by decide) (by decide) ?_
  refine j_iald dX6_ends_11 (sub_k hs 1 rfl rfl) rfl ?_
  refine j_icmp_ge (tgt := 49) dX6_ends_12 (by decide) ?_ ?_
  · refine j_iload_n 2 dX6_ends_15 rfl ?_
    refine j_aload_n 0 dX6_ends_16 rfl ?_
    refine j_iload_n 3 dX6_ends_17 rfl ?_
    refine j_iconst (x := 0) dX6_ends_18 rfl (by decide) ?_
    refine j_cV (stk := [vi x2]) [vi x3, vi 0] th dX6_ends_19 mv_mo_of lm_X6_50 (sub_k hs 0 rfl rfl) zc_6 (ct_mo_of hs h) rfl rfl ⟨⟨Nat.le_of_ble_eq_true rfl, Nat.le_of_ble_eq_true rfl⟩, Nat.le_of_ble_eq_true rfl, Nat.le_of_ble_eq_true rfl⟩ (Nat.le_of_ble_eq_true rfl) rfl rfl (fun r1 h1 _ => ?_)
    refine j_iload_n 1 dX6_ends_22 rfl ?_
    refine j_icmp_eq (tgt := 36) dX6_ends_23 (by decide) ?_ ?_
    · refine j_sub [0, 1, 3] rfl ?_
      exact jb_mo_ends_36 hs hk4 _ _ _
    · refine j_aload_n 0 dX6_ends_26 rfl ?_
      refine j_iload_n 3 dX6_ends_27 rfl ?_
      refine j_iconst (x := 1) dX6_ends_28 rfl (by decide) ?_
      refine j_cV (stk := [vi x2]) [vi x3, vi 1] th dX6_ends_29 mv_mo_of lm_X6_50 (sub_k hs 0 rfl rfl) zc_6 (ct_mo_of hs h1) rfl rfl ⟨⟨Nat.le_of_ble_eq_true rfl, Nat.le_of_ble_eq_true rfl⟩, Nat.le_of_ble_eq_true rfl, Nat.le_of_ble_eq_true rfl⟩ (Nat.le_of_ble_eq_true rfl) rfl rfl (fun r2 h2 _ => ?_)
      refine j_iload_n 1 dX6_ends_32 rfl ?_
      refine j_icmp_ne (tgt := 40) dX6_ends_33 (by decide) ?_ ?_
      · refine j_sub [0, 1, 3] rfl ?_
        exact jb_mo_ends_36 hs hk4 _ _ _
      · refine j_iconst (x := 0) dX6_ends_40 rfl (by decide) ?_
        refine j_sub [0, 1, 3] rfl ?_
        exact jb_mo_ends_41 hs hk4 _ _ _ _
  · refine j_iload_n 2 dX6_ends_49 rfl ?_
    exact j_retI (h0 := h) (r := 0) rfl rfl rfl dX6_ends_50 rfl ⟨Nat.le_refl _, Nat.le_refl _⟩ rfl

set_option maxRecDepth 100000 in
set_option maxHeartbeats 4000000 in
theorem ct_mo_ends {lay : List LK} {th : Nat} {p1 : Int} (hs : sub lay th blkModel) (h : Hp) : CT mi_mo_ends encI (Same lay) lay [vr th, vi p1] h (mo_ends th p1 h) := by
  refine CT.of (by decide) rfl (Nat.le_of_ble_eq_true rfl) ?_
  show J mi_mo_ends encI (Same lay) lay 0 0 0 [(0, vr th), (1, vi p1)] [] h _
  unfold mo_ends
  refine j_iconst (x := 0) dX6_ends_0 rfl (by decide) ?_
  refine j_istore_n (lv' := [(2, vi 0), (0, vr th), (1, vi p1)]) dX6_ends_1 (by decide) rfl ?_
  refine j_iconst (x := 0) dX6_ends_2 rfl (by decide) ?_
  refine j_istore_n (lv' := [(3, vi 0), (2, vi 0), (0, vr th), (1, vi p1)]) dX6_ends_3 (by decide) rfl ?_
  refine j_sub [2, 3, 1, 0] rfl ?_
  exact jl_mo_ends_4 hs fuel _ _ _

set_option maxRecDepth 100000 in
set_option maxHeartbeats 4000000 in
theorem ct_mo_dropPoint {lay : List LK} {th : Nat} {p1 : Int} (hs : sub lay th blkModel) (h : Hp) : CT mi_mo_dropPoint encI (Same lay) lay [vr th, vi p1] h (mo_dropPoint th p1 h) := by
  refine CT.of (by decide) rfl (Nat.le_of_ble_eq_true rfl) ?_
  show J mi_mo_dropPoint encI (Same lay) lay 0 0 0 [(0, vr th), (1, vi p1)] [] h _
  unfold mo_dropPoint
  refine j_aload_n 0 dX6_dropPoint_0 rfl ?_
  refine j_iload_n 1 dX6_dropPoint_1 rfl ?_
  refine j_cV (stk := []) [vi p1] th dX6_dropPoint_2 mv_mo_isPoint lm_X6_77 (sub_k hs 0 rfl rfl) zc_6 (ct_mo_isPoint hs h) rfl rfl ⟨⟨Nat.le_of_ble_eq_true rfl, Nat.le_of_ble_eq_true rfl⟩, Nat.le_of_ble_eq_true rfl, Nat.le_of_ble_eq_true rfl⟩ (Nat.le_of_ble_eq_true rfl) rfl rfl (fun r1 h1 _ => ?_)
  refine j_if_ne (tgt := 10) dX6_dropPoint_5 (by decide) ?_ ?_
  · refine j_iconst (x := (-1)) dX6_dropPoint_8 rfl (by decide) ?_
    exact j_retI (h0 := h1) (r := 0) rfl rfl rfl dX6_dropPoint_9 rfl ⟨Nat.le_refl _, Nat.le_refl _⟩ rfl
  · refine j_aload_n 0 dX6_dropPoint_10 rfl ?_
    refine j_iload_n 1 dX6_dropPoint_11 rfl ?_
    refine j_cV (stk := []) [vi p1] th dX6_dropPoint_12 mv_mo_ends lm_X6_85 (sub_k hs 0 rfl rfl) zc_6 (ct_mo_ends hs h1) rfl rfl ⟨⟨Nat.le_of_ble_eq_true rfl, Nat.le_of_ble_eq_true rfl⟩, Nat.le_of_ble_eq_true rfl, Nat.le_of_ble_eq_true rfl⟩ (Nat.le_of_ble_eq_true rfl) rfl rfl (fun r2 h2 _ => ?_)
    refine j_if_le (tgt := 21) dX6_dropPoint_15 (by decide) ?_ ?_
    · refine j_bipush (x := (-2)) dX6_dropPoint_18 (by decide) (by decide) ?_
      exact j_retI (h0 := h2) (r := 0) rfl rfl rfl dX6_dropPoint_20 rfl ⟨Nat.le_refl _, Nat.le_refl _⟩ rfl
    · refine j_aload_n 0 dX6_dropPoint_21 rfl ?_
      refine j_cV (stk := []) [] th dX6_dropPoint_22 mv_mo_records lm_X6_71 (sub_k hs 0 rfl rfl) zc_6 (ct_mo_records hs h2) rfl rfl ⟨⟨Nat.le_of_ble_eq_true rfl, Nat.le_of_ble_eq_true rfl⟩, Nat.le_of_ble_eq_true rfl, Nat.le_of_ble_eq_true rfl⟩ (Nat.le_of_ble_eq_true rfl) rfl rfl (fun _ h3 _ => ?_)
      refine j_aload_n 0 dX6_dropPoint_25 rfl ?_
      refine j_iload_n 1 dX6_dropPoint_26 rfl ?_
      refine j_cV (stk := []) [vi p1] th dX6_dropPoint_27 mv_mo_goes lm_X6_81 (sub_k hs 0 rfl rfl) zc_6 (ct_mo_goes hs h3) rfl rfl ⟨⟨Nat.le_of_ble_eq_true rfl, Nat.le_of_ble_eq_true rfl⟩, Nat.le_of_ble_eq_true rfl, Nat.le_of_ble_eq_true rfl⟩ (Nat.le_of_ble_eq_true rfl) rfl rfl (fun _ h4 _ => ?_)
      refine j_aload_n 0 dX6_dropPoint_30 rfl ?_
      refine j_getR 0 1 0 dX6_dropPoint_31 zc_6 rfl (sub_k hs 0 rfl rfl) (by decide) lk_X6_7 rfl (by decide) (rfl : th + 1 = (th + 1)) ?_
      refine j_iconst (x := 0) dX6_dropPoint_34 rfl (by decide) ?_
      refine j_iald dX6_dropPoint_35 (sub_k hs 1 rfl rfl) rfl ?_
      exact j_retI (h0 := h4) (r := 0) rfl rfl rfl dX6_dropPoint_36 rfl ⟨Nat.le_refl _, Nat.le_refl _⟩ rfl

set_option maxRecDepth 100000 in
set_option maxHeartbeats 4000000 in
theorem ct_mo_lays {lay : List LK} {th : Nat} {p1 : Int} {p2 : Int} {p3 : Int} {p4 : Int} {p5 : Int} (hs : sub lay th blkModel) (h : Hp) : CT mi_mo_lays encV (Same lay) lay [vr th, vi p1, vi p2, vi p3, vi p4, vi p5] h (mo_lays th p1 p2 p3 p4 p5 h) := by
  refine CT.of (by decide) rfl (Nat.le_of_ble_eq_true rfl) ?_
  show J mi_mo_lays encV (Same lay) lay 0 0 0 [(0, vr th), (1, vi p1), (2, vi p2), (3, vi p3), (4, vi p4), (5, vi p5)] [] h _
  unfold mo_lays
  refine j_aload_n 0 dX6_lays_0 rfl ?_
  refine j_getR 0 1 0 dX6_lays_1 zc_6 rfl (sub_k hs 0 rfl rfl) (by decide) lk_X6_7 rfl (by decide) (rfl : th + 1 = (th + 1)) ?_
  refine j_bipush (x := 13) dX6_lays_4 (by decide) (by decide) ?_
  refine j_iald dX6_lays_6 (sub_k hs 1 rfl rfl) rfl ?_
  refine j_istore (lv' := [(6, vi (h (th + 1) 13)), (0, vr th), (1, vi p1), (2, vi p2), (3, vi p3), (4, vi p4), (5, vi p5)]) dX6_lays_7 (by decide) rfl ?_
  refine j_aload_n 1 dX6_lays_9 rfl ?_
  refine j_getR 0 1 0 dX6_lays_10 zc_6 rfl (sub_k hs 0 rfl rfl) (by decide) lk_X6_7 rfl (by decide) (rfl : th + 1 = (th + 1)) ?_
  refine j_bipush (x := 13) dX6_lays_13 (by decide) (by decide) ?_
  refine j_dup2 dX6_lays_15 (fun _ _ => rfl) (fun _ _ => rfl) ?_
  refine j_iald dX6_lays_16 (sub_k hs 1 rfl rfl) rfl ?_
  refine j_iconst (x := 1) dX6_lays_17 rfl (by decide) ?_
  refine j_iadd dX6_lays_18 ?_
  refine j_iast dX6_lays_19 (sub_k hs 1 rfl rfl) rfl (fun h1 _ => ?_)
  refine j_aload_n 1 dX6_lays_20 rfl ?_
  refine j_iload 0 dX6_lays_21 rfl ?_
  refine j_iconst (x := 0) dX6_lays_23 rfl (by decide) ?_
  refine j_iload_n 2 dX6_lays_24 rfl ?_
  refine j_cV (stk := []) [vi (h (th + 1) 13), vi 0, vi p1] th dX6_lays_25 mv_mo_sets lm_X6_64 (sub_k hs 0 rfl rfl) zc_6 (ct_mo_sets hs h1) rfl rfl ⟨⟨Nat.le_of_ble_eq_true rfl, Nat.le_of_ble_eq_true rfl⟩, Nat.le_of_ble_eq_true rfl, Nat.le_of_ble_eq_true rfl⟩ (Nat.le_of_ble_eq_true rfl) rfl rfl (fun _ h2 _ => ?_)
  refine j_aload_n 1 dX6_lays_28 rfl ?_
  refine j_iload 0 dX6_lays_29 rfl ?_
  refine j_iconst (x := 1) dX6_lays_31 rfl (by decide) ?_
  refine j_iload_n 3 dX6_lays_32 rfl ?_
  refine j_cV (stk := []) [vi (h (th + 1) 13), vi 1, vi p2] th dX6_lays_33 mv_mo_sets lm_X6_64 (sub_k hs 0 rfl rfl) zc_6 (ct_mo_sets hs h2) rfl rfl ⟨⟨Nat.le_of_ble_eq_true rfl, Nat.le_of_ble_eq_true rfl⟩, Nat.le_of_ble_eq_true rfl, Nat.le_of_ble_eq_true rfl⟩ (Nat.le_of_ble_eq_true rfl) rfl rfl (fun _ h3 _ => ?_)
  refine j_aload_n 1 dX6_lays_36 rfl ?_
  refine j_iload 0 dX6_lays_37 rfl ?_
  refine j_iconst (x := 2) dX6_lays_39 rfl (by decide) ?_
  refine j_iload_n 4 dX6_lays_40 rfl ?_
  refine j_cV (stk := []) [vi (h (th + 1) 13), vi 2, vi p3] th dX6_lays_41 mv_mo_sets lm_X6_64 (sub_k hs 0 rfl rfl) zc_6 (ct_mo_sets hs h3) rfl rfl ⟨⟨Nat.le_of_ble_eq_true rfl, Nat.le_of_ble_eq_true rfl⟩, Nat.le_of_ble_eq_true rfl, Nat.le_of_ble_eq_true rfl⟩ (Nat.le_of_ble_eq_true rfl) rfl rfl (fun _ h4 _ => ?_)
  refine j_aload_n 1 dX6_lays_44 rfl ?_
  refine j_iload 0 dX6_lays_45 rfl ?_
  refine j_iconst (x := 3) dX6_lays_47 rfl (by decide) ?_
  refine j_iload 5 dX6_lays_48 rfl ?_
  refine j_cV (stk := []) [vi (h (th + 1) 13), vi 3, vi p4] th dX6_lays_50 mv_mo_sets lm_X6_64 (sub_k hs 0 rfl rfl) zc_6 (ct_mo_sets hs h4) rfl rfl ⟨⟨Nat.le_of_ble_eq_true rfl, Nat.le_of_ble_eq_true rfl⟩, Nat.le_of_ble_eq_true rfl, Nat.le_of_ble_eq_true rfl⟩ (Nat.le_of_ble_eq_true rfl) rfl rfl (fun _ h5 _ => ?_)
  refine j_aload_n 1 dX6_lays_53 rfl ?_
  refine j_iload 0 dX6_lays_54 rfl ?_
  refine j_iconst (x := 4) dX6_lays_56 rfl (by decide) ?_
  refine j_iload 6 dX6_lays_57 rfl ?_
  refine j_cV (stk := []) [vi (h (th + 1) 13), vi 4, vi p5] th dX6_lays_59 mv_mo_sets lm_X6_64 (sub_k hs 0 rfl rfl) zc_6 (ct_mo_sets hs h5) rfl rfl ⟨⟨Nat.le_of_ble_eq_true rfl, Nat.le_of_ble_eq_true rfl⟩, Nat.le_of_ble_eq_true rfl, Nat.le_of_ble_eq_true rfl⟩ (Nat.le_of_ble_eq_true rfl) rfl rfl (fun _ h6 _ => ?_)
  refine j_aload_n 1 dX6_lays_62 rfl ?_
  refine j_iload 0 dX6_lays_63 rfl ?_
  refine j_iconst (x := 5) dX6_lays_65 rfl (by decide) ?_
  refine j_iconst (x := 0) dX6_lays_66 rfl (by decide) ?_
  refine j_cV (stk := []) [vi (h (th + 1) 13), vi 5, vi 0] th dX6_lays_67 mv_mo_sets lm_X6_64 (sub_k hs 0 rfl rfl) zc_6 (ct_mo_sets hs h6) rfl rfl ⟨⟨Nat.le_of_ble_eq_true rfl, Nat.le_of_ble_eq_true rfl⟩, Nat.le_of_ble_eq_true rfl, Nat.le_of_ble_eq_true rfl⟩ (Nat.le_of_ble_eq_true rfl) rfl rfl (fun _ h7 _ => ?_)
  exact j_retV rfl rfl rfl dX6_lays_70 rfl ⟨Nat.le_refl _, Nat.le_refl _⟩ rfl

set_option maxRecDepth 100000 in
set_option maxHeartbeats 4000000 in
theorem jb_mo_add_63 {lay : List LK} {th : Nat} {p1 : Int} {p2 : Int}  (hs : sub lay th blkModel)  (s0 s1 : Int) (h : Hp) : J mi_mo_add encI (Same lay) lay 0 0 63 [(0, vr th)] [vi s0, vi s1, vr th] h (mo_add_b63 th p1 p2 s0 s1 h) := by
  unfold mo_add_b63
  refine j_iconst (x := 0) dX6_add_63 rfl (by decide) ?_
  refine j_iconst (x := 0) dX6_add_64 rfl (by decide) ?_
  refine j_iconst (x := 0) dX6_add_65 rfl (by decide) ?_
  refine j_cV (stk := []) [vi s1, vi s0, vi 0, vi 0, vi 0] th dX6_add_66 mv_mo_lays lm_X6_88 (sub_k hs 0 rfl rfl) zc_6 (ct_mo_lays hs h) rfl rfl ⟨⟨Nat.le_of_ble_eq_true rfl, Nat.le_of_ble_eq_true rfl⟩, Nat.le_of_ble_eq_true rfl, Nat.le_of_ble_eq_true rfl⟩ (Nat.le_of_ble_eq_true rfl) rfl rfl (fun _ h1 _ => ?_)
  refine j_aload_n 0 dX6_add_69 rfl ?_
  refine j_getR 0 1 0 dX6_add_70 zc_6 rfl (sub_k hs 0 rfl rfl) (by decide) lk_X6_7 rfl (by decide) (rfl : th + 1 = (th + 1)) ?_
  refine j_bipush (x := 13) dX6_add_73 (by decide) (by decide) ?_
  refine j_iald dX6_add_75 (sub_k hs 1 rfl rfl) rfl ?_
  refine j_iconst (x := 1) dX6_add_76 rfl (by decide) ?_
  refine j_isub dX6_add_77 ?_
  exact j_retI (h0 := h1) (r := 0) rfl rfl rfl dX6_add_78 rfl ⟨Nat.le_refl _, Nat.le_refl _⟩ rfl

set_option maxRecDepth 100000 in
set_option maxHeartbeats 4000000 in
theorem jb_mo_add_53 {lay : List LK} {th : Nat} {p1 : Int} {p2 : Int}  (hs : sub lay th blkModel)  (s0 : Int) (h : Hp) : J mi_mo_add encI (Same lay) lay 0 0 53 [(0, vr th), (1, vi p1), (2, vi p2)] [vi s0, vr th] h (mo_add_b53 th p1 p2 s0 h) := by
  unfold mo_add_b53
  refine j_iload_n 1 dX6_add_53 rfl ?_
  refine j_iload_n 2 dX6_add_54 rfl ?_
  refine j_icmp_ge (tgt := 62) dX6_add_55 (by decide) ?_ ?_
  · refine j_iload_n 2 dX6_add_58 rfl ?_
    refine j_goto (tgt := 63) dX6_add_59 (by decide) ?_
    refine j_sub [0] rfl ?_
    exact jb_mo_add_63 hs _ _ _
  · refine j_iload_n 1 dX6_add_62 rfl ?_
    refine j_sub [0] rfl ?_
    exact jb_mo_add_63 hs _ _ _

set_option maxRecDepth 100000 in
set_option maxHeartbeats 4000000 in
theorem jb_mo_add_21 {lay : List LK} {th : Nat} {p1 : Int} {p2 : Int}  (hs : sub lay th blkModel)  (h : Hp) : J mi_mo_add encI (Same lay) lay 0 0 21 [] [] h (mo_add_b21 th p1 p2 h) := by
  unfold mo_add_b21
  refine j_iconst (x := (-1)) dX6_add_21 rfl (by decide) ?_
  exact j_retI (h0 := h) (r := 0) rfl rfl rfl dX6_add_22 rfl ⟨Nat.le_refl _, Nat.le_refl _⟩ rfl

set_option maxRecDepth 100000 in
set_option maxHeartbeats 4000000 in
theorem ct_mo_add {lay : List LK} {th : Nat} {p1 : Int} {p2 : Int} (hs : sub lay th blkModel) (h : Hp) : CT mi_mo_add encI (Same lay) lay [vr th, vi p1, vi p2] h (mo_add th p1 p2 h) := by
  refine CT.of (by decide) rfl (Nat.le_of_ble_eq_true rfl) ?_
  show J mi_mo_add encI (Same lay) lay 0 0 0 [(0, vr th), (1, vi p1), (2, vi p2)] [] h _
  unfold mo_add
  refine j_aload_n 0 dX6_add_0 rfl ?_
  refine j_iload_n 1 dX6_add_1 rfl ?_
  refine j_cV (stk := []) [vi p1] th dX6_add_2 mv_mo_isPoint lm_X6_77 (sub_k hs 0 rfl rfl) zc_6 (ct_mo_isPoint hs h) rfl rfl ⟨⟨Nat.le_of_ble_eq_true rfl, Nat.le_of_ble_eq_true rfl⟩, Nat.le_of_ble_eq_true rfl, Nat.le_of_ble_eq_true rfl⟩ (Nat.le_of_ble_eq_true rfl) rfl rfl (fun r1 h1 _ => ?_)
  refine j_if_eq (tgt := 21) dX6_add_5 (by decide) ?_ ?_
  · refine j_sub [] rfl ?_
    exact jb_mo_add_21 hs _
  · refine j_aload_n 0 dX6_add_8 rfl ?_
    refine j_iload_n 2 dX6_add_9 rfl ?_
    refine j_cV (stk := []) [vi p2] th dX6_add_10 mv_mo_isPoint lm_X6_77 (sub_k hs 0 rfl rfl) zc_6 (ct_mo_isPoint hs h1) rfl rfl ⟨⟨Nat.le_of_ble_eq_true rfl, Nat.le_of_ble_eq_true rfl⟩, Nat.le_of_ble_eq_true rfl, Nat.le_of_ble_eq_true rfl⟩ (Nat.le_of_ble_eq_true rfl) rfl rfl (fun r2 h2 _ => ?_)
    refine j_if_eq (tgt := 21) dX6_add_13 (by decide) ?_ ?_
    · refine j_sub [] rfl ?_
      exact jb_mo_add_21 hs _
    · refine j_iload_n 1 dX6_add_16 rfl ?_
      refine j_iload_n 2 dX6_add_17 rfl ?_
      refine j_icmp_ne (tgt := 23) dX6_add_18 (by decide) ?_ ?_
      · refine j_sub [] rfl ?_
        exact jb_mo_add_21 hs _
      · refine j_aload_n 0 dX6_add_23 rfl ?_
        refine j_getR 0 1 0 dX6_add_24 zc_6 rfl (sub_k hs 0 rfl rfl) (by decide) lk_X6_7 rfl (by decide) (rfl : th + 1 = (th + 1)) ?_
        refine j_bipush (x := 13) dX6_add_27 (by decide) (by decide) ?_
        refine j_iald dX6_add_29 (sub_k hs 1 rfl rfl) rfl ?_
        refine j_bipush (x := 16) dX6_add_30 (by decide) (by decide) ?_
        refine j_icmp_ne (tgt := 38) dX6_add_32 (by decide) ?_ ?_
        · refine j_bipush (x := (-3)) dX6_add_35 (by decide) (by decide) ?_
          exact j_retI (h0 := h2) (r := 0) rfl rfl rfl dX6_add_37 rfl ⟨Nat.le_refl _, Nat.le_refl _⟩ rfl
        · refine j_aload_n 0 dX6_add_38 rfl ?_
          refine j_cV (stk := []) [] th dX6_add_39 mv_mo_records lm_X6_71 (sub_k hs 0 rfl rfl) zc_6 (ct_mo_records hs h2) rfl rfl ⟨⟨Nat.le_of_ble_eq_true rfl, Nat.le_of_ble_eq_true rfl⟩, Nat.le_of_ble_eq_true rfl, Nat.le_of_ble_eq_true rfl⟩ (Nat.le_of_ble_eq_true rfl) rfl rfl (fun _ h3 _ => ?_)
          refine j_aload_n 0 dX6_add_42 rfl ?_
          refine j_iload_n 1 dX6_add_43 rfl ?_
          refine j_iload_n 2 dX6_add_44 rfl ?_
          refine j_icmp_ge (tgt := 52) dX6_add_45 (by decide) ?_ ?_
          · refine j_iload_n 1 dX6_add_48 rfl ?_
            refine j_goto (tgt := 53) dX6_add_49 (by decide) ?_
            exact jb_mo_add_53 hs _ _
          · refine j_iload_n 2 dX6_add_52 rfl ?_
            exact jb_mo_add_53 hs _ _

set_option maxRecDepth 100000 in
set_option maxHeartbeats 4000000 in
theorem jl_mo_drop_33 {lay : List LK} {th : Nat} {p1 : Int}  (hs : sub lay th blkModel)  : ∀ (n : Nat) (x2 : Int) (h : Hp), J mi_mo_drop encI (Same lay) lay 0 0 33 [(0, vr th), (2, vi x2)] [] h (iter1 (mo_drop_f33 th p1) n x2 h) := by
  refine j_iter1 (lf := fun x2 => [(0, vr th), (2, vi x2)]) (fun k33 hk33 x2 h => ?_)
  unfold mo_drop_f33
  refine j_iload_n 1 dX6_drop_33 rfl ?_
  refine j_bipush (x := 14) dX6_drop_34 (by decide) (by decide) ?_
  refine j_bipush (x := 6) dX6_drop_36 (by decide) (by decide) ?_
  refine j_aload_n 0 dX6_drop_38 rfl ?_
  refine j_getR 0 1 0 dX6_drop_39 zc_6 rfl (sub_k hs 0 rfl rfl) (by decide) lk_X6_7 rfl (by decide) (rfl : th + 1 = (th + 1)) ?_
  refine j_bipush (x := 13) dX6_drop_42 (by decide) (by decide) ?_
  refine j_iald dX6_drop_44 (sub_k hs 1 rfl rfl) rfl ?_
  refine j_imul dX6_drop_45 ?_
  refine j_iadd dX6_drop_46 ?_
  refine j_icmp_ge (tgt := 71) dX6_drop_47 (by decide) ?_ ?_
  · refine j_aload_n 0 dX6_drop_50 rfl ?_
    refine j_getR 0 1 0 dX6_drop_51 zc_6 rfl (sub_k hs 0 rfl rfl) (by decide) lk_X6_7 rfl (by decide) (rfl : th + 1 = (th + 1)) ?_
    refine j_iload_n 1 dX6_drop_54 rfl ?_
    refine j_aload_n 0 dX6_drop_55 rfl ?_
    refine j_getR 0 1 0 dX6_drop_56 zc_6 rfl (sub_k hs 0 rfl rfl) (by decide) lk_X6_7 rfl (by decide) (rfl : th + 1 = (th + 1)) ?_
    refine j_iload_n 1 dX6_drop_59 rfl ?_
    refine j_bipush (x := 6) dX6_drop_60 (by decide) (by decide) ?_
    refine j_iadd dX6_drop_62 ?_
    refine j_iald dX6_drop_63 (sub_k hs 1 rfl rfl) rfl ?_
    refine j_iast dX6_drop_64 (sub_k hs 1 rfl rfl) rfl (fun h1 _ => ?_)
    refine j_iinc 1 (lv' := [(2, vi (x2 + 1)), (0, vr th)]) dX6_drop_65 rfl (by decide) rfl ?_
    refine j_goto (tgt := 33) dX6_drop_68 (by decide) ?_
    refine j_sub [1, 0] rfl ?_
    exact hk33 _ _
  · refine j_aload_n 0 dX6_drop_71 rfl ?_
    refine j_getR 0 1 0 dX6_drop_72 zc_6 rfl (sub_k hs 0 rfl rfl) (by decide) lk_X6_7 rfl (by decide) (rfl : th + 1 = (th + 1)) ?_
    refine j_bipush (x := 13) dX6_drop_75 (by decide) (by decide) ?_
    refine j_iald dX6_drop_77 (sub_k hs 1 rfl rfl) rfl ?_
    exact j_retI (h0 := h) (r := 0) rfl rfl rfl dX6_drop_78 rfl ⟨Nat.le_refl _, Nat.le_refl _⟩ rfl

set_option maxRecDepth 100000 in
set_option maxHeartbeats 4000000 in
theorem ct_mo_drop {lay : List LK} {th : Nat} {p1 : Int} (hs : sub lay th blkModel) (h : Hp) : CT mi_mo_drop encI (Same lay) lay [vr th, vi p1] h (mo_drop th p1 h) := by
  refine CT.of (by decide) rfl (Nat.le_of_ble_eq_true rfl) ?_
  show J mi_mo_drop encI (Same lay) lay 0 0 0 [(0, vr th), (1, vi p1)] [] h _
  unfold mo_drop
  refine j_aload_n 0 dX6_drop_0 rfl ?_
  refine j_iload_n 1 dX6_drop_1 rfl ?_
  refine j_cV (stk := []) [vi p1] th dX6_drop_2 mv_mo_isDimension lm_X6_92 (sub_k hs 0 rfl rfl) zc_6 (ct_mo_isDimension hs h) rfl rfl ⟨⟨Nat.le_of_ble_eq_true rfl, Nat.le_of_ble_eq_true rfl⟩, Nat.le_of_ble_eq_true rfl, Nat.le_of_ble_eq_true rfl⟩ (Nat.le_of_ble_eq_true rfl) rfl rfl (fun r1 h1 _ => ?_)
  refine j_if_ne (tgt := 10) dX6_drop_5 (by decide) ?_ ?_
  · refine j_iconst (x := (-1)) dX6_drop_8 rfl (by decide) ?_
    exact j_retI (h0 := h1) (r := 0) rfl rfl rfl dX6_drop_9 rfl ⟨Nat.le_refl _, Nat.le_refl _⟩ rfl
  · refine j_aload_n 0 dX6_drop_10 rfl ?_
    refine j_cV (stk := []) [] th dX6_drop_11 mv_mo_records lm_X6_71 (sub_k hs 0 rfl rfl) zc_6 (ct_mo_records hs h1) rfl rfl ⟨⟨Nat.le_of_ble_eq_true rfl, Nat.le_of_ble_eq_true rfl⟩, Nat.le_of_ble_eq_true rfl, Nat.le_of_ble_eq_true rfl⟩ (Nat.le_of_ble_eq_true rfl) rfl rfl (fun _ h2 _ => ?_)
    refine j_aload_n 0 dX6_drop_14 rfl ?_
    refine j_getR 0 1 0 dX6_drop_15 zc_6 rfl (sub_k hs 0 rfl rfl) (by decide) lk_X6_7 rfl (by decide) (rfl : th + 1 = (th + 1)) ?_
    refine j_bipush (x := 13) dX6_drop_18 (by decide) (by decide) ?_
    refine j_dup2 dX6_drop_20 (fun _ _ => rfl) (fun _ _ => rfl) ?_
    refine j_iald dX6_drop_21 (sub_k hs 1 rfl rfl) rfl ?_
    refine j_iconst (x := 1) dX6_drop_22 rfl (by decide) ?_
    refine j_isub dX6_drop_23 ?_
    refine j_iast dX6_drop_24 (sub_k hs 1 rfl rfl) rfl (fun h3 _ => ?_)
    refine j_bipush (x := 14) dX6_drop_25 (by decide) (by decide) ?_
    refine j_bipush (x := 6) dX6_drop_27 (by decide) (by decide) ?_
    refine j_iload_n 1 dX6_drop_29 rfl ?_
    refine j_imul dX6_drop_30 ?_
    refine j_iadd dX6_drop_31 ?_
    refine j_istore_n (lv' := [(2, vi (14 + (6 * p1))), (0, vr th), (1, vi p1)]) dX6_drop_32 (by decide) rfl ?_
    refine j_sub [1, 0] rfl ?_
    exact jl_mo_drop_33 hs fuel _ _

set_option maxRecDepth 100000 in
set_option maxHeartbeats 4000000 in
theorem jb_mo_setTolerance_28 {lay : List LK} {th : Nat} {p1 : Int} {p2 : Int} {p3 : Int}  (hs : sub lay th blkModel)  (h : Hp) : J mi_mo_setTolerance encI (Same lay) lay 0 0 28 [] [] h (mo_setTolerance_b28 th p1 p2 p3 h) := by
  unfold mo_setTolerance_b28
  refine j_iconst (x := (-1)) dX6_setTolerance_28 rfl (by decide) ?_
  exact j_retI (h0 := h) (r := 0) rfl rfl rfl dX6_setTolerance_29 rfl ⟨Nat.le_refl _, Nat.le_refl _⟩ rfl

set_option maxRecDepth 100000 in
set_option maxHeartbeats 4000000 in
theorem ct_mo_setTolerance {lay : List LK} {th : Nat} {p1 : Int} {p2 : Int} {p3 : Int} (hs : sub lay th blkModel) (h : Hp) : CT mi_mo_setTolerance encI (Same lay) lay [vr th, vi p1, vi p2, vi p3] h (mo_setTolerance th p1 p2 p3 h) := by
  refine CT.of (by decide) rfl (Nat.le_of_ble_eq_true rfl) ?_
  show J mi_mo_setTolerance encI (Same lay) lay 0 0 0 [(0, vr th), (1, vi p1), (2, vi p2), (3, vi p3)] [] h _
  unfold mo_setTolerance
  refine j_aload_n 0 dX6_setTolerance_0 rfl ?_
  refine j_iload_n 1 dX6_setTolerance_1 rfl ?_
  refine j_cV (stk := []) [vi p1] th dX6_setTolerance_2 mv_mo_isDimension lm_X6_92 (sub_k hs 0 rfl rfl) zc_6 (ct_mo_isDimension hs h) rfl rfl ⟨⟨Nat.le_of_ble_eq_true rfl, Nat.le_of_ble_eq_true rfl⟩, Nat.le_of_ble_eq_true rfl, Nat.le_of_ble_eq_true rfl⟩ (Nat.le_of_ble_eq_true rfl) rfl rfl (fun r1 h1 _ => ?_)
  refine j_if_eq (tgt := 28) dX6_setTolerance_5 (by decide) ?_ ?_
  · refine j_sub [] rfl ?_
    exact jb_mo_setTolerance_28 hs _
  · refine j_iload_n 2 dX6_setTolerance_8 rfl ?_
    refine j_iconst (x := 0) dX6_setTolerance_9 rfl (by decide) ?_
    refine j_bipush (x := 20) dX6_setTolerance_10 (by decide) (by decide) ?_
    refine j_cS (stk := []) [vi p2, vi 0, vi 20] dX6_setTolerance_12 mv_mo_in lm_X6_46 (ct_mo_in h1) rfl rfl ⟨⟨Nat.le_of_ble_eq_true rfl, Nat.le_of_ble_eq_true rfl⟩, Nat.le_of_ble_eq_true rfl, Nat.le_of_ble_eq_true rfl⟩ (Nat.le_of_ble_eq_true rfl) rfl rfl (fun r2 h2 _ => ?_)
    refine j_if_eq (tgt := 28) dX6_setTolerance_15 (by decide) ?_ ?_
    · refine j_sub [] rfl ?_
      exact jb_mo_setTolerance_28 hs _
    · refine j_iload_n 3 dX6_setTolerance_18 rfl ?_
      refine j_iconst (x := 0) dX6_setTolerance_19 rfl (by decide) ?_
      refine j_bipush (x := 20) dX6_setTolerance_20 (by decide) (by decide) ?_
      refine j_cS (stk := []) [vi p3, vi 0, vi 20] dX6_setTolerance_22 mv_mo_in lm_X6_46 (ct_mo_in h2) rfl rfl ⟨⟨Nat.le_of_ble_eq_true rfl, Nat.le_of_ble_eq_true rfl⟩, Nat.le_of_ble_eq_true rfl, Nat.le_of_ble_eq_true rfl⟩ (Nat.le_of_ble_eq_true rfl) rfl rfl (fun r3 h3 _ => ?_)
      refine j_if_ne (tgt := 30) dX6_setTolerance_25 (by decide) ?_ ?_
      · refine j_sub [] rfl ?_
        exact jb_mo_setTolerance_28 hs _
      · refine j_aload_n 0 dX6_setTolerance_30 rfl ?_
        refine j_cV (stk := []) [] th dX6_setTolerance_31 mv_mo_records lm_X6_71 (sub_k hs 0 rfl rfl) zc_6 (ct_mo_records hs h3) rfl rfl ⟨⟨Nat.le_of_ble_eq_true rfl, Nat.le_of_ble_eq_true rfl⟩, Nat.le_of_ble_eq_true rfl, Nat.le_of_ble_eq_true rfl⟩ (Nat.le_of_ble_eq_true rfl) rfl rfl (fun _ h4 _ => ?_)
        refine j_bipush (x := 100) dX6_setTolerance_34 (by decide) (by decide) ?_
        refine j_aload_n 0 dX6_setTolerance_36 rfl ?_
        refine j_iload_n 1 dX6_setTolerance_37 rfl ?_
        refine j_iconst (x := 2) dX6_setTolerance_38 rfl (by decide) ?_
        refine j_cV (stk := [vi 100]) [vi p1, vi 2] th dX6_setTolerance_39 mv_mo_of lm_X6_50 (sub_k hs 0 rfl rfl) zc_6 (ct_mo_of hs h4) rfl rfl ⟨⟨Nat.le_of_ble_eq_true rfl, Nat.le_of_ble_eq_true rfl⟩, Nat.le_of_ble_eq_true rfl, Nat.le_of_ble_eq_true rfl⟩ (Nat.le_of_ble_eq_true rfl) rfl rfl (fun r5 h5 _ => ?_)
        refine j_imul dX6_setTolerance_42 ?_
        refine j_aload_n 0 dX6_setTolerance_43 rfl ?_
        refine j_iload_n 1 dX6_setTolerance_44 rfl ?_
        refine j_iconst (x := 3) dX6_setTolerance_45 rfl (by decide) ?_
        refine j_cV (stk := [vi (100 * r5)]) [vi p1, vi 3] th dX6_setTolerance_46 mv_mo_of lm_X6_50 (sub_k hs 0 rfl rfl) zc_6 (ct_mo_of hs h5) rfl rfl ⟨⟨Nat.le_of_ble_eq_true rfl, Nat.le_of_ble_eq_true rfl⟩, Nat.le_of_ble_eq_true rfl, Nat.le_of_ble_eq_true rfl⟩ (Nat.le_of_ble_eq_true rfl) rfl rfl (fun r6 h6 _ => ?_)
        refine j_iadd dX6_setTolerance_49 ?_
        refine j_istore (lv' := [(4, vi ((100 * r5) + r6)), (0, vr th), (1, vi p1), (2, vi p2), (3, vi p3)]) dX6_setTolerance_50 (by decide) rfl ?_
        refine j_aload_n 1 dX6_setTolerance_52 rfl ?_
        refine j_iload_n 2 dX6_setTolerance_53 rfl ?_
        refine j_iconst (x := 2) dX6_setTolerance_54 rfl (by decide) ?_
        refine j_iload_n 3 dX6_setTolerance_55 rfl ?_
        refine j_cV (stk := []) [vi p1, vi 2, vi p2] th dX6_setTolerance_56 mv_mo_sets lm_X6_64 (sub_k hs 0 rfl rfl) zc_6 (ct_mo_sets hs h6) rfl rfl ⟨⟨Nat.le_of_ble_eq_true rfl, Nat.le_of_ble_eq_true rfl⟩, Nat.le_of_ble_eq_true rfl, Nat.le_of_ble_eq_true rfl⟩ (Nat.le_of_ble_eq_true rfl) rfl rfl (fun _ h7 _ => ?_)
        refine j_aload_n 1 dX6_setTolerance_59 rfl ?_
        refine j_iload_n 2 dX6_setTolerance_60 rfl ?_
        refine j_iconst (x := 3) dX6_setTolerance_61 rfl (by decide) ?_
        refine j_iload_n 4 dX6_setTolerance_62 rfl ?_
        refine j_cV (stk := []) [vi p1, vi 3, vi p3] th dX6_setTolerance_63 mv_mo_sets lm_X6_64 (sub_k hs 0 rfl rfl) zc_6 (ct_mo_sets hs h7) rfl rfl ⟨⟨Nat.le_of_ble_eq_true rfl, Nat.le_of_ble_eq_true rfl⟩, Nat.le_of_ble_eq_true rfl, Nat.le_of_ble_eq_true rfl⟩ (Nat.le_of_ble_eq_true rfl) rfl rfl (fun _ h8 _ => ?_)
        refine j_iload 0 dX6_setTolerance_66 rfl ?_
        exact j_retI (h0 := h8) (r := 0) rfl rfl rfl dX6_setTolerance_68 rfl ⟨Nat.le_refl _, Nat.le_refl _⟩ rfl

set_option maxRecDepth 100000 in
set_option maxHeartbeats 4000000 in
theorem ct_mo_becomes {lay : List LK} {th : Nat} {p1 : Int} {p2 : Int} {p3 : Int} (hs : sub lay th blkModel) (h : Hp) : CT mi_mo_becomes encI (Same lay) lay [vr th, vi p1, vi p2, vi p3] h (mo_becomes th p1 p2 p3 h) := by
  refine CT.of (by decide) rfl (Nat.le_of_ble_eq_true rfl) ?_
  show J mi_mo_becomes encI (Same lay) lay 0 0 0 [(0, vr th), (1, vi p1), (2, vi p2), (3, vi p3)] [] h _
  unfold mo_becomes
  refine j_aload_n 0 dX6_becomes_0 rfl ?_
  refine j_cV (stk := []) [] th dX6_becomes_1 mv_mo_records lm_X6_71 (sub_k hs 0 rfl rfl) zc_6 (ct_mo_records hs h) rfl rfl ⟨⟨Nat.le_of_ble_eq_true rfl, Nat.le_of_ble_eq_true rfl⟩, Nat.le_of_ble_eq_true rfl, Nat.le_of_ble_eq_true rfl⟩ (Nat.le_of_ble_eq_true rfl) rfl rfl (fun _ h1 _ => ?_)
  refine j_aload_n 0 dX6_becomes_4 rfl ?_
  refine j_iload_n 1 dX6_becomes_5 rfl ?_
  refine j_iload_n 2 dX6_becomes_6 rfl ?_
  refine j_cV (stk := []) [vi p1, vi p2] th dX6_becomes_7 mv_mo_of lm_X6_50 (sub_k hs 0 rfl rfl) zc_6 (ct_mo_of hs h1) rfl rfl ⟨⟨Nat.le_of_ble_eq_true rfl, Nat.le_of_ble_eq_true rfl⟩, Nat.le_of_ble_eq_true rfl, Nat.le_of_ble_eq_true rfl⟩ (Nat.le_of_ble_eq_true rfl) rfl rfl (fun r2 h2 _ => ?_)
  refine j_istore (lv' := [(4, vi r2), (0, vr th), (1, vi p1), (2, vi p2), (3, vi p3)]) dX6_becomes_10 (by decide) rfl ?_
  refine j_aload_n 1 dX6_becomes_12 rfl ?_
  refine j_iload_n 2 dX6_becomes_13 rfl ?_
  refine j_iload_n 3 dX6_becomes_14 rfl ?_
  refine j_iload_n 4 dX6_becomes_15 rfl ?_
  refine j_cV (stk := []) [vi p1, vi p2, vi p3] th dX6_becomes_16 mv_mo_sets lm_X6_64 (sub_k hs 0 rfl rfl) zc_6 (ct_mo_sets hs h2) rfl rfl ⟨⟨Nat.le_of_ble_eq_true rfl, Nat.le_of_ble_eq_true rfl⟩, Nat.le_of_ble_eq_true rfl, Nat.le_of_ble_eq_true rfl⟩ (Nat.le_of_ble_eq_true rfl) rfl rfl (fun _ h3 _ => ?_)
  refine j_iload 0 dX6_becomes_19 rfl ?_
  exact j_retI (h0 := h3) (r := 0) rfl rfl rfl dX6_becomes_21 rfl ⟨Nat.le_refl _, Nat.le_refl _⟩ rfl

set_option maxRecDepth 100000 in
set_option maxHeartbeats 4000000 in
theorem jb_mo_setChain_28 {lay : List LK} {th : Nat} {p1 : Int} {p2 : Int}  (hs : sub lay th blkModel)  (s0 : Int) (h : Hp) : J mi_mo_setChain encI (Same lay) lay 0 0 28 [] [vi s0] h (mo_setChain_b28 th p1 p2 s0 h) := by
  unfold mo_setChain_b28
  exact j_retI (h0 := h) (r := 0) rfl rfl rfl dX6_setChain_28 rfl ⟨Nat.le_refl _, Nat.le_refl _⟩ rfl

set_option maxRecDepth 100000 in
set_option maxHeartbeats 4000000 in
theorem jb_mo_setChain_27 {lay : List LK} {th : Nat} {p1 : Int} {p2 : Int}  (hs : sub lay th blkModel)  (h : Hp) : J mi_mo_setChain encI (Same lay) lay 0 0 27 [] [] h (mo_setChain_b27 th p1 p2 h) := by
  unfold mo_setChain_b27
  refine j_iconst (x := (-1)) dX6_setChain_27 rfl (by decide) ?_
  exact jb_mo_setChain_28 hs _ _

set_option maxRecDepth 100000 in
set_option maxHeartbeats 4000000 in
theorem ct_mo_setChain {lay : List LK} {th : Nat} {p1 : Int} {p2 : Int} (hs : sub lay th blkModel) (h : Hp) : CT mi_mo_setChain encI (Same lay) lay [vr th, vi p1, vi p2] h (mo_setChain th p1 p2 h) := by
  refine CT.of (by decide) rfl (Nat.le_of_ble_eq_true rfl) ?_
  show J mi_mo_setChain encI (Same lay) lay 0 0 0 [(0, vr th), (1, vi p1), (2, vi p2)] [] h _
  unfold mo_setChain
  refine j_aload_n 0 dX6_setChain_0 rfl ?_
  refine j_iload_n 1 dX6_setChain_1 rfl ?_
  refine j_cV (stk := []) [vi p1] th dX6_setChain_2 mv_mo_isDimension lm_X6_92 (sub_k hs 0 rfl rfl) zc_6 (ct_mo_isDimension hs h) rfl rfl ⟨⟨Nat.le_of_ble_eq_true rfl, Nat.le_of_ble_eq_true rfl⟩, Nat.le_of_ble_eq_true rfl, Nat.le_of_ble_eq_true rfl⟩ (Nat.le_of_ble_eq_true rfl) rfl rfl (fun r1 h1 _ => ?_)
  refine j_if_eq (tgt := 27) dX6_setChain_5 (by decide) ?_ ?_
  · refine j_sub [] rfl ?_
    exact jb_mo_setChain_27 hs _
  · refine j_iload_n 2 dX6_setChain_8 rfl ?_
    refine j_iconst (x := 0) dX6_setChain_9 rfl (by decide) ?_
    refine j_iconst (x := 5) dX6_setChain_10 rfl (by decide) ?_
    refine j_cS (stk := []) [vi p2, vi 0, vi 5] dX6_setChain_11 mv_mo_in lm_X6_46 (ct_mo_in h1) rfl rfl ⟨⟨Nat.le_of_ble_eq_true rfl, Nat.le_of_ble_eq_true rfl⟩, Nat.le_of_ble_eq_true rfl, Nat.le_of_ble_eq_true rfl⟩ (Nat.le_of_ble_eq_true rfl) rfl rfl (fun r2 h2 _ => ?_)
    refine j_if_eq (tgt := 27) dX6_setChain_14 (by decide) ?_ ?_
    · refine j_sub [] rfl ?_
      exact jb_mo_setChain_27 hs _
    · refine j_aload_n 0 dX6_setChain_17 rfl ?_
      refine j_iload_n 1 dX6_setChain_18 rfl ?_
      refine j_iconst (x := 4) dX6_setChain_19 rfl (by decide) ?_
      refine j_iload_n 2 dX6_setChain_20 rfl ?_
      refine j_cV (stk := []) [vi p1, vi 4, vi p2] th dX6_setChain_21 mv_mo_becomes lm_X6_95 (sub_k hs 0 rfl rfl) zc_6 (ct_mo_becomes hs h2) rfl rfl ⟨⟨Nat.le_of_ble_eq_true rfl, Nat.le_of_ble_eq_true rfl⟩, Nat.le_of_ble_eq_true rfl, Nat.le_of_ble_eq_true rfl⟩ (Nat.le_of_ble_eq_true rfl) rfl rfl (fun r3 h3 _ => ?_)
      refine j_goto (tgt := 28) dX6_setChain_24 (by decide) ?_
      refine j_sub [] rfl ?_
      exact jb_mo_setChain_28 hs _ _

set_option maxRecDepth 100000 in
set_option maxHeartbeats 4000000 in
theorem jb_mo_setLeast_29 {lay : List LK} {th : Nat} {p1 : Int} {p2 : Int}  (hs : sub lay th blkModel)  (s0 : Int) (h : Hp) : J mi_mo_setLeast encI (Same lay) lay 0 0 29 [] [vi s0] h (mo_setLeast_b29 th p1 p2 s0 h) := by
  unfold mo_setLeast_b29
  exact j_retI (h0 := h) (r := 0) rfl rfl rfl dX6_setLeast_29 rfl ⟨Nat.le_refl _, Nat.le_refl _⟩ rfl

set_option maxRecDepth 100000 in
set_option maxHeartbeats 4000000 in
theorem jb_mo_setLeast_28 {lay : List LK} {th : Nat} {p1 : Int} {p2 : Int}  (hs : sub lay th blkModel)  (h : Hp) : J mi_mo_setLeast encI (Same lay) lay 0 0 28 [] [] h (mo_setLeast_b28 th p1 p2 h) := by
  unfold mo_setLeast_b28
  refine j_iconst (x := (-1)) dX6_setLeast_28 rfl (by decide) ?_
  exact jb_mo_setLeast_29 hs _ _

set_option maxRecDepth 100000 in
set_option maxHeartbeats 4000000 in
theorem ct_mo_setLeast {lay : List LK} {th : Nat} {p1 : Int} {p2 : Int} (hs : sub lay th blkModel) (h : Hp) : CT mi_mo_setLeast encI (Same lay) lay [vr th, vi p1, vi p2] h (mo_setLeast th p1 p2 h) := by
  refine CT.of (by decide) rfl (Nat.le_of_ble_eq_true rfl) ?_
  show J mi_mo_setLeast encI (Same lay) lay 0 0 0 [(0, vr th), (1, vi p1), (2, vi p2)] [] h _
  unfold mo_setLeast
  refine j_aload_n 0 dX6_setLeast_0 rfl ?_
  refine j_iload_n 1 dX6_setLeast_1 rfl ?_
  refine j_cV (stk := []) [vi p1] th dX6_setLeast_2 mv_mo_isDimension lm_X6_92 (sub_k hs 0 rfl rfl) zc_6 (ct_mo_isDimension hs h) rfl rfl ⟨⟨Nat.le_of_ble_eq_true rfl, Nat.le_of_ble_eq_true rfl⟩, Nat.le_of_ble_eq_true rfl, Nat.le_of_ble_eq_true rfl⟩ (Nat.le_of_ble_eq_true rfl) rfl rfl (fun r1 h1 _ => ?_)
  refine j_if_eq (tgt := 28) dX6_setLeast_5 (by decide) ?_ ?_
  · refine j_sub [] rfl ?_
    exact jb_mo_setLeast_28 hs _
  · refine j_iload_n 2 dX6_setLeast_8 rfl ?_
    refine j_iconst (x := 0) dX6_setLeast_9 rfl (by decide) ?_
    refine j_bipush (x := 9) dX6_setLeast_10 (by decide) (by decide) ?_
    refine j_cS (stk := []) [vi p2, vi 0, vi 9] dX6_setLeast_12 mv_mo_in lm_X6_46 (ct_mo_in h1) rfl rfl ⟨⟨Nat.le_of_ble_eq_true rfl, Nat.le_of_ble_eq_true rfl⟩, Nat.le_of_ble_eq_true rfl, Nat.le_of_ble_eq_true rfl⟩ (Nat.le_of_ble_eq_true rfl) rfl rfl (fun r2 h2 _ => ?_)
    refine j_if_eq (tgt := 28) dX6_setLeast_15 (by decide) ?_ ?_
    · refine j_sub [] rfl ?_
      exact jb_mo_setLeast_28 hs _
    · refine j_aload_n 0 dX6_setLeast_18 rfl ?_
      refine j_iload_n 1 dX6_setLeast_19 rfl ?_
      refine j_iconst (x := 5) dX6_setLeast_20 rfl (by decide) ?_
      refine j_iload_n 2 dX6_setLeast_21 rfl ?_
      refine j_cV (stk := []) [vi p1, vi 5, vi p2] th dX6_setLeast_22 mv_mo_becomes lm_X6_95 (sub_k hs 0 rfl rfl) zc_6 (ct_mo_becomes hs h2) rfl rfl ⟨⟨Nat.le_of_ble_eq_true rfl, Nat.le_of_ble_eq_true rfl⟩, Nat.le_of_ble_eq_true rfl, Nat.le_of_ble_eq_true rfl⟩ (Nat.le_of_ble_eq_true rfl) rfl rfl (fun r3 h3 _ => ?_)
      refine j_goto (tgt := 29) dX6_setLeast_25 (by decide) ?_
      refine j_sub [] rfl ?_
      exact jb_mo_setLeast_29 hs _ _

set_option maxRecDepth 100000 in
set_option maxHeartbeats 4000000 in
theorem ct_mo_setting {lay : List LK} {th : Nat} {p1 : Int} {p2 : Int} (hs : sub lay th blkModel) (h : Hp) : CT mi_mo_setting encI (Same lay) lay [vr th, vi p1, vi p2] h (mo_setting th p1 p2 h) := by
  refine CT.of (by decide) rfl (Nat.le_of_ble_eq_true rfl) ?_
  show J mi_mo_setting encI (Same lay) lay 0 0 0 [(0, vr th), (1, vi p1), (2, vi p2)] [] h _
  unfold mo_setting
  refine j_iload_n 2 dX6_setting_0 rfl ?_
  refine j_iconst (x := 1) dX6_setting_1 rfl (by decide) ?_
  refine j_bipush (x := 9) dX6_setting_2 (by decide) (by decide) ?_
  refine j_cS (stk := []) [vi p2, vi 1, vi 9] dX6_setting_4 mv_mo_in lm_X6_46 (ct_mo_in h) rfl rfl ⟨⟨Nat.le_of_ble_eq_true rfl, Nat.le_of_ble_eq_true rfl⟩, Nat.le_of_ble_eq_true rfl, Nat.le_of_ble_eq_true rfl⟩ (Nat.le_of_ble_eq_true rfl) rfl rfl (fun r1 h1 _ => ?_)
  refine j_if_ne (tgt := 12) dX6_setting_7 (by decide) ?_ ?_
  · refine j_iconst (x := (-1)) dX6_setting_10 rfl (by decide) ?_
    exact j_retI (h0 := h1) (r := 0) rfl rfl rfl dX6_setting_11 rfl ⟨Nat.le_refl _, Nat.le_refl _⟩ rfl
  · refine j_aload_n 0 dX6_setting_12 rfl ?_
    refine j_cV (stk := []) [] th dX6_setting_13 mv_mo_records lm_X6_71 (sub_k hs 0 rfl rfl) zc_6 (ct_mo_records hs h1) rfl rfl ⟨⟨Nat.le_of_ble_eq_true rfl, Nat.le_of_ble_eq_true rfl⟩, Nat.le_of_ble_eq_true rfl, Nat.le_of_ble_eq_true rfl⟩ (Nat.le_of_ble_eq_true rfl) rfl rfl (fun _ h2 _ => ?_)
    refine j_aload_n 0 dX6_setting_16 rfl ?_
    refine j_getR 0 1 0 dX6_setting_17 zc_6 rfl (sub_k hs 0 rfl rfl) (by decide) lk_X6_7 rfl (by decide) (rfl : th + 1 = (th + 1)) ?_
    refine j_iload_n 1 dX6_setting_20 rfl ?_
    refine j_iald dX6_setting_21 (sub_k hs 1 rfl rfl) rfl ?_
    refine j_istore_n (lv' := [(3, vi (h2 (th + 1) p1)), (0, vr th), (1, vi p1), (2, vi p2)]) dX6_setting_22 (by decide) rfl ?_
    refine j_aload_n 1 dX6_setting_23 rfl ?_
    refine j_getR 0 1 0 dX6_setting_24 zc_6 rfl (sub_k hs 0 rfl rfl) (by decide) lk_X6_7 rfl (by decide) (rfl : th + 1 = (th + 1)) ?_
    refine j_iload_n 2 dX6_setting_27 rfl ?_
    refine j_iload_n 3 dX6_setting_28 rfl ?_
    refine j_iast dX6_setting_29 (sub_k hs 1 rfl rfl) rfl (fun h3 _ => ?_)
    refine j_iload_n 0 dX6_setting_30 rfl ?_
    exact j_retI (h0 := h3) (r := 0) rfl rfl rfl dX6_setting_31 rfl ⟨Nat.le_refl _, Nat.le_refl _⟩ rfl

set_option maxRecDepth 100000 in
set_option maxHeartbeats 4000000 in
theorem ct_mo_setLetter {lay : List LK} {th : Nat} {p1 : Int} (hs : sub lay th blkModel) (h : Hp) : CT mi_mo_setLetter encI (Same lay) lay [vr th, vi p1] h (mo_setLetter th p1 h) := by
  refine CT.of (by decide) rfl (Nat.le_of_ble_eq_true rfl) ?_
  show J mi_mo_setLetter encI (Same lay) lay 0 0 0 [(0, vr th), (1, vi p1)] [] h _
  unfold mo_setLetter
  refine j_aload_n 0 dX6_setLetter_0 rfl ?_
  refine j_bipush (x := 110) dX6_setLetter_1 (by decide) (by decide) ?_
  refine j_iload_n 1 dX6_setLetter_3 rfl ?_
  refine j_cV (stk := []) [vi 110, vi p1] th dX6_setLetter_4 mv_mo_setting lm_X6_99 (sub_k hs 0 rfl rfl) zc_6 (ct_mo_setting hs h) rfl rfl ⟨⟨Nat.le_of_ble_eq_true rfl, Nat.le_of_ble_eq_true rfl⟩, Nat.le_of_ble_eq_true rfl, Nat.le_of_ble_eq_true rfl⟩ (Nat.le_of_ble_eq_true rfl) rfl rfl (fun r1 h1 _ => ?_)
  exact j_retI (h0 := h1) (r := 0) rfl rfl rfl dX6_setLetter_7 rfl ⟨Nat.le_refl _, Nat.le_refl _⟩ rfl

set_option maxRecDepth 100000 in
set_option maxHeartbeats 4000000 in
theorem ct_mo_setArrow {lay : List LK} {th : Nat} {p1 : Int} (hs : sub lay th blkModel) (h : Hp) : CT mi_mo_setArrow encI (Same lay) lay [vr th, vi p1] h (mo_setArrow th p1 h) := by
  refine CT.of (by decide) rfl (Nat.le_of_ble_eq_true rfl) ?_
  show J mi_mo_setArrow encI (Same lay) lay 0 0 0 [(0, vr th), (1, vi p1)] [] h _
  unfold mo_setArrow
  refine j_aload_n 0 dX6_setArrow_0 rfl ?_
  refine j_bipush (x := 111) dX6_setArrow_1 (by decide) (by decide) ?_
  refine j_iload_n 1 dX6_setArrow_3 rfl ?_
  refine j_cV (stk := []) [vi 111, vi p1] th dX6_setArrow_4 mv_mo_setting lm_X6_99 (sub_k hs 0 rfl rfl) zc_6 (ct_mo_setting hs h) rfl rfl ⟨⟨Nat.le_of_ble_eq_true rfl, Nat.le_of_ble_eq_true rfl⟩, Nat.le_of_ble_eq_true rfl, Nat.le_of_ble_eq_true rfl⟩ (Nat.le_of_ble_eq_true rfl) rfl rfl (fun r1 h1 _ => ?_)
  exact j_retI (h0 := h1) (r := 0) rfl rfl rfl dX6_setArrow_7 rfl ⟨Nat.le_refl _, Nat.le_refl _⟩ rfl

set_option maxRecDepth 100000 in
set_option maxHeartbeats 4000000 in
theorem ct_mo_type {lay : List LK} {th : Nat} {p1 : Int} (hs : sub lay th blkModel) (h : Hp) : CT mi_mo_type encI (Same lay) lay [vr th, vi p1] h (mo_type th p1 h) := by
  refine CT.of (by decide) rfl (Nat.le_of_ble_eq_true rfl) ?_
  show J mi_mo_type encI (Same lay) lay 0 0 0 [(0, vr th), (1, vi p1)] [] h _
  unfold mo_type
  refine j_iload_n 1 dX6_type_0 rfl ?_
  refine j_bipush (x := 32) dX6_type_1 (by decide) (by decide) ?_
  refine j_bipush (x := 126) dX6_type_3 (by decide) (by decide) ?_
  refine j_cS (stk := []) [vi p1, vi 32, vi 126] dX6_type_5 mv_mo_in lm_X6_46 (ct_mo_in h) rfl rfl ⟨⟨Nat.le_of_ble_eq_true rfl, Nat.le_of_ble_eq_true rfl⟩, Nat.le_of_ble_eq_true rfl, Nat.le_of_ble_eq_true rfl⟩ (Nat.le_of_ble_eq_true rfl) rfl rfl (fun r1 h1 _ => ?_)
  refine j_if_ne (tgt := 13) dX6_type_8 (by decide) ?_ ?_
  · refine j_iconst (x := (-1)) dX6_type_11 rfl (by decide) ?_
    exact j_retI (h0 := h1) (r := 0) rfl rfl rfl dX6_type_12 rfl ⟨Nat.le_refl _, Nat.le_refl _⟩ rfl
  · refine j_aload_n 0 dX6_type_13 rfl ?_
    refine j_getI 3 3 dX6_type_14 zc_6 rfl (sub_k hs 0 rfl rfl) (by decide) lk_X6_102 rfl rfl ?_
    refine j_bipush (x := 80) dX6_type_17 (by decide) (by decide) ?_
    refine j_icmp_ne (tgt := 25) dX6_type_19 (by decide) ?_ ?_
    · refine j_bipush (x := (-3)) dX6_type_22 (by decide) (by decide) ?_
      exact j_retI (h0 := h1) (r := 0) rfl rfl rfl dX6_type_24 rfl ⟨Nat.le_refl _, Nat.le_refl _⟩ rfl
    · refine j_aload_n 0 dX6_type_25 rfl ?_
      refine j_getR 2 2 1 dX6_type_26 zc_6 rfl (sub_k hs 0 rfl rfl) (by decide) lk_X6_13 rfl (by decide) (rfl : th + 2 = (th + 2)) ?_
      refine j_aload_n 0 dX6_type_29 rfl ?_
      refine j_getI 3 3 dX6_type_30 zc_6 rfl (sub_k hs 0 rfl rfl) (by decide) lk_X6_102 rfl rfl ?_
      refine j_iload_n 1 dX6_type_33 rfl ?_
      refine j_iast dX6_type_34 (sub_k hs 2 rfl rfl) rfl (fun h2 _ => ?_)
      refine j_aload_n 0 dX6_type_35 rfl ?_
      refine j_dup dX6_type_36 (fun _ _ => rfl) ?_
      refine j_getI 3 3 dX6_type_37 zc_6 rfl (sub_k hs 0 rfl rfl) (by decide) lk_X6_102 rfl rfl ?_
      refine j_iconst (x := 1) dX6_type_40 rfl (by decide) ?_
      refine j_iadd dX6_type_41 ?_
      refine j_putI 3 3 dX6_type_42 zc_6 rfl (sub_k hs 0 rfl rfl) (by decide) lk_X6_102 rfl rfl rfl rfl (fun h3 _ => ?_)
      refine j_aload_n 0 dX6_type_45 rfl ?_
      refine j_getI 3 3 dX6_type_46 zc_6 rfl (sub_k hs 0 rfl rfl) (by decide) lk_X6_102 rfl rfl ?_
      exact j_retI (h0 := h3) (r := 0) rfl rfl rfl dX6_type_49 rfl ⟨Nat.le_refl _, Nat.le_refl _⟩ rfl

set_option maxRecDepth 100000 in
set_option maxHeartbeats 4000000 in
theorem ct_mo_clearText {lay : List LK} {th : Nat} (hs : sub lay th blkModel) (h : Hp) : CT mi_mo_clearText encI (Same lay) lay [vr th] h (mo_clearText th h) := by
  refine CT.of (by decide) rfl (Nat.le_of_ble_eq_true rfl) ?_
  show J mi_mo_clearText encI (Same lay) lay 0 0 0 [(0, vr th)] [] h _
  unfold mo_clearText
  refine j_aload_n 0 dX6_clearText_0 rfl ?_
  refine j_getI 3 3 dX6_clearText_1 zc_6 rfl (sub_k hs 0 rfl rfl) (by decide) lk_X6_102 rfl rfl ?_
  refine j_istore_n (lv' := [(1, vi (h th 3)), (0, vr th)]) dX6_clearText_4 (by decide) rfl ?_
  refine j_aload_n 1 dX6_clearText_5 rfl ?_
  refine j_iconst (x := 0) dX6_clearText_6 rfl (by decide) ?_
  refine j_putI 3 3 dX6_clearText_7 zc_6 rfl (sub_k hs 0 rfl rfl) (by decide) lk_X6_102 rfl rfl rfl rfl (fun h1 _ => ?_)
  refine j_iload_n 0 dX6_clearText_10 rfl ?_
  exact j_retI (h0 := h1) (r := 0) rfl rfl rfl dX6_clearText_11 rfl ⟨Nat.le_refl _, Nat.le_refl _⟩ rfl

set_option maxRecDepth 100000 in
set_option maxHeartbeats 4000000 in
theorem jb_mo_here_26 {lay : List LK} {th : Nat}  (hs : sub lay th blkModel)  (s0 : Int) (h : Hp) : J mi_mo_here encI (Same lay) lay 0 0 26 [] [vi s0] h (mo_here_b26 th s0 h) := by
  unfold mo_here_b26
  exact j_retI (h0 := h) (r := 0) rfl rfl rfl dX6_here_26 rfl ⟨Nat.le_refl _, Nat.le_refl _⟩ rfl

set_option maxRecDepth 100000 in
set_option maxHeartbeats 4000000 in
theorem ct_mo_here {lay : List LK} {th : Nat} (hs : sub lay th blkModel) (h : Hp) : CT mi_mo_here encI (Same lay) lay [vr th] h (mo_here th h) := by
  refine CT.of (by decide) rfl (Nat.le_of_ble_eq_true rfl) ?_
  show J mi_mo_here encI (Same lay) lay 0 0 0 [(0, vr th)] [] h _
  unfold mo_here
  refine j_aload_n 0 dX6_here_0 rfl ?_
  refine j_getI 6 6 dX6_here_1 zc_6 rfl (sub_k hs 0 rfl rfl) (by decide) lk_X6_105 rfl rfl ?_
  refine j_aload_n 0 dX6_here_4 rfl ?_
  refine j_getI 3 3 dX6_here_5 zc_6 rfl (sub_k hs 0 rfl rfl) (by decide) lk_X6_102 rfl rfl ?_
  refine j_icmp_ge (tgt := 23) dX6_here_8 (by decide) ?_ ?_
  · refine j_aload_n 0 dX6_here_11 rfl ?_
    refine j_getR 2 2 1 dX6_here_12 zc_6 rfl (sub_k hs 0 rfl rfl) (by decide) lk_X6_13 rfl (by decide) (rfl : th + 2 = (th + 2)) ?_
    refine j_aload_n 0 dX6_here_15 rfl ?_
    refine j_getI 6 6 dX6_here_16 zc_6 rfl (sub_k hs 0 rfl rfl) (by decide) lk_X6_105 rfl rfl ?_
    refine j_iald dX6_here_19 (sub_k hs 2 rfl rfl) rfl ?_
    refine j_goto (tgt := 26) dX6_here_20 (by decide) ?_
    refine j_sub [] rfl ?_
    exact jb_mo_here_26 hs _ _
  · refine j_sipush (x := (-999)) dX6_here_23 (by decide) (by decide) ?_
    refine j_sub [] rfl ?_
    exact jb_mo_here_26 hs _ _

set_option maxRecDepth 100000 in
set_option maxHeartbeats 4000000 in
theorem ct_mo_isDigit {lay : List LK} {th : Nat} (hs : sub lay th blkModel) (h : Hp) : CT mi_mo_isDigit encI (Same lay) lay [vr th] h (mo_isDigit th h) := by
  refine CT.of (by decide) rfl (Nat.le_of_ble_eq_true rfl) ?_
  show J mi_mo_isDigit encI (Same lay) lay 0 0 0 [(0, vr th)] [] h _
  unfold mo_isDigit
  refine j_aload_n 0 dX6_isDigit_0 rfl ?_
  refine j_cV (stk := []) [] th dX6_isDigit_1 mv_mo_here lm_X6_108 (sub_k hs 0 rfl rfl) zc_6 (ct_mo_here hs h) rfl rfl ⟨⟨Nat.le_of_ble_eq_true rfl, Nat.le_of_ble_eq_true rfl⟩, Nat.le_of_ble_eq_true rfl, Nat.le_of_ble_eq_true rfl⟩ (Nat.le_of_ble_eq_true rfl) rfl rfl (fun r1 h1 _ => ?_)
  refine j_bipush (x := 48) dX6_isDigit_4 (by decide) (by decide) ?_
  refine j_bipush (x := 57) dX6_isDigit_6 (by decide) (by decide) ?_
  refine j_cS (stk := []) [vi r1, vi 48, vi 57] dX6_isDigit_8 mv_mo_in lm_X6_46 (ct_mo_in h1) rfl rfl ⟨⟨Nat.le_of_ble_eq_true rfl, Nat.le_of_ble_eq_true rfl⟩, Nat.le_of_ble_eq_true rfl, Nat.le_of_ble_eq_true rfl⟩ (Nat.le_of_ble_eq_true rfl) rfl rfl (fun r2 h2 _ => ?_)
  exact j_retZ rfl rfl rfl dX6_isDigit_11 rfl ⟨Nat.le_refl _, Nat.le_refl _⟩ rfl

set_option maxRecDepth 100000 in
set_option maxHeartbeats 4000000 in
theorem ct_mo_fails {lay : List LK} {th : Nat} {p1 : Int} {p2 : Int} (hs : sub lay th blkModel) (h : Hp) : CT mi_mo_fails encI (Same lay) lay [vr th, vi p1, vi p2] h (mo_fails th p1 p2 h) := by
  refine CT.of (by decide) rfl (Nat.le_of_ble_eq_true rfl) ?_
  show J mi_mo_fails encI (Same lay) lay 0 0 0 [(0, vr th), (1, vi p1), (2, vi p2)] [] h _
  unfold mo_fails
  refine j_aload_n 0 dX6_fails_0 rfl ?_
  refine j_iload_n 1 dX6_fails_1 rfl ?_
  refine j_putI 4 4 dX6_fails_2 zc_6 rfl (sub_k hs 0 rfl rfl) (by decide) lk_X6_112 rfl rfl rfl rfl (fun h1 _ => ?_)
  refine j_aload_n 0 dX6_fails_5 rfl ?_
  refine j_iload_n 2 dX6_fails_6 rfl ?_
  refine j_putI 5 5 dX6_fails_7 zc_6 rfl (sub_k hs 0 rfl rfl) (by decide) lk_X6_115 rfl rfl rfl rfl (fun h2 _ => ?_)
  refine j_iconst (x := 0) dX6_fails_10 rfl (by decide) ?_
  exact j_retZ bz0.symm rfl rfl dX6_fails_11 rfl ⟨Nat.le_refl _, Nat.le_refl _⟩ rfl

set_option maxRecDepth 100000 in
set_option maxHeartbeats 4000000 in
theorem jb_mo_readsNumber_114 {lay : List LK} {th : Nat} {p1 : Int} {p2 : Int} {p3 : Int}  (hs : sub lay th blkModel)  (s0 : Int) (h : Hp) : J mi_mo_readsNumber encI (Same lay) lay 0 0 114 [] [vi s0] h (mo_readsNumber_b114 th p1 p2 p3 s0 h) := by
  unfold mo_readsNumber_b114
  exact j_retZ rfl rfl rfl dX6_readsNumber_114 rfl ⟨Nat.le_refl _, Nat.le_refl _⟩ rfl

set_option maxRecDepth 100000 in
set_option maxHeartbeats 4000000 in
theorem jb_mo_readsNumber_109 {lay : List LK} {th : Nat} {p1 : Int} {p2 : Int} {p3 : Int}  (hs : sub lay th blkModel)  (h : Hp) : J mi_mo_readsNumber encI (Same lay) lay 0 0 109 [] [] h (mo_readsNumber_b109 th p1 p2 p3 h) := by
  unfold mo_readsNumber_b109
  refine j_iconst (x := 1) dX6_readsNumber_109 rfl (by decide) ?_
  refine j_goto (tgt := 114) dX6_readsNumber_110 (by decide) ?_
  exact jb_mo_readsNumber_114 hs _ _

set_option maxRecDepth 100000 in
set_option maxHeartbeats 4000000 in
theorem jb_mo_readsNumber_77 {lay : List LK} {th : Nat} {p1 : Int} {p2 : Int} {p3 : Int}  (hs : sub lay th blkModel)  (h : Hp) : J mi_mo_readsNumber encI (Same lay) lay 0 0 77 [(0, vr th)] [] h (mo_readsNumber_b77 th p1 p2 p3 h) := by
  unfold mo_readsNumber_b77
  refine j_aload_n 0 dX6_readsNumber_77 rfl ?_
  refine j_iconst (x := 1) dX6_readsNumber_78 rfl (by decide) ?_
  refine j_aload_n 0 dX6_readsNumber_79 rfl ?_
  refine j_getI 6 6 dX6_readsNumber_80 zc_6 rfl (sub_k hs 0 rfl rfl) (by decide) lk_X6_105 rfl rfl ?_
  refine j_cV (stk := []) [vi 1, vi (h th 6)] th dX6_readsNumber_83 mv_mo_fails lm_X6_125 (sub_k hs 0 rfl rfl) zc_6 (ct_mo_fails hs h) rfl rfl ⟨⟨Nat.le_of_ble_eq_true rfl, Nat.le_of_ble_eq_true rfl⟩, Nat.le_of_ble_eq_true rfl, Nat.le_of_ble_eq_true rfl⟩ (Nat.le_of_ble_eq_true rfl) rfl rfl (fun r1 h1 _ => ?_)
  exact j_retZ rfl rfl rfl dX6_readsNumber_86 rfl ⟨Nat.le_refl _, Nat.le_refl _⟩ rfl

set_option maxRecDepth 100000 in
set_option maxHeartbeats 4000000 in
theorem jb_mo_readsNumber_61 {lay : List LK} {th : Nat} {p1 : Int} {p2 : Int} {p3 : Int}  (hs : sub lay th blkModel)  (x4 : Int) (h : Hp) : J mi_mo_readsNumber encI (Same lay) lay 0 0 61 [(0, vr th), (2, vi p2), (3, vi p3), (4, vi x4)] [] h (mo_readsNumber_b61 th p1 p2 p3 x4 h) := by
  unfold mo_readsNumber_b61
  refine j_aload_n 0 dX6_readsNumber_61 rfl ?_
  refine j_getI 6 6 dX6_readsNumber_62 zc_6 rfl (sub_k hs 0 rfl rfl) (by decide) lk_X6_105 rfl rfl ?_
  refine j_iload 3 dX6_readsNumber_65 rfl ?_
  refine j_icmp_eq (tgt := 77) dX6_readsNumber_67 (by decide) ?_ ?_
  · refine j_sub [0] rfl ?_
    exact jb_mo_readsNumber_77 hs _
  · refine j_aload_n 0 dX6_readsNumber_70 rfl ?_
    refine j_cV (stk := []) [] th dX6_readsNumber_71 mv_mo_isDigit lm_X6_121 (sub_k hs 0 rfl rfl) zc_6 (ct_mo_isDigit hs h) rfl rfl ⟨⟨Nat.le_of_ble_eq_true rfl, Nat.le_of_ble_eq_true rfl⟩, Nat.le_of_ble_eq_true rfl, Nat.le_of_ble_eq_true rfl⟩ (Nat.le_of_ble_eq_true rfl) rfl rfl (fun r1 h1 _ => ?_)
    refine j_if_eq (tgt := 87) dX6_readsNumber_74 (by decide) ?_ ?_
    · refine j_aload_n 0 dX6_readsNumber_87 rfl ?_
      refine j_getI 7 7 dX6_readsNumber_88 zc_6 rfl (sub_k hs 0 rfl rfl) (by decide) lk_X6_118 rfl rfl ?_
      refine j_iload_n 1 dX6_readsNumber_91 rfl ?_
      refine j_iload_n 2 dX6_readsNumber_92 rfl ?_
      refine j_cS (stk := []) [vi (h1 th 7), vi p2, vi p3] dX6_readsNumber_93 mv_mo_in lm_X6_46 (ct_mo_in h1) rfl rfl ⟨⟨Nat.le_of_ble_eq_true rfl, Nat.le_of_ble_eq_true rfl⟩, Nat.le_of_ble_eq_true rfl, Nat.le_of_ble_eq_true rfl⟩ (Nat.le_of_ble_eq_true rfl) rfl rfl (fun r2 h2 _ => ?_)
      refine j_if_ne (tgt := 109) dX6_readsNumber_96 (by decide) ?_ ?_
      · refine j_aload_n 0 dX6_readsNumber_99 rfl ?_
        refine j_iconst (x := 2) dX6_readsNumber_100 rfl (by decide) ?_
        refine j_iload 3 dX6_readsNumber_101 rfl ?_
        refine j_cV (stk := []) [vi 2, vi x4] th dX6_readsNumber_103 mv_mo_fails lm_X6_125 (sub_k hs 0 rfl rfl) zc_6 (ct_mo_fails hs h2) rfl rfl ⟨⟨Nat.le_of_ble_eq_true rfl, Nat.le_of_ble_eq_true rfl⟩, Nat.le_of_ble_eq_true rfl, Nat.le_of_ble_eq_true rfl⟩ (Nat.le_of_ble_eq_true rfl) rfl rfl (fun r3 h3 _ => ?_)
        refine j_if_eq (tgt := 113) dX6_readsNumber_106 (by decide) ?_ ?_
        · refine j_iconst (x := 0) dX6_readsNumber_113 rfl (by decide) ?_
          refine j_sub [] rfl ?_
          exact jb_mo_readsNumber_114 hs _ _
        · refine j_sub [] rfl ?_
          exact jb_mo_readsNumber_109 hs _
      · refine j_sub [] rfl ?_
        exact jb_mo_readsNumber_109 hs _
    · refine j_sub [0] rfl ?_
      exact jb_mo_readsNumber_77 hs _

set_option maxRecDepth 100000 in
set_option maxHeartbeats 4000000 in
theorem jl_mo_readsNumber_11 {lay : List LK} {th : Nat} {p1 : Int} {p2 : Int} {p3 : Int}  (hs : sub lay th blkModel)  : ∀ (n : Nat) (x4 : Int) (h : Hp), J mi_mo_readsNumber encI (Same lay) lay 0 0 11 [(0, vr th), (1, vi p1), (2, vi p2), (3, vi p3), (4, vi x4)] [] h (iter1 (mo_readsNumber_f11 th p1 p2 p3) n x4 h) := by
  refine j_iter1 (lf := fun x4 => [(0, vr th), (1, vi p1), (2, vi p2), (3, vi p3), (4, vi x4)]) (fun k11 hk11 x4 h => ?_)
  unfold mo_readsNumber_f11
  refine j_aload_n 0 dX6_readsNumber_11 rfl ?_
  refine j_cV (stk := []) [] th dX6_readsNumber_12 mv_mo_isDigit lm_X6_121 (sub_k hs 0 rfl rfl) zc_6 (ct_mo_isDigit hs h) rfl rfl ⟨⟨Nat.le_of_ble_eq_true rfl, Nat.le_of_ble_eq_true rfl⟩, Nat.le_of_ble_eq_true rfl, Nat.le_of_ble_eq_true rfl⟩ (Nat.le_of_ble_eq_true rfl) rfl rfl (fun r1 h1 _ => ?_)
  refine j_if_eq (tgt := 61) dX6_readsNumber_15 (by decide) ?_ ?_
  · refine j_sub [0, 2, 3, 4] rfl ?_
    exact jb_mo_readsNumber_61 hs _ _
  · refine j_aload_n 0 dX6_readsNumber_18 rfl ?_
    refine j_getI 6 6 dX6_readsNumber_19 zc_6 rfl (sub_k hs 0 rfl rfl) (by decide) lk_X6_105 rfl rfl ?_
    refine j_iload 4 dX6_readsNumber_22 rfl ?_
    refine j_iload_n 1 dX6_readsNumber_24 rfl ?_
    refine j_iadd dX6_readsNumber_25 ?_
    refine j_icmp_ge (tgt := 61) dX6_readsNumber_26 (by decide) ?_ ?_
    · refine j_aload_n 0 dX6_readsNumber_29 rfl ?_
      refine j_bipush (x := 10) dX6_readsNumber_30 (by decide) (by decide) ?_
      refine j_aload_n 0 dX6_readsNumber_32 rfl ?_
      refine j_getI 7 7 dX6_readsNumber_33 zc_6 rfl (sub_k hs 0 rfl rfl) (by decide) lk_X6_118 rfl rfl ?_
      refine j_imul dX6_readsNumber_36 ?_
      refine j_aload_n 0 dX6_readsNumber_37 rfl ?_
      refine j_cV (stk := [vi (10 * (h1 th 7)), vr th]) [] th dX6_readsNumber_38 mv_mo_here lm_X6_108 (sub_k hs 0 rfl rfl) zc_6 (ct_mo_here hs h1) rfl rfl ⟨⟨Nat.le_of_ble_eq_true rfl, Nat.le_of_ble_eq_true rfl⟩, Nat.le_of_ble_eq_true rfl, Nat.le_of_ble_eq_true rfl⟩ (Nat.le_of_ble_eq_true rfl) rfl rfl (fun r2 h2 _ => ?_)
      refine j_iadd dX6_readsNumber_41 ?_
      refine j_bipush (x := 48) dX6_readsNumber_42 (by decide) (by decide) ?_
      refine j_isub dX6_readsNumber_44 ?_
      refine j_putI 7 7 dX6_readsNumber_45 zc_6 rfl (sub_k hs 0 rfl rfl) (by decide) lk_X6_118 rfl rfl rfl rfl (fun h3 _ => ?_)
      refine j_aload_n 0 dX6_readsNumber_48 rfl ?_
      refine j_dup dX6_readsNumber_49 (fun _ _ => rfl) ?_
      refine j_getI 6 6 dX6_readsNumber_50 zc_6 rfl (sub_k hs 0 rfl rfl) (by decide) lk_X6_105 rfl rfl ?_
      refine j_iconst (x := 1) dX6_readsNumber_53 rfl (by decide) ?_
      refine j_iadd dX6_readsNumber_54 ?_
      refine j_putI 6 6 dX6_readsNumber_55 zc_6 rfl (sub_k hs 0 rfl rfl) (by decide) lk_X6_105 rfl rfl rfl rfl (fun h4 _ => ?_)
      refine j_goto (tgt := 11) dX6_readsNumber_58 (by decide) ?_
      exact hk11 _ _
    · refine j_sub [0, 2, 3, 4] rfl ?_
      exact jb_mo_readsNumber_61 hs _ _

set_option maxRecDepth 100000 in
set_option maxHeartbeats 4000000 in
theorem ct_mo_readsNumber {lay : List LK} {th : Nat} {p1 : Int} {p2 : Int} {p3 : Int} (hs : sub lay th blkModel) (h : Hp) : CT mi_mo_readsNumber encI (Same lay) lay [vr th, vi p1, vi p2, vi p3] h (mo_readsNumber th p1 p2 p3 h) := by
  refine CT.of (by decide) rfl (Nat.le_of_ble_eq_true rfl) ?_
  show J mi_mo_readsNumber encI (Same lay) lay 0 0 0 [(0, vr th), (1, vi p1), (2, vi p2), (3, vi p3)] [] h _
  unfold mo_readsNumber
  refine j_aload_n 0 dX6_readsNumber_0 rfl ?_
  refine j_getI 6 6 dX6_readsNumber_1 zc_6 rfl (sub_k hs 0 rfl rfl) (by decide) lk_X6_105 rfl rfl ?_
  refine j_istore (lv' := [(4, vi (h th 6)), (0, vr th), (1, vi p1), (2, vi p2), (3, vi p3)]) dX6_readsNumber_4 (by decide) rfl ?_
  refine j_aload_n 1 dX6_readsNumber_6 rfl ?_
  refine j_iconst (x := 0) dX6_readsNumber_7 rfl (by decide) ?_
  refine j_putI 7 7 dX6_readsNumber_8 zc_6 rfl (sub_k hs 0 rfl rfl) (by decide) lk_X6_118 rfl rfl rfl rfl (fun h1 _ => ?_)
  refine j_sub [1, 2, 3, 4, 0] rfl ?_
  exact jl_mo_readsNumber_11 hs fuel _ _

set_option maxRecDepth 100000 in
set_option maxHeartbeats 4000000 in
theorem ct_mo_reads {lay : List LK} {th : Nat} {p1 : Int} (hs : sub lay th blkModel) (h : Hp) : CT mi_mo_reads encI (Same lay) lay [vr th, vi p1] h (mo_reads th p1 h) := by
  refine CT.of (by decide) rfl (Nat.le_of_ble_eq_true rfl) ?_
  show J mi_mo_reads encI (Same lay) lay 0 0 0 [(0, vr th), (1, vi p1)] [] h _
  unfold mo_reads
  refine j_aload_n 0 dX6_reads_0 rfl ?_
  refine j_cV (stk := []) [] th dX6_reads_1 mv_mo_here lm_X6_108 (sub_k hs 0 rfl rfl) zc_6 (ct_mo_here hs h) rfl rfl ⟨⟨Nat.le_of_ble_eq_true rfl, Nat.le_of_ble_eq_true rfl⟩, Nat.le_of_ble_eq_true rfl, Nat.le_of_ble_eq_true rfl⟩ (Nat.le_of_ble_eq_true rfl) rfl rfl (fun r1 h1 _ => ?_)
  refine j_iload_n 1 dX6_reads_4 rfl ?_
  refine j_icmp_eq (tgt := 18) dX6_reads_5 (by decide) ?_ ?_
  · refine j_aload_n 0 dX6_reads_18 rfl ?_
    refine j_dup dX6_reads_19 (fun _ _ => rfl) ?_
    refine j_getI 6 6 dX6_reads_20 zc_6 rfl (sub_k hs 0 rfl rfl) (by decide) lk_X6_105 rfl rfl ?_
    refine j_iconst (x := 1) dX6_reads_23 rfl (by decide) ?_
    refine j_iadd dX6_reads_24 ?_
    refine j_putI 6 6 dX6_reads_25 zc_6 rfl (sub_k hs 0 rfl rfl) (by decide) lk_X6_105 rfl rfl rfl rfl (fun h2 _ => ?_)
    refine j_iconst (x := 1) dX6_reads_28 rfl (by decide) ?_
    exact j_retZ bz1.symm rfl rfl dX6_reads_29 rfl ⟨Nat.le_refl _, Nat.le_refl _⟩ rfl
  · refine j_aload_n 0 dX6_reads_8 rfl ?_
    refine j_iconst (x := 1) dX6_reads_9 rfl (by decide) ?_
    refine j_aload_n 0 dX6_reads_10 rfl ?_
    refine j_getI 6 6 dX6_reads_11 zc_6 rfl (sub_k hs 0 rfl rfl) (by decide) lk_X6_105 rfl rfl ?_
    refine j_cV (stk := []) [vi 1, vi (h1 th 6)] th dX6_reads_14 mv_mo_fails lm_X6_125 (sub_k hs 0 rfl rfl) zc_6 (ct_mo_fails hs h1) rfl rfl ⟨⟨Nat.le_of_ble_eq_true rfl, Nat.le_of_ble_eq_true rfl⟩, Nat.le_of_ble_eq_true rfl, Nat.le_of_ble_eq_true rfl⟩ (Nat.le_of_ble_eq_true rfl) rfl rfl (fun r3 h3 _ => ?_)
    exact j_retZ rfl rfl rfl dX6_reads_17 rfl ⟨Nat.le_refl _, Nat.le_refl _⟩ rfl

set_option maxRecDepth 100000 in
set_option maxHeartbeats 4000000 in
theorem jb_mo_readsPositions_120 {lay : List LK} {th : Nat}  (hs : sub lay th blkModel)  (s0 : Int) (h : Hp) : J mi_mo_readsPositions encI (Same lay) lay 0 0 120 [] [vi s0] h (mo_readsPositions_b120 th s0 h) := by
  unfold mo_readsPositions_b120
  exact j_retZ rfl rfl rfl dX6_readsPositions_120 rfl ⟨Nat.le_refl _, Nat.le_refl _⟩ rfl

set_option maxRecDepth 100000 in
set_option maxHeartbeats 4000000 in
theorem jb_mo_readsPositions_101 {lay : List LK} {th : Nat} {k9 : Int → Int → Hp → O Int} (hs : sub lay th blkModel) (hk9 : ∀ (x1 x2 : Int) (h : Hp), J mi_mo_readsPositions encI (Same lay) lay 0 0 9 [(0, vr th), (1, vi x1), (2, vi x2)] [] h (k9 x1 x2 h)) (x1 x2 s0 s1 : Int) (h : Hp) : J mi_mo_readsPositions encI (Same lay) lay 0 0 101 [(0, vr th), (1, vi x1), (2, vi x2)] [vi s0, vi s1, vr th] h (mo_readsPositions_b101 th k9 x1 x2 s0 s1 h) := by
  unfold mo_readsPositions_b101
  refine j_iadd dX6_readsPositions_101 ?_
  refine j_putI 6 6 dX6_readsPositions_102 zc_6 rfl (sub_k hs 0 rfl rfl) (by decide) lk_X6_105 rfl rfl rfl rfl (fun h1 _ => ?_)
  refine j_goto (tgt := 9) dX6_readsPositions_105 (by decide) ?_
  exact hk9 _ _ _

set_option maxRecDepth 100000 in
set_option maxHeartbeats 4000000 in
theorem jb_mo_readsPositions_86 {lay : List LK} {th : Nat} {k9 : Int → Int → Hp → O Int} (hs : sub lay th blkModel) (hk9 : ∀ (x1 x2 : Int) (h : Hp), J mi_mo_readsPositions encI (Same lay) lay 0 0 9 [(0, vr th), (1, vi x1), (2, vi x2)] [] h (k9 x1 x2 h)) (x1 s0 : Int) (h : Hp) : J mi_mo_readsPositions encI (Same lay) lay 0 0 86 [(0, vr th), (1, vi x1)] [vi s0] h (mo_readsPositions_b86 th k9 x1 s0 h) := by
  unfold mo_readsPositions_b86
  refine j_istore_n (lv' := [(2, vi s0), (0, vr th), (1, vi x1)]) dX6_readsPositions_86 (by decide) rfl ?_
  refine j_aload_n 1 dX6_readsPositions_87 rfl ?_
  refine j_dup dX6_readsPositions_88 (fun _ _ => rfl) ?_
  refine j_getI 6 6 dX6_readsPositions_89 zc_6 rfl (sub_k hs 0 rfl rfl) (by decide) lk_X6_105 rfl rfl ?_
  refine j_iload_n 0 dX6_readsPositions_92 rfl ?_
  refine j_if_eq (tgt := 100) dX6_readsPositions_93 (by decide) ?_ ?_
  · refine j_iconst (x := 0) dX6_readsPositions_100 rfl (by decide) ?_
    refine j_sub [1, 2, 0] rfl ?_
    exact jb_mo_readsPositions_101 hs hk9 _ _ _ _ _
  · refine j_iconst (x := 1) dX6_readsPositions_96 rfl (by decide) ?_
    refine j_goto (tgt := 101) dX6_readsPositions_97 (by decide) ?_
    refine j_sub [1, 2, 0] rfl ?_
    exact jb_mo_readsPositions_101 hs hk9 _ _ _ _ _

set_option maxRecDepth 100000 in
set_option maxHeartbeats 4000000 in
theorem jb_mo_readsPositions_85 {lay : List LK} {th : Nat} {k9 : Int → Int → Hp → O Int} (hs : sub lay th blkModel) (hk9 : ∀ (x1 x2 : Int) (h : Hp), J mi_mo_readsPositions encI (Same lay) lay 0 0 9 [(0, vr th), (1, vi x1), (2, vi x2)] [] h (k9 x1 x2 h)) (x1 : Int) (h : Hp) : J mi_mo_readsPositions encI (Same lay) lay 0 0 85 [(0, vr th), (1, vi x1)] [] h (mo_readsPositions_b85 th k9 x1 h) := by
  unfold mo_readsPositions_b85
  refine j_iconst (x := 0) dX6_readsPositions_85 rfl (by decide) ?_
  exact jb_mo_readsPositions_86 hs hk9 _ _ _

set_option maxRecDepth 100000 in
set_option maxHeartbeats 4000000 in
theorem jl_mo_readsPositions_9 {lay : List LK} {th : Nat}  (hs : sub lay th blkModel)  : ∀ (n : Nat) (x1 x2 : Int) (h : Hp), J mi_mo_readsPositions encI (Same lay) lay 0 0 9 [(0, vr th), (1, vi x1), (2, vi x2)] [] h (iter2 (mo_readsPositions_f9 th) n x1 x2 h) := by
  refine j_iter2 (lf := fun x1 x2 => [(0, vr th), (1, vi x1), (2, vi x2)]) (fun k9 hk9 x1 x2 h => ?_)
  unfold mo_readsPositions_f9
  refine j_iload_n 2 dX6_readsPositions_9 rfl ?_
  refine j_if_eq (tgt := 108) dX6_readsPositions_10 (by decide) ?_ ?_
  · refine j_aload_n 0 dX6_readsPositions_108 rfl ?_
    refine j_getI 4 4 dX6_readsPositions_109 zc_6 rfl (sub_k hs 0 rfl rfl) (by decide) lk_X6_112 rfl rfl ?_
    refine j_if_ne (tgt := 119) dX6_readsPositions_112 (by decide) ?_ ?_
    · refine j_iconst (x := 1) dX6_readsPositions_115 rfl (by decide) ?_
      refine j_goto (tgt := 120) dX6_readsPositions_116 (by decide) ?_
      refine j_sub [] rfl ?_
      exact jb_mo_readsPositions_120 hs _ _
    · refine j_iconst (x := 0) dX6_readsPositions_119 rfl (by decide) ?_
      refine j_sub [] rfl ?_
      exact jb_mo_readsPositions_120 hs _ _
  · refine j_aload_n 0 dX6_readsPositions_13 rfl ?_
    refine j_iconst (x := 3) dX6_readsPositions_14 rfl (by decide) ?_
    refine j_iload_n 1 dX6_readsPositions_15 rfl ?_
    refine j_iconst (x := 1) dX6_readsPositions_16 rfl (by decide) ?_
    refine j_iadd dX6_readsPositions_17 ?_
    refine j_sipush (x := 300) dX6_readsPositions_18 (by decide) (by decide) ?_
    refine j_cV (stk := []) [vi 3, vi (x1 + 1), vi 300] th dX6_readsPositions_21 mv_mo_readsNumber lm_X6_132 (sub_k hs 0 rfl rfl) zc_6 (ct_mo_readsNumber hs h) rfl rfl ⟨⟨Nat.le_of_ble_eq_true rfl, Nat.le_of_ble_eq_true rfl⟩, Nat.le_of_ble_eq_true rfl, Nat.le_of_ble_eq_true rfl⟩ (Nat.le_of_ble_eq_true rfl) rfl rfl (fun r1 h1 _ => ?_)
    refine j_if_ne (tgt := 29) dX6_readsPositions_24 (by decide) ?_ ?_
    · refine j_iconst (x := 0) dX6_readsPositions_27 rfl (by decide) ?_
      exact j_retZ bz0.symm rfl rfl dX6_readsPositions_28 rfl ⟨Nat.le_refl _, Nat.le_refl _⟩ rfl
    · refine j_aload_n 0 dX6_readsPositions_29 rfl ?_
      refine j_getI 7 7 dX6_readsPositions_30 zc_6 rfl (sub_k hs 0 rfl rfl) (by decide) lk_X6_118 rfl rfl ?_
      refine j_istore_n (lv' := [(1, vi (h1 th 7)), (0, vr th), (2, vi x2)]) dX6_readsPositions_33 (by decide) rfl ?_
      refine j_aload_n 1 dX6_readsPositions_34 rfl ?_
      refine j_getR 0 1 0 dX6_readsPositions_35 zc_6 rfl (sub_k hs 0 rfl rfl) (by decide) lk_X6_7 rfl (by decide) (rfl : th + 1 = (th + 1)) ?_
      refine j_iconst (x := 1) dX6_readsPositions_38 rfl (by decide) ?_
      refine j_aload_n 1 dX6_readsPositions_39 rfl ?_
      refine j_getR 0 1 0 dX6_readsPositions_40 zc_6 rfl (sub_k hs 0 rfl rfl) (by decide) lk_X6_7 rfl (by decide) (rfl : th + 1 = (th + 1)) ?_
      refine j_iconst (x := 0) dX6_readsPositions_43 rfl (by decide) ?_
      refine j_iald dX6_readsPositions_44 (sub_k hs 1 rfl rfl) rfl ?_
      refine j_iadd dX6_readsPositions_45 ?_
      refine j_aload_n 1 dX6_readsPositions_46 rfl ?_
      refine j_getI 7 7 dX6_readsPositions_47 zc_6 rfl (sub_k hs 0 rfl rfl) (by decide) lk_X6_118 rfl rfl ?_
      refine j_iast dX6_readsPositions_50 (sub_k hs 1 rfl rfl) rfl (fun h2 _ => ?_)
      refine j_aload_n 1 dX6_readsPositions_51 rfl ?_
      refine j_getR 0 1 0 dX6_readsPositions_52 zc_6 rfl (sub_k hs 0 rfl rfl) (by decide) lk_X6_7 rfl (by decide) (rfl : th + 1 = (th + 1)) ?_
      refine j_iconst (x := 0) dX6_readsPositions_55 rfl (by decide) ?_
      refine j_dup2 dX6_readsPositions_56 (fun _ _ => rfl) (fun _ _ => rfl) ?_
      refine j_iald dX6_readsPositions_57 (sub_k hs 1 rfl rfl) rfl ?_
      refine j_iconst (x := 1) dX6_readsPositions_58 rfl (by decide) ?_
      refine j_iadd dX6_readsPositions_59 ?_
      refine j_iast dX6_readsPositions_60 (sub_k hs 1 rfl rfl) rfl (fun h3 _ => ?_)
      refine j_aload_n 1 dX6_readsPositions_61 rfl ?_
      refine j_cV (stk := []) [] th dX6_readsPositions_62 mv_mo_here lm_X6_108 (sub_k hs 0 rfl rfl) zc_6 (ct_mo_here hs h3) rfl rfl ⟨⟨Nat.le_of_ble_eq_true rfl, Nat.le_of_ble_eq_true rfl⟩, Nat.le_of_ble_eq_true rfl, Nat.le_of_ble_eq_true rfl⟩ (Nat.le_of_ble_eq_true rfl) rfl rfl (fun r4 h4 _ => ?_)
      refine j_bipush (x := 44) dX6_readsPositions_65 (by decide) (by decide) ?_
      refine j_icmp_ne (tgt := 85) dX6_readsPositions_67 (by decide) ?_ ?_
      · refine j_aload_n 1 dX6_readsPositions_70 rfl ?_
        refine j_getR 0 1 0 dX6_readsPositions_71 zc_6 rfl (sub_k hs 0 rfl rfl) (by decide) lk_X6_7 rfl (by decide) (rfl : th + 1 = (th + 1)) ?_
        refine j_iconst (x := 0) dX6_readsPositions_74 rfl (by decide) ?_
        refine j_iald dX6_readsPositions_75 (sub_k hs 1 rfl rfl) rfl ?_
        refine j_bipush (x := 12) dX6_readsPositions_76 (by decide) (by decide) ?_
        refine j_icmp_ge (tgt := 85) dX6_readsPositions_78 (by decide) ?_ ?_
        · refine j_iconst (x := 1) dX6_readsPositions_81 rfl (by decide) ?_
          refine j_goto (tgt := 86) dX6_readsPositions_82 (by decide) ?_
          refine j_sub [1, 0] rfl ?_
          exact jb_mo_readsPositions_86 hs hk9 _ _ _
        · refine j_sub [1, 0] rfl ?_
          exact jb_mo_readsPositions_85 hs hk9 _ _
      · refine j_sub [1, 0] rfl ?_
        exact jb_mo_readsPositions_85 hs hk9 _ _

set_option maxRecDepth 100000 in
set_option maxHeartbeats 4000000 in
theorem ct_mo_readsPositions {lay : List LK} {th : Nat} (hs : sub lay th blkModel) (h : Hp) : CT mi_mo_readsPositions encI (Same lay) lay [vr th] h (mo_readsPositions th h) := by
  refine CT.of (by decide) rfl (Nat.le_of_ble_eq_true rfl) ?_
  show J mi_mo_readsPositions encI (Same lay) lay 0 0 0 [(0, vr th)] [] h _
  unfold mo_readsPositions
  refine j_iconst (x := (-1)) dX6_readsPositions_0 rfl (by decide) ?_
  refine j_istore_n (lv' := [(1, vi (-1)), (0, vr th)]) dX6_readsPositions_1 (by decide) rfl ?_
  refine j_aload_n 1 dX6_readsPositions_2 rfl ?_
  refine j_bipush (x := 112) dX6_readsPositions_3 (by decide) (by decide) ?_
  refine j_cV (stk := []) [vi 112] th dX6_readsPositions_5 mv_mo_reads lm_X6_129 (sub_k hs 0 rfl rfl) zc_6 (ct_mo_reads hs h) rfl rfl ⟨⟨Nat.le_of_ble_eq_true rfl, Nat.le_of_ble_eq_true rfl⟩, Nat.le_of_ble_eq_true rfl, Nat.le_of_ble_eq_true rfl⟩ (Nat.le_of_ble_eq_true rfl) rfl rfl (fun r1 h1 _ => ?_)
  refine j_istore_n (lv' := [(2, vi r1), (1, vi (-1)), (0, vr th)]) dX6_readsPositions_8 (by decide) rfl ?_
  refine j_sub [2, 1, 0] rfl ?_
  exact jl_mo_readsPositions_9 hs fuel _ _ _

set_option maxRecDepth 100000 in
set_option maxHeartbeats 4000000 in
theorem ct_mo_readsBehind {lay : List LK} {th : Nat} {p1 : Int} {p2 : Int} {p3 : Int} {p4 : Int} (hs : sub lay th blkModel) (h : Hp) : CT mi_mo_readsBehind encI (Same lay) lay [vr th, vi p1, vi p2, vi p3, vi p4] h (mo_readsBehind th p1 p2 p3 p4 h) := by
  refine CT.of (by decide) rfl (Nat.le_of_ble_eq_true rfl) ?_
  show J mi_mo_readsBehind encI (Same lay) lay 0 0 0 [(0, vr th), (1, vi p1), (2, vi p2), (3, vi p3), (4, vi p4)] [] h _
  unfold mo_readsBehind
  refine j_aload_n 0 dX6_readsBehind_0 rfl ?_
  refine j_iconst (x := 0) dX6_readsBehind_1 rfl (by decide) ?_
  refine j_putI 7 7 dX6_readsBehind_2 zc_6 rfl (sub_k hs 0 rfl rfl) (by decide) lk_X6_118 rfl rfl rfl rfl (fun h1 _ => ?_)
  refine j_aload_n 0 dX6_readsBehind_5 rfl ?_
  refine j_cV (stk := []) [] th dX6_readsBehind_6 mv_mo_here lm_X6_108 (sub_k hs 0 rfl rfl) zc_6 (ct_mo_here hs h1) rfl rfl ⟨⟨Nat.le_of_ble_eq_true rfl, Nat.le_of_ble_eq_true rfl⟩, Nat.le_of_ble_eq_true rfl, Nat.le_of_ble_eq_true rfl⟩ (Nat.le_of_ble_eq_true rfl) rfl rfl (fun r2 h2 _ => ?_)
  refine j_iload_n 1 dX6_readsBehind_9 rfl ?_
  refine j_icmp_eq (tgt := 15) dX6_readsBehind_10 (by decide) ?_ ?_
  · refine j_aload_n 0 dX6_readsBehind_15 rfl ?_
    refine j_dup dX6_readsBehind_16 (fun _ _ => rfl) ?_
    refine j_getI 6 6 dX6_readsBehind_17 zc_6 rfl (sub_k hs 0 rfl rfl) (by decide) lk_X6_105 rfl rfl ?_
    refine j_iconst (x := 1) dX6_readsBehind_20 rfl (by decide) ?_
    refine j_iadd dX6_readsBehind_21 ?_
    refine j_putI 6 6 dX6_readsBehind_22 zc_6 rfl (sub_k hs 0 rfl rfl) (by decide) lk_X6_105 rfl rfl rfl rfl (fun h3 _ => ?_)
    refine j_aload_n 0 dX6_readsBehind_25 rfl ?_
    refine j_iload_n 2 dX6_readsBehind_26 rfl ?_
    refine j_iload_n 3 dX6_readsBehind_27 rfl ?_
    refine j_iload 4 dX6_readsBehind_28 rfl ?_
    refine j_cV (stk := []) [vi p2, vi p3, vi p4] th dX6_readsBehind_30 mv_mo_readsNumber lm_X6_132 (sub_k hs 0 rfl rfl) zc_6 (ct_mo_readsNumber hs h3) rfl rfl ⟨⟨Nat.le_of_ble_eq_true rfl, Nat.le_of_ble_eq_true rfl⟩, Nat.le_of_ble_eq_true rfl, Nat.le_of_ble_eq_true rfl⟩ (Nat.le_of_ble_eq_true rfl) rfl rfl (fun r4 h4 _ => ?_)
    exact j_retZ rfl rfl rfl dX6_readsBehind_33 rfl ⟨Nat.le_refl _, Nat.le_refl _⟩ rfl
  · refine j_iconst (x := 1) dX6_readsBehind_13 rfl (by decide) ?_
    exact j_retZ bz1.symm rfl rfl dX6_readsBehind_14 rfl ⟨Nat.le_refl _, Nat.le_refl _⟩ rfl

set_option maxRecDepth 100000 in
set_option maxHeartbeats 4000000 in
theorem jb_mo_readsDimension_52 {lay : List LK} {th : Nat}  (hs : sub lay th blkModel)  (h : Hp) : J mi_mo_readsDimension encI (Same lay) lay 0 0 52 [] [] h (mo_readsDimension_b52 th h) := by
  unfold mo_readsDimension_b52
  refine j_iconst (x := 0) dX6_readsDimension_52 rfl (by decide) ?_
  exact j_retZ bz0.symm rfl rfl dX6_readsDimension_53 rfl ⟨Nat.le_refl _, Nat.le_refl _⟩ rfl

set_option maxRecDepth 100000 in
set_option maxHeartbeats 4000000 in
theorem ct_mo_readsDimension {lay : List LK} {th : Nat} (hs : sub lay th blkModel) (h : Hp) : CT mi_mo_readsDimension encI (Same lay) lay [vr th] h (mo_readsDimension th h) := by
  refine CT.of (by decide) rfl (Nat.le_of_ble_eq_true rfl) ?_
  show J mi_mo_readsDimension encI (Same lay) lay 0 0 0 [(0, vr th)] [] h _
  unfold mo_readsDimension
  refine j_aload_n 0 dX6_readsDimension_0 rfl ?_
  refine j_iconst (x := 1) dX6_readsDimension_1 rfl (by decide) ?_
  refine j_iconst (x := 0) dX6_readsDimension_2 rfl (by decide) ?_
  refine j_aload_n 0 dX6_readsDimension_3 rfl ?_
  refine j_getR 0 1 0 dX6_readsDimension_4 zc_6 rfl (sub_k hs 0 rfl rfl) (by decide) lk_X6_7 rfl (by decide) (rfl : th + 1 = (th + 1)) ?_
  refine j_iconst (x := 0) dX6_readsDimension_7 rfl (by decide) ?_
  refine j_iald dX6_readsDimension_8 (sub_k hs 1 rfl rfl) rfl ?_
  refine j_iconst (x := 1) dX6_readsDimension_9 rfl (by decide) ?_
  refine j_isub dX6_readsDimension_10 ?_
  refine j_cV (stk := []) [vi 1, vi 0, vi ((h (th + 1) 0) - 1)] th dX6_readsDimension_11 mv_mo_readsNumber lm_X6_132 (sub_k hs 0 rfl rfl) zc_6 (ct_mo_readsNumber hs h) rfl rfl ⟨⟨Nat.le_of_ble_eq_true rfl, Nat.le_of_ble_eq_true rfl⟩, Nat.le_of_ble_eq_true rfl, Nat.le_of_ble_eq_true rfl⟩ (Nat.le_of_ble_eq_true rfl) rfl rfl (fun r1 h1 _ => ?_)
  refine j_if_ne (tgt := 19) dX6_readsDimension_14 (by decide) ?_ ?_
  · refine j_iconst (x := 0) dX6_readsDimension_17 rfl (by decide) ?_
    exact j_retZ bz0.symm rfl rfl dX6_readsDimension_18 rfl ⟨Nat.le_refl _, Nat.le_refl _⟩ rfl
  · refine j_aload_n 0 dX6_readsDimension_19 rfl ?_
    refine j_getI 7 7 dX6_readsDimension_20 zc_6 rfl (sub_k hs 0 rfl rfl) (by decide) lk_X6_118 rfl rfl ?_
    refine j_istore_n (lv' := [(1, vi (h1 th 7)), (0, vr th)]) dX6_readsDimension_23 (by decide) rfl ?_
    refine j_aload_n 1 dX6_readsDimension_24 rfl ?_
    refine j_bipush (x := 45) dX6_readsDimension_25 (by decide) (by decide) ?_
    refine j_cV (stk := []) [vi 45] th dX6_readsDimension_27 mv_mo_reads lm_X6_129 (sub_k hs 0 rfl rfl) zc_6 (ct_mo_reads hs h1) rfl rfl ⟨⟨Nat.le_of_ble_eq_true rfl, Nat.le_of_ble_eq_true rfl⟩, Nat.le_of_ble_eq_true rfl, Nat.le_of_ble_eq_true rfl⟩ (Nat.le_of_ble_eq_true rfl) rfl rfl (fun r2 h2 _ => ?_)
    refine j_if_eq (tgt := 52) dX6_readsDimension_30 (by decide) ?_ ?_
    · refine j_sub [] rfl ?_
      exact jb_mo_readsDimension_52 hs _
    · refine j_aload_n 1 dX6_readsDimension_33 rfl ?_
      refine j_iconst (x := 1) dX6_readsDimension_34 rfl (by decide) ?_
      refine j_iload_n 0 dX6_readsDimension_35 rfl ?_
      refine j_iconst (x := 1) dX6_readsDimension_36 rfl (by decide) ?_
      refine j_iadd dX6_readsDimension_37 ?_
      refine j_aload_n 1 dX6_readsDimension_38 rfl ?_
      refine j_getR 0 1 0 dX6_readsDimension_39 zc_6 rfl (sub_k hs 0 rfl rfl) (by decide) lk_X6_7 rfl (by decide) (rfl : th + 1 = (th + 1)) ?_
      refine j_iconst (x := 0) dX6_readsDimension_42 rfl (by decide) ?_
      refine j_iald dX6_readsDimension_43 (sub_k hs 1 rfl rfl) rfl ?_
      refine j_iconst (x := 1) dX6_readsDimension_44 rfl (by decide) ?_
      refine j_isub dX6_readsDimension_45 ?_
      refine j_cV (stk := []) [vi 1, vi ((h1 th 7) + 1), vi ((h2 (th + 1) 0) - 1)] th dX6_readsDimension_46 mv_mo_readsNumber lm_X6_132 (sub_k hs 0 rfl rfl) zc_6 (ct_mo_readsNumber hs h2) rfl rfl ⟨⟨Nat.le_of_ble_eq_true rfl, Nat.le_of_ble_eq_true rfl⟩, Nat.le_of_ble_eq_true rfl, Nat.le_of_ble_eq_true rfl⟩ (Nat.le_of_ble_eq_true rfl) rfl rfl (fun r3 h3 _ => ?_)
      refine j_if_ne (tgt := 54) dX6_readsDimension_49 (by decide) ?_ ?_
      · refine j_sub [] rfl ?_
        exact jb_mo_readsDimension_52 hs _
      · refine j_aload_n 1 dX6_readsDimension_54 rfl ?_
        refine j_getI 7 7 dX6_readsDimension_55 zc_6 rfl (sub_k hs 0 rfl rfl) (by decide) lk_X6_118 rfl rfl ?_
        refine j_istore_n (lv' := [(2, vi (h3 th 7)), (1, vi (h1 th 7)), (0, vr th)]) dX6_readsDimension_58 (by decide) rfl ?_
        refine j_aload_n 2 dX6_readsDimension_59 rfl ?_
        refine j_bipush (x := 43) dX6_readsDimension_60 (by decide) (by decide) ?_
        refine j_iconst (x := 2) dX6_readsDimension_62 rfl (by decide) ?_
        refine j_iconst (x := 0) dX6_readsDimension_63 rfl (by decide) ?_
        refine j_bipush (x := 20) dX6_readsDimension_64 (by decide) (by decide) ?_
        refine j_cV (stk := []) [vi 43, vi 2, vi 0, vi 20] th dX6_readsDimension_66 mv_mo_readsBehind lm_X6_135 (sub_k hs 0 rfl rfl) zc_6 (ct_mo_readsBehind hs h3) rfl rfl ⟨⟨Nat.le_of_ble_eq_true rfl, Nat.le_of_ble_eq_true rfl⟩, Nat.le_of_ble_eq_true rfl, Nat.le_of_ble_eq_true rfl⟩ (Nat.le_of_ble_eq_true rfl) rfl rfl (fun r4 h4 _ => ?_)
        refine j_if_ne (tgt := 74) dX6_readsDimension_69 (by decide) ?_ ?_
        · refine j_iconst (x := 0) dX6_readsDimension_72 rfl (by decide) ?_
          exact j_retZ bz0.symm rfl rfl dX6_readsDimension_73 rfl ⟨Nat.le_refl _, Nat.le_refl _⟩ rfl
        · refine j_aload_n 2 dX6_readsDimension_74 rfl ?_
          refine j_getI 7 7 dX6_readsDimension_75 zc_6 rfl (sub_k hs 0 rfl rfl) (by decide) lk_X6_118 rfl rfl ?_
          refine j_istore_n (lv' := [(3, vi (h4 th 7)), (2, vi (h3 th 7)), (1, vi (h1 th 7)), (0, vr th)]) dX6_readsDimension_78 (by decide) rfl ?_
          refine j_aload_n 3 dX6_readsDimension_79 rfl ?_
          refine j_bipush (x := 45) dX6_readsDimension_80 (by decide) (by decide) ?_
          refine j_iconst (x := 2) dX6_readsDimension_82 rfl (by decide) ?_
          refine j_iconst (x := 0) dX6_readsDimension_83 rfl (by decide) ?_
          refine j_bipush (x := 20) dX6_readsDimension_84 (by decide) (by decide) ?_
          refine j_cV (stk := []) [vi 45, vi 2, vi 0, vi 20] th dX6_readsDimension_86 mv_mo_readsBehind lm_X6_135 (sub_k hs 0 rfl rfl) zc_6 (ct_mo_readsBehind hs h4) rfl rfl ⟨⟨Nat.le_of_ble_eq_true rfl, Nat.le_of_ble_eq_true rfl⟩, Nat.le_of_ble_eq_true rfl, Nat.le_of_ble_eq_true rfl⟩ (Nat.le_of_ble_eq_true rfl) rfl rfl (fun r5 h5 _ => ?_)
          refine j_if_ne (tgt := 94) dX6_readsDimension_89 (by decide) ?_ ?_
          · refine j_iconst (x := 0) dX6_readsDimension_92 rfl (by decide) ?_
            exact j_retZ bz0.symm rfl rfl dX6_readsDimension_93 rfl ⟨Nat.le_refl _, Nat.le_refl _⟩ rfl
          · refine j_aload_n 3 dX6_readsDimension_94 rfl ?_
            refine j_getI 7 7 dX6_readsDimension_95 zc_6 rfl (sub_k hs 0 rfl rfl) (by decide) lk_X6_118 rfl rfl ?_
            refine j_istore (lv' := [(4, vi (h5 th 7)), (3, vi (h4 th 7)), (2, vi (h3 th 7)), (1, vi (h1 th 7)), (0, vr th)]) dX6_readsDimension_98 (by decide) rfl ?_
            refine j_aload_n 4 dX6_readsDimension_100 rfl ?_
            refine j_bipush (x := 99) dX6_readsDimension_101 (by decide) (by decide) ?_
            refine j_iconst (x := 1) dX6_readsDimension_103 rfl (by decide) ?_
            refine j_iconst (x := 0) dX6_readsDimension_104 rfl (by decide) ?_
            refine j_iconst (x := 5) dX6_readsDimension_105 rfl (by decide) ?_
            refine j_cV (stk := []) [vi 99, vi 1, vi 0, vi 5] th dX6_readsDimension_106 mv_mo_readsBehind lm_X6_135 (sub_k hs 0 rfl rfl) zc_6 (ct_mo_readsBehind hs h5) rfl rfl ⟨⟨Nat.le_of_ble_eq_true rfl, Nat.le_of_ble_eq_true rfl⟩, Nat.le_of_ble_eq_true rfl, Nat.le_of_ble_eq_true rfl⟩ (Nat.le_of_ble_eq_true rfl) rfl rfl (fun r6 h6 _ => ?_)
            refine j_if_ne (tgt := 114) dX6_readsDimension_109 (by decide) ?_ ?_
            · refine j_iconst (x := 0) dX6_readsDimension_112 rfl (by decide) ?_
              exact j_retZ bz0.symm rfl rfl dX6_readsDimension_113 rfl ⟨Nat.le_refl _, Nat.le_refl _⟩ rfl
            · refine j_aload_n 4 dX6_readsDimension_114 rfl ?_
              refine j_iload_n 3 dX6_readsDimension_115 rfl ?_
              refine j_iload_n 2 dX6_readsDimension_116 rfl ?_
              refine j_iload 0 dX6_readsDimension_117 rfl ?_
              refine j_iload_n 1 dX6_readsDimension_119 rfl ?_
              refine j_aload_n 4 dX6_readsDimension_120 rfl ?_
              refine j_getI 7 7 dX6_readsDimension_121 zc_6 rfl (sub_k hs 0 rfl rfl) (by decide) lk_X6_118 rfl rfl ?_
              refine j_cV (stk := []) [vi (h1 th 7), vi (h3 th 7), vi (h5 th 7), vi (h4 th 7), vi (h6 th 7)] th dX6_readsDimension_124 mv_mo_lays lm_X6_88 (sub_k hs 0 rfl rfl) zc_6 (ct_mo_lays hs h6) rfl rfl ⟨⟨Nat.le_of_ble_eq_true rfl, Nat.le_of_ble_eq_true rfl⟩, Nat.le_of_ble_eq_true rfl, Nat.le_of_ble_eq_true rfl⟩ (Nat.le_of_ble_eq_true rfl) rfl rfl (fun _ h7 _ => ?_)
              refine j_iconst (x := 1) dX6_readsDimension_127 rfl (by decide) ?_
              exact j_retZ bz1.symm rfl rfl dX6_readsDimension_128 rfl ⟨Nat.le_refl _, Nat.le_refl _⟩ rfl

set_option maxRecDepth 100000 in
set_option maxHeartbeats 4000000 in
theorem jb_mo_readsAll_107 {lay : List LK} {th : Nat}  (hs : sub lay th blkModel)  (h : Hp) : J mi_mo_readsAll encV (Same lay) lay 0 0 107 [] [] h (mo_readsAll_b107 th h) := by
  unfold mo_readsAll_b107
  exact j_retV rfl rfl rfl dX6_readsAll_107 rfl ⟨Nat.le_refl _, Nat.le_refl _⟩ rfl

set_option maxRecDepth 100000 in
set_option maxHeartbeats 4000000 in
theorem jb_mo_readsAll_103 {lay : List LK} {th : Nat} {k15 : Int → Hp → O Unit} (hs : sub lay th blkModel) (hk15 : ∀ (x1 : Int) (h : Hp), J mi_mo_readsAll encV (Same lay) lay 0 0 15 [(0, vr th), (1, vi x1)] [] h (k15 x1 h)) (s0 : Int) (h : Hp) : J mi_mo_readsAll encV (Same lay) lay 0 0 103 [(0, vr th)] [vi s0] h (mo_readsAll_b103 th k15 s0 h) := by
  unfold mo_readsAll_b103
  refine j_istore_n (lv' := [(1, vi s0), (0, vr th)]) dX6_readsAll_103 (by decide) rfl ?_
  refine j_goto (tgt := 15) dX6_readsAll_104 (by decide) ?_
  refine j_sub [1, 0] rfl ?_
  exact hk15 _ _

set_option maxRecDepth 100000 in
set_option maxHeartbeats 4000000 in
theorem jb_mo_readsAll_102 {lay : List LK} {th : Nat} {k15 : Int → Hp → O Unit} (hs : sub lay th blkModel) (hk15 : ∀ (x1 : Int) (h : Hp), J mi_mo_readsAll encV (Same lay) lay 0 0 15 [(0, vr th), (1, vi x1)] [] h (k15 x1 h)) (h : Hp) : J mi_mo_readsAll encV (Same lay) lay 0 0 102 [(0, vr th)] [] h (mo_readsAll_b102 th k15 h) := by
  unfold mo_readsAll_b102
  refine j_iconst (x := 0) dX6_readsAll_102 rfl (by decide) ?_
  exact jb_mo_readsAll_103 hs hk15 _ _

set_option maxRecDepth 100000 in
set_option maxHeartbeats 4000000 in
theorem jb_mo_readsAll_83 {lay : List LK} {th : Nat} {k15 : Int → Hp → O Unit} (hs : sub lay th blkModel) (hk15 : ∀ (x1 : Int) (h : Hp), J mi_mo_readsAll encV (Same lay) lay 0 0 15 [(0, vr th), (1, vi x1)] [] h (k15 x1 h)) (x1 s0 s1 : Int) (h : Hp) : J mi_mo_readsAll encV (Same lay) lay 0 0 83 [(0, vr th), (1, vi x1)] [vi s0, vi s1, vr th] h (mo_readsAll_b83 th k15 x1 s0 s1 h) := by
  unfold mo_readsAll_b83
  refine j_iadd dX6_readsAll_83 ?_
  refine j_putI 6 6 dX6_readsAll_84 zc_6 rfl (sub_k hs 0 rfl rfl) (by decide) lk_X6_105 rfl rfl rfl rfl (fun h1 _ => ?_)
  refine j_iload_n 1 dX6_readsAll_87 rfl ?_
  refine j_if_eq (tgt := 102) dX6_readsAll_88 (by decide) ?_ ?_
  · refine j_sub [0] rfl ?_
    exact jb_mo_readsAll_102 hs hk15 _
  · refine j_aload_n 0 dX6_readsAll_91 rfl ?_
    refine j_cV (stk := []) [] th dX6_readsAll_92 mv_mo_readsDimension lm_X6_142 (sub_k hs 0 rfl rfl) zc_6 (ct_mo_readsDimension hs h1) rfl rfl ⟨⟨Nat.le_of_ble_eq_true rfl, Nat.le_of_ble_eq_true rfl⟩, Nat.le_of_ble_eq_true rfl, Nat.le_of_ble_eq_true rfl⟩ (Nat.le_of_ble_eq_true rfl) rfl rfl (fun r2 h2 _ => ?_)
    refine j_if_eq (tgt := 102) dX6_readsAll_95 (by decide) ?_ ?_
    · refine j_sub [0] rfl ?_
      exact jb_mo_readsAll_102 hs hk15 _
    · refine j_iconst (x := 1) dX6_readsAll_98 rfl (by decide) ?_
      refine j_goto (tgt := 103) dX6_readsAll_99 (by decide) ?_
      refine j_sub [0] rfl ?_
      exact jb_mo_readsAll_103 hs hk15 _ _

set_option maxRecDepth 100000 in
set_option maxHeartbeats 4000000 in
theorem jb_mo_readsAll_68 {lay : List LK} {th : Nat} {k15 : Int → Hp → O Unit} (hs : sub lay th blkModel) (hk15 : ∀ (x1 : Int) (h : Hp), J mi_mo_readsAll encV (Same lay) lay 0 0 15 [(0, vr th), (1, vi x1)] [] h (k15 x1 h)) (s0 : Int) (h : Hp) : J mi_mo_readsAll encV (Same lay) lay 0 0 68 [(0, vr th)] [vi s0] h (mo_readsAll_b68 th k15 s0 h) := by
  unfold mo_readsAll_b68
  refine j_istore_n (lv' := [(1, vi s0), (0, vr th)]) dX6_readsAll_68 (by decide) rfl ?_
  refine j_aload_n 1 dX6_readsAll_69 rfl ?_
  refine j_dup dX6_readsAll_70 (fun _ _ => rfl) ?_
  refine j_getI 6 6 dX6_readsAll_71 zc_6 rfl (sub_k hs 0 rfl rfl) (by decide) lk_X6_105 rfl rfl ?_
  refine j_iload_n 0 dX6_readsAll_74 rfl ?_
  refine j_if_eq (tgt := 82) dX6_readsAll_75 (by decide) ?_ ?_
  · refine j_iconst (x := 0) dX6_readsAll_82 rfl (by decide) ?_
    refine j_sub [1, 0] rfl ?_
    exact jb_mo_readsAll_83 hs hk15 _ _ _ _
  · refine j_iconst (x := 1) dX6_readsAll_78 rfl (by decide) ?_
    refine j_goto (tgt := 83) dX6_readsAll_79 (by decide) ?_
    refine j_sub [1, 0] rfl ?_
    exact jb_mo_readsAll_83 hs hk15 _ _ _ _

set_option maxRecDepth 100000 in
set_option maxHeartbeats 4000000 in
theorem jb_mo_readsAll_63 {lay : List LK} {th : Nat} {k15 : Int → Hp → O Unit} (hs : sub lay th blkModel) (hk15 : ∀ (x1 : Int) (h : Hp), J mi_mo_readsAll encV (Same lay) lay 0 0 15 [(0, vr th), (1, vi x1)] [] h (k15 x1 h)) (h : Hp) : J mi_mo_readsAll encV (Same lay) lay 0 0 63 [(0, vr th)] [] h (mo_readsAll_b63 th k15 h) := by
  unfold mo_readsAll_b63
  refine j_iconst (x := 1) dX6_readsAll_63 rfl (by decide) ?_
  refine j_goto (tgt := 68) dX6_readsAll_64 (by decide) ?_
  exact jb_mo_readsAll_68 hs hk15 _ _

set_option maxRecDepth 100000 in
set_option maxHeartbeats 4000000 in
theorem jb_mo_readsAll_51 {lay : List LK} {th : Nat} {k15 : Int → Hp → O Unit} (hs : sub lay th blkModel) (hk15 : ∀ (x1 : Int) (h : Hp), J mi_mo_readsAll encV (Same lay) lay 0 0 15 [(0, vr th), (1, vi x1)] [] h (k15 x1 h)) (h : Hp) : J mi_mo_readsAll encV (Same lay) lay 0 0 51 [(0, vr th)] [] h (mo_readsAll_b51 th k15 h) := by
  unfold mo_readsAll_b51
  refine j_aload_n 0 dX6_readsAll_51 rfl ?_
  refine j_iconst (x := 1) dX6_readsAll_52 rfl (by decide) ?_
  refine j_aload_n 0 dX6_readsAll_53 rfl ?_
  refine j_getI 6 6 dX6_readsAll_54 zc_6 rfl (sub_k hs 0 rfl rfl) (by decide) lk_X6_105 rfl rfl ?_
  refine j_cV (stk := []) [vi 1, vi (h th 6)] th dX6_readsAll_57 mv_mo_fails lm_X6_125 (sub_k hs 0 rfl rfl) zc_6 (ct_mo_fails hs h) rfl rfl ⟨⟨Nat.le_of_ble_eq_true rfl, Nat.le_of_ble_eq_true rfl⟩, Nat.le_of_ble_eq_true rfl, Nat.le_of_ble_eq_true rfl⟩ (Nat.le_of_ble_eq_true rfl) rfl rfl (fun r1 h1 _ => ?_)
  refine j_if_eq (tgt := 67) dX6_readsAll_60 (by decide) ?_ ?_
  · refine j_iconst (x := 0) dX6_readsAll_67 rfl (by decide) ?_
    exact jb_mo_readsAll_68 hs hk15 _ _
  · exact jb_mo_readsAll_63 hs hk15 _

set_option maxRecDepth 100000 in
set_option maxHeartbeats 4000000 in
theorem jl_mo_readsAll_15 {lay : List LK} {th : Nat}  (hs : sub lay th blkModel)  : ∀ (n : Nat) (x1 : Int) (h : Hp), J mi_mo_readsAll encV (Same lay) lay 0 0 15 [(0, vr th), (1, vi x1)] [] h (iter1 (mo_readsAll_f15 th) n x1 h) := by
  refine j_iter1 (lf := fun x1 => [(0, vr th), (1, vi x1)]) (fun k15 hk15 x1 h => ?_)
  unfold mo_readsAll_f15
  refine j_iload_n 1 dX6_readsAll_15 rfl ?_
  refine j_if_eq (tgt := 107) dX6_readsAll_16 (by decide) ?_ ?_
  · refine j_sub [] rfl ?_
    exact jb_mo_readsAll_107 hs _
  · refine j_aload_n 0 dX6_readsAll_19 rfl ?_
    refine j_getI 6 6 dX6_readsAll_20 zc_6 rfl (sub_k hs 0 rfl rfl) (by decide) lk_X6_105 rfl rfl ?_
    refine j_aload_n 0 dX6_readsAll_23 rfl ?_
    refine j_getI 3 3 dX6_readsAll_24 zc_6 rfl (sub_k hs 0 rfl rfl) (by decide) lk_X6_102 rfl rfl ?_
    refine j_icmp_ge (tgt := 107) dX6_readsAll_27 (by decide) ?_ ?_
    · refine j_aload_n 0 dX6_readsAll_30 rfl ?_
      refine j_cV (stk := []) [] th dX6_readsAll_31 mv_mo_here lm_X6_108 (sub_k hs 0 rfl rfl) zc_6 (ct_mo_here hs h) rfl rfl ⟨⟨Nat.le_of_ble_eq_true rfl, Nat.le_of_ble_eq_true rfl⟩, Nat.le_of_ble_eq_true rfl, Nat.le_of_ble_eq_true rfl⟩ (Nat.le_of_ble_eq_true rfl) rfl rfl (fun r1 h1 _ => ?_)
      refine j_bipush (x := 59) dX6_readsAll_34 (by decide) (by decide) ?_
      refine j_icmp_ne (tgt := 51) dX6_readsAll_36 (by decide) ?_ ?_
      · refine j_aload_n 0 dX6_readsAll_39 rfl ?_
        refine j_getR 0 1 0 dX6_readsAll_40 zc_6 rfl (sub_k hs 0 rfl rfl) (by decide) lk_X6_7 rfl (by decide) (rfl : th + 1 = (th + 1)) ?_
        refine j_bipush (x := 13) dX6_readsAll_43 (by decide) (by decide) ?_
        refine j_iald dX6_readsAll_45 (sub_k hs 1 rfl rfl) rfl ?_
        refine j_bipush (x := 16) dX6_readsAll_46 (by decide) (by decide) ?_
        refine j_icmp_lt (tgt := 63) dX6_readsAll_48 (by decide) ?_ ?_
        · refine j_sub [0] rfl ?_
          exact jb_mo_readsAll_63 hs hk15 _
        · refine j_sub [0] rfl ?_
          exact jb_mo_readsAll_51 hs hk15 _
      · refine j_sub [0] rfl ?_
        exact jb_mo_readsAll_51 hs hk15 _
    · refine j_sub [] rfl ?_
      exact jb_mo_readsAll_107 hs _

set_option maxRecDepth 100000 in
set_option maxHeartbeats 4000000 in
theorem ct_mo_readsAll {lay : List LK} {th : Nat} (hs : sub lay th blkModel) (h : Hp) : CT mi_mo_readsAll encV (Same lay) lay [vr th] h (mo_readsAll th h) := by
  refine CT.of (by decide) rfl (Nat.le_of_ble_eq_true rfl) ?_
  show J mi_mo_readsAll encV (Same lay) lay 0 0 0 [(0, vr th)] [] h _
  unfold mo_readsAll
  refine j_aload_n 0 dX6_readsAll_0 rfl ?_
  refine j_iconst (x := 0) dX6_readsAll_1 rfl (by decide) ?_
  refine j_putI 4 4 dX6_readsAll_2 zc_6 rfl (sub_k hs 0 rfl rfl) (by decide) lk_X6_112 rfl rfl rfl rfl (fun h1 _ => ?_)
  refine j_aload_n 0 dX6_readsAll_5 rfl ?_
  refine j_iconst (x := 0) dX6_readsAll_6 rfl (by decide) ?_
  refine j_putI 6 6 dX6_readsAll_7 zc_6 rfl (sub_k hs 0 rfl rfl) (by decide) lk_X6_105 rfl rfl rfl rfl (fun h2 _ => ?_)
  refine j_aload_n 0 dX6_readsAll_10 rfl ?_
  refine j_cV (stk := []) [] th dX6_readsAll_11 mv_mo_readsPositions lm_X6_139 (sub_k hs 0 rfl rfl) zc_6 (ct_mo_readsPositions hs h2) rfl rfl ⟨⟨Nat.le_of_ble_eq_true rfl, Nat.le_of_ble_eq_true rfl⟩, Nat.le_of_ble_eq_true rfl, Nat.le_of_ble_eq_true rfl⟩ (Nat.le_of_ble_eq_true rfl) rfl rfl (fun r3 h3 _ => ?_)
  refine j_istore_n (lv' := [(1, vi r3), (0, vr th)]) dX6_readsAll_14 (by decide) rfl ?_
  refine j_sub [1, 0] rfl ?_
  exact jl_mo_readsAll_15 hs fuel _ _

set_option maxRecDepth 100000 in
set_option maxHeartbeats 4000000 in
theorem jl_mo_load_50 {lay : List LK} {th : Nat}  (hs : sub lay th blkModel)  : ∀ (n : Nat) (x1 : Int) (h : Hp), J mi_mo_load encI (Same lay) lay 0 0 50 [(0, vr th), (1, vi x1)] [] h (iter1 (mo_load_f50 th) n x1 h) := by
  refine j_iter1 (lf := fun x1 => [(0, vr th), (1, vi x1)]) (fun k50 hk50 x1 h => ?_)
  unfold mo_load_f50
  refine j_iload_n 1 dX6_load_50 rfl ?_
  refine j_bipush (x := 112) dX6_load_51 (by decide) (by decide) ?_
  refine j_icmp_ge (tgt := 96) dX6_load_53 (by decide) ?_ ?_
  · refine j_aload_n 0 dX6_load_56 rfl ?_
    refine j_getR 0 1 0 dX6_load_57 zc_6 rfl (sub_k hs 0 rfl rfl) (by decide) lk_X6_7 rfl (by decide) (rfl : th + 1 = (th + 1)) ?_
    refine j_iload_n 1 dX6_load_60 rfl ?_
    refine j_iald dX6_load_61 (sub_k hs 1 rfl rfl) rfl ?_
    refine j_istore_n (lv' := [(2, vi (h (th + 1) x1)), (0, vr th), (1, vi x1)]) dX6_load_62 (by decide) rfl ?_
    refine j_aload_n 1 dX6_load_63 rfl ?_
    refine j_getR 0 1 0 dX6_load_64 zc_6 rfl (sub_k hs 0 rfl rfl) (by decide) lk_X6_7 rfl (by decide) (rfl : th + 1 = (th + 1)) ?_
    refine j_iload_n 2 dX6_load_67 rfl ?_
    refine j_aload_n 1 dX6_load_68 rfl ?_
    refine j_getR 0 1 0 dX6_load_69 zc_6 rfl (sub_k hs 0 rfl rfl) (by decide) lk_X6_7 rfl (by decide) (rfl : th + 1 = (th + 1)) ?_
    refine j_sipush (x := 1008) dX6_load_72 (by decide) (by decide) ?_
    refine j_iload_n 2 dX6_load_75 rfl ?_
    refine j_iadd dX6_load_76 ?_
    refine j_iald dX6_load_77 (sub_k hs 1 rfl rfl) rfl ?_
    refine j_iast dX6_load_78 (sub_k hs 1 rfl rfl) rfl (fun h1 _ => ?_)
    refine j_aload_n 1 dX6_load_79 rfl ?_
    refine j_getR 0 1 0 dX6_load_80 zc_6 rfl (sub_k hs 0 rfl rfl) (by decide) lk_X6_7 rfl (by decide) (rfl : th + 1 = (th + 1)) ?_
    refine j_sipush (x := 1008) dX6_load_83 (by decide) (by decide) ?_
    refine j_iload_n 2 dX6_load_86 rfl ?_
    refine j_iadd dX6_load_87 ?_
    refine j_iload_n 0 dX6_load_88 rfl ?_
    refine j_iast dX6_load_89 (sub_k hs 1 rfl rfl) rfl (fun h2 _ => ?_)
    refine j_iinc 2 (lv' := [(1, vi (x1 + 1)), (2, vi (h (th + 1) x1)), (0, vr th)]) dX6_load_90 rfl (by decide) rfl ?_
    refine j_goto (tgt := 50) dX6_load_93 (by decide) ?_
    refine j_sub [2, 0] rfl ?_
    exact hk50 _ _
  · refine j_aload_n 0 dX6_load_96 rfl ?_
    refine j_cV (stk := []) [] th dX6_load_97 mv_mo_records lm_X6_71 (sub_k hs 0 rfl rfl) zc_6 (ct_mo_records hs h) rfl rfl ⟨⟨Nat.le_of_ble_eq_true rfl, Nat.le_of_ble_eq_true rfl⟩, Nat.le_of_ble_eq_true rfl, Nat.le_of_ble_eq_true rfl⟩ (Nat.le_of_ble_eq_true rfl) rfl rfl (fun _ h3 _ => ?_)
    refine j_aload_n 0 dX6_load_100 rfl ?_
    refine j_bipush (x := 9) dX6_load_101 (by decide) (by decide) ?_
    refine j_iconst (x := 0) dX6_load_103 rfl (by decide) ?_
    refine j_cV (stk := []) [vi 9, vi 0] th dX6_load_104 mv_mo_copies lm_X6_42 (sub_k hs 0 rfl rfl) zc_6 (ct_mo_copies hs h3) rfl rfl ⟨⟨Nat.le_of_ble_eq_true rfl, Nat.le_of_ble_eq_true rfl⟩, Nat.le_of_ble_eq_true rfl, Nat.le_of_ble_eq_true rfl⟩ (Nat.le_of_ble_eq_true rfl) rfl rfl (fun _ h4 _ => ?_)
    refine j_aload_n 0 dX6_load_107 rfl ?_
    refine j_getR 0 1 0 dX6_load_108 zc_6 rfl (sub_k hs 0 rfl rfl) (by decide) lk_X6_7 rfl (by decide) (rfl : th + 1 = (th + 1)) ?_
    refine j_bipush (x := 13) dX6_load_111 (by decide) (by decide) ?_
    refine j_iald dX6_load_113 (sub_k hs 1 rfl rfl) rfl ?_
    exact j_retI (h0 := h4) (r := 0) rfl rfl rfl dX6_load_114 rfl ⟨Nat.le_refl _, Nat.le_refl _⟩ rfl

set_option maxRecDepth 100000 in
set_option maxHeartbeats 4000000 in
theorem ct_mo_load {lay : List LK} {th : Nat} (hs : sub lay th blkModel) (h : Hp) : CT mi_mo_load encI (Same lay) lay [vr th] h (mo_load th h) := by
  refine CT.of (by decide) rfl (Nat.le_of_ble_eq_true rfl) ?_
  show J mi_mo_load encI (Same lay) lay 0 0 0 [(0, vr th)] [] h _
  unfold mo_load
  refine j_aload_n 0 dX6_load_0 rfl ?_
  refine j_iconst (x := 0) dX6_load_1 rfl (by decide) ?_
  refine j_bipush (x := 9) dX6_load_2 (by decide) (by decide) ?_
  refine j_cV (stk := []) [vi 0, vi 9] th dX6_load_4 mv_mo_copies lm_X6_42 (sub_k hs 0 rfl rfl) zc_6 (ct_mo_copies hs h) rfl rfl ⟨⟨Nat.le_of_ble_eq_true rfl, Nat.le_of_ble_eq_true rfl⟩, Nat.le_of_ble_eq_true rfl, Nat.le_of_ble_eq_true rfl⟩ (Nat.le_of_ble_eq_true rfl) rfl rfl (fun _ h1 _ => ?_)
  refine j_aload_n 0 dX6_load_7 rfl ?_
  refine j_getR 0 1 0 dX6_load_8 zc_6 rfl (sub_k hs 0 rfl rfl) (by decide) lk_X6_7 rfl (by decide) (rfl : th + 1 = (th + 1)) ?_
  refine j_iconst (x := 0) dX6_load_11 rfl (by decide) ?_
  refine j_iconst (x := 0) dX6_load_12 rfl (by decide) ?_
  refine j_iast dX6_load_13 (sub_k hs 1 rfl rfl) rfl (fun h2 _ => ?_)
  refine j_aload_n 0 dX6_load_14 rfl ?_
  refine j_getR 0 1 0 dX6_load_15 zc_6 rfl (sub_k hs 0 rfl rfl) (by decide) lk_X6_7 rfl (by decide) (rfl : th + 1 = (th + 1)) ?_
  refine j_bipush (x := 13) dX6_load_18 (by decide) (by decide) ?_
  refine j_iconst (x := 0) dX6_load_20 rfl (by decide) ?_
  refine j_iast dX6_load_21 (sub_k hs 1 rfl rfl) rfl (fun h3 _ => ?_)
  refine j_aload_n 0 dX6_load_22 rfl ?_
  refine j_cV (stk := []) [] th dX6_load_23 mv_mo_readsAll lm_X6_145 (sub_k hs 0 rfl rfl) zc_6 (ct_mo_readsAll hs h3) rfl rfl ⟨⟨Nat.le_of_ble_eq_true rfl, Nat.le_of_ble_eq_true rfl⟩, Nat.le_of_ble_eq_true rfl, Nat.le_of_ble_eq_true rfl⟩ (Nat.le_of_ble_eq_true rfl) rfl rfl (fun _ h4 _ => ?_)
  refine j_aload_n 0 dX6_load_26 rfl ?_
  refine j_getI 4 4 dX6_load_27 zc_6 rfl (sub_k hs 0 rfl rfl) (by decide) lk_X6_112 rfl rfl ?_
  refine j_if_eq (tgt := 48) dX6_load_30 (by decide) ?_ ?_
  · refine j_iconst (x := 0) dX6_load_48 rfl (by decide) ?_
    refine j_istore_n (lv' := [(1, vi 0), (0, vr th)]) dX6_load_49 (by decide) rfl ?_
    refine j_sub [1, 0] rfl ?_
    exact jl_mo_load_50 hs fuel _ _
  · refine j_aload_n 0 dX6_load_33 rfl ?_
    refine j_bipush (x := 9) dX6_load_34 (by decide) (by decide) ?_
    refine j_iconst (x := 0) dX6_load_36 rfl (by decide) ?_
    refine j_cV (stk := []) [vi 9, vi 0] th dX6_load_37 mv_mo_copies lm_X6_42 (sub_k hs 0 rfl rfl) zc_6 (ct_mo_copies hs h4) rfl rfl ⟨⟨Nat.le_of_ble_eq_true rfl, Nat.le_of_ble_eq_true rfl⟩, Nat.le_of_ble_eq_true rfl, Nat.le_of_ble_eq_true rfl⟩ (Nat.le_of_ble_eq_true rfl) rfl rfl (fun _ h5 _ => ?_)
    refine j_bipush (x := (-10)) dX6_load_40 (by decide) (by decide) ?_
    refine j_aload_n 0 dX6_load_42 rfl ?_
    refine j_getI 5 5 dX6_load_43 zc_6 rfl (sub_k hs 0 rfl rfl) (by decide) lk_X6_115 rfl rfl ?_
    refine j_isub dX6_load_46 ?_
    exact j_retI (h0 := h5) (r := 0) rfl rfl rfl dX6_load_47 rfl ⟨Nat.le_refl _, Nat.le_refl _⟩ rfl

set_option maxRecDepth 100000 in
set_option maxHeartbeats 4000000 in
theorem ct_mo_faultKind {lay : List LK} {th : Nat} (hs : sub lay th blkModel) (h : Hp) : CT mi_mo_faultKind encI (Same lay) lay [vr th] h (mo_faultKind th h) := by
  refine CT.of (by decide) rfl (Nat.le_of_ble_eq_true rfl) ?_
  show J mi_mo_faultKind encI (Same lay) lay 0 0 0 [(0, vr th)] [] h _
  unfold mo_faultKind
  refine j_aload_n 0 dX6_faultKind_0 rfl ?_
  refine j_getI 4 4 dX6_faultKind_1 zc_6 rfl (sub_k hs 0 rfl rfl) (by decide) lk_X6_112 rfl rfl ?_
  exact j_retI (h0 := h) (r := 0) rfl rfl rfl dX6_faultKind_4 rfl ⟨Nat.le_refl _, Nat.le_refl _⟩ rfl

set_option maxRecDepth 100000 in
set_option maxHeartbeats 4000000 in
theorem jb_mo_width_34 {lay : List LK} {th : Nat} {p1 : Int}  (hs : sub lay th blkModel)  (s0 s1 : Int) (h : Hp) : J mi_mo_width encI (Same lay) lay 0 0 34 [] [vi s0, vi s1] h (mo_width_b34 th p1 s0 s1 h) := by
  unfold mo_width_b34
  refine j_imul dX6_width_34 ?_
  exact j_retI (h0 := h) (r := 0) rfl rfl rfl dX6_width_35 rfl ⟨Nat.le_refl _, Nat.le_refl _⟩ rfl

set_option maxRecDepth 100000 in
set_option maxHeartbeats 4000000 in
theorem ct_mo_width {lay : List LK} {th : Nat} {p1 : Int} (hs : sub lay th blkModel) (h : Hp) : CT mi_mo_width encI (Same lay) lay [vr th, vi p1] h (mo_width th p1 h) := by
  refine CT.of (by decide) rfl (Nat.le_of_ble_eq_true rfl) ?_
  show J mi_mo_width encI (Same lay) lay 0 0 0 [(0, vr th), (1, vi p1)] [] h _
  unfold mo_width
  refine j_aload_n 0 dX6_width_0 rfl ?_
  refine j_iload_n 1 dX6_width_1 rfl ?_
  refine j_cV (stk := []) [vi p1] th dX6_width_2 mv_mo_value lm_X6_148 (sub_k hs 0 rfl rfl) zc_6 (ct_mo_value hs h) rfl rfl ⟨⟨Nat.le_of_ble_eq_true rfl, Nat.le_of_ble_eq_true rfl⟩, Nat.le_of_ble_eq_true rfl, Nat.le_of_ble_eq_true rfl⟩ (Nat.le_of_ble_eq_true rfl) rfl rfl (fun r1 h1 _ => ?_)
  refine j_istore_n (lv' := [(2, vi r1), (0, vr th), (1, vi p1)]) dX6_width_5 (by decide) rfl ?_
  refine j_aload_n 1 dX6_width_6 rfl ?_
  refine j_getR 0 1 0 dX6_width_7 zc_6 rfl (sub_k hs 0 rfl rfl) (by decide) lk_X6_7 rfl (by decide) (rfl : th + 1 = (th + 1)) ?_
  refine j_bipush (x := 110) dX6_width_10 (by decide) (by decide) ?_
  refine j_iald dX6_width_12 (sub_k hs 1 rfl rfl) rfl ?_
  refine j_iload_n 0 dX6_width_13 rfl ?_
  refine j_bipush (x := 99) dX6_width_14 (by decide) (by decide) ?_
  refine j_icmp_le (tgt := 23) dX6_width_16 (by decide) ?_ ?_
  · refine j_iconst (x := 3) dX6_width_19 rfl (by decide) ?_
    refine j_goto (tgt := 34) dX6_width_20 (by decide) ?_
    refine j_sub [] rfl ?_
    exact jb_mo_width_34 hs _ _ _
  · refine j_iload_n 0 dX6_width_23 rfl ?_
    refine j_bipush (x := 9) dX6_width_24 (by decide) (by decide) ?_
    refine j_icmp_le (tgt := 33) dX6_width_26 (by decide) ?_ ?_
    · refine j_iconst (x := 2) dX6_width_29 rfl (by decide) ?_
      refine j_goto (tgt := 34) dX6_width_30 (by decide) ?_
      refine j_sub [] rfl ?_
      exact jb_mo_width_34 hs _ _ _
    · refine j_iconst (x := 1) dX6_width_33 rfl (by decide) ?_
      refine j_sub [] rfl ?_
      exact jb_mo_width_34 hs _ _ _

set_option maxRecDepth 100000 in
set_option maxHeartbeats 4000000 in
theorem jb_mo_form_45 {lay : List LK} {th : Nat} {p1 : Int}  (hs : sub lay th blkModel)  (s0 : Int) (h : Hp) : J mi_mo_form encI (Same lay) lay 0 0 45 [] [vi s0] h (mo_form_b45 th p1 s0 h) := by
  unfold mo_form_b45
  exact j_retI (h0 := h) (r := 0) rfl rfl rfl dX6_form_45 rfl ⟨Nat.le_refl _, Nat.le_refl _⟩ rfl

set_option maxRecDepth 100000 in
set_option maxHeartbeats 4000000 in
theorem ct_mo_form {lay : List LK} {th : Nat} {p1 : Int} (hs : sub lay th blkModel) (h : Hp) : CT mi_mo_form encI (Same lay) lay [vr th, vi p1] h (mo_form th p1 h) := by
  refine CT.of (by decide) rfl (Nat.le_of_ble_eq_true rfl) ?_
  show J mi_mo_form encI (Same lay) lay 0 0 0 [(0, vr th), (1, vi p1)] [] h _
  unfold mo_form
  refine j_aload_n 0 dX6_form_0 rfl ?_
  refine j_iload_n 1 dX6_form_1 rfl ?_
  refine j_cV (stk := []) [vi p1] th dX6_form_2 mv_mo_value lm_X6_148 (sub_k hs 0 rfl rfl) zc_6 (ct_mo_value hs h) rfl rfl ⟨⟨Nat.le_of_ble_eq_true rfl, Nat.le_of_ble_eq_true rfl⟩, Nat.le_of_ble_eq_true rfl, Nat.le_of_ble_eq_true rfl⟩ (Nat.le_of_ble_eq_true rfl) rfl rfl (fun r1 h1 _ => ?_)
  refine j_aload_n 0 dX6_form_5 rfl ?_
  refine j_iload_n 1 dX6_form_6 rfl ?_
  refine j_cV (stk := [vi r1]) [vi p1] th dX6_form_7 mv_mo_width lm_X6_151 (sub_k hs 0 rfl rfl) zc_6 (ct_mo_width hs h1) rfl rfl ⟨⟨Nat.le_of_ble_eq_true rfl, Nat.le_of_ble_eq_true rfl⟩, Nat.le_of_ble_eq_true rfl, Nat.le_of_ble_eq_true rfl⟩ (Nat.le_of_ble_eq_true rfl) rfl rfl (fun r2 h2 _ => ?_)
  refine j_iconst (x := 2) dX6_form_10 rfl (by decide) ?_
  refine j_aload_n 0 dX6_form_11 rfl ?_
  refine j_getR 0 1 0 dX6_form_12 zc_6 rfl (sub_k hs 0 rfl rfl) (by decide) lk_X6_7 rfl (by decide) (rfl : th + 1 = (th + 1)) ?_
  refine j_bipush (x := 111) dX6_form_15 (by decide) (by decide) ?_
  refine j_iald dX6_form_17 (sub_k hs 1 rfl rfl) rfl ?_
  refine j_imul dX6_form_18 ?_
  refine j_iadd dX6_form_19 ?_
  refine j_icmp_lt (tgt := 27) dX6_form_20 (by decide) ?_ ?_
  · refine j_aload_n 0 dX6_form_27 rfl ?_
    refine j_iload_n 1 dX6_form_28 rfl ?_
    refine j_cV (stk := []) [vi p1] th dX6_form_29 mv_mo_value lm_X6_148 (sub_k hs 0 rfl rfl) zc_6 (ct_mo_value hs h2) rfl rfl ⟨⟨Nat.le_of_ble_eq_true rfl, Nat.le_of_ble_eq_true rfl⟩, Nat.le_of_ble_eq_true rfl, Nat.le_of_ble_eq_true rfl⟩ (Nat.le_of_ble_eq_true rfl) rfl rfl (fun r3 h3 _ => ?_)
    refine j_aload_n 0 dX6_form_32 rfl ?_
    refine j_iload_n 1 dX6_form_33 rfl ?_
    refine j_cV (stk := [vi r3]) [vi p1] th dX6_form_34 mv_mo_width lm_X6_151 (sub_k hs 0 rfl rfl) zc_6 (ct_mo_width hs h3) rfl rfl ⟨⟨Nat.le_of_ble_eq_true rfl, Nat.le_of_ble_eq_true rfl⟩, Nat.le_of_ble_eq_true rfl, Nat.le_of_ble_eq_true rfl⟩ (Nat.le_of_ble_eq_true rfl) rfl rfl (fun r4 h4 _ => ?_)
    refine j_icmp_lt (tgt := 44) dX6_form_37 (by decide) ?_ ?_
    · refine j_iconst (x := 2) dX6_form_44 rfl (by decide) ?_
      refine j_sub [] rfl ?_
      exact jb_mo_form_45 hs _ _
    · refine j_iconst (x := 1) dX6_form_40 rfl (by decide) ?_
      refine j_goto (tgt := 45) dX6_form_41 (by decide) ?_
      refine j_sub [] rfl ?_
      exact jb_mo_form_45 hs _ _
  · refine j_iconst (x := 0) dX6_form_23 rfl (by decide) ?_
    refine j_goto (tgt := 45) dX6_form_24 (by decide) ?_
    refine j_sub [] rfl ?_
    exact jb_mo_form_45 hs _ _

set_option maxRecDepth 100000 in
set_option maxHeartbeats 4000000 in
theorem jb_mo_begins_24 {lay : List LK} {th : Nat} {p1 : Int}  (hs : sub lay th blkModel)  (s0 s1 : Int) (h : Hp) : J mi_mo_begins encI (Same lay) lay 0 0 24 [] [vi s0, vi s1] h (mo_begins_b24 th p1 s0 s1 h) := by
  unfold mo_begins_b24
  refine j_isub dX6_begins_24 ?_
  exact j_retI (h0 := h) (r := 0) rfl rfl rfl dX6_begins_25 rfl ⟨Nat.le_refl _, Nat.le_refl _⟩ rfl

set_option maxRecDepth 100000 in
set_option maxHeartbeats 4000000 in
theorem ct_mo_begins {lay : List LK} {th : Nat} {p1 : Int} (hs : sub lay th blkModel) (h : Hp) : CT mi_mo_begins encI (Same lay) lay [vr th, vi p1] h (mo_begins th p1 h) := by
  refine CT.of (by decide) rfl (Nat.le_of_ble_eq_true rfl) ?_
  show J mi_mo_begins encI (Same lay) lay 0 0 0 [(0, vr th), (1, vi p1)] [] h _
  unfold mo_begins
  refine j_aload_n 0 dX6_begins_0 rfl ?_
  refine j_iload_n 1 dX6_begins_1 rfl ?_
  refine j_cV (stk := []) [vi p1] th dX6_begins_2 mv_mo_from lm_X6_61 (sub_k hs 0 rfl rfl) zc_6 (ct_mo_from hs h) rfl rfl ⟨⟨Nat.le_of_ble_eq_true rfl, Nat.le_of_ble_eq_true rfl⟩, Nat.le_of_ble_eq_true rfl, Nat.le_of_ble_eq_true rfl⟩ (Nat.le_of_ble_eq_true rfl) rfl rfl (fun r1 h1 _ => ?_)
  refine j_aload_n 0 dX6_begins_5 rfl ?_
  refine j_iload_n 1 dX6_begins_6 rfl ?_
  refine j_cV (stk := [vi r1]) [vi p1] th dX6_begins_7 mv_mo_form lm_X6_154 (sub_k hs 0 rfl rfl) zc_6 (ct_mo_form hs h1) rfl rfl ⟨⟨Nat.le_of_ble_eq_true rfl, Nat.le_of_ble_eq_true rfl⟩, Nat.le_of_ble_eq_true rfl, Nat.le_of_ble_eq_true rfl⟩ (Nat.le_of_ble_eq_true rfl) rfl rfl (fun r2 h2 _ => ?_)
  refine j_if_ne (tgt := 17) dX6_begins_10 (by decide) ?_ ?_
  · refine j_iconst (x := 0) dX6_begins_13 rfl (by decide) ?_
    refine j_goto (tgt := 24) dX6_begins_14 (by decide) ?_
    refine j_sub [] rfl ?_
    exact jb_mo_begins_24 hs _ _ _
  · refine j_aload_n 0 dX6_begins_17 rfl ?_
    refine j_getR 0 1 0 dX6_begins_18 zc_6 rfl (sub_k hs 0 rfl rfl) (by decide) lk_X6_7 rfl (by decide) (rfl : th + 1 = (th + 1)) ?_
    refine j_bipush (x := 111) dX6_begins_21 (by decide) (by decide) ?_
    refine j_iald dX6_begins_23 (sub_k hs 1 rfl rfl) rfl ?_
    refine j_sub [] rfl ?_
    exact jb_mo_begins_24 hs _ _ _

set_option maxRecDepth 100000 in
set_option maxHeartbeats 4000000 in
theorem jb_mo_reaches_43 {lay : List LK} {th : Nat} {p1 : Int}  (hs : sub lay th blkModel)  (s0 s1 : Int) (h : Hp) : J mi_mo_reaches encI (Same lay) lay 0 0 43 [] [vi s0, vi s1] h (mo_reaches_b43 th p1 s0 s1 h) := by
  unfold mo_reaches_b43
  refine j_iadd dX6_reaches_43 ?_
  exact j_retI (h0 := h) (r := 0) rfl rfl rfl dX6_reaches_44 rfl ⟨Nat.le_refl _, Nat.le_refl _⟩ rfl

set_option maxRecDepth 100000 in
set_option maxHeartbeats 4000000 in
theorem jb_mo_reaches_24 {lay : List LK} {th : Nat} {p1 : Int}  (hs : sub lay th blkModel)  (s0 s1 : Int) (h : Hp) : J mi_mo_reaches encI (Same lay) lay 0 0 24 [(0, vr th), (1, vi p1)] [vi s0, vi s1] h (mo_reaches_b24 th p1 s0 s1 h) := by
  unfold mo_reaches_b24
  refine j_iadd dX6_reaches_24 ?_
  refine j_aload_n 0 dX6_reaches_25 rfl ?_
  refine j_iload_n 1 dX6_reaches_26 rfl ?_
  refine j_cV (stk := [vi (s1 + s0)]) [vi p1] th dX6_reaches_27 mv_mo_form lm_X6_154 (sub_k hs 0 rfl rfl) zc_6 (ct_mo_form hs h) rfl rfl ⟨⟨Nat.le_of_ble_eq_true rfl, Nat.le_of_ble_eq_true rfl⟩, Nat.le_of_ble_eq_true rfl, Nat.le_of_ble_eq_true rfl⟩ (Nat.le_of_ble_eq_true rfl) rfl rfl (fun r1 h1 _ => ?_)
  refine j_iconst (x := 2) dX6_reaches_30 rfl (by decide) ?_
  refine j_icmp_ne (tgt := 42) dX6_reaches_31 (by decide) ?_ ?_
  · refine j_aload_n 0 dX6_reaches_34 rfl ?_
    refine j_iload_n 1 dX6_reaches_35 rfl ?_
    refine j_cV (stk := [vi (s1 + s0)]) [vi p1] th dX6_reaches_36 mv_mo_width lm_X6_151 (sub_k hs 0 rfl rfl) zc_6 (ct_mo_width hs h1) rfl rfl ⟨⟨Nat.le_of_ble_eq_true rfl, Nat.le_of_ble_eq_true rfl⟩, Nat.le_of_ble_eq_true rfl, Nat.le_of_ble_eq_true rfl⟩ (Nat.le_of_ble_eq_true rfl) rfl rfl (fun r2 h2 _ => ?_)
    refine j_goto (tgt := 43) dX6_reaches_39 (by decide) ?_
    refine j_sub [] rfl ?_
    exact jb_mo_reaches_43 hs _ _ _
  · refine j_iconst (x := 0) dX6_reaches_42 rfl (by decide) ?_
    refine j_sub [] rfl ?_
    exact jb_mo_reaches_43 hs _ _ _

set_option maxRecDepth 100000 in
set_option maxHeartbeats 4000000 in
theorem ct_mo_reaches {lay : List LK} {th : Nat} {p1 : Int} (hs : sub lay th blkModel) (h : Hp) : CT mi_mo_reaches encI (Same lay) lay [vr th, vi p1] h (mo_reaches th p1 h) := by
  refine CT.of (by decide) rfl (Nat.le_of_ble_eq_true rfl) ?_
  show J mi_mo_reaches encI (Same lay) lay 0 0 0 [(0, vr th), (1, vi p1)] [] h _
  unfold mo_reaches
  refine j_aload_n 0 dX6_reaches_0 rfl ?_
  refine j_iload_n 1 dX6_reaches_1 rfl ?_
  refine j_cV (stk := []) [vi p1] th dX6_reaches_2 mv_mo_to lm_X6_58 (sub_k hs 0 rfl rfl) zc_6 (ct_mo_to hs h) rfl rfl ⟨⟨Nat.le_of_ble_eq_true rfl, Nat.le_of_ble_eq_true rfl⟩, Nat.le_of_ble_eq_true rfl, Nat.le_of_ble_eq_true rfl⟩ (Nat.le_of_ble_eq_true rfl) rfl rfl (fun r1 h1 _ => ?_)
  refine j_aload_n 0 dX6_reaches_5 rfl ?_
  refine j_iload_n 1 dX6_reaches_6 rfl ?_
  refine j_cV (stk := [vi r1]) [vi p1] th dX6_reaches_7 mv_mo_form lm_X6_154 (sub_k hs 0 rfl rfl) zc_6 (ct_mo_form hs h1) rfl rfl ⟨⟨Nat.le_of_ble_eq_true rfl, Nat.le_of_ble_eq_true rfl⟩, Nat.le_of_ble_eq_true rfl, Nat.le_of_ble_eq_true rfl⟩ (Nat.le_of_ble_eq_true rfl) rfl rfl (fun r2 h2 _ => ?_)
  refine j_if_ne (tgt := 17) dX6_reaches_10 (by decide) ?_ ?_
  · refine j_iconst (x := 0) dX6_reaches_13 rfl (by decide) ?_
    refine j_goto (tgt := 24) dX6_reaches_14 (by decide) ?_
    exact jb_mo_reaches_24 hs _ _ _
  · refine j_aload_n 0 dX6_reaches_17 rfl ?_
    refine j_getR 0 1 0 dX6_reaches_18 zc_6 rfl (sub_k hs 0 rfl rfl) (by decide) lk_X6_7 rfl (by decide) (rfl : th + 1 = (th + 1)) ?_
    refine j_bipush (x := 111) dX6_reaches_21 (by decide) (by decide) ?_
    refine j_iald dX6_reaches_23 (sub_k hs 1 rfl rfl) rfl ?_
    exact jb_mo_reaches_24 hs _ _ _

set_option maxRecDepth 100000 in
set_option maxHeartbeats 4000000 in
theorem jb_mo_unitOf_33 {lay : List LK} {th : Nat} {p1 : Int} {k2 : Int → Hp → O Int} (hs : sub lay th blkModel) (hk2 : ∀ (x2 : Int) (h : Hp), J mi_mo_unitOf encI (Same lay) lay 0 0 2 [(0, vr th), (1, vi p1), (2, vi x2)] [] h (k2 x2 h)) (x2 : Int) (h : Hp) : J mi_mo_unitOf encI (Same lay) lay 0 0 33 [(0, vr th), (1, vi p1), (2, vi x2)] [] h (mo_unitOf_b33 th p1 k2 x2 h) := by
  unfold mo_unitOf_b33
  refine j_iinc 2 (lv' := [(2, vi (x2 + 1)), (0, vr th), (1, vi p1)]) dX6_unitOf_33 rfl (by decide) rfl ?_
  refine j_goto (tgt := 2) dX6_unitOf_36 (by decide) ?_
  refine j_sub [1, 2, 0] rfl ?_
  exact hk2 _ _

set_option maxRecDepth 100000 in
set_option maxHeartbeats 4000000 in
theorem jl_mo_unitOf_2 {lay : List LK} {th : Nat} {p1 : Int}  (hs : sub lay th blkModel)  : ∀ (n : Nat) (x2 : Int) (h : Hp), J mi_mo_unitOf encI (Same lay) lay 0 0 2 [(0, vr th), (1, vi p1), (2, vi x2)] [] h (iter1 (mo_unitOf_f2 th p1) n x2 h) := by
  refine j_iter1 (lf := fun x2 => [(0, vr th), (1, vi p1), (2, vi x2)]) (fun k2 hk2 x2 h => ?_)
  unfold mo_unitOf_f2
  refine j_iload_n 2 dX6_unitOf_2 rfl ?_
  refine j_iload_n 1 dX6_unitOf_3 rfl ?_
  refine j_icmp_ge (tgt := 39) dX6_unitOf_4 (by decide) ?_ ?_
  · refine j_aload_n 0 dX6_unitOf_7 rfl ?_
    refine j_iload_n 1 dX6_unitOf_8 rfl ?_
    refine j_iconst (x := 4) dX6_unitOf_9 rfl (by decide) ?_
    refine j_cV (stk := []) [vi p1, vi 4] th dX6_unitOf_10 mv_mo_of lm_X6_50 (sub_k hs 0 rfl rfl) zc_6 (ct_mo_of hs h) rfl rfl ⟨⟨Nat.le_of_ble_eq_true rfl, Nat.le_of_ble_eq_true rfl⟩, Nat.le_of_ble_eq_true rfl, Nat.le_of_ble_eq_true rfl⟩ (Nat.le_of_ble_eq_true rfl) rfl rfl (fun r1 h1 _ => ?_)
    refine j_if_le (tgt := 33) dX6_unitOf_13 (by decide) ?_ ?_
    · refine j_aload_n 0 dX6_unitOf_16 rfl ?_
      refine j_iload_n 2 dX6_unitOf_17 rfl ?_
      refine j_iconst (x := 4) dX6_unitOf_18 rfl (by decide) ?_
      refine j_cV (stk := []) [vi x2, vi 4] th dX6_unitOf_19 mv_mo_of lm_X6_50 (sub_k hs 0 rfl rfl) zc_6 (ct_mo_of hs h1) rfl rfl ⟨⟨Nat.le_of_ble_eq_true rfl, Nat.le_of_ble_eq_true rfl⟩, Nat.le_of_ble_eq_true rfl, Nat.le_of_ble_eq_true rfl⟩ (Nat.le_of_ble_eq_true rfl) rfl rfl (fun r2 h2 _ => ?_)
      refine j_aload_n 0 dX6_unitOf_22 rfl ?_
      refine j_iload_n 1 dX6_unitOf_23 rfl ?_
      refine j_iconst (x := 4) dX6_unitOf_24 rfl (by decide) ?_
      refine j_cV (stk := [vi r2]) [vi p1, vi 4] th dX6_unitOf_25 mv_mo_of lm_X6_50 (sub_k hs 0 rfl rfl) zc_6 (ct_mo_of hs h2) rfl rfl ⟨⟨Nat.le_of_ble_eq_true rfl, Nat.le_of_ble_eq_true rfl⟩, Nat.le_of_ble_eq_true rfl, Nat.le_of_ble_eq_true rfl⟩ (Nat.le_of_ble_eq_true rfl) rfl rfl (fun r3 h3 _ => ?_)
      refine j_icmp_ne (tgt := 33) dX6_unitOf_28 (by decide) ?_ ?_
      · refine j_iload_n 2 dX6_unitOf_31 rfl ?_
        exact j_retI (h0 := h3) (r := 0) rfl rfl rfl dX6_unitOf_32 rfl ⟨Nat.le_refl _, Nat.le_refl _⟩ rfl
      · exact jb_mo_unitOf_33 hs hk2 _ _
    · exact jb_mo_unitOf_33 hs hk2 _ _
  · refine j_iload_n 1 dX6_unitOf_39 rfl ?_
    exact j_retI (h0 := h) (r := 0) rfl rfl rfl dX6_unitOf_40 rfl ⟨Nat.le_refl _, Nat.le_refl _⟩ rfl

set_option maxRecDepth 100000 in
set_option maxHeartbeats 4000000 in
theorem ct_mo_unitOf {lay : List LK} {th : Nat} {p1 : Int} (hs : sub lay th blkModel) (h : Hp) : CT mi_mo_unitOf encI (Same lay) lay [vr th, vi p1] h (mo_unitOf th p1 h) := by
  refine CT.of (by decide) rfl (Nat.le_of_ble_eq_true rfl) ?_
  show J mi_mo_unitOf encI (Same lay) lay 0 0 0 [(0, vr th), (1, vi p1)] [] h _
  unfold mo_unitOf
  refine j_iconst (x := 0) dX6_unitOf_0 rfl (by decide) ?_
  refine j_istore_n (lv' := [(2, vi 0), (0, vr th), (1, vi p1)]) dX6_unitOf_1 (by decide) rfl ?_
  refine j_sub [1, 2, 0] rfl ?_
  exact jl_mo_unitOf_2 hs fuel _ _

set_option maxRecDepth 100000 in
set_option maxHeartbeats 4000000 in
theorem jb_mo_laysUnits_151 {lay : List LK} {th : Nat} {k2 : Int → Hp → O Unit} (hs : sub lay th blkModel) (hk2 : ∀ (x1 : Int) (h : Hp), J mi_mo_laysUnits encV (Same lay) lay 0 0 2 [(0, vr th), (1, vi x1)] [] h (k2 x1 h)) (x1 s0 s1 : Int) (h : Hp) : J mi_mo_laysUnits encV (Same lay) lay 0 0 151 [(0, vr th), (1, vi x1)] [vi s0, vi s1, vr (th + 6)] h (mo_laysUnits_b151 th k2 x1 s0 s1 h) := by
  unfold mo_laysUnits_b151
  refine j_iast dX6_laysUnits_151 (sub_k hs 6 rfl rfl) rfl (fun h1 _ => ?_)
  refine j_iinc 1 (lv' := [(1, vi (x1 + 1)), (0, vr th)]) dX6_laysUnits_152 rfl (by decide) rfl ?_
  refine j_goto (tgt := 2) dX6_laysUnits_155 (by decide) ?_
  refine j_sub [1, 0] rfl ?_
  exact hk2 _ _

set_option maxRecDepth 100000 in
set_option maxHeartbeats 4000000 in
theorem jb_mo_laysUnits_136 {lay : List LK} {th : Nat} {k2 : Int → Hp → O Unit} (hs : sub lay th blkModel) (hk2 : ∀ (x1 : Int) (h : Hp), J mi_mo_laysUnits encV (Same lay) lay 0 0 2 [(0, vr th), (1, vi x1)] [] h (k2 x1 h)) (x1 s0 : Int) (h : Hp) : J mi_mo_laysUnits encV (Same lay) lay 0 0 136 [(0, vr th), (1, vi x1)] [vi s0, vr (th + 6)] h (mo_laysUnits_b136 th k2 x1 s0 h) := by
  unfold mo_laysUnits_b136
  refine j_aload_n 0 dX6_laysUnits_136 rfl ?_
  refine j_iload_n 1 dX6_laysUnits_137 rfl ?_
  refine j_iconst (x := 5) dX6_laysUnits_138 rfl (by decide) ?_
  refine j_cV (stk := [vi s0, vr (th + 6)]) [vi x1, vi 5] th dX6_laysUnits_139 mv_mo_of lm_X6_50 (sub_k hs 0 rfl rfl) zc_6 (ct_mo_of hs h) rfl rfl ⟨⟨Nat.le_of_ble_eq_true rfl, Nat.le_of_ble_eq_true rfl⟩, Nat.le_of_ble_eq_true rfl, Nat.le_of_ble_eq_true rfl⟩ (Nat.le_of_ble_eq_true rfl) rfl rfl (fun r1 h1 _ => ?_)
  refine j_goto (tgt := 151) dX6_laysUnits_142 (by decide) ?_
  exact jb_mo_laysUnits_151 hs hk2 _ _ _ _

set_option maxRecDepth 100000 in
set_option maxHeartbeats 4000000 in
theorem jb_mo_laysUnits_110 {lay : List LK} {th : Nat} {k2 : Int → Hp → O Unit} (hs : sub lay th blkModel) (hk2 : ∀ (x1 : Int) (h : Hp), J mi_mo_laysUnits encV (Same lay) lay 0 0 2 [(0, vr th), (1, vi x1)] [] h (k2 x1 h)) (x1 x2 s0 s1 : Int) (h : Hp) : J mi_mo_laysUnits encV (Same lay) lay 0 0 110 [(0, vr th), (1, vi x1), (2, vi x2)] [vi s0, vi s1, vr (th + 5)] h (mo_laysUnits_b110 th k2 x1 x2 s0 s1 h) := by
  unfold mo_laysUnits_b110
  refine j_iast dX6_laysUnits_110 (sub_k hs 5 rfl rfl) rfl (fun h1 _ => ?_)
  refine j_aload_n 0 dX6_laysUnits_111 rfl ?_
  refine j_getR 11 6 5 dX6_laysUnits_112 zc_6 rfl (sub_k hs 0 rfl rfl) (by decide) lk_X6_25 rfl (by decide) (rfl : th + 6 = (th + 6)) ?_
  refine j_iload_n 2 dX6_laysUnits_115 rfl ?_
  refine j_iload_n 2 dX6_laysUnits_116 rfl ?_
  refine j_iload_n 1 dX6_laysUnits_117 rfl ?_
  refine j_icmp_eq (tgt := 136) dX6_laysUnits_118 (by decide) ?_ ?_
  · refine j_sub [0, 1] rfl ?_
    exact jb_mo_laysUnits_136 hs hk2 _ _ _
  · refine j_aload_n 0 dX6_laysUnits_121 rfl ?_
    refine j_iload_n 1 dX6_laysUnits_122 rfl ?_
    refine j_iconst (x := 5) dX6_laysUnits_123 rfl (by decide) ?_
    refine j_cV (stk := [vi x2, vr (th + 6)]) [vi x1, vi 5] th dX6_laysUnits_124 mv_mo_of lm_X6_50 (sub_k hs 0 rfl rfl) zc_6 (ct_mo_of hs h1) rfl rfl ⟨⟨Nat.le_of_ble_eq_true rfl, Nat.le_of_ble_eq_true rfl⟩, Nat.le_of_ble_eq_true rfl, Nat.le_of_ble_eq_true rfl⟩ (Nat.le_of_ble_eq_true rfl) rfl rfl (fun r2 h2 _ => ?_)
    refine j_aload_n 0 dX6_laysUnits_127 rfl ?_
    refine j_getR 11 6 5 dX6_laysUnits_128 zc_6 rfl (sub_k hs 0 rfl rfl) (by decide) lk_X6_25 rfl (by decide) (rfl : th + 6 = (th + 6)) ?_
    refine j_iload_n 2 dX6_laysUnits_131 rfl ?_
    refine j_iald dX6_laysUnits_132 (sub_k hs 6 rfl rfl) rfl ?_
    refine j_icmp_le (tgt := 145) dX6_laysUnits_133 (by decide) ?_ ?_
    · refine j_sub [0, 1] rfl ?_
      exact jb_mo_laysUnits_136 hs hk2 _ _ _
    · refine j_aload_n 0 dX6_laysUnits_145 rfl ?_
      refine j_getR 11 6 5 dX6_laysUnits_146 zc_6 rfl (sub_k hs 0 rfl rfl) (by decide) lk_X6_25 rfl (by decide) (rfl : th + 6 = (th + 6)) ?_
      refine j_iload_n 2 dX6_laysUnits_149 rfl ?_
      refine j_iald dX6_laysUnits_150 (sub_k hs 6 rfl rfl) rfl ?_
      refine j_sub [0, 1] rfl ?_
      exact jb_mo_laysUnits_151 hs hk2 _ _ _ _

set_option maxRecDepth 100000 in
set_option maxHeartbeats 4000000 in
theorem jb_mo_laysUnits_96 {lay : List LK} {th : Nat} {k2 : Int → Hp → O Unit} (hs : sub lay th blkModel) (hk2 : ∀ (x1 : Int) (h : Hp), J mi_mo_laysUnits encV (Same lay) lay 0 0 2 [(0, vr th), (1, vi x1)] [] h (k2 x1 h)) (x1 x2 s0 : Int) (h : Hp) : J mi_mo_laysUnits encV (Same lay) lay 0 0 96 [(0, vr th), (1, vi x1), (2, vi x2)] [vi s0, vr (th + 5)] h (mo_laysUnits_b96 th k2 x1 x2 s0 h) := by
  unfold mo_laysUnits_b96
  refine j_aload_n 0 dX6_laysUnits_96 rfl ?_
  refine j_iload_n 1 dX6_laysUnits_97 rfl ?_
  refine j_cV (stk := [vi s0, vr (th + 5)]) [vi x1] th dX6_laysUnits_98 mv_mo_to lm_X6_58 (sub_k hs 0 rfl rfl) zc_6 (ct_mo_to hs h) rfl rfl ⟨⟨Nat.le_of_ble_eq_true rfl, Nat.le_of_ble_eq_true rfl⟩, Nat.le_of_ble_eq_true rfl, Nat.le_of_ble_eq_true rfl⟩ (Nat.le_of_ble_eq_true rfl) rfl rfl (fun r1 h1 _ => ?_)
  refine j_goto (tgt := 110) dX6_laysUnits_101 (by decide) ?_
  exact jb_mo_laysUnits_110 hs hk2 _ _ _ _ _

set_option maxRecDepth 100000 in
set_option maxHeartbeats 4000000 in
theorem jb_mo_laysUnits_71 {lay : List LK} {th : Nat} {k2 : Int → Hp → O Unit} (hs : sub lay th blkModel) (hk2 : ∀ (x1 : Int) (h : Hp), J mi_mo_laysUnits encV (Same lay) lay 0 0 2 [(0, vr th), (1, vi x1)] [] h (k2 x1 h)) (x1 x2 s0 s1 : Int) (h : Hp) : J mi_mo_laysUnits encV (Same lay) lay 0 0 71 [(0, vr th), (1, vi x1), (2, vi x2)] [vi s0, vi s1, vr (th + 4)] h (mo_laysUnits_b71 th k2 x1 x2 s0 s1 h) := by
  unfold mo_laysUnits_b71
  refine j_iast dX6_laysUnits_71 (sub_k hs 4 rfl rfl) rfl (fun h1 _ => ?_)
  refine j_aload_n 0 dX6_laysUnits_72 rfl ?_
  refine j_getR 10 5 4 dX6_laysUnits_73 zc_6 rfl (sub_k hs 0 rfl rfl) (by decide) lk_X6_22 rfl (by decide) (rfl : th + 5 = (th + 5)) ?_
  refine j_iload_n 2 dX6_laysUnits_76 rfl ?_
  refine j_iload_n 2 dX6_laysUnits_77 rfl ?_
  refine j_iload_n 1 dX6_laysUnits_78 rfl ?_
  refine j_icmp_eq (tgt := 96) dX6_laysUnits_79 (by decide) ?_ ?_
  · exact jb_mo_laysUnits_96 hs hk2 _ _ _ _
  · refine j_aload_n 0 dX6_laysUnits_82 rfl ?_
    refine j_iload_n 1 dX6_laysUnits_83 rfl ?_
    refine j_cV (stk := [vi x2, vr (th + 5)]) [vi x1] th dX6_laysUnits_84 mv_mo_to lm_X6_58 (sub_k hs 0 rfl rfl) zc_6 (ct_mo_to hs h1) rfl rfl ⟨⟨Nat.le_of_ble_eq_true rfl, Nat.le_of_ble_eq_true rfl⟩, Nat.le_of_ble_eq_true rfl, Nat.le_of_ble_eq_true rfl⟩ (Nat.le_of_ble_eq_true rfl) rfl rfl (fun r2 h2 _ => ?_)
    refine j_aload_n 0 dX6_laysUnits_87 rfl ?_
    refine j_getR 10 5 4 dX6_laysUnits_88 zc_6 rfl (sub_k hs 0 rfl rfl) (by decide) lk_X6_22 rfl (by decide) (rfl : th + 5 = (th + 5)) ?_
    refine j_iload_n 2 dX6_laysUnits_91 rfl ?_
    refine j_iald dX6_laysUnits_92 (sub_k hs 5 rfl rfl) rfl ?_
    refine j_icmp_le (tgt := 104) dX6_laysUnits_93 (by decide) ?_ ?_
    · exact jb_mo_laysUnits_96 hs hk2 _ _ _ _
    · refine j_aload_n 0 dX6_laysUnits_104 rfl ?_
      refine j_getR 10 5 4 dX6_laysUnits_105 zc_6 rfl (sub_k hs 0 rfl rfl) (by decide) lk_X6_22 rfl (by decide) (rfl : th + 5 = (th + 5)) ?_
      refine j_iload_n 2 dX6_laysUnits_108 rfl ?_
      refine j_iald dX6_laysUnits_109 (sub_k hs 5 rfl rfl) rfl ?_
      exact jb_mo_laysUnits_110 hs hk2 _ _ _ _ _

set_option maxRecDepth 100000 in
set_option maxHeartbeats 4000000 in
theorem jb_mo_laysUnits_57 {lay : List LK} {th : Nat} {k2 : Int → Hp → O Unit} (hs : sub lay th blkModel) (hk2 : ∀ (x1 : Int) (h : Hp), J mi_mo_laysUnits encV (Same lay) lay 0 0 2 [(0, vr th), (1, vi x1)] [] h (k2 x1 h)) (x1 x2 s0 : Int) (h : Hp) : J mi_mo_laysUnits encV (Same lay) lay 0 0 57 [(0, vr th), (1, vi x1), (2, vi x2)] [vi s0, vr (th + 4)] h (mo_laysUnits_b57 th k2 x1 x2 s0 h) := by
  unfold mo_laysUnits_b57
  refine j_aload_n 0 dX6_laysUnits_57 rfl ?_
  refine j_iload_n 1 dX6_laysUnits_58 rfl ?_
  refine j_cV (stk := [vi s0, vr (th + 4)]) [vi x1] th dX6_laysUnits_59 mv_mo_from lm_X6_61 (sub_k hs 0 rfl rfl) zc_6 (ct_mo_from hs h) rfl rfl ⟨⟨Nat.le_of_ble_eq_true rfl, Nat.le_of_ble_eq_true rfl⟩, Nat.le_of_ble_eq_true rfl, Nat.le_of_ble_eq_true rfl⟩ (Nat.le_of_ble_eq_true rfl) rfl rfl (fun r1 h1 _ => ?_)
  refine j_goto (tgt := 71) dX6_laysUnits_62 (by decide) ?_
  exact jb_mo_laysUnits_71 hs hk2 _ _ _ _ _

set_option maxRecDepth 100000 in
set_option maxHeartbeats 4000000 in
theorem jl_mo_laysUnits_2 {lay : List LK} {th : Nat}  (hs : sub lay th blkModel)  : ∀ (n : Nat) (x1 : Int) (h : Hp), J mi_mo_laysUnits encV (Same lay) lay 0 0 2 [(0, vr th), (1, vi x1)] [] h (iter1 (mo_laysUnits_f2 th) n x1 h) := by
  refine j_iter1 (lf := fun x1 => [(0, vr th), (1, vi x1)]) (fun k2 hk2 x1 h => ?_)
  unfold mo_laysUnits_f2
  refine j_iload_n 1 dX6_laysUnits_2 rfl ?_
  refine j_aload_n 0 dX6_laysUnits_3 rfl ?_
  refine j_getR 0 1 0 dX6_laysUnits_4 zc_6 rfl (sub_k hs 0 rfl rfl) (by decide) lk_X6_7 rfl (by decide) (rfl : th + 1 = (th + 1)) ?_
  refine j_bipush (x := 13) dX6_laysUnits_7 (by decide) (by decide) ?_
  refine j_iald dX6_laysUnits_9 (sub_k hs 1 rfl rfl) rfl ?_
  refine j_icmp_ge (tgt := 158) dX6_laysUnits_10 (by decide) ?_ ?_
  · refine j_aload_n 0 dX6_laysUnits_13 rfl ?_
    refine j_iload_n 1 dX6_laysUnits_14 rfl ?_
    refine j_cV (stk := []) [vi x1] th dX6_laysUnits_15 mv_mo_unitOf lm_X6_157 (sub_k hs 0 rfl rfl) zc_6 (ct_mo_unitOf hs h) rfl rfl ⟨⟨Nat.le_of_ble_eq_true rfl, Nat.le_of_ble_eq_true rfl⟩, Nat.le_of_ble_eq_true rfl, Nat.le_of_ble_eq_true rfl⟩ (Nat.le_of_ble_eq_true rfl) rfl rfl (fun r1 h1 _ => ?_)
    refine j_istore_n (lv' := [(2, vi r1), (0, vr th), (1, vi x1)]) dX6_laysUnits_18 (by decide) rfl ?_
    refine j_aload_n 1 dX6_laysUnits_19 rfl ?_
    refine j_getR 8 3 2 dX6_laysUnits_20 zc_6 rfl (sub_k hs 0 rfl rfl) (by decide) lk_X6_16 rfl (by decide) (rfl : th + 3 = (th + 3)) ?_
    refine j_iload_n 2 dX6_laysUnits_23 rfl ?_
    refine j_iload_n 0 dX6_laysUnits_24 rfl ?_
    refine j_iast dX6_laysUnits_25 (sub_k hs 3 rfl rfl) rfl (fun h2 _ => ?_)
    refine j_aload_n 1 dX6_laysUnits_26 rfl ?_
    refine j_getR 13 8 7 dX6_laysUnits_27 zc_6 rfl (sub_k hs 0 rfl rfl) (by decide) lk_X6_31 rfl (by decide) (rfl : th + 8 = (th + 8)) ?_
    refine j_iload_n 2 dX6_laysUnits_30 rfl ?_
    refine j_iconst (x := 0) dX6_laysUnits_31 rfl (by decide) ?_
    refine j_zast dX6_laysUnits_32 (sub_k hs 8 rfl rfl) rfl (fun h3 _ => ?_)
    refine j_aload_n 1 dX6_laysUnits_33 rfl ?_
    refine j_getR 9 4 3 dX6_laysUnits_34 zc_6 rfl (sub_k hs 0 rfl rfl) (by decide) lk_X6_19 rfl (by decide) (rfl : th + 4 = (th + 4)) ?_
    refine j_iload_n 0 dX6_laysUnits_37 rfl ?_
    refine j_iload_n 0 dX6_laysUnits_38 rfl ?_
    refine j_iload_n 2 dX6_laysUnits_39 rfl ?_
    refine j_icmp_eq (tgt := 57) dX6_laysUnits_40 (by decide) ?_ ?_
    · refine j_sub [1, 2, 0] rfl ?_
      exact jb_mo_laysUnits_57 hs hk2 _ _ _ _
    · refine j_aload_n 1 dX6_laysUnits_43 rfl ?_
      refine j_iload_n 2 dX6_laysUnits_44 rfl ?_
      refine j_cV (stk := [vi r1, vr (th + 4)]) [vi x1] th dX6_laysUnits_45 mv_mo_from lm_X6_61 (sub_k hs 0 rfl rfl) zc_6 (ct_mo_from hs h3) rfl rfl ⟨⟨Nat.le_of_ble_eq_true rfl, Nat.le_of_ble_eq_true rfl⟩, Nat.le_of_ble_eq_true rfl, Nat.le_of_ble_eq_true rfl⟩ (Nat.le_of_ble_eq_true rfl) rfl rfl (fun r4 h4 _ => ?_)
      refine j_aload_n 1 dX6_laysUnits_48 rfl ?_
      refine j_getR 9 4 3 dX6_laysUnits_49 zc_6 rfl (sub_k hs 0 rfl rfl) (by decide) lk_X6_19 rfl (by decide) (rfl : th + 4 = (th + 4)) ?_
      refine j_iload_n 0 dX6_laysUnits_52 rfl ?_
      refine j_iald dX6_laysUnits_53 (sub_k hs 4 rfl rfl) rfl ?_
      refine j_icmp_ge (tgt := 65) dX6_laysUnits_54 (by decide) ?_ ?_
      · refine j_sub [1, 2, 0] rfl ?_
        exact jb_mo_laysUnits_57 hs hk2 _ _ _ _
      · refine j_aload_n 1 dX6_laysUnits_65 rfl ?_
        refine j_getR 9 4 3 dX6_laysUnits_66 zc_6 rfl (sub_k hs 0 rfl rfl) (by decide) lk_X6_19 rfl (by decide) (rfl : th + 4 = (th + 4)) ?_
        refine j_iload_n 0 dX6_laysUnits_69 rfl ?_
        refine j_iald dX6_laysUnits_70 (sub_k hs 4 rfl rfl) rfl ?_
        refine j_sub [1, 2, 0] rfl ?_
        exact jb_mo_laysUnits_71 hs hk2 _ _ _ _ _
  · exact j_retV rfl rfl rfl dX6_laysUnits_158 rfl ⟨Nat.le_refl _, Nat.le_refl _⟩ rfl

set_option maxRecDepth 100000 in
set_option maxHeartbeats 4000000 in
theorem ct_mo_laysUnits {lay : List LK} {th : Nat} (hs : sub lay th blkModel) (h : Hp) : CT mi_mo_laysUnits encV (Same lay) lay [vr th] h (mo_laysUnits th h) := by
  refine CT.of (by decide) rfl (Nat.le_of_ble_eq_true rfl) ?_
  show J mi_mo_laysUnits encV (Same lay) lay 0 0 0 [(0, vr th)] [] h _
  unfold mo_laysUnits
  refine j_iconst (x := 0) dX6_laysUnits_0 rfl (by decide) ?_
  refine j_istore_n (lv' := [(1, vi 0), (0, vr th)]) dX6_laysUnits_1 (by decide) rfl ?_
  refine j_sub [1, 0] rfl ?_
  exact jl_mo_laysUnits_2 hs fuel _ _

set_option maxRecDepth 100000 in
set_option maxHeartbeats 4000000 in
theorem jb_mo_isUnit_15 {lay : List LK} {th : Nat} {p1 : Int}  (hs : sub lay th blkModel)  (s0 : Int) (h : Hp) : J mi_mo_isUnit encI (Same lay) lay 0 0 15 [] [vi s0] h (mo_isUnit_b15 th p1 s0 h) := by
  unfold mo_isUnit_b15
  exact j_retZ rfl rfl rfl dX6_isUnit_15 rfl ⟨Nat.le_refl _, Nat.le_refl _⟩ rfl

set_option maxRecDepth 100000 in
set_option maxHeartbeats 4000000 in
theorem ct_mo_isUnit {lay : List LK} {th : Nat} {p1 : Int} (hs : sub lay th blkModel) (h : Hp) : CT mi_mo_isUnit encI (Same lay) lay [vr th, vi p1] h (mo_isUnit th p1 h) := by
  refine CT.of (by decide) rfl (Nat.le_of_ble_eq_true rfl) ?_
  show J mi_mo_isUnit encI (Same lay) lay 0 0 0 [(0, vr th), (1, vi p1)] [] h _
  unfold mo_isUnit
  refine j_aload_n 0 dX6_isUnit_0 rfl ?_
  refine j_getR 8 3 2 dX6_isUnit_1 zc_6 rfl (sub_k hs 0 rfl rfl) (by decide) lk_X6_16 rfl (by decide) (rfl : th + 3 = (th + 3)) ?_
  refine j_iload_n 1 dX6_isUnit_4 rfl ?_
  refine j_iald dX6_isUnit_5 (sub_k hs 3 rfl rfl) rfl ?_
  refine j_iload_n 1 dX6_isUnit_6 rfl ?_
  refine j_icmp_ne (tgt := 14) dX6_isUnit_7 (by decide) ?_ ?_
  · refine j_iconst (x := 1) dX6_isUnit_10 rfl (by decide) ?_
    refine j_goto (tgt := 15) dX6_isUnit_11 (by decide) ?_
    refine j_sub [] rfl ?_
    exact jb_mo_isUnit_15 hs _ _
  · refine j_iconst (x := 0) dX6_isUnit_14 rfl (by decide) ?_
    refine j_sub [] rfl ?_
    exact jb_mo_isUnit_15 hs _ _

set_option maxRecDepth 100000 in
set_option maxHeartbeats 4000000 in
theorem jb_mo_isSooner_97 {lay : List LK} {th : Nat} {p1 : Int} {p2 : Int}  (hs : sub lay th blkModel)  (s0 : Int) (h : Hp) : J mi_mo_isSooner encI (Same lay) lay 0 0 97 [] [vi s0] h (mo_isSooner_b97 th p1 p2 s0 h) := by
  unfold mo_isSooner_b97
  exact j_retZ rfl rfl rfl dX6_isSooner_97 rfl ⟨Nat.le_refl _, Nat.le_refl _⟩ rfl

set_option maxRecDepth 100000 in
set_option maxHeartbeats 4000000 in
theorem ct_mo_isSooner {lay : List LK} {th : Nat} {p1 : Int} {p2 : Int} (hs : sub lay th blkModel) (h : Hp) : CT mi_mo_isSooner encI (Same lay) lay [vr th, vi p1, vi p2] h (mo_isSooner th p1 p2 h) := by
  refine CT.of (by decide) rfl (Nat.le_of_ble_eq_true rfl) ?_
  show J mi_mo_isSooner encI (Same lay) lay 0 0 0 [(0, vr th), (1, vi p1), (2, vi p2)] [] h _
  unfold mo_isSooner
  refine j_aload_n 0 dX6_isSooner_0 rfl ?_
  refine j_getR 10 5 4 dX6_isSooner_1 zc_6 rfl (sub_k hs 0 rfl rfl) (by decide) lk_X6_22 rfl (by decide) (rfl : th + 5 = (th + 5)) ?_
  refine j_iload_n 1 dX6_isSooner_4 rfl ?_
  refine j_iald dX6_isSooner_5 (sub_k hs 5 rfl rfl) rfl ?_
  refine j_aload_n 0 dX6_isSooner_6 rfl ?_
  refine j_getR 9 4 3 dX6_isSooner_7 zc_6 rfl (sub_k hs 0 rfl rfl) (by decide) lk_X6_19 rfl (by decide) (rfl : th + 4 = (th + 4)) ?_
  refine j_iload_n 1 dX6_isSooner_10 rfl ?_
  refine j_iald dX6_isSooner_11 (sub_k hs 4 rfl rfl) rfl ?_
  refine j_isub dX6_isSooner_12 ?_
  refine j_istore_n (lv' := [(3, vi ((h (th + 5) p1) - (h (th + 4) p1))), (0, vr th), (1, vi p1), (2, vi p2)]) dX6_isSooner_13 (by decide) rfl ?_
  refine j_aload_n 1 dX6_isSooner_14 rfl ?_
  refine j_getR 10 5 4 dX6_isSooner_15 zc_6 rfl (sub_k hs 0 rfl rfl) (by decide) lk_X6_22 rfl (by decide) (rfl : th + 5 = (th + 5)) ?_
  refine j_iload_n 3 dX6_isSooner_18 rfl ?_
  refine j_iald dX6_isSooner_19 (sub_k hs 5 rfl rfl) rfl ?_
  refine j_aload_n 1 dX6_isSooner_20 rfl ?_
  refine j_getR 9 4 3 dX6_isSooner_21 zc_6 rfl (sub_k hs 0 rfl rfl) (by decide) lk_X6_19 rfl (by decide) (rfl : th + 4 = (th + 4)) ?_
  refine j_iload_n 3 dX6_isSooner_24 rfl ?_
  refine j_iald dX6_isSooner_25 (sub_k hs 4 rfl rfl) rfl ?_
  refine j_isub dX6_isSooner_26 ?_
  refine j_istore (lv' := [(4, vi ((h (th + 5) p2) - (h (th + 4) p2))), (3, vi ((h (th + 5) p1) - (h (th + 4) p1))), (0, vr th), (1, vi p1), (2, vi p2)]) dX6_isSooner_27 (by decide) rfl ?_
  refine j_iload_n 1 dX6_isSooner_29 rfl ?_
  refine j_iload 0 dX6_isSooner_30 rfl ?_
  refine j_icmp_eq (tgt := 49) dX6_isSooner_32 (by decide) ?_ ?_
  · refine j_aload_n 2 dX6_isSooner_49 rfl ?_
    refine j_getR 9 4 3 dX6_isSooner_50 zc_6 rfl (sub_k hs 0 rfl rfl) (by decide) lk_X6_19 rfl (by decide) (rfl : th + 4 = (th + 4)) ?_
    refine j_iload_n 3 dX6_isSooner_53 rfl ?_
    refine j_iald dX6_isSooner_54 (sub_k hs 4 rfl rfl) rfl ?_
    refine j_aload_n 2 dX6_isSooner_55 rfl ?_
    refine j_getR 9 4 3 dX6_isSooner_56 zc_6 rfl (sub_k hs 0 rfl rfl) (by decide) lk_X6_19 rfl (by decide) (rfl : th + 4 = (th + 4)) ?_
    refine j_iload_n 4 dX6_isSooner_59 rfl ?_
    refine j_iald dX6_isSooner_60 (sub_k hs 4 rfl rfl) rfl ?_
    refine j_icmp_eq (tgt := 87) dX6_isSooner_61 (by decide) ?_ ?_
    · refine j_iload_n 3 dX6_isSooner_87 rfl ?_
      refine j_iload_n 4 dX6_isSooner_88 rfl ?_
      refine j_icmp_ge (tgt := 96) dX6_isSooner_89 (by decide) ?_ ?_
      · refine j_iconst (x := 1) dX6_isSooner_92 rfl (by decide) ?_
        refine j_goto (tgt := 97) dX6_isSooner_93 (by decide) ?_
        refine j_sub [] rfl ?_
        exact jb_mo_isSooner_97 hs _ _
      · refine j_iconst (x := 0) dX6_isSooner_96 rfl (by decide) ?_
        refine j_sub [] rfl ?_
        exact jb_mo_isSooner_97 hs _ _
    · refine j_aload_n 2 dX6_isSooner_64 rfl ?_
      refine j_getR 9 4 3 dX6_isSooner_65 zc_6 rfl (sub_k hs 0 rfl rfl) (by decide) lk_X6_19 rfl (by decide) (rfl : th + 4 = (th + 4)) ?_
      refine j_iload_n 3 dX6_isSooner_68 rfl ?_
      refine j_iald dX6_isSooner_69 (sub_k hs 4 rfl rfl) rfl ?_
      refine j_aload_n 2 dX6_isSooner_70 rfl ?_
      refine j_getR 9 4 3 dX6_isSooner_71 zc_6 rfl (sub_k hs 0 rfl rfl) (by decide) lk_X6_19 rfl (by decide) (rfl : th + 4 = (th + 4)) ?_
      refine j_iload_n 4 dX6_isSooner_74 rfl ?_
      refine j_iald dX6_isSooner_75 (sub_k hs 4 rfl rfl) rfl ?_
      refine j_icmp_ge (tgt := 83) dX6_isSooner_76 (by decide) ?_ ?_
      · refine j_iconst (x := 1) dX6_isSooner_79 rfl (by decide) ?_
        refine j_goto (tgt := 97) dX6_isSooner_80 (by decide) ?_
        refine j_sub [] rfl ?_
        exact jb_mo_isSooner_97 hs _ _
      · refine j_iconst (x := 0) dX6_isSooner_83 rfl (by decide) ?_
        refine j_goto (tgt := 97) dX6_isSooner_84 (by decide) ?_
        refine j_sub [] rfl ?_
        exact jb_mo_isSooner_97 hs _ _
  · refine j_iload_n 1 dX6_isSooner_35 rfl ?_
    refine j_iload 0 dX6_isSooner_36 rfl ?_
    refine j_icmp_ge (tgt := 45) dX6_isSooner_38 (by decide) ?_ ?_
    · refine j_iconst (x := 1) dX6_isSooner_41 rfl (by decide) ?_
      refine j_goto (tgt := 97) dX6_isSooner_42 (by decide) ?_
      refine j_sub [] rfl ?_
      exact jb_mo_isSooner_97 hs _ _
    · refine j_iconst (x := 0) dX6_isSooner_45 rfl (by decide) ?_
      refine j_goto (tgt := 97) dX6_isSooner_46 (by decide) ?_
      refine j_sub [] rfl ?_
      exact jb_mo_isSooner_97 hs _ _

set_option maxRecDepth 100000 in
set_option maxHeartbeats 4000000 in
theorem jb_mo_nextUnit_55 {lay : List LK} {th : Nat} {k6 : Int → Int → Hp → O Int} (hs : sub lay th blkModel) (hk6 : ∀ (x1 x2 : Int) (h : Hp), J mi_mo_nextUnit encI (Same lay) lay 0 0 6 [(0, vr th), (1, vi x1), (2, vi x2)] [] h (k6 x1 x2 h)) (x2 s0 : Int) (h : Hp) : J mi_mo_nextUnit encI (Same lay) lay 0 0 55 [(0, vr th), (2, vi x2)] [vi s0] h (mo_nextUnit_b55 th k6 x2 s0 h) := by
  unfold mo_nextUnit_b55
  refine j_istore_n (lv' := [(1, vi s0), (0, vr th), (2, vi x2)]) dX6_nextUnit_55 (by decide) rfl ?_
  refine j_iinc 2 (lv' := [(2, vi (x2 + 1)), (1, vi s0), (0, vr th)]) dX6_nextUnit_56 rfl (by decide) rfl ?_
  refine j_goto (tgt := 6) dX6_nextUnit_59 (by decide) ?_
  refine j_sub [2, 1, 0] rfl ?_
  exact hk6 _ _ _

set_option maxRecDepth 100000 in
set_option maxHeartbeats 4000000 in
theorem jb_mo_nextUnit_54 {lay : List LK} {th : Nat} {k6 : Int → Int → Hp → O Int} (hs : sub lay th blkModel) (hk6 : ∀ (x1 x2 : Int) (h : Hp), J mi_mo_nextUnit encI (Same lay) lay 0 0 6 [(0, vr th), (1, vi x1), (2, vi x2)] [] h (k6 x1 x2 h)) (x1 x2 : Int) (h : Hp) : J mi_mo_nextUnit encI (Same lay) lay 0 0 54 [(0, vr th), (1, vi x1), (2, vi x2)] [] h (mo_nextUnit_b54 th k6 x1 x2 h) := by
  unfold mo_nextUnit_b54
  refine j_iload_n 1 dX6_nextUnit_54 rfl ?_
  refine j_sub [0, 2] rfl ?_
  exact jb_mo_nextUnit_55 hs hk6 _ _ _

set_option maxRecDepth 100000 in
set_option maxHeartbeats 4000000 in
theorem jb_mo_nextUnit_50 {lay : List LK} {th : Nat} {k6 : Int → Int → Hp → O Int} (hs : sub lay th blkModel) (hk6 : ∀ (x1 x2 : Int) (h : Hp), J mi_mo_nextUnit encI (Same lay) lay 0 0 6 [(0, vr th), (1, vi x1), (2, vi x2)] [] h (k6 x1 x2 h)) (x2 : Int) (h : Hp) : J mi_mo_nextUnit encI (Same lay) lay 0 0 50 [(0, vr th), (2, vi x2)] [] h (mo_nextUnit_b50 th k6 x2 h) := by
  unfold mo_nextUnit_b50
  refine j_iload_n 1 dX6_nextUnit_50 rfl ?_
  refine j_goto (tgt := 55) dX6_nextUnit_51 (by decide) ?_
  exact jb_mo_nextUnit_55 hs hk6 _ _ _

set_option maxRecDepth 100000 in
set_option maxHeartbeats 4000000 in
theorem jl_mo_nextUnit_6 {lay : List LK} {th : Nat}  (hs : sub lay th blkModel)  : ∀ (n : Nat) (x1 x2 : Int) (h : Hp), J mi_mo_nextUnit encI (Same lay) lay 0 0 6 [(0, vr th), (1, vi x1), (2, vi x2)] [] h (iter2 (mo_nextUnit_f6 th) n x1 x2 h) := by
  refine j_iter2 (lf := fun x1 x2 => [(0, vr th), (1, vi x1), (2, vi x2)]) (fun k6 hk6 x1 x2 h => ?_)
  unfold mo_nextUnit_f6
  refine j_iload_n 2 dX6_nextUnit_6 rfl ?_
  refine j_aload_n 0 dX6_nextUnit_7 rfl ?_
  refine j_getR 0 1 0 dX6_nextUnit_8 zc_6 rfl (sub_k hs 0 rfl rfl) (by decide) lk_X6_7 rfl (by decide) (rfl : th + 1 = (th + 1)) ?_
  refine j_bipush (x := 13) dX6_nextUnit_11 (by decide) (by decide) ?_
  refine j_iald dX6_nextUnit_13 (sub_k hs 1 rfl rfl) rfl ?_
  refine j_icmp_ge (tgt := 62) dX6_nextUnit_14 (by decide) ?_ ?_
  · refine j_aload_n 0 dX6_nextUnit_17 rfl ?_
    refine j_iload_n 2 dX6_nextUnit_18 rfl ?_
    refine j_cV (stk := []) [vi x2] th dX6_nextUnit_19 mv_mo_isUnit lm_X6_160 (sub_k hs 0 rfl rfl) zc_6 (ct_mo_isUnit hs h) rfl rfl ⟨⟨Nat.le_of_ble_eq_true rfl, Nat.le_of_ble_eq_true rfl⟩, Nat.le_of_ble_eq_true rfl, Nat.le_of_ble_eq_true rfl⟩ (Nat.le_of_ble_eq_true rfl) rfl rfl (fun r1 h1 _ => ?_)
    refine j_if_eq (tgt := 54) dX6_nextUnit_22 (by decide) ?_ ?_
    · exact jb_mo_nextUnit_54 hs hk6 _ _ _
    · refine j_aload_n 0 dX6_nextUnit_25 rfl ?_
      refine j_getR 13 8 7 dX6_nextUnit_26 zc_6 rfl (sub_k hs 0 rfl rfl) (by decide) lk_X6_31 rfl (by decide) (rfl : th + 8 = (th + 8)) ?_
      refine j_iload_n 2 dX6_nextUnit_29 rfl ?_
      refine j_zald dX6_nextUnit_30 (sub_k hs 8 rfl rfl) rfl ?_
      refine j_if_ne (tgt := 54) dX6_nextUnit_31 (by decide) ?_ ?_
      · refine j_iload_n 1 dX6_nextUnit_34 rfl ?_
        refine j_sipush (x := (-999)) dX6_nextUnit_35 (by decide) (by decide) ?_
        refine j_icmp_eq (tgt := 50) dX6_nextUnit_38 (by decide) ?_ ?_
        · refine j_sub [0, 2] rfl ?_
          exact jb_mo_nextUnit_50 hs hk6 _ _
        · refine j_aload_n 0 dX6_nextUnit_41 rfl ?_
          refine j_iload_n 2 dX6_nextUnit_42 rfl ?_
          refine j_iload_n 1 dX6_nextUnit_43 rfl ?_
          refine j_cV (stk := []) [vi x2, vi x1] th dX6_nextUnit_44 mv_mo_isSooner lm_X6_163 (sub_k hs 0 rfl rfl) zc_6 (ct_mo_isSooner hs h1) rfl rfl ⟨⟨Nat.le_of_ble_eq_true rfl, Nat.le_of_ble_eq_true rfl⟩, Nat.le_of_ble_eq_true rfl, Nat.le_of_ble_eq_true rfl⟩ (Nat.le_of_ble_eq_true rfl) rfl rfl (fun r2 h2 _ => ?_)
          refine j_if_eq (tgt := 54) dX6_nextUnit_47 (by decide) ?_ ?_
          · exact jb_mo_nextUnit_54 hs hk6 _ _ _
          · refine j_sub [0, 2] rfl ?_
            exact jb_mo_nextUnit_50 hs hk6 _ _
      · exact jb_mo_nextUnit_54 hs hk6 _ _ _
  · refine j_iload_n 1 dX6_nextUnit_62 rfl ?_
    exact j_retI (h0 := h) (r := 0) rfl rfl rfl dX6_nextUnit_63 rfl ⟨Nat.le_refl _, Nat.le_refl _⟩ rfl

set_option maxRecDepth 100000 in
set_option maxHeartbeats 4000000 in
theorem ct_mo_nextUnit {lay : List LK} {th : Nat} (hs : sub lay th blkModel) (h : Hp) : CT mi_mo_nextUnit encI (Same lay) lay [vr th] h (mo_nextUnit th h) := by
  refine CT.of (by decide) rfl (Nat.le_of_ble_eq_true rfl) ?_
  show J mi_mo_nextUnit encI (Same lay) lay 0 0 0 [(0, vr th)] [] h _
  unfold mo_nextUnit
  refine j_sipush (x := (-999)) dX6_nextUnit_0 (by decide) (by decide) ?_
  refine j_istore_n (lv' := [(1, vi (-999)), (0, vr th)]) dX6_nextUnit_3 (by decide) rfl ?_
  refine j_iconst (x := 0) dX6_nextUnit_4 rfl (by decide) ?_
  refine j_istore_n (lv' := [(2, vi 0), (1, vi (-999)), (0, vr th)]) dX6_nextUnit_5 (by decide) rfl ?_
  refine j_sub [2, 1, 0] rfl ?_
  exact jl_mo_nextUnit_6 hs fuel _ _ _

set_option maxRecDepth 100000 in
set_option maxHeartbeats 4000000 in
theorem jb_mo_covers_35 {lay : List LK} {th : Nat} {p1 : Int} {p2 : Int}  (hs : sub lay th blkModel)  (s0 : Int) (h : Hp) : J mi_mo_covers encI (Same lay) lay 0 0 35 [] [vi s0] h (mo_covers_b35 th p1 p2 s0 h) := by
  unfold mo_covers_b35
  exact j_retZ rfl rfl rfl dX6_covers_35 rfl ⟨Nat.le_refl _, Nat.le_refl _⟩ rfl

set_option maxRecDepth 100000 in
set_option maxHeartbeats 4000000 in
theorem jb_mo_covers_34 {lay : List LK} {th : Nat} {p1 : Int} {p2 : Int}  (hs : sub lay th blkModel)  (h : Hp) : J mi_mo_covers encI (Same lay) lay 0 0 34 [] [] h (mo_covers_b34 th p1 p2 h) := by
  unfold mo_covers_b34
  refine j_iconst (x := 0) dX6_covers_34 rfl (by decide) ?_
  exact jb_mo_covers_35 hs _ _

set_option maxRecDepth 100000 in
set_option maxHeartbeats 4000000 in
theorem ct_mo_covers {lay : List LK} {th : Nat} {p1 : Int} {p2 : Int} (hs : sub lay th blkModel) (h : Hp) : CT mi_mo_covers encI (Same lay) lay [vr th, vi p1, vi p2] h (mo_covers th p1 p2 h) := by
  refine CT.of (by decide) rfl (Nat.le_of_ble_eq_true rfl) ?_
  show J mi_mo_covers encI (Same lay) lay 0 0 0 [(0, vr th), (1, vi p1), (2, vi p2)] [] h _
  unfold mo_covers
  refine j_aload_n 0 dX6_covers_0 rfl ?_
  refine j_getR 9 4 3 dX6_covers_1 zc_6 rfl (sub_k hs 0 rfl rfl) (by decide) lk_X6_19 rfl (by decide) (rfl : th + 4 = (th + 4)) ?_
  refine j_iload_n 1 dX6_covers_4 rfl ?_
  refine j_iald dX6_covers_5 (sub_k hs 4 rfl rfl) rfl ?_
  refine j_aload_n 0 dX6_covers_6 rfl ?_
  refine j_getR 9 4 3 dX6_covers_7 zc_6 rfl (sub_k hs 0 rfl rfl) (by decide) lk_X6_19 rfl (by decide) (rfl : th + 4 = (th + 4)) ?_
  refine j_iload_n 2 dX6_covers_10 rfl ?_
  refine j_iald dX6_covers_11 (sub_k hs 4 rfl rfl) rfl ?_
  refine j_icmp_gt (tgt := 34) dX6_covers_12 (by decide) ?_ ?_
  · refine j_sub [] rfl ?_
    exact jb_mo_covers_34 hs _
  · refine j_aload_n 0 dX6_covers_15 rfl ?_
    refine j_getR 10 5 4 dX6_covers_16 zc_6 rfl (sub_k hs 0 rfl rfl) (by decide) lk_X6_22 rfl (by decide) (rfl : th + 5 = (th + 5)) ?_
    refine j_iload_n 2 dX6_covers_19 rfl ?_
    refine j_iald dX6_covers_20 (sub_k hs 5 rfl rfl) rfl ?_
    refine j_aload_n 0 dX6_covers_21 rfl ?_
    refine j_getR 10 5 4 dX6_covers_22 zc_6 rfl (sub_k hs 0 rfl rfl) (by decide) lk_X6_22 rfl (by decide) (rfl : th + 5 = (th + 5)) ?_
    refine j_iload_n 1 dX6_covers_25 rfl ?_
    refine j_iald dX6_covers_26 (sub_k hs 5 rfl rfl) rfl ?_
    refine j_icmp_gt (tgt := 34) dX6_covers_27 (by decide) ?_ ?_
    · refine j_sub [] rfl ?_
      exact jb_mo_covers_34 hs _
    · refine j_iconst (x := 1) dX6_covers_30 rfl (by decide) ?_
      refine j_goto (tgt := 35) dX6_covers_31 (by decide) ?_
      refine j_sub [] rfl ?_
      exact jb_mo_covers_35 hs _ _

set_option maxRecDepth 100000 in
set_option maxHeartbeats 4000000 in
theorem jb_mo_meets_132 {lay : List LK} {th : Nat} {p1 : Int} {p2 : Int} {k5 : Int → Int → Hp → O Int} (hs : sub lay th blkModel) (hk5 : ∀ (x3 x4 : Int) (h : Hp), J mi_mo_meets encI (Same lay) lay 0 0 5 [(0, vr th), (1, vi p1), (2, vi p2), (3, vi x3), (4, vi x4)] [] h (k5 x3 x4 h)) (x3 x4 : Int) (h : Hp) : J mi_mo_meets encI (Same lay) lay 0 0 132 [(0, vr th), (1, vi p1), (2, vi p2), (3, vi x3), (4, vi x4)] [] h (mo_meets_b132 th p1 p2 k5 x3 x4 h) := by
  unfold mo_meets_b132
  refine j_iinc 4 (lv' := [(4, vi (x4 + 1)), (0, vr th), (1, vi p1), (2, vi p2), (3, vi x3)]) dX6_meets_132 rfl (by decide) rfl ?_
  refine j_goto (tgt := 5) dX6_meets_135 (by decide) ?_
  refine j_sub [1, 2, 3, 4, 0] rfl ?_
  exact hk5 _ _ _

set_option maxRecDepth 100000 in
set_option maxHeartbeats 4000000 in
theorem jb_mo_meets_125 {lay : List LK} {th : Nat} {p1 : Int} {p2 : Int} {k20 : Int → Int → Int → Hp → O Int} (hs : sub lay th blkModel) (hk20 : ∀ (x3 x4 x5 : Int) (h : Hp), J mi_mo_meets encI (Same lay) lay 0 0 20 [(0, vr th), (1, vi p1), (2, vi p2), (3, vi x3), (4, vi x4), (5, vi x5)] [] h (k20 x3 x4 x5 h)) (x4 x5 s0 : Int) (h : Hp) : J mi_mo_meets encI (Same lay) lay 0 0 125 [(0, vr th), (1, vi p1), (2, vi p2), (4, vi x4), (5, vi x5)] [vi s0] h (mo_meets_b125 th p1 p2 k20 x4 x5 s0 h) := by
  unfold mo_meets_b125
  refine j_istore_n (lv' := [(3, vi s0), (0, vr th), (1, vi p1), (2, vi p2), (4, vi x4), (5, vi x5)]) dX6_meets_125 (by decide) rfl ?_
  refine j_iinc 5 (lv' := [(5, vi (x5 + 1)), (3, vi s0), (0, vr th), (1, vi p1), (2, vi p2), (4, vi x4)]) dX6_meets_126 rfl (by decide) rfl ?_
  refine j_goto (tgt := 20) dX6_meets_129 (by decide) ?_
  refine j_sub [2, 3, 4, 1, 5, 0] rfl ?_
  exact hk20 _ _ _ _

set_option maxRecDepth 100000 in
set_option maxHeartbeats 4000000 in
theorem jb_mo_meets_124 {lay : List LK} {th : Nat} {p1 : Int} {p2 : Int} {k20 : Int → Int → Int → Hp → O Int} (hs : sub lay th blkModel) (hk20 : ∀ (x3 x4 x5 : Int) (h : Hp), J mi_mo_meets encI (Same lay) lay 0 0 20 [(0, vr th), (1, vi p1), (2, vi p2), (3, vi x3), (4, vi x4), (5, vi x5)] [] h (k20 x3 x4 x5 h)) (x4 x5 : Int) (h : Hp) : J mi_mo_meets encI (Same lay) lay 0 0 124 [(0, vr th), (1, vi p1), (2, vi p2), (4, vi x4), (5, vi x5)] [] h (mo_meets_b124 th p1 p2 k20 x4 x5 h) := by
  unfold mo_meets_b124
  refine j_iconst (x := 0) dX6_meets_124 rfl (by decide) ?_
  exact jb_mo_meets_125 hs hk20 _ _ _ _

set_option maxRecDepth 100000 in
set_option maxHeartbeats 4000000 in
theorem jb_mo_meets_120 {lay : List LK} {th : Nat} {p1 : Int} {p2 : Int} {k20 : Int → Int → Int → Hp → O Int} (hs : sub lay th blkModel) (hk20 : ∀ (x3 x4 x5 : Int) (h : Hp), J mi_mo_meets encI (Same lay) lay 0 0 20 [(0, vr th), (1, vi p1), (2, vi p2), (3, vi x3), (4, vi x4), (5, vi x5)] [] h (k20 x3 x4 x5 h)) (x4 x5 : Int) (h : Hp) : J mi_mo_meets encI (Same lay) lay 0 0 120 [(0, vr th), (1, vi p1), (2, vi p2), (4, vi x4), (5, vi x5)] [] h (mo_meets_b120 th p1 p2 k20 x4 x5 h) := by
  unfold mo_meets_b120
  refine j_iconst (x := 1) dX6_meets_120 rfl (by decide) ?_
  refine j_goto (tgt := 125) dX6_meets_121 (by decide) ?_
  exact jb_mo_meets_125 hs hk20 _ _ _ _

set_option maxRecDepth 100000 in
set_option maxHeartbeats 4000000 in
theorem jb_mo_meets_79 {lay : List LK} {th : Nat} {p1 : Int} {p2 : Int} {k20 : Int → Int → Int → Hp → O Int} (hs : sub lay th blkModel) (hk20 : ∀ (x3 x4 x5 : Int) (h : Hp), J mi_mo_meets encI (Same lay) lay 0 0 20 [(0, vr th), (1, vi p1), (2, vi p2), (3, vi x3), (4, vi x4), (5, vi x5)] [] h (k20 x3 x4 x5 h)) (x3 x4 x5 s0 : Int) (h : Hp) : J mi_mo_meets encI (Same lay) lay 0 0 79 [(0, vr th), (1, vi p1), (2, vi p2), (3, vi x3), (4, vi x4), (5, vi x5)] [vi s0] h (mo_meets_b79 th p1 p2 k20 x3 x4 x5 s0 h) := by
  unfold mo_meets_b79
  refine j_istore (lv' := [(6, vi s0), (0, vr th), (1, vi p1), (2, vi p2), (3, vi x3), (4, vi x4), (5, vi x5)]) dX6_meets_79 (by decide) rfl ?_
  refine j_iload_n 4 dX6_meets_81 rfl ?_
  refine j_if_ne (tgt := 120) dX6_meets_82 (by decide) ?_ ?_
  · refine j_iload 0 dX6_meets_85 rfl ?_
    refine j_if_eq (tgt := 124) dX6_meets_87 (by decide) ?_ ?_
    · refine j_sub [1, 2, 3, 5, 6] rfl ?_
      exact jb_mo_meets_124 hs hk20 _ _ _
    · refine j_aload_n 1 dX6_meets_90 rfl ?_
      refine j_iload 5 dX6_meets_91 rfl ?_
      refine j_cV (stk := []) [vi x4] th dX6_meets_93 mv_mo_begins lm_X6_166 (sub_k hs 0 rfl rfl) zc_6 (ct_mo_begins hs h) rfl rfl ⟨⟨Nat.le_of_ble_eq_true rfl, Nat.le_of_ble_eq_true rfl⟩, Nat.le_of_ble_eq_true rfl, Nat.le_of_ble_eq_true rfl⟩ (Nat.le_of_ble_eq_true rfl) rfl rfl (fun r1 h1 _ => ?_)
      refine j_aload_n 1 dX6_meets_96 rfl ?_
      refine j_iload 6 dX6_meets_97 rfl ?_
      refine j_cV (stk := [vi r1]) [vi x5] th dX6_meets_99 mv_mo_reaches lm_X6_169 (sub_k hs 0 rfl rfl) zc_6 (ct_mo_reaches hs h1) rfl rfl ⟨⟨Nat.le_of_ble_eq_true rfl, Nat.le_of_ble_eq_true rfl⟩, Nat.le_of_ble_eq_true rfl, Nat.le_of_ble_eq_true rfl⟩ (Nat.le_of_ble_eq_true rfl) rfl rfl (fun r2 h2 _ => ?_)
      refine j_icmp_gt (tgt := 124) dX6_meets_102 (by decide) ?_ ?_
      · refine j_sub [1, 2, 3, 5, 6] rfl ?_
        exact jb_mo_meets_124 hs hk20 _ _ _
      · refine j_aload_n 1 dX6_meets_105 rfl ?_
        refine j_iload 6 dX6_meets_106 rfl ?_
        refine j_cV (stk := []) [vi x5] th dX6_meets_108 mv_mo_begins lm_X6_166 (sub_k hs 0 rfl rfl) zc_6 (ct_mo_begins hs h2) rfl rfl ⟨⟨Nat.le_of_ble_eq_true rfl, Nat.le_of_ble_eq_true rfl⟩, Nat.le_of_ble_eq_true rfl, Nat.le_of_ble_eq_true rfl⟩ (Nat.le_of_ble_eq_true rfl) rfl rfl (fun r3 h3 _ => ?_)
        refine j_aload_n 1 dX6_meets_111 rfl ?_
        refine j_iload 5 dX6_meets_112 rfl ?_
        refine j_cV (stk := [vi r3]) [vi x4] th dX6_meets_114 mv_mo_reaches lm_X6_169 (sub_k hs 0 rfl rfl) zc_6 (ct_mo_reaches hs h3) rfl rfl ⟨⟨Nat.le_of_ble_eq_true rfl, Nat.le_of_ble_eq_true rfl⟩, Nat.le_of_ble_eq_true rfl, Nat.le_of_ble_eq_true rfl⟩ (Nat.le_of_ble_eq_true rfl) rfl rfl (fun r4 h4 _ => ?_)
        refine j_icmp_gt (tgt := 124) dX6_meets_117 (by decide) ?_ ?_
        · refine j_sub [1, 2, 3, 5, 6] rfl ?_
          exact jb_mo_meets_124 hs hk20 _ _ _
        · refine j_sub [1, 2, 3, 5, 6] rfl ?_
          exact jb_mo_meets_120 hs hk20 _ _ _
  · refine j_sub [1, 2, 3, 5, 6] rfl ?_
    exact jb_mo_meets_120 hs hk20 _ _ _

set_option maxRecDepth 100000 in
set_option maxHeartbeats 4000000 in
theorem jb_mo_meets_78 {lay : List LK} {th : Nat} {p1 : Int} {p2 : Int} {k20 : Int → Int → Int → Hp → O Int} (hs : sub lay th blkModel) (hk20 : ∀ (x3 x4 x5 : Int) (h : Hp), J mi_mo_meets encI (Same lay) lay 0 0 20 [(0, vr th), (1, vi p1), (2, vi p2), (3, vi x3), (4, vi x4), (5, vi x5)] [] h (k20 x3 x4 x5 h)) (x3 x4 x5 : Int) (h : Hp) : J mi_mo_meets encI (Same lay) lay 0 0 78 [(0, vr th), (1, vi p1), (2, vi p2), (3, vi x3), (4, vi x4), (5, vi x5)] [] h (mo_meets_b78 th p1 p2 k20 x3 x4 x5 h) := by
  unfold mo_meets_b78
  refine j_iconst (x := 0) dX6_meets_78 rfl (by decide) ?_
  exact jb_mo_meets_79 hs hk20 _ _ _ _ _

set_option maxRecDepth 100000 in
set_option maxHeartbeats 4000000 in
theorem jl_mo_meets_20 {lay : List LK} {th : Nat} {p1 : Int} {p2 : Int} {k5 : Int → Int → Hp → O Int} (hs : sub lay th blkModel) (hk5 : ∀ (x3 x4 : Int) (h : Hp), J mi_mo_meets encI (Same lay) lay 0 0 5 [(0, vr th), (1, vi p1), (2, vi p2), (3, vi x3), (4, vi x4)] [] h (k5 x3 x4 h)) : ∀ (n : Nat) (x3 x4 x5 : Int) (h : Hp), J mi_mo_meets encI (Same lay) lay 0 0 20 [(0, vr th), (1, vi p1), (2, vi p2), (3, vi x3), (4, vi x4), (5, vi x5)] [] h (iter3 (mo_meets_f20 th p1 p2 k5) n x3 x4 x5 h) := by
  refine j_iter3 (lf := fun x3 x4 x5 => [(0, vr th), (1, vi p1), (2, vi p2), (3, vi x3), (4, vi x4), (5, vi x5)]) (fun k20 hk20 x3 x4 x5 h => ?_)
  unfold mo_meets_f20
  refine j_iload 5 dX6_meets_20 rfl ?_
  refine j_aload_n 0 dX6_meets_22 rfl ?_
  refine j_getR 0 1 0 dX6_meets_23 zc_6 rfl (sub_k hs 0 rfl rfl) (by decide) lk_X6_7 rfl (by decide) (rfl : th + 1 = (th + 1)) ?_
  refine j_bipush (x := 13) dX6_meets_26 (by decide) (by decide) ?_
  refine j_iald dX6_meets_28 (sub_k hs 1 rfl rfl) rfl ?_
  refine j_icmp_ge (tgt := 132) dX6_meets_29 (by decide) ?_ ?_
  · refine j_aload_n 0 dX6_meets_32 rfl ?_
    refine j_getR 8 3 2 dX6_meets_33 zc_6 rfl (sub_k hs 0 rfl rfl) (by decide) lk_X6_16 rfl (by decide) (rfl : th + 3 = (th + 3)) ?_
    refine j_iload 4 dX6_meets_36 rfl ?_
    refine j_iald dX6_meets_38 (sub_k hs 3 rfl rfl) rfl ?_
    refine j_iload_n 1 dX6_meets_39 rfl ?_
    refine j_icmp_ne (tgt := 132) dX6_meets_40 (by decide) ?_ ?_
    · refine j_aload_n 0 dX6_meets_43 rfl ?_
      refine j_getR 13 8 7 dX6_meets_44 zc_6 rfl (sub_k hs 0 rfl rfl) (by decide) lk_X6_31 rfl (by decide) (rfl : th + 8 = (th + 8)) ?_
      refine j_aload_n 0 dX6_meets_47 rfl ?_
      refine j_getR 8 3 2 dX6_meets_48 zc_6 rfl (sub_k hs 0 rfl rfl) (by decide) lk_X6_16 rfl (by decide) (rfl : th + 3 = (th + 3)) ?_
      refine j_iload 5 dX6_meets_51 rfl ?_
      refine j_iald dX6_meets_53 (sub_k hs 3 rfl rfl) rfl ?_
      refine j_zald dX6_meets_54 (sub_k hs 8 rfl rfl) rfl ?_
      refine j_if_eq (tgt := 78) dX6_meets_55 (by decide) ?_ ?_
      · exact jb_mo_meets_78 hs hk20 _ _ _ _
      · refine j_aload_n 0 dX6_meets_58 rfl ?_
        refine j_getR 12 7 6 dX6_meets_59 zc_6 rfl (sub_k hs 0 rfl rfl) (by decide) lk_X6_28 rfl (by decide) (rfl : th + 7 = (th + 7)) ?_
        refine j_aload_n 0 dX6_meets_62 rfl ?_
        refine j_getR 8 3 2 dX6_meets_63 zc_6 rfl (sub_k hs 0 rfl rfl) (by decide) lk_X6_16 rfl (by decide) (rfl : th + 3 = (th + 3)) ?_
        refine j_iload 5 dX6_meets_66 rfl ?_
        refine j_iald dX6_meets_68 (sub_k hs 3 rfl rfl) rfl ?_
        refine j_iald dX6_meets_69 (sub_k hs 7 rfl rfl) rfl ?_
        refine j_iload_n 2 dX6_meets_70 rfl ?_
        refine j_icmp_ne (tgt := 78) dX6_meets_71 (by decide) ?_ ?_
        · refine j_iconst (x := 1) dX6_meets_74 rfl (by decide) ?_
          refine j_goto (tgt := 79) dX6_meets_75 (by decide) ?_
          exact jb_mo_meets_79 hs hk20 _ _ _ _ _
        · exact jb_mo_meets_78 hs hk20 _ _ _ _
    · refine j_sub [0, 1, 2, 3, 4] rfl ?_
      exact jb_mo_meets_132 hs hk5 _ _ _
  · refine j_sub [0, 1, 2, 3, 4] rfl ?_
    exact jb_mo_meets_132 hs hk5 _ _ _

set_option maxRecDepth 100000 in
set_option maxHeartbeats 4000000 in
theorem jl_mo_meets_5 {lay : List LK} {th : Nat} {p1 : Int} {p2 : Int}  (hs : sub lay th blkModel)  : ∀ (n : Nat) (x3 x4 : Int) (h : Hp), J mi_mo_meets encI (Same lay) lay 0 0 5 [(0, vr th), (1, vi p1), (2, vi p2), (3, vi x3), (4, vi x4)] [] h (iter2 (mo_meets_f5 th p1 p2) n x3 x4 h) := by
  refine j_iter2 (lf := fun x3 x4 => [(0, vr th), (1, vi p1), (2, vi p2), (3, vi x3), (4, vi x4)]) (fun k5 hk5 x3 x4 h => ?_)
  unfold mo_meets_f5
  refine j_iload 4 dX6_meets_5 rfl ?_
  refine j_aload_n 0 dX6_meets_7 rfl ?_
  refine j_getR 0 1 0 dX6_meets_8 zc_6 rfl (sub_k hs 0 rfl rfl) (by decide) lk_X6_7 rfl (by decide) (rfl : th + 1 = (th + 1)) ?_
  refine j_bipush (x := 13) dX6_meets_11 (by decide) (by decide) ?_
  refine j_iald dX6_meets_13 (sub_k hs 1 rfl rfl) rfl ?_
  refine j_icmp_ge (tgt := 138) dX6_meets_14 (by decide) ?_ ?_
  · refine j_iconst (x := 0) dX6_meets_17 rfl (by decide) ?_
    refine j_istore (lv' := [(5, vi 0), (0, vr th), (1, vi p1), (2, vi p2), (3, vi x3), (4, vi x4)]) dX6_meets_18 (by decide) rfl ?_
    refine j_sub [1, 2, 3, 4, 5, 0] rfl ?_
    exact jl_mo_meets_20 hs hk5 fuel _ _ _ _
  · refine j_iload_n 3 dX6_meets_138 rfl ?_
    exact j_retZ rfl rfl rfl dX6_meets_139 rfl ⟨Nat.le_refl _, Nat.le_refl _⟩ rfl

set_option maxRecDepth 100000 in
set_option maxHeartbeats 4000000 in
theorem ct_mo_meets {lay : List LK} {th : Nat} {p1 : Int} {p2 : Int} (hs : sub lay th blkModel) (h : Hp) : CT mi_mo_meets encI (Same lay) lay [vr th, vi p1, vi p2] h (mo_meets th p1 p2 h) := by
  refine CT.of (by decide) rfl (Nat.le_of_ble_eq_true rfl) ?_
  show J mi_mo_meets encI (Same lay) lay 0 0 0 [(0, vr th), (1, vi p1), (2, vi p2)] [] h _
  unfold mo_meets
  refine j_iconst (x := 0) dX6_meets_0 rfl (by decide) ?_
  refine j_istore_n (lv' := [(3, vi 0), (0, vr th), (1, vi p1), (2, vi p2)]) dX6_meets_1 (by decide) rfl ?_
  refine j_iconst (x := 0) dX6_meets_2 rfl (by decide) ?_
  refine j_istore (lv' := [(4, vi 0), (3, vi 0), (0, vr th), (1, vi p1), (2, vi p2)]) dX6_meets_3 (by decide) rfl ?_
  refine j_sub [2, 3, 4, 1, 0] rfl ?_
  exact jl_mo_meets_5 hs fuel _ _ _

set_option maxRecDepth 100000 in
set_option maxHeartbeats 4000000 in
theorem jl_mo_laysLanes_91 {lay : List LK} {th : Nat} {k9 : Int → Hp → O Unit} (hs : sub lay th blkModel) (hk9 : ∀ (x1 : Int) (h : Hp), J mi_mo_laysLanes encV (Same lay) lay 0 0 9 [(0, vr th), (1, vi x1)] [] h (k9 x1 h)) : ∀ (n : Nat) (x1 x2 : Int) (h : Hp), J mi_mo_laysLanes encV (Same lay) lay 0 0 91 [(0, vr th), (1, vi x1), (2, vi x2)] [] h (iter2 (mo_laysLanes_f91 th k9) n x1 x2 h) := by
  refine j_iter2 (lf := fun x1 x2 => [(0, vr th), (1, vi x1), (2, vi x2)]) (fun k91 hk91 x1 x2 h => ?_)
  unfold mo_laysLanes_f91
  refine j_aload_n 0 dX6_laysLanes_91 rfl ?_
  refine j_iload_n 1 dX6_laysLanes_92 rfl ?_
  refine j_iload_n 2 dX6_laysLanes_93 rfl ?_
  refine j_cV (stk := []) [vi x1, vi x2] th dX6_laysLanes_94 mv_mo_meets lm_X6_181 (sub_k hs 0 rfl rfl) zc_6 (ct_mo_meets hs h) rfl rfl ⟨⟨Nat.le_of_ble_eq_true rfl, Nat.le_of_ble_eq_true rfl⟩, Nat.le_of_ble_eq_true rfl, Nat.le_of_ble_eq_true rfl⟩ (Nat.le_of_ble_eq_true rfl) rfl rfl (fun r1 h1 _ => ?_)
  refine j_if_eq (tgt := 106) dX6_laysLanes_97 (by decide) ?_ ?_
  · refine j_aload_n 0 dX6_laysLanes_106 rfl ?_
    refine j_getR 12 7 6 dX6_laysLanes_107 zc_6 rfl (sub_k hs 0 rfl rfl) (by decide) lk_X6_28 rfl (by decide) (rfl : th + 7 = (th + 7)) ?_
    refine j_iload_n 1 dX6_laysLanes_110 rfl ?_
    refine j_iload_n 2 dX6_laysLanes_111 rfl ?_
    refine j_iast dX6_laysLanes_112 (sub_k hs 7 rfl rfl) rfl (fun h2 _ => ?_)
    refine j_aload_n 0 dX6_laysLanes_113 rfl ?_
    refine j_getR 13 8 7 dX6_laysLanes_114 zc_6 rfl (sub_k hs 0 rfl rfl) (by decide) lk_X6_31 rfl (by decide) (rfl : th + 8 = (th + 8)) ?_
    refine j_iload_n 1 dX6_laysLanes_117 rfl ?_
    refine j_iconst (x := 1) dX6_laysLanes_118 rfl (by decide) ?_
    refine j_zast dX6_laysLanes_119 (sub_k hs 8 rfl rfl) rfl (fun h3 _ => ?_)
    refine j_aload_n 0 dX6_laysLanes_120 rfl ?_
    refine j_cV (stk := []) [] th dX6_laysLanes_121 mv_mo_nextUnit lm_X6_175 (sub_k hs 0 rfl rfl) zc_6 (ct_mo_nextUnit hs h3) rfl rfl ⟨⟨Nat.le_of_ble_eq_true rfl, Nat.le_of_ble_eq_true rfl⟩, Nat.le_of_ble_eq_true rfl, Nat.le_of_ble_eq_true rfl⟩ (Nat.le_of_ble_eq_true rfl) rfl rfl (fun r4 h4 _ => ?_)
    refine j_istore_n (lv' := [(1, vi r4), (0, vr th), (2, vi x2)]) dX6_laysLanes_124 (by decide) rfl ?_
    refine j_goto (tgt := 9) dX6_laysLanes_125 (by decide) ?_
    refine j_sub [1, 0] rfl ?_
    exact hk9 _ _
  · refine j_iinc 2 (lv' := [(2, vi (x2 + 1)), (0, vr th), (1, vi x1)]) dX6_laysLanes_100 rfl (by decide) rfl ?_
    refine j_goto (tgt := 91) dX6_laysLanes_103 (by decide) ?_
    refine j_sub [1, 2, 0] rfl ?_
    exact hk91 _ _ _

set_option maxRecDepth 100000 in
set_option maxHeartbeats 4000000 in
theorem jb_mo_laysLanes_84 {lay : List LK} {th : Nat} {k25 : Int → Int → Int → Hp → O Unit} (hs : sub lay th blkModel) (hk25 : ∀ (x1 x2 x3 : Int) (h : Hp), J mi_mo_laysLanes encV (Same lay) lay 0 0 25 [(0, vr th), (1, vi x1), (2, vi x2), (3, vi x3)] [] h (k25 x1 x2 x3 h)) (x1 x3 s0 : Int) (h : Hp) : J mi_mo_laysLanes encV (Same lay) lay 0 0 84 [(0, vr th), (1, vi x1), (3, vi x3)] [vi s0] h (mo_laysLanes_b84 th k25 x1 x3 s0 h) := by
  unfold mo_laysLanes_b84
  refine j_istore_n (lv' := [(2, vi s0), (0, vr th), (1, vi x1), (3, vi x3)]) dX6_laysLanes_84 (by decide) rfl ?_
  refine j_iinc 3 (lv' := [(3, vi (x3 + 1)), (2, vi s0), (0, vr th), (1, vi x1)]) dX6_laysLanes_85 rfl (by decide) rfl ?_
  refine j_goto (tgt := 25) dX6_laysLanes_88 (by decide) ?_
  refine j_sub [2, 3, 1, 0] rfl ?_
  exact hk25 _ _ _ _

set_option maxRecDepth 100000 in
set_option maxHeartbeats 4000000 in
theorem jb_mo_laysLanes_83 {lay : List LK} {th : Nat} {k25 : Int → Int → Int → Hp → O Unit} (hs : sub lay th blkModel) (hk25 : ∀ (x1 x2 x3 : Int) (h : Hp), J mi_mo_laysLanes encV (Same lay) lay 0 0 25 [(0, vr th), (1, vi x1), (2, vi x2), (3, vi x3)] [] h (k25 x1 x2 x3 h)) (x1 x2 x3 : Int) (h : Hp) : J mi_mo_laysLanes encV (Same lay) lay 0 0 83 [(0, vr th), (1, vi x1), (2, vi x2), (3, vi x3)] [] h (mo_laysLanes_b83 th k25 x1 x2 x3 h) := by
  unfold mo_laysLanes_b83
  refine j_iload_n 2 dX6_laysLanes_83 rfl ?_
  refine j_sub [0, 1, 3] rfl ?_
  exact jb_mo_laysLanes_84 hs hk25 _ _ _ _

set_option maxRecDepth 100000 in
set_option maxHeartbeats 4000000 in
theorem jl_mo_laysLanes_25 {lay : List LK} {th : Nat} {k9 : Int → Hp → O Unit} (hs : sub lay th blkModel) (hk9 : ∀ (x1 : Int) (h : Hp), J mi_mo_laysLanes encV (Same lay) lay 0 0 9 [(0, vr th), (1, vi x1)] [] h (k9 x1 h)) : ∀ (n : Nat) (x1 x2 x3 : Int) (h : Hp), J mi_mo_laysLanes encV (Same lay) lay 0 0 25 [(0, vr th), (1, vi x1), (2, vi x2), (3, vi x3)] [] h (iter3 (mo_laysLanes_f25 th k9) n x1 x2 x3 h) := by
  refine j_iter3 (lf := fun x1 x2 x3 => [(0, vr th), (1, vi x1), (2, vi x2), (3, vi x3)]) (fun k25 hk25 x1 x2 x3 h => ?_)
  unfold mo_laysLanes_f25
  refine j_iload_n 3 dX6_laysLanes_25 rfl ?_
  refine j_aload_n 0 dX6_laysLanes_26 rfl ?_
  refine j_getR 0 1 0 dX6_laysLanes_27 zc_6 rfl (sub_k hs 0 rfl rfl) (by decide) lk_X6_7 rfl (by decide) (rfl : th + 1 = (th + 1)) ?_
  refine j_bipush (x := 13) dX6_laysLanes_30 (by decide) (by decide) ?_
  refine j_iald dX6_laysLanes_32 (sub_k hs 1 rfl rfl) rfl ?_
  refine j_icmp_ge (tgt := 91) dX6_laysLanes_33 (by decide) ?_ ?_
  · refine j_aload_n 0 dX6_laysLanes_36 rfl ?_
    refine j_iload_n 3 dX6_laysLanes_37 rfl ?_
    refine j_cV (stk := []) [vi x3] th dX6_laysLanes_38 mv_mo_isUnit lm_X6_160 (sub_k hs 0 rfl rfl) zc_6 (ct_mo_isUnit hs h) rfl rfl ⟨⟨Nat.le_of_ble_eq_true rfl, Nat.le_of_ble_eq_true rfl⟩, Nat.le_of_ble_eq_true rfl, Nat.le_of_ble_eq_true rfl⟩ (Nat.le_of_ble_eq_true rfl) rfl rfl (fun r1 h1 _ => ?_)
    refine j_if_eq (tgt := 83) dX6_laysLanes_41 (by decide) ?_ ?_
    · exact jb_mo_laysLanes_83 hs hk25 _ _ _ _
    · refine j_aload_n 0 dX6_laysLanes_44 rfl ?_
      refine j_getR 13 8 7 dX6_laysLanes_45 zc_6 rfl (sub_k hs 0 rfl rfl) (by decide) lk_X6_31 rfl (by decide) (rfl : th + 8 = (th + 8)) ?_
      refine j_iload_n 3 dX6_laysLanes_48 rfl ?_
      refine j_zald dX6_laysLanes_49 (sub_k hs 8 rfl rfl) rfl ?_
      refine j_if_eq (tgt := 83) dX6_laysLanes_50 (by decide) ?_ ?_
      · exact jb_mo_laysLanes_83 hs hk25 _ _ _ _
      · refine j_aload_n 0 dX6_laysLanes_53 rfl ?_
        refine j_iload_n 1 dX6_laysLanes_54 rfl ?_
        refine j_iload_n 3 dX6_laysLanes_55 rfl ?_
        refine j_cV (stk := []) [vi x1, vi x3] th dX6_laysLanes_56 mv_mo_covers lm_X6_178 (sub_k hs 0 rfl rfl) zc_6 (ct_mo_covers hs h1) rfl rfl ⟨⟨Nat.le_of_ble_eq_true rfl, Nat.le_of_ble_eq_true rfl⟩, Nat.le_of_ble_eq_true rfl, Nat.le_of_ble_eq_true rfl⟩ (Nat.le_of_ble_eq_true rfl) rfl rfl (fun r2 h2 _ => ?_)
        refine j_if_eq (tgt := 83) dX6_laysLanes_59 (by decide) ?_ ?_
        · exact jb_mo_laysLanes_83 hs hk25 _ _ _ _
        · refine j_aload_n 0 dX6_laysLanes_62 rfl ?_
          refine j_getR 12 7 6 dX6_laysLanes_63 zc_6 rfl (sub_k hs 0 rfl rfl) (by decide) lk_X6_28 rfl (by decide) (rfl : th + 7 = (th + 7)) ?_
          refine j_iload_n 3 dX6_laysLanes_66 rfl ?_
          refine j_iald dX6_laysLanes_67 (sub_k hs 7 rfl rfl) rfl ?_
          refine j_iload_n 2 dX6_laysLanes_68 rfl ?_
          refine j_icmp_lt (tgt := 83) dX6_laysLanes_69 (by decide) ?_ ?_
          · exact jb_mo_laysLanes_83 hs hk25 _ _ _ _
          · refine j_aload_n 0 dX6_laysLanes_72 rfl ?_
            refine j_getR 12 7 6 dX6_laysLanes_73 zc_6 rfl (sub_k hs 0 rfl rfl) (by decide) lk_X6_28 rfl (by decide) (rfl : th + 7 = (th + 7)) ?_
            refine j_iload_n 3 dX6_laysLanes_76 rfl ?_
            refine j_iald dX6_laysLanes_77 (sub_k hs 7 rfl rfl) rfl ?_
            refine j_iconst (x := 1) dX6_laysLanes_78 rfl (by decide) ?_
            refine j_iadd dX6_laysLanes_79 ?_
            refine j_goto (tgt := 84) dX6_laysLanes_80 (by decide) ?_
            refine j_sub [0, 1, 3] rfl ?_
            exact jb_mo_laysLanes_84 hs hk25 _ _ _ _
  · refine j_sub [0, 1, 2] rfl ?_
    exact jl_mo_laysLanes_91 hs hk9 fuel _ _ _

set_option maxRecDepth 100000 in
set_option maxHeartbeats 4000000 in
theorem jl_mo_laysLanes_9 {lay : List LK} {th : Nat}  (hs : sub lay th blkModel)  : ∀ (n : Nat) (x1 : Int) (h : Hp), J mi_mo_laysLanes encV (Same lay) lay 0 0 9 [(0, vr th), (1, vi x1)] [] h (iter1 (mo_laysLanes_f9 th) n x1 h) := by
  refine j_iter1 (lf := fun x1 => [(0, vr th), (1, vi x1)]) (fun k9 hk9 x1 h => ?_)
  unfold mo_laysLanes_f9
  refine j_iload_n 1 dX6_laysLanes_9 rfl ?_
  refine j_sipush (x := (-999)) dX6_laysLanes_10 (by decide) (by decide) ?_
  refine j_icmp_eq (tgt := 128) dX6_laysLanes_13 (by decide) ?_ ?_
  · exact j_retV rfl rfl rfl dX6_laysLanes_128 rfl ⟨Nat.le_refl _, Nat.le_refl _⟩ rfl
  · refine j_aload_n 0 dX6_laysLanes_16 rfl ?_
    refine j_getR 11 6 5 dX6_laysLanes_17 zc_6 rfl (sub_k hs 0 rfl rfl) (by decide) lk_X6_25 rfl (by decide) (rfl : th + 6 = (th + 6)) ?_
    refine j_iload_n 1 dX6_laysLanes_20 rfl ?_
    refine j_iald dX6_laysLanes_21 (sub_k hs 6 rfl rfl) rfl ?_
    refine j_istore_n (lv' := [(2, vi (h (th + 6) x1)), (0, vr th), (1, vi x1)]) dX6_laysLanes_22 (by decide) rfl ?_
    refine j_iconst (x := 0) dX6_laysLanes_23 rfl (by decide) ?_
    refine j_istore_n (lv' := [(3, vi 0), (2, vi (h (th + 6) x1)), (0, vr th), (1, vi x1)]) dX6_laysLanes_24 (by decide) rfl ?_
    refine j_sub [2, 3, 1, 0] rfl ?_
    exact jl_mo_laysLanes_25 hs hk9 fuel _ _ _ _

set_option maxRecDepth 100000 in
set_option maxHeartbeats 4000000 in
theorem ct_mo_laysLanes {lay : List LK} {th : Nat} (hs : sub lay th blkModel) (h : Hp) : CT mi_mo_laysLanes encV (Same lay) lay [vr th] h (mo_laysLanes th h) := by
  refine CT.of (by decide) rfl (Nat.le_of_ble_eq_true rfl) ?_
  show J mi_mo_laysLanes encV (Same lay) lay 0 0 0 [(0, vr th)] [] h _
  unfold mo_laysLanes
  refine j_aload_n 0 dX6_laysLanes_0 rfl ?_
  refine j_cV (stk := []) [] th dX6_laysLanes_1 mv_mo_laysUnits lm_X6_172 (sub_k hs 0 rfl rfl) zc_6 (ct_mo_laysUnits hs h) rfl rfl ⟨⟨Nat.le_of_ble_eq_true rfl, Nat.le_of_ble_eq_true rfl⟩, Nat.le_of_ble_eq_true rfl, Nat.le_of_ble_eq_true rfl⟩ (Nat.le_of_ble_eq_true rfl) rfl rfl (fun _ h1 _ => ?_)
  refine j_aload_n 0 dX6_laysLanes_4 rfl ?_
  refine j_cV (stk := []) [] th dX6_laysLanes_5 mv_mo_nextUnit lm_X6_175 (sub_k hs 0 rfl rfl) zc_6 (ct_mo_nextUnit hs h1) rfl rfl ⟨⟨Nat.le_of_ble_eq_true rfl, Nat.le_of_ble_eq_true rfl⟩, Nat.le_of_ble_eq_true rfl, Nat.le_of_ble_eq_true rfl⟩ (Nat.le_of_ble_eq_true rfl) rfl rfl (fun r2 h2 _ => ?_)
  refine j_istore_n (lv' := [(1, vi r2), (0, vr th)]) dX6_laysLanes_8 (by decide) rfl ?_
  refine j_sub [1, 0] rfl ?_
  exact jl_mo_laysLanes_9 hs fuel _ _

set_option maxRecDepth 100000 in
set_option maxHeartbeats 4000000 in
theorem ct_mo_laneOf {lay : List LK} {th : Nat} {p1 : Int} (hs : sub lay th blkModel) (h : Hp) : CT mi_mo_laneOf encI (Same lay) lay [vr th, vi p1] h (mo_laneOf th p1 h) := by
  refine CT.of (by decide) rfl (Nat.le_of_ble_eq_true rfl) ?_
  show J mi_mo_laneOf encI (Same lay) lay 0 0 0 [(0, vr th), (1, vi p1)] [] h _
  unfold mo_laneOf
  refine j_aload_n 0 dX6_laneOf_0 rfl ?_
  refine j_getR 12 7 6 dX6_laneOf_1 zc_6 rfl (sub_k hs 0 rfl rfl) (by decide) lk_X6_28 rfl (by decide) (rfl : th + 7 = (th + 7)) ?_
  refine j_aload_n 0 dX6_laneOf_4 rfl ?_
  refine j_getR 8 3 2 dX6_laneOf_5 zc_6 rfl (sub_k hs 0 rfl rfl) (by decide) lk_X6_16 rfl (by decide) (rfl : th + 3 = (th + 3)) ?_
  refine j_iload_n 1 dX6_laneOf_8 rfl ?_
  refine j_iald dX6_laneOf_9 (sub_k hs 3 rfl rfl) rfl ?_
  refine j_iald dX6_laneOf_10 (sub_k hs 7 rfl rfl) rfl ?_
  exact j_retI (h0 := h) (r := 0) rfl rfl rfl dX6_laneOf_11 rfl ⟨Nat.le_refl _, Nat.le_refl _⟩ rfl

set_option maxRecDepth 100000 in
set_option maxHeartbeats 4000000 in
theorem jb_mo_lanes_35 {lay : List LK} {th : Nat} {k4 : Int → Int → Hp → O Int} (hs : sub lay th blkModel) (hk4 : ∀ (x1 x2 : Int) (h : Hp), J mi_mo_lanes encI (Same lay) lay 0 0 4 [(0, vr th), (1, vi x1), (2, vi x2)] [] h (k4 x1 x2 h)) (x2 s0 : Int) (h : Hp) : J mi_mo_lanes encI (Same lay) lay 0 0 35 [(0, vr th), (2, vi x2)] [vi s0] h (mo_lanes_b35 th k4 x2 s0 h) := by
  unfold mo_lanes_b35
  refine j_istore_n (lv' := [(1, vi s0), (0, vr th), (2, vi x2)]) dX6_lanes_35 (by decide) rfl ?_
  refine j_iinc 2 (lv' := [(2, vi (x2 + 1)), (1, vi s0), (0, vr th)]) dX6_lanes_36 rfl (by decide) rfl ?_
  refine j_goto (tgt := 4) dX6_lanes_39 (by decide) ?_
  refine j_sub [2, 1, 0] rfl ?_
  exact hk4 _ _ _

set_option maxRecDepth 100000 in
set_option maxHeartbeats 4000000 in
theorem jl_mo_lanes_4 {lay : List LK} {th : Nat}  (hs : sub lay th blkModel)  : ∀ (n : Nat) (x1 x2 : Int) (h : Hp), J mi_mo_lanes encI (Same lay) lay 0 0 4 [(0, vr th), (1, vi x1), (2, vi x2)] [] h (iter2 (mo_lanes_f4 th) n x1 x2 h) := by
  refine j_iter2 (lf := fun x1 x2 => [(0, vr th), (1, vi x1), (2, vi x2)]) (fun k4 hk4 x1 x2 h => ?_)
  unfold mo_lanes_f4
  refine j_iload_n 2 dX6_lanes_4 rfl ?_
  refine j_aload_n 0 dX6_lanes_5 rfl ?_
  refine j_getR 0 1 0 dX6_lanes_6 zc_6 rfl (sub_k hs 0 rfl rfl) (by decide) lk_X6_7 rfl (by decide) (rfl : th + 1 = (th + 1)) ?_
  refine j_bipush (x := 13) dX6_lanes_9 (by decide) (by decide) ?_
  refine j_iald dX6_lanes_11 (sub_k hs 1 rfl rfl) rfl ?_
  refine j_icmp_ge (tgt := 42) dX6_lanes_12 (by decide) ?_ ?_
  · refine j_aload_n 0 dX6_lanes_15 rfl ?_
    refine j_iload_n 2 dX6_lanes_16 rfl ?_
    refine j_cV (stk := []) [vi x2] th dX6_lanes_17 mv_mo_laneOf lm_X6_184 (sub_k hs 0 rfl rfl) zc_6 (ct_mo_laneOf hs h) rfl rfl ⟨⟨Nat.le_of_ble_eq_true rfl, Nat.le_of_ble_eq_true rfl⟩, Nat.le_of_ble_eq_true rfl, Nat.le_of_ble_eq_true rfl⟩ (Nat.le_of_ble_eq_true rfl) rfl rfl (fun r1 h1 _ => ?_)
    refine j_iload_n 1 dX6_lanes_20 rfl ?_
    refine j_icmp_lt (tgt := 34) dX6_lanes_21 (by decide) ?_ ?_
    · refine j_iload_n 1 dX6_lanes_34 rfl ?_
      refine j_sub [0, 2] rfl ?_
      exact jb_mo_lanes_35 hs hk4 _ _ _
    · refine j_aload_n 0 dX6_lanes_24 rfl ?_
      refine j_iload_n 2 dX6_lanes_25 rfl ?_
      refine j_cV (stk := []) [vi x2] th dX6_lanes_26 mv_mo_laneOf lm_X6_184 (sub_k hs 0 rfl rfl) zc_6 (ct_mo_laneOf hs h1) rfl rfl ⟨⟨Nat.le_of_ble_eq_true rfl, Nat.le_of_ble_eq_true rfl⟩, Nat.le_of_ble_eq_true rfl, Nat.le_of_ble_eq_true rfl⟩ (Nat.le_of_ble_eq_true rfl) rfl rfl (fun r2 h2 _ => ?_)
      refine j_iconst (x := 1) dX6_lanes_29 rfl (by decide) ?_
      refine j_iadd dX6_lanes_30 ?_
      refine j_goto (tgt := 35) dX6_lanes_31 (by decide) ?_
      refine j_sub [0, 2] rfl ?_
      exact jb_mo_lanes_35 hs hk4 _ _ _
  · refine j_iload_n 1 dX6_lanes_42 rfl ?_
    exact j_retI (h0 := h) (r := 0) rfl rfl rfl dX6_lanes_43 rfl ⟨Nat.le_refl _, Nat.le_refl _⟩ rfl

set_option maxRecDepth 100000 in
set_option maxHeartbeats 4000000 in
theorem ct_mo_lanes {lay : List LK} {th : Nat} (hs : sub lay th blkModel) (h : Hp) : CT mi_mo_lanes encI (Same lay) lay [vr th] h (mo_lanes th h) := by
  refine CT.of (by decide) rfl (Nat.le_of_ble_eq_true rfl) ?_
  show J mi_mo_lanes encI (Same lay) lay 0 0 0 [(0, vr th)] [] h _
  unfold mo_lanes
  refine j_iconst (x := 0) dX6_lanes_0 rfl (by decide) ?_
  refine j_istore_n (lv' := [(1, vi 0), (0, vr th)]) dX6_lanes_1 (by decide) rfl ?_
  refine j_iconst (x := 0) dX6_lanes_2 rfl (by decide) ?_
  refine j_istore_n (lv' := [(2, vi 0), (1, vi 0), (0, vr th)]) dX6_lanes_3 (by decide) rfl ?_
  refine j_sub [2, 1, 0] rfl ?_
  exact jl_mo_lanes_4 hs fuel _ _ _

set_option maxRecDepth 100000 in
set_option maxHeartbeats 4000000 in
theorem jb_mo_witness_67 {lay : List LK} {th : Nat} {p1 : Int} {k6 : Int → Int → Hp → O Int} (hs : sub lay th blkModel) (hk6 : ∀ (x2 x3 : Int) (h : Hp), J mi_mo_witness encI (Same lay) lay 0 0 6 [(0, vr th), (1, vi p1), (2, vi x2), (3, vi x3)] [] h (k6 x2 x3 h)) (x3 s0 : Int) (h : Hp) : J mi_mo_witness encI (Same lay) lay 0 0 67 [(0, vr th), (1, vi p1), (3, vi x3)] [vi s0] h (mo_witness_b67 th p1 k6 x3 s0 h) := by
  unfold mo_witness_b67
  refine j_istore_n (lv' := [(2, vi s0), (0, vr th), (1, vi p1), (3, vi x3)]) dX6_witness_67 (by decide) rfl ?_
  refine j_iinc 3 (lv' := [(3, vi (x3 + 1)), (2, vi s0), (0, vr th), (1, vi p1)]) dX6_witness_68 rfl (by decide) rfl ?_
  refine j_goto (tgt := 6) dX6_witness_71 (by decide) ?_
  refine j_sub [2, 3, 1, 0] rfl ?_
  exact hk6 _ _ _

set_option maxRecDepth 100000 in
set_option maxHeartbeats 4000000 in
theorem jb_mo_witness_66 {lay : List LK} {th : Nat} {p1 : Int} {k6 : Int → Int → Hp → O Int} (hs : sub lay th blkModel) (hk6 : ∀ (x2 x3 : Int) (h : Hp), J mi_mo_witness encI (Same lay) lay 0 0 6 [(0, vr th), (1, vi p1), (2, vi x2), (3, vi x3)] [] h (k6 x2 x3 h)) (x2 x3 : Int) (h : Hp) : J mi_mo_witness encI (Same lay) lay 0 0 66 [(0, vr th), (1, vi p1), (2, vi x2), (3, vi x3)] [] h (mo_witness_b66 th p1 k6 x2 x3 h) := by
  unfold mo_witness_b66
  refine j_iload_n 2 dX6_witness_66 rfl ?_
  refine j_sub [0, 1, 3] rfl ?_
  exact jb_mo_witness_67 hs hk6 _ _ _

set_option maxRecDepth 100000 in
set_option maxHeartbeats 4000000 in
theorem jb_mo_witness_42 {lay : List LK} {th : Nat} {p1 : Int} {k6 : Int → Int → Hp → O Int} (hs : sub lay th blkModel) (hk6 : ∀ (x2 x3 : Int) (h : Hp), J mi_mo_witness encI (Same lay) lay 0 0 6 [(0, vr th), (1, vi p1), (2, vi x2), (3, vi x3)] [] h (k6 x2 x3 h)) (x2 x3 s0 : Int) (h : Hp) : J mi_mo_witness encI (Same lay) lay 0 0 42 [(0, vr th), (1, vi p1), (2, vi x2), (3, vi x3)] [vi s0] h (mo_witness_b42 th p1 k6 x2 x3 s0 h) := by
  unfold mo_witness_b42
  refine j_istore (lv' := [(4, vi s0), (0, vr th), (1, vi p1), (2, vi x2), (3, vi x3)]) dX6_witness_42 (by decide) rfl ?_
  refine j_iload 0 dX6_witness_44 rfl ?_
  refine j_if_eq (tgt := 66) dX6_witness_46 (by decide) ?_ ?_
  · refine j_sub [1, 2, 3, 4] rfl ?_
    exact jb_mo_witness_66 hs hk6 _ _ _
  · refine j_aload_n 1 dX6_witness_49 rfl ?_
    refine j_iload_n 4 dX6_witness_50 rfl ?_
    refine j_cV (stk := []) [vi x3] th dX6_witness_51 mv_mo_laneOf lm_X6_184 (sub_k hs 0 rfl rfl) zc_6 (ct_mo_laneOf hs h) rfl rfl ⟨⟨Nat.le_of_ble_eq_true rfl, Nat.le_of_ble_eq_true rfl⟩, Nat.le_of_ble_eq_true rfl, Nat.le_of_ble_eq_true rfl⟩ (Nat.le_of_ble_eq_true rfl) rfl rfl (fun r1 h1 _ => ?_)
    refine j_iload_n 3 dX6_witness_54 rfl ?_
    refine j_icmp_le (tgt := 66) dX6_witness_55 (by decide) ?_ ?_
    · refine j_aload_n 1 dX6_witness_58 rfl ?_
      refine j_iload_n 4 dX6_witness_59 rfl ?_
      refine j_cV (stk := []) [vi x3] th dX6_witness_60 mv_mo_laneOf lm_X6_184 (sub_k hs 0 rfl rfl) zc_6 (ct_mo_laneOf hs h1) rfl rfl ⟨⟨Nat.le_of_ble_eq_true rfl, Nat.le_of_ble_eq_true rfl⟩, Nat.le_of_ble_eq_true rfl, Nat.le_of_ble_eq_true rfl⟩ (Nat.le_of_ble_eq_true rfl) rfl rfl (fun r2 h2 _ => ?_)
      refine j_goto (tgt := 67) dX6_witness_63 (by decide) ?_
      refine j_sub [1, 2, 4] rfl ?_
      exact jb_mo_witness_67 hs hk6 _ _ _
    · refine j_sub [1, 2, 3, 4] rfl ?_
      exact jb_mo_witness_66 hs hk6 _ _ _

set_option maxRecDepth 100000 in
set_option maxHeartbeats 4000000 in
theorem jb_mo_witness_37 {lay : List LK} {th : Nat} {p1 : Int} {k6 : Int → Int → Hp → O Int} (hs : sub lay th blkModel) (hk6 : ∀ (x2 x3 : Int) (h : Hp), J mi_mo_witness encI (Same lay) lay 0 0 6 [(0, vr th), (1, vi p1), (2, vi x2), (3, vi x3)] [] h (k6 x2 x3 h)) (x2 x3 : Int) (h : Hp) : J mi_mo_witness encI (Same lay) lay 0 0 37 [(0, vr th), (1, vi p1), (2, vi x2), (3, vi x3)] [] h (mo_witness_b37 th p1 k6 x2 x3 h) := by
  unfold mo_witness_b37
  refine j_iconst (x := 1) dX6_witness_37 rfl (by decide) ?_
  refine j_goto (tgt := 42) dX6_witness_38 (by decide) ?_
  exact jb_mo_witness_42 hs hk6 _ _ _ _

set_option maxRecDepth 100000 in
set_option maxHeartbeats 4000000 in
theorem jl_mo_witness_6 {lay : List LK} {th : Nat} {p1 : Int}  (hs : sub lay th blkModel)  : ∀ (n : Nat) (x2 x3 : Int) (h : Hp), J mi_mo_witness encI (Same lay) lay 0 0 6 [(0, vr th), (1, vi p1), (2, vi x2), (3, vi x3)] [] h (iter2 (mo_witness_f6 th p1) n x2 x3 h) := by
  refine j_iter2 (lf := fun x2 x3 => [(0, vr th), (1, vi p1), (2, vi x2), (3, vi x3)]) (fun k6 hk6 x2 x3 h => ?_)
  unfold mo_witness_f6
  refine j_iload_n 3 dX6_witness_6 rfl ?_
  refine j_aload_n 0 dX6_witness_7 rfl ?_
  refine j_getR 0 1 0 dX6_witness_8 zc_6 rfl (sub_k hs 0 rfl rfl) (by decide) lk_X6_7 rfl (by decide) (rfl : th + 1 = (th + 1)) ?_
  refine j_bipush (x := 13) dX6_witness_11 (by decide) (by decide) ?_
  refine j_iald dX6_witness_13 (sub_k hs 1 rfl rfl) rfl ?_
  refine j_icmp_ge (tgt := 74) dX6_witness_14 (by decide) ?_ ?_
  · refine j_aload_n 0 dX6_witness_17 rfl ?_
    refine j_iload_n 3 dX6_witness_18 rfl ?_
    refine j_iconst (x := 0) dX6_witness_19 rfl (by decide) ?_
    refine j_cV (stk := []) [vi x3, vi 0] th dX6_witness_20 mv_mo_of lm_X6_50 (sub_k hs 0 rfl rfl) zc_6 (ct_mo_of hs h) rfl rfl ⟨⟨Nat.le_of_ble_eq_true rfl, Nat.le_of_ble_eq_true rfl⟩, Nat.le_of_ble_eq_true rfl, Nat.le_of_ble_eq_true rfl⟩ (Nat.le_of_ble_eq_true rfl) rfl rfl (fun r1 h1 _ => ?_)
    refine j_iload_n 1 dX6_witness_23 rfl ?_
    refine j_icmp_eq (tgt := 37) dX6_witness_24 (by decide) ?_ ?_
    · exact jb_mo_witness_37 hs hk6 _ _ _
    · refine j_aload_n 0 dX6_witness_27 rfl ?_
      refine j_iload_n 3 dX6_witness_28 rfl ?_
      refine j_iconst (x := 1) dX6_witness_29 rfl (by decide) ?_
      refine j_cV (stk := []) [vi x3, vi 1] th dX6_witness_30 mv_mo_of lm_X6_50 (sub_k hs 0 rfl rfl) zc_6 (ct_mo_of hs h1) rfl rfl ⟨⟨Nat.le_of_ble_eq_true rfl, Nat.le_of_ble_eq_true rfl⟩, Nat.le_of_ble_eq_true rfl, Nat.le_of_ble_eq_true rfl⟩ (Nat.le_of_ble_eq_true rfl) rfl rfl (fun r2 h2 _ => ?_)
      refine j_iload_n 1 dX6_witness_33 rfl ?_
      refine j_icmp_ne (tgt := 41) dX6_witness_34 (by decide) ?_ ?_
      · exact jb_mo_witness_37 hs hk6 _ _ _
      · refine j_iconst (x := 0) dX6_witness_41 rfl (by decide) ?_
        exact jb_mo_witness_42 hs hk6 _ _ _ _
  · refine j_iload_n 2 dX6_witness_74 rfl ?_
    exact j_retI (h0 := h) (r := 0) rfl rfl rfl dX6_witness_75 rfl ⟨Nat.le_refl _, Nat.le_refl _⟩ rfl

set_option maxRecDepth 100000 in
set_option maxHeartbeats 4000000 in
theorem ct_mo_witness {lay : List LK} {th : Nat} {p1 : Int} (hs : sub lay th blkModel) (h : Hp) : CT mi_mo_witness encI (Same lay) lay [vr th, vi p1] h (mo_witness th p1 h) := by
  refine CT.of (by decide) rfl (Nat.le_of_ble_eq_true rfl) ?_
  show J mi_mo_witness encI (Same lay) lay 0 0 0 [(0, vr th), (1, vi p1)] [] h _
  unfold mo_witness
  refine j_sipush (x := (-999)) dX6_witness_0 (by decide) (by decide) ?_
  refine j_istore_n (lv' := [(2, vi (-999)), (0, vr th), (1, vi p1)]) dX6_witness_3 (by decide) rfl ?_
  refine j_iconst (x := 0) dX6_witness_4 rfl (by decide) ?_
  refine j_istore_n (lv' := [(3, vi 0), (2, vi (-999)), (0, vr th), (1, vi p1)]) dX6_witness_5 (by decide) rfl ?_
  refine j_sub [2, 3, 1, 0] rfl ?_
  exact jl_mo_witness_6 hs fuel _ _ _

set_option maxRecDepth 100000 in
set_option maxHeartbeats 4000000 in
theorem jb_mo_crosses_44 {lay : List LK} {th : Nat} {p1 : Int} {p2 : Int}  (hs : sub lay th blkModel)  (s0 : Int) (h : Hp) : J mi_mo_crosses encI (Same lay) lay 0 0 44 [] [vi s0] h (mo_crosses_b44 th p1 p2 s0 h) := by
  unfold mo_crosses_b44
  exact j_retZ rfl rfl rfl dX6_crosses_44 rfl ⟨Nat.le_refl _, Nat.le_refl _⟩ rfl

set_option maxRecDepth 100000 in
set_option maxHeartbeats 4000000 in
theorem jb_mo_crosses_43 {lay : List LK} {th : Nat} {p1 : Int} {p2 : Int}  (hs : sub lay th blkModel)  (h : Hp) : J mi_mo_crosses encI (Same lay) lay 0 0 43 [] [] h (mo_crosses_b43 th p1 p2 h) := by
  unfold mo_crosses_b43
  refine j_iconst (x := 0) dX6_crosses_43 rfl (by decide) ?_
  exact jb_mo_crosses_44 hs _ _

set_option maxRecDepth 100000 in
set_option maxHeartbeats 4000000 in
theorem ct_mo_crosses {lay : List LK} {th : Nat} {p1 : Int} {p2 : Int} (hs : sub lay th blkModel) (h : Hp) : CT mi_mo_crosses encI (Same lay) lay [vr th, vi p1, vi p2] h (mo_crosses th p1 p2 h) := by
  refine CT.of (by decide) rfl (Nat.le_of_ble_eq_true rfl) ?_
  show J mi_mo_crosses encI (Same lay) lay 0 0 0 [(0, vr th), (1, vi p1), (2, vi p2)] [] h _
  unfold mo_crosses
  refine j_aload_n 0 dX6_crosses_0 rfl ?_
  refine j_iload_n 2 dX6_crosses_1 rfl ?_
  refine j_cV (stk := []) [vi p2] th dX6_crosses_2 mv_mo_laneOf lm_X6_184 (sub_k hs 0 rfl rfl) zc_6 (ct_mo_laneOf hs h) rfl rfl ⟨⟨Nat.le_of_ble_eq_true rfl, Nat.le_of_ble_eq_true rfl⟩, Nat.le_of_ble_eq_true rfl, Nat.le_of_ble_eq_true rfl⟩ (Nat.le_of_ble_eq_true rfl) rfl rfl (fun r1 h1 _ => ?_)
  refine j_aload_n 0 dX6_crosses_5 rfl ?_
  refine j_iload_n 1 dX6_crosses_6 rfl ?_
  refine j_cV (stk := [vi r1]) [vi p1] th dX6_crosses_7 mv_mo_witness lm_X6_187 (sub_k hs 0 rfl rfl) zc_6 (ct_mo_witness hs h1) rfl rfl ⟨⟨Nat.le_of_ble_eq_true rfl, Nat.le_of_ble_eq_true rfl⟩, Nat.le_of_ble_eq_true rfl, Nat.le_of_ble_eq_true rfl⟩ (Nat.le_of_ble_eq_true rfl) rfl rfl (fun r2 h2 _ => ?_)
  refine j_icmp_ge (tgt := 43) dX6_crosses_10 (by decide) ?_ ?_
  · refine j_aload_n 0 dX6_crosses_13 rfl ?_
    refine j_iload_n 1 dX6_crosses_14 rfl ?_
    refine j_cV (stk := []) [vi p1] th dX6_crosses_15 mv_mo_position lm_X6_54 (sub_k hs 0 rfl rfl) zc_6 (ct_mo_position hs h2) rfl rfl ⟨⟨Nat.le_of_ble_eq_true rfl, Nat.le_of_ble_eq_true rfl⟩, Nat.le_of_ble_eq_true rfl, Nat.le_of_ble_eq_true rfl⟩ (Nat.le_of_ble_eq_true rfl) rfl rfl (fun r3 h3 _ => ?_)
    refine j_aload_n 0 dX6_crosses_18 rfl ?_
    refine j_iload_n 2 dX6_crosses_19 rfl ?_
    refine j_cV (stk := [vi r3]) [vi p2] th dX6_crosses_20 mv_mo_from lm_X6_61 (sub_k hs 0 rfl rfl) zc_6 (ct_mo_from hs h3) rfl rfl ⟨⟨Nat.le_of_ble_eq_true rfl, Nat.le_of_ble_eq_true rfl⟩, Nat.le_of_ble_eq_true rfl, Nat.le_of_ble_eq_true rfl⟩ (Nat.le_of_ble_eq_true rfl) rfl rfl (fun r4 h4 _ => ?_)
    refine j_icmp_le (tgt := 43) dX6_crosses_23 (by decide) ?_ ?_
    · refine j_aload_n 0 dX6_crosses_26 rfl ?_
      refine j_iload_n 1 dX6_crosses_27 rfl ?_
      refine j_cV (stk := []) [vi p1] th dX6_crosses_28 mv_mo_position lm_X6_54 (sub_k hs 0 rfl rfl) zc_6 (ct_mo_position hs h4) rfl rfl ⟨⟨Nat.le_of_ble_eq_true rfl, Nat.le_of_ble_eq_true rfl⟩, Nat.le_of_ble_eq_true rfl, Nat.le_of_ble_eq_true rfl⟩ (Nat.le_of_ble_eq_true rfl) rfl rfl (fun r5 h5 _ => ?_)
      refine j_aload_n 0 dX6_crosses_31 rfl ?_
      refine j_iload_n 2 dX6_crosses_32 rfl ?_
      refine j_cV (stk := [vi r5]) [vi p2] th dX6_crosses_33 mv_mo_to lm_X6_58 (sub_k hs 0 rfl rfl) zc_6 (ct_mo_to hs h5) rfl rfl ⟨⟨Nat.le_of_ble_eq_true rfl, Nat.le_of_ble_eq_true rfl⟩, Nat.le_of_ble_eq_true rfl, Nat.le_of_ble_eq_true rfl⟩ (Nat.le_of_ble_eq_true rfl) rfl rfl (fun r6 h6 _ => ?_)
      refine j_icmp_ge (tgt := 43) dX6_crosses_36 (by decide) ?_ ?_
      · refine j_iconst (x := 1) dX6_crosses_39 rfl (by decide) ?_
        refine j_goto (tgt := 44) dX6_crosses_40 (by decide) ?_
        refine j_sub [] rfl ?_
        exact jb_mo_crosses_44 hs _ _
      · refine j_sub [] rfl ?_
        exact jb_mo_crosses_43 hs _
    · refine j_sub [] rfl ?_
      exact jb_mo_crosses_43 hs _
  · refine j_sub [] rfl ?_
    exact jb_mo_crosses_43 hs _

set_option maxRecDepth 100000 in
set_option maxHeartbeats 4000000 in
theorem jb_mo_crossings_86 {lay : List LK} {th : Nat} {p1 : Int} {p2 : Int} {k19 : Int → Int → Int → Hp → O Int} (hs : sub lay th blkModel) (hk19 : ∀ (x3 x4 x5 : Int) (h : Hp), J mi_mo_crossings encI (Same lay) lay 0 0 19 [(0, vr th), (1, vi p1), (2, vi p2), (3, vi x3), (4, vi x4), (5, vi x5)] [] h (k19 x3 x4 x5 h)) (x4 x5 s0 s1 : Int) (h : Hp) : J mi_mo_crossings encI (Same lay) lay 0 0 86 [(0, vr th), (1, vi p1), (2, vi p2), (4, vi x4), (5, vi x5)] [vi s0, vi s1] h (mo_crossings_b86 th p1 p2 k19 x4 x5 s0 s1 h) := by
  unfold mo_crossings_b86
  refine j_iadd dX6_crossings_86 ?_
  refine j_istore_n (lv' := [(3, vi (s1 + s0)), (0, vr th), (1, vi p1), (2, vi p2), (4, vi x4), (5, vi x5)]) dX6_crossings_87 (by decide) rfl ?_
  refine j_iinc 5 (lv' := [(5, vi (x5 + 1)), (3, vi (s1 + s0)), (0, vr th), (1, vi p1), (2, vi p2), (4, vi x4)]) dX6_crossings_88 rfl (by decide) rfl ?_
  refine j_goto (tgt := 19) dX6_crossings_91 (by decide) ?_
  refine j_sub [2, 3, 4, 1, 5, 0] rfl ?_
  exact hk19 _ _ _ _

set_option maxRecDepth 100000 in
set_option maxHeartbeats 4000000 in
theorem jb_mo_crossings_85 {lay : List LK} {th : Nat} {p1 : Int} {p2 : Int} {k19 : Int → Int → Int → Hp → O Int} (hs : sub lay th blkModel) (hk19 : ∀ (x3 x4 x5 : Int) (h : Hp), J mi_mo_crossings encI (Same lay) lay 0 0 19 [(0, vr th), (1, vi p1), (2, vi p2), (3, vi x3), (4, vi x4), (5, vi x5)] [] h (k19 x3 x4 x5 h)) (x4 x5 s0 : Int) (h : Hp) : J mi_mo_crossings encI (Same lay) lay 0 0 85 [(0, vr th), (1, vi p1), (2, vi p2), (4, vi x4), (5, vi x5)] [vi s0] h (mo_crossings_b85 th p1 p2 k19 x4 x5 s0 h) := by
  unfold mo_crossings_b85
  refine j_iconst (x := 0) dX6_crossings_85 rfl (by decide) ?_
  exact jb_mo_crossings_86 hs hk19 _ _ _ _ _

set_option maxRecDepth 100000 in
set_option maxHeartbeats 4000000 in
theorem jb_mo_crossings_62 {lay : List LK} {th : Nat} {p1 : Int} {p2 : Int} {k19 : Int → Int → Int → Hp → O Int} (hs : sub lay th blkModel) (hk19 : ∀ (x3 x4 x5 : Int) (h : Hp), J mi_mo_crossings encI (Same lay) lay 0 0 19 [(0, vr th), (1, vi p1), (2, vi p2), (3, vi x3), (4, vi x4), (5, vi x5)] [] h (k19 x3 x4 x5 h)) (x3 x4 x5 s0 : Int) (h : Hp) : J mi_mo_crossings encI (Same lay) lay 0 0 62 [(0, vr th), (1, vi p1), (2, vi p2), (3, vi x3), (4, vi x4), (5, vi x5)] [vi s0] h (mo_crossings_b62 th p1 p2 k19 x3 x4 x5 s0 h) := by
  unfold mo_crossings_b62
  refine j_istore (lv' := [(6, vi s0), (0, vr th), (1, vi p1), (2, vi p2), (3, vi x3), (4, vi x4), (5, vi x5)]) dX6_crossings_62 (by decide) rfl ?_
  refine j_iload_n 4 dX6_crossings_64 rfl ?_
  refine j_iload 0 dX6_crossings_65 rfl ?_
  refine j_if_eq (tgt := 85) dX6_crossings_67 (by decide) ?_ ?_
  · refine j_sub [1, 2, 3, 5, 6] rfl ?_
    exact jb_mo_crossings_85 hs hk19 _ _ _ _
  · refine j_aload_n 1 dX6_crossings_70 rfl ?_
    refine j_iload 5 dX6_crossings_71 rfl ?_
    refine j_iload 6 dX6_crossings_73 rfl ?_
    refine j_cV (stk := [vi x3]) [vi x4, vi x5] th dX6_crossings_75 mv_mo_crosses lm_X6_190 (sub_k hs 0 rfl rfl) zc_6 (ct_mo_crosses hs h) rfl rfl ⟨⟨Nat.le_of_ble_eq_true rfl, Nat.le_of_ble_eq_true rfl⟩, Nat.le_of_ble_eq_true rfl, Nat.le_of_ble_eq_true rfl⟩ (Nat.le_of_ble_eq_true rfl) rfl rfl (fun r1 h1 _ => ?_)
    refine j_if_eq (tgt := 85) dX6_crossings_78 (by decide) ?_ ?_
    · refine j_sub [1, 2, 3, 5, 6] rfl ?_
      exact jb_mo_crossings_85 hs hk19 _ _ _ _
    · refine j_iconst (x := 1) dX6_crossings_81 rfl (by decide) ?_
      refine j_goto (tgt := 86) dX6_crossings_82 (by decide) ?_
      refine j_sub [1, 2, 3, 5, 6] rfl ?_
      exact jb_mo_crossings_86 hs hk19 _ _ _ _ _

set_option maxRecDepth 100000 in
set_option maxHeartbeats 4000000 in
theorem jb_mo_crossings_61 {lay : List LK} {th : Nat} {p1 : Int} {p2 : Int} {k19 : Int → Int → Int → Hp → O Int} (hs : sub lay th blkModel) (hk19 : ∀ (x3 x4 x5 : Int) (h : Hp), J mi_mo_crossings encI (Same lay) lay 0 0 19 [(0, vr th), (1, vi p1), (2, vi p2), (3, vi x3), (4, vi x4), (5, vi x5)] [] h (k19 x3 x4 x5 h)) (x3 x4 x5 : Int) (h : Hp) : J mi_mo_crossings encI (Same lay) lay 0 0 61 [(0, vr th), (1, vi p1), (2, vi p2), (3, vi x3), (4, vi x4), (5, vi x5)] [] h (mo_crossings_b61 th p1 p2 k19 x3 x4 x5 h) := by
  unfold mo_crossings_b61
  refine j_iconst (x := 0) dX6_crossings_61 rfl (by decide) ?_
  exact jb_mo_crossings_62 hs hk19 _ _ _ _ _

set_option maxRecDepth 100000 in
set_option maxHeartbeats 4000000 in
theorem jb_mo_crossings_57 {lay : List LK} {th : Nat} {p1 : Int} {p2 : Int} {k19 : Int → Int → Int → Hp → O Int} (hs : sub lay th blkModel) (hk19 : ∀ (x3 x4 x5 : Int) (h : Hp), J mi_mo_crossings encI (Same lay) lay 0 0 19 [(0, vr th), (1, vi p1), (2, vi p2), (3, vi x3), (4, vi x4), (5, vi x5)] [] h (k19 x3 x4 x5 h)) (x3 x4 x5 : Int) (h : Hp) : J mi_mo_crossings encI (Same lay) lay 0 0 57 [(0, vr th), (1, vi p1), (2, vi p2), (3, vi x3), (4, vi x4), (5, vi x5)] [] h (mo_crossings_b57 th p1 p2 k19 x3 x4 x5 h) := by
  unfold mo_crossings_b57
  refine j_iconst (x := 1) dX6_crossings_57 rfl (by decide) ?_
  refine j_goto (tgt := 62) dX6_crossings_58 (by decide) ?_
  exact jb_mo_crossings_62 hs hk19 _ _ _ _ _

set_option maxRecDepth 100000 in
set_option maxHeartbeats 4000000 in
theorem jb_mo_crossings_44 {lay : List LK} {th : Nat} {p1 : Int} {p2 : Int} {k19 : Int → Int → Int → Hp → O Int} (hs : sub lay th blkModel) (hk19 : ∀ (x3 x4 x5 : Int) (h : Hp), J mi_mo_crossings encI (Same lay) lay 0 0 19 [(0, vr th), (1, vi p1), (2, vi p2), (3, vi x3), (4, vi x4), (5, vi x5)] [] h (k19 x3 x4 x5 h)) (x3 x4 x5 : Int) (h : Hp) : J mi_mo_crossings encI (Same lay) lay 0 0 44 [(0, vr th), (1, vi p1), (2, vi p2), (3, vi x3), (4, vi x4), (5, vi x5)] [] h (mo_crossings_b44 th p1 p2 k19 x3 x4 x5 h) := by
  unfold mo_crossings_b44
  refine j_iload_n 2 dX6_crossings_44 rfl ?_
  refine j_sipush (x := (-999)) dX6_crossings_45 (by decide) (by decide) ?_
  refine j_icmp_eq (tgt := 57) dX6_crossings_48 (by decide) ?_ ?_
  · exact jb_mo_crossings_57 hs hk19 _ _ _ _
  · refine j_iload_n 2 dX6_crossings_51 rfl ?_
    refine j_iload 5 dX6_crossings_52 rfl ?_
    refine j_icmp_ne (tgt := 61) dX6_crossings_54 (by decide) ?_ ?_
    · exact jb_mo_crossings_57 hs hk19 _ _ _ _
    · exact jb_mo_crossings_61 hs hk19 _ _ _ _

set_option maxRecDepth 100000 in
set_option maxHeartbeats 4000000 in
theorem jl_mo_crossings_19 {lay : List LK} {th : Nat} {p1 : Int} {p2 : Int} {k5 : Int → Int → Hp → O Int} (hs : sub lay th blkModel) (hk5 : ∀ (x3 x4 : Int) (h : Hp), J mi_mo_crossings encI (Same lay) lay 0 0 5 [(0, vr th), (1, vi p1), (2, vi p2), (3, vi x3), (4, vi x4)] [] h (k5 x3 x4 h)) : ∀ (n : Nat) (x3 x4 x5 : Int) (h : Hp), J mi_mo_crossings encI (Same lay) lay 0 0 19 [(0, vr th), (1, vi p1), (2, vi p2), (3, vi x3), (4, vi x4), (5, vi x5)] [] h (iter3 (mo_crossings_f19 th p1 p2 k5) n x3 x4 x5 h) := by
  refine j_iter3 (lf := fun x3 x4 x5 => [(0, vr th), (1, vi p1), (2, vi p2), (3, vi x3), (4, vi x4), (5, vi x5)]) (fun k19 hk19 x3 x4 x5 h => ?_)
  unfold mo_crossings_f19
  refine j_iload 5 dX6_crossings_19 rfl ?_
  refine j_aload_n 0 dX6_crossings_21 rfl ?_
  refine j_getR 0 1 0 dX6_crossings_22 zc_6 rfl (sub_k hs 0 rfl rfl) (by decide) lk_X6_7 rfl (by decide) (rfl : th + 1 = (th + 1)) ?_
  refine j_bipush (x := 13) dX6_crossings_25 (by decide) (by decide) ?_
  refine j_iald dX6_crossings_27 (sub_k hs 1 rfl rfl) rfl ?_
  refine j_icmp_ge (tgt := 94) dX6_crossings_28 (by decide) ?_ ?_
  · refine j_iload_n 1 dX6_crossings_31 rfl ?_
    refine j_sipush (x := (-999)) dX6_crossings_32 (by decide) (by decide) ?_
    refine j_icmp_eq (tgt := 44) dX6_crossings_35 (by decide) ?_ ?_
    · exact jb_mo_crossings_44 hs hk19 _ _ _ _
    · refine j_iload_n 1 dX6_crossings_38 rfl ?_
      refine j_iload 4 dX6_crossings_39 rfl ?_
      refine j_icmp_ne (tgt := 61) dX6_crossings_41 (by decide) ?_ ?_
      · exact jb_mo_crossings_44 hs hk19 _ _ _ _
      · exact jb_mo_crossings_61 hs hk19 _ _ _ _
  · refine j_iinc 4 (lv' := [(4, vi (x4 + 1)), (0, vr th), (1, vi p1), (2, vi p2), (3, vi x3), (5, vi x5)]) dX6_crossings_94 rfl (by decide) rfl ?_
    refine j_goto (tgt := 5) dX6_crossings_97 (by decide) ?_
    refine j_sub [1, 2, 3, 4, 0] rfl ?_
    exact hk5 _ _ _

set_option maxRecDepth 100000 in
set_option maxHeartbeats 4000000 in
theorem jl_mo_crossings_5 {lay : List LK} {th : Nat} {p1 : Int} {p2 : Int}  (hs : sub lay th blkModel)  : ∀ (n : Nat) (x3 x4 : Int) (h : Hp), J mi_mo_crossings encI (Same lay) lay 0 0 5 [(0, vr th), (1, vi p1), (2, vi p2), (3, vi x3), (4, vi x4)] [] h (iter2 (mo_crossings_f5 th p1 p2) n x3 x4 h) := by
  refine j_iter2 (lf := fun x3 x4 => [(0, vr th), (1, vi p1), (2, vi p2), (3, vi x3), (4, vi x4)]) (fun k5 hk5 x3 x4 h => ?_)
  unfold mo_crossings_f5
  refine j_iload 4 dX6_crossings_5 rfl ?_
  refine j_aload_n 0 dX6_crossings_7 rfl ?_
  refine j_getR 0 1 0 dX6_crossings_8 zc_6 rfl (sub_k hs 0 rfl rfl) (by decide) lk_X6_7 rfl (by decide) (rfl : th + 1 = (th + 1)) ?_
  refine j_iconst (x := 0) dX6_crossings_11 rfl (by decide) ?_
  refine j_iald dX6_crossings_12 (sub_k hs 1 rfl rfl) rfl ?_
  refine j_icmp_ge (tgt := 100) dX6_crossings_13 (by decide) ?_ ?_
  · refine j_iconst (x := 0) dX6_crossings_16 rfl (by decide) ?_
    refine j_istore (lv' := [(5, vi 0), (0, vr th), (1, vi p1), (2, vi p2), (3, vi x3), (4, vi x4)]) dX6_crossings_17 (by decide) rfl ?_
    refine j_sub [1, 2, 3, 4, 5, 0] rfl ?_
    exact jl_mo_crossings_19 hs hk5 fuel _ _ _ _
  · refine j_iload_n 3 dX6_crossings_100 rfl ?_
    exact j_retI (h0 := h) (r := 0) rfl rfl rfl dX6_crossings_101 rfl ⟨Nat.le_refl _, Nat.le_refl _⟩ rfl

set_option maxRecDepth 100000 in
set_option maxHeartbeats 4000000 in
theorem ct_mo_crossings {lay : List LK} {th : Nat} {p1 : Int} {p2 : Int} (hs : sub lay th blkModel) (h : Hp) : CT mi_mo_crossings encI (Same lay) lay [vr th, vi p1, vi p2] h (mo_crossings th p1 p2 h) := by
  refine CT.of (by decide) rfl (Nat.le_of_ble_eq_true rfl) ?_
  show J mi_mo_crossings encI (Same lay) lay 0 0 0 [(0, vr th), (1, vi p1), (2, vi p2)] [] h _
  unfold mo_crossings
  refine j_iconst (x := 0) dX6_crossings_0 rfl (by decide) ?_
  refine j_istore_n (lv' := [(3, vi 0), (0, vr th), (1, vi p1), (2, vi p2)]) dX6_crossings_1 (by decide) rfl ?_
  refine j_iconst (x := 0) dX6_crossings_2 rfl (by decide) ?_
  refine j_istore (lv' := [(4, vi 0), (3, vi 0), (0, vr th), (1, vi p1), (2, vi p2)]) dX6_crossings_3 (by decide) rfl ?_
  refine j_sub [2, 3, 4, 1, 0] rfl ?_
  exact jl_mo_crossings_5 hs fuel _ _ _

set_option maxRecDepth 100000 in
set_option maxHeartbeats 4000000 in
theorem jb_mo_bounds_40 {lay : List LK} {th : Nat} {p1 : Int} {p2 : Int} {p3 : Int}  (hs : sub lay th blkModel)  (s0 s1 : Int) (h : Hp) : J mi_mo_bounds encV (Same lay) lay 0 0 40 [] [vi s0, vi s1, vr (th + 9)] h (mo_bounds_b40 th p1 p2 p3 s0 s1 h) := by
  unfold mo_bounds_b40
  refine j_iast dX6_bounds_40 (sub_k hs 9 rfl rfl) rfl (fun h1 _ => ?_)
  exact j_retV rfl rfl rfl dX6_bounds_41 rfl ⟨Nat.le_refl _, Nat.le_refl _⟩ rfl

set_option maxRecDepth 100000 in
set_option maxHeartbeats 4000000 in
theorem ct_mo_bounds {lay : List LK} {th : Nat} {p1 : Int} {p2 : Int} {p3 : Int} (hs : sub lay th blkModel) (h : Hp) : CT mi_mo_bounds encV (Same lay) lay [vr th, vi p1, vi p2, vi p3] h (mo_bounds th p1 p2 p3 h) := by
  refine CT.of (by decide) rfl (Nat.le_of_ble_eq_true rfl) ?_
  show J mi_mo_bounds encV (Same lay) lay 0 0 0 [(0, vr th), (1, vi p1), (2, vi p2), (3, vi p3)] [] h _
  unfold mo_bounds
  refine j_aload_n 0 dX6_bounds_0 rfl ?_
  refine j_getR 14 9 8 dX6_bounds_1 zc_6 rfl (sub_k hs 0 rfl rfl) (by decide) lk_X6_35 rfl (by decide) (rfl : th + 9 = (th + 9)) ?_
  refine j_bipush (x := 12) dX6_bounds_4 (by decide) (by decide) ?_
  refine j_iload_n 1 dX6_bounds_6 rfl ?_
  refine j_imul dX6_bounds_7 ?_
  refine j_iload_n 2 dX6_bounds_8 rfl ?_
  refine j_iadd dX6_bounds_9 ?_
  refine j_iload_n 3 dX6_bounds_10 rfl ?_
  refine j_aload_n 0 dX6_bounds_11 rfl ?_
  refine j_getR 14 9 8 dX6_bounds_12 zc_6 rfl (sub_k hs 0 rfl rfl) (by decide) lk_X6_35 rfl (by decide) (rfl : th + 9 = (th + 9)) ?_
  refine j_bipush (x := 12) dX6_bounds_15 (by decide) (by decide) ?_
  refine j_iload_n 1 dX6_bounds_17 rfl ?_
  refine j_imul dX6_bounds_18 ?_
  refine j_iload_n 2 dX6_bounds_19 rfl ?_
  refine j_iadd dX6_bounds_20 ?_
  refine j_iald dX6_bounds_21 (sub_k hs 9 rfl rfl) rfl ?_
  refine j_icmp_ge (tgt := 29) dX6_bounds_22 (by decide) ?_ ?_
  · refine j_iload_n 3 dX6_bounds_25 rfl ?_
    refine j_goto (tgt := 40) dX6_bounds_26 (by decide) ?_
    refine j_sub [] rfl ?_
    exact jb_mo_bounds_40 hs _ _ _
  · refine j_aload_n 0 dX6_bounds_29 rfl ?_
    refine j_getR 14 9 8 dX6_bounds_30 zc_6 rfl (sub_k hs 0 rfl rfl) (by decide) lk_X6_35 rfl (by decide) (rfl : th + 9 = (th + 9)) ?_
    refine j_bipush (x := 12) dX6_bounds_33 (by decide) (by decide) ?_
    refine j_iload_n 1 dX6_bounds_35 rfl ?_
    refine j_imul dX6_bounds_36 ?_
    refine j_iload_n 2 dX6_bounds_37 rfl ?_
    refine j_iadd dX6_bounds_38 ?_
    refine j_iald dX6_bounds_39 (sub_k hs 9 rfl rfl) rfl ?_
    refine j_sub [] rfl ?_
    exact jb_mo_bounds_40 hs _ _ _

set_option maxRecDepth 100000 in
set_option maxHeartbeats 4000000 in
theorem jb_mo_laysDistances_229 {lay : List LK} {th : Nat} {p1 : Int} {p2 : Int} {k154 : Int → Int → Hp → O Unit} (hs : sub lay th blkModel) (hk154 : ∀ (x3 x4 : Int) (h : Hp), J mi_mo_laysDistances encV (Same lay) lay 0 0 154 [(0, vr th), (3, vi x3), (4, vi x4)] [] h (k154 x3 x4 h)) (x3 x4 : Int) (h : Hp) : J mi_mo_laysDistances encV (Same lay) lay 0 0 229 [(0, vr th), (3, vi x3), (4, vi x4)] [] h (mo_laysDistances_b229 th p1 p2 k154 x3 x4 h) := by
  unfold mo_laysDistances_b229
  refine j_iinc 2 (lv' := [(4, vi (x4 + 1)), (0, vr th), (3, vi x3)]) dX6_laysDistances_229 rfl (by decide) rfl ?_
  refine j_goto (tgt := 154) dX6_laysDistances_232 (by decide) ?_
  refine j_sub [1, 2, 0] rfl ?_
  exact hk154 _ _ _

set_option maxRecDepth 100000 in
set_option maxHeartbeats 4000000 in
theorem jl_mo_laysDistances_154 {lay : List LK} {th : Nat} {p1 : Int} {p2 : Int} {k141 : Int → Hp → O Unit} (hs : sub lay th blkModel) (hk141 : ∀ (x3 : Int) (h : Hp), J mi_mo_laysDistances encV (Same lay) lay 0 0 141 [(0, vr th), (3, vi x3)] [] h (k141 x3 h)) : ∀ (n : Nat) (x3 x4 : Int) (h : Hp), J mi_mo_laysDistances encV (Same lay) lay 0 0 154 [(0, vr th), (3, vi x3), (4, vi x4)] [] h (iter2 (mo_laysDistances_f154 th p1 p2 k141) n x3 x4 h) := by
  refine j_iter2 (lf := fun x3 x4 => [(0, vr th), (3, vi x3), (4, vi x4)]) (fun k154 hk154 x3 x4 h => ?_)
  unfold mo_laysDistances_f154
  refine j_iload 2 dX6_laysDistances_154 rfl ?_
  refine j_sipush (x := 144) dX6_laysDistances_156 (by decide) (by decide) ?_
  refine j_icmp_ge (tgt := 235) dX6_laysDistances_159 (by decide) ?_ ?_
  · refine j_aload_n 0 dX6_laysDistances_162 rfl ?_
    refine j_getR 14 9 8 dX6_laysDistances_163 zc_6 rfl (sub_k hs 0 rfl rfl) (by decide) lk_X6_35 rfl (by decide) (rfl : th + 9 = (th + 9)) ?_
    refine j_iload 2 dX6_laysDistances_166 rfl ?_
    refine j_bipush (x := 12) dX6_laysDistances_168 (by decide) (by decide) ?_
    refine j_idiv dX6_laysDistances_170 ?_
    refine j_bipush (x := 12) dX6_laysDistances_171 (by decide) (by decide) ?_
    refine j_imul dX6_laysDistances_173 ?_
    refine j_iload_n 1 dX6_laysDistances_174 rfl ?_
    refine j_iadd dX6_laysDistances_175 ?_
    refine j_iald dX6_laysDistances_176 (sub_k hs 9 rfl rfl) rfl ?_
    refine j_istore (lv' := [(5, vi (h (th + 9) (((x4 / 12) * 12) + x3))), (0, vr th), (3, vi x3), (4, vi x4)]) dX6_laysDistances_177 (by decide) rfl ?_
    refine j_aload_n 1 dX6_laysDistances_179 rfl ?_
    refine j_getR 14 9 8 dX6_laysDistances_180 zc_6 rfl (sub_k hs 0 rfl rfl) (by decide) lk_X6_35 rfl (by decide) (rfl : th + 9 = (th + 9)) ?_
    refine j_bipush (x := 12) dX6_laysDistances_183 (by decide) (by decide) ?_
    refine j_iload_n 2 dX6_laysDistances_185 rfl ?_
    refine j_imul dX6_laysDistances_186 ?_
    refine j_iload 3 dX6_laysDistances_187 rfl ?_
    refine j_bipush (x := 12) dX6_laysDistances_189 (by decide) (by decide) ?_
    refine j_irem dX6_laysDistances_191 ?_
    refine j_iadd dX6_laysDistances_192 ?_
    refine j_iald dX6_laysDistances_193 (sub_k hs 9 rfl rfl) rfl ?_
    refine j_istore (lv' := [(6, vi (h (th + 9) ((12 * x3) + (x4 % 12)))), (5, vi (h (th + 9) (((x4 / 12) * 12) + x3))), (0, vr th), (3, vi x3), (4, vi x4)]) dX6_laysDistances_194 (by decide) rfl ?_
    refine j_iload 1 dX6_laysDistances_196 rfl ?_
    refine j_ldc (x := 1000000) dX6_laysDistances_198 kc_X6_193 (by decide) ?_
    refine j_icmp_eq (tgt := 229) dX6_laysDistances_200 (by decide) ?_ ?_
    · refine j_sub [2, 3, 4] rfl ?_
      exact jb_mo_laysDistances_229 hs hk154 _ _ _
    · refine j_iload 0 dX6_laysDistances_203 rfl ?_
      refine j_ldc (x := 1000000) dX6_laysDistances_205 kc_X6_193 (by decide) ?_
      refine j_icmp_eq (tgt := 229) dX6_laysDistances_207 (by decide) ?_ ?_
      · refine j_sub [2, 3, 4] rfl ?_
        exact jb_mo_laysDistances_229 hs hk154 _ _ _
      · refine j_aload_n 2 dX6_laysDistances_210 rfl ?_
        refine j_iload 4 dX6_laysDistances_211 rfl ?_
        refine j_bipush (x := 12) dX6_laysDistances_213 (by decide) (by decide) ?_
        refine j_idiv dX6_laysDistances_215 ?_
        refine j_iload 4 dX6_laysDistances_216 rfl ?_
        refine j_bipush (x := 12) dX6_laysDistances_218 (by decide) (by decide) ?_
        refine j_irem dX6_laysDistances_220 ?_
        refine j_iload 1 dX6_laysDistances_221 rfl ?_
        refine j_iload 0 dX6_laysDistances_223 rfl ?_
        refine j_iadd dX6_laysDistances_225 ?_
        refine j_cV (stk := []) [vi (x4 / 12), vi (x4 % 12), vi ((h (th + 9) (((x4 / 12) * 12) + x3)) + (h (th + 9) ((12 * x3) + (x4 % 12))))] th dX6_laysDistances_226 mv_mo_bounds lm_X6_194 (sub_k hs 0 rfl rfl) zc_6 (ct_mo_bounds hs h) rfl rfl ⟨⟨Nat.le_of_ble_eq_true rfl, Nat.le_of_ble_eq_true rfl⟩, Nat.le_of_ble_eq_true rfl, Nat.le_of_ble_eq_true rfl⟩ (Nat.le_of_ble_eq_true rfl) rfl rfl (fun _ h1 _ => ?_)
        refine j_sub [2, 3, 4] rfl ?_
        exact jb_mo_laysDistances_229 hs hk154 _ _ _
  · refine j_iinc 1 (lv' := [(3, vi (x3 + 1)), (0, vr th), (4, vi x4)]) dX6_laysDistances_235 rfl (by decide) rfl ?_
    refine j_goto (tgt := 141) dX6_laysDistances_238 (by decide) ?_
    refine j_sub [1, 0] rfl ?_
    exact hk141 _ _

set_option maxRecDepth 100000 in
set_option maxHeartbeats 4000000 in
theorem jl_mo_laysDistances_141 {lay : List LK} {th : Nat} {p1 : Int} {p2 : Int}  (hs : sub lay th blkModel)  : ∀ (n : Nat) (x3 : Int) (h : Hp), J mi_mo_laysDistances encV (Same lay) lay 0 0 141 [(0, vr th), (3, vi x3)] [] h (iter1 (mo_laysDistances_f141 th p1 p2) n x3 h) := by
  refine j_iter1 (lf := fun x3 => [(0, vr th), (3, vi x3)]) (fun k141 hk141 x3 h => ?_)
  unfold mo_laysDistances_f141
  refine j_iload_n 1 dX6_laysDistances_141 rfl ?_
  refine j_aload_n 0 dX6_laysDistances_142 rfl ?_
  refine j_getR 0 1 0 dX6_laysDistances_143 zc_6 rfl (sub_k hs 0 rfl rfl) (by decide) lk_X6_7 rfl (by decide) (rfl : th + 1 = (th + 1)) ?_
  refine j_iconst (x := 0) dX6_laysDistances_146 rfl (by decide) ?_
  refine j_iald dX6_laysDistances_147 (sub_k hs 1 rfl rfl) rfl ?_
  refine j_icmp_ge (tgt := 241) dX6_laysDistances_148 (by decide) ?_ ?_
  · refine j_iconst (x := 0) dX6_laysDistances_151 rfl (by decide) ?_
    refine j_istore (lv' := [(4, vi 0), (0, vr th), (3, vi x3)]) dX6_laysDistances_152 (by decide) rfl ?_
    refine j_sub [1, 2, 0] rfl ?_
    exact jl_mo_laysDistances_154 hs hk141 fuel _ _ _
  · exact j_retV rfl rfl rfl dX6_laysDistances_241 rfl ⟨Nat.le_refl _, Nat.le_refl _⟩ rfl

set_option maxRecDepth 100000 in
set_option maxHeartbeats 4000000 in
theorem jb_mo_laysDistances_133 {lay : List LK} {th : Nat} {p1 : Int} {p2 : Int} {k40 : Int → Hp → O Unit} (hs : sub lay th blkModel) (hk40 : ∀ (x3 : Int) (h : Hp), J mi_mo_laysDistances encV (Same lay) lay 0 0 40 [(0, vr th), (1, vi p1), (2, vi p2), (3, vi x3)] [] h (k40 x3 h)) (x3 : Int) (h : Hp) : J mi_mo_laysDistances encV (Same lay) lay 0 0 133 [(0, vr th), (1, vi p1), (2, vi p2), (3, vi x3)] [] h (mo_laysDistances_b133 th p1 p2 k40 x3 h) := by
  unfold mo_laysDistances_b133
  refine j_iinc 3 (lv' := [(3, vi (x3 + 1)), (0, vr th), (1, vi p1), (2, vi p2)]) dX6_laysDistances_133 rfl (by decide) rfl ?_
  refine j_goto (tgt := 40) dX6_laysDistances_136 (by decide) ?_
  refine j_sub [1, 2, 3, 0] rfl ?_
  exact hk40 _ _

set_option maxRecDepth 100000 in
set_option maxHeartbeats 4000000 in
theorem jb_mo_laysDistances_124 {lay : List LK} {th : Nat} {p1 : Int} {p2 : Int} {k40 : Int → Hp → O Unit} (hs : sub lay th blkModel) (hk40 : ∀ (x3 : Int) (h : Hp), J mi_mo_laysDistances encV (Same lay) lay 0 0 40 [(0, vr th), (1, vi p1), (2, vi p2), (3, vi x3)] [] h (k40 x3 h)) (x3 s0 s1 s2 : Int) (h : Hp) : J mi_mo_laysDistances encV (Same lay) lay 0 0 124 [(0, vr th), (1, vi p1), (2, vi p2), (3, vi x3)] [vi s0, vi s1, vi s2, vr th] h (mo_laysDistances_b124 th p1 p2 k40 x3 s0 s1 s2 h) := by
  unfold mo_laysDistances_b124
  refine j_aload_n 0 dX6_laysDistances_124 rfl ?_
  refine j_iload_n 3 dX6_laysDistances_125 rfl ?_
  refine j_cV (stk := [vi s0, vi s1, vi s2, vr th]) [vi x3] th dX6_laysDistances_126 mv_mo_value lm_X6_148 (sub_k hs 0 rfl rfl) zc_6 (ct_mo_value hs h) rfl rfl ⟨⟨Nat.le_of_ble_eq_true rfl, Nat.le_of_ble_eq_true rfl⟩, Nat.le_of_ble_eq_true rfl, Nat.le_of_ble_eq_true rfl⟩ (Nat.le_of_ble_eq_true rfl) rfl rfl (fun r1 h1 _ => ?_)
  refine j_isub dX6_laysDistances_129 ?_
  refine j_cV (stk := []) [vi s2, vi s1, vi (s0 - r1)] th dX6_laysDistances_130 mv_mo_bounds lm_X6_194 (sub_k hs 0 rfl rfl) zc_6 (ct_mo_bounds hs h1) rfl rfl ⟨⟨Nat.le_of_ble_eq_true rfl, Nat.le_of_ble_eq_true rfl⟩, Nat.le_of_ble_eq_true rfl, Nat.le_of_ble_eq_true rfl⟩ (Nat.le_of_ble_eq_true rfl) rfl rfl (fun _ h2 _ => ?_)
  exact jb_mo_laysDistances_133 hs hk40 _ _

set_option maxRecDepth 100000 in
set_option maxHeartbeats 4000000 in
theorem jb_mo_laysDistances_92 {lay : List LK} {th : Nat} {p1 : Int} {p2 : Int} {k40 : Int → Hp → O Unit} (hs : sub lay th blkModel) (hk40 : ∀ (x3 : Int) (h : Hp), J mi_mo_laysDistances encV (Same lay) lay 0 0 40 [(0, vr th), (1, vi p1), (2, vi p2), (3, vi x3)] [] h (k40 x3 h)) (x3 s0 s1 s2 s3 : Int) (h : Hp) : J mi_mo_laysDistances encV (Same lay) lay 0 0 92 [(0, vr th), (1, vi p1), (2, vi p2), (3, vi x3)] [vi s0, vi s1, vi s2, vi s3, vr th] h (mo_laysDistances_b92 th p1 p2 k40 x3 s0 s1 s2 s3 h) := by
  unfold mo_laysDistances_b92
  refine j_iadd dX6_laysDistances_92 ?_
  refine j_cV (stk := []) [vi s3, vi s2, vi (s1 + s0)] th dX6_laysDistances_93 mv_mo_bounds lm_X6_194 (sub_k hs 0 rfl rfl) zc_6 (ct_mo_bounds hs h) rfl rfl ⟨⟨Nat.le_of_ble_eq_true rfl, Nat.le_of_ble_eq_true rfl⟩, Nat.le_of_ble_eq_true rfl, Nat.le_of_ble_eq_true rfl⟩ (Nat.le_of_ble_eq_true rfl) rfl rfl (fun _ h1 _ => ?_)
  refine j_aload_n 0 dX6_laysDistances_96 rfl ?_
  refine j_aload_n 0 dX6_laysDistances_97 rfl ?_
  refine j_iload_n 3 dX6_laysDistances_98 rfl ?_
  refine j_iconst (x := 1) dX6_laysDistances_99 rfl (by decide) ?_
  refine j_cV (stk := [vr th]) [vi x3, vi 1] th dX6_laysDistances_100 mv_mo_of lm_X6_50 (sub_k hs 0 rfl rfl) zc_6 (ct_mo_of hs h1) rfl rfl ⟨⟨Nat.le_of_ble_eq_true rfl, Nat.le_of_ble_eq_true rfl⟩, Nat.le_of_ble_eq_true rfl, Nat.le_of_ble_eq_true rfl⟩ (Nat.le_of_ble_eq_true rfl) rfl rfl (fun r2 h2 _ => ?_)
  refine j_aload_n 0 dX6_laysDistances_103 rfl ?_
  refine j_iload_n 3 dX6_laysDistances_104 rfl ?_
  refine j_iconst (x := 0) dX6_laysDistances_105 rfl (by decide) ?_
  refine j_cV (stk := [vi r2, vr th]) [vi x3, vi 0] th dX6_laysDistances_106 mv_mo_of lm_X6_50 (sub_k hs 0 rfl rfl) zc_6 (ct_mo_of hs h2) rfl rfl ⟨⟨Nat.le_of_ble_eq_true rfl, Nat.le_of_ble_eq_true rfl⟩, Nat.le_of_ble_eq_true rfl, Nat.le_of_ble_eq_true rfl⟩ (Nat.le_of_ble_eq_true rfl) rfl rfl (fun r3 h3 _ => ?_)
  refine j_iload_n 3 dX6_laysDistances_109 rfl ?_
  refine j_iload_n 2 dX6_laysDistances_110 rfl ?_
  refine j_icmp_ne (tgt := 118) dX6_laysDistances_111 (by decide) ?_ ?_
  · refine j_iconst (x := 0) dX6_laysDistances_114 rfl (by decide) ?_
    refine j_goto (tgt := 124) dX6_laysDistances_115 (by decide) ?_
    exact jb_mo_laysDistances_124 hs hk40 _ _ _ _ _
  · refine j_aload_n 0 dX6_laysDistances_118 rfl ?_
    refine j_iload_n 3 dX6_laysDistances_119 rfl ?_
    refine j_iconst (x := 2) dX6_laysDistances_120 rfl (by decide) ?_
    refine j_cV (stk := [vi r3, vi r2, vr th]) [vi x3, vi 2] th dX6_laysDistances_121 mv_mo_of lm_X6_50 (sub_k hs 0 rfl rfl) zc_6 (ct_mo_of hs h3) rfl rfl ⟨⟨Nat.le_of_ble_eq_true rfl, Nat.le_of_ble_eq_true rfl⟩, Nat.le_of_ble_eq_true rfl, Nat.le_of_ble_eq_true rfl⟩ (Nat.le_of_ble_eq_true rfl) rfl rfl (fun r4 h4 _ => ?_)
    exact jb_mo_laysDistances_124 hs hk40 _ _ _ _ _

set_option maxRecDepth 100000 in
set_option maxHeartbeats 4000000 in
theorem jl_mo_laysDistances_40 {lay : List LK} {th : Nat} {p1 : Int} {p2 : Int}  (hs : sub lay th blkModel)  : ∀ (n : Nat) (x3 : Int) (h : Hp), J mi_mo_laysDistances encV (Same lay) lay 0 0 40 [(0, vr th), (1, vi p1), (2, vi p2), (3, vi x3)] [] h (iter1 (mo_laysDistances_f40 th p1 p2) n x3 h) := by
  refine j_iter1 (lf := fun x3 => [(0, vr th), (1, vi p1), (2, vi p2), (3, vi x3)]) (fun k40 hk40 x3 h => ?_)
  unfold mo_laysDistances_f40
  refine j_iload_n 3 dX6_laysDistances_40 rfl ?_
  refine j_aload_n 0 dX6_laysDistances_41 rfl ?_
  refine j_getR 0 1 0 dX6_laysDistances_42 zc_6 rfl (sub_k hs 0 rfl rfl) (by decide) lk_X6_7 rfl (by decide) (rfl : th + 1 = (th + 1)) ?_
  refine j_bipush (x := 13) dX6_laysDistances_45 (by decide) (by decide) ?_
  refine j_iald dX6_laysDistances_47 (sub_k hs 1 rfl rfl) rfl ?_
  refine j_icmp_ge (tgt := 139) dX6_laysDistances_48 (by decide) ?_ ?_
  · refine j_iload_n 1 dX6_laysDistances_51 rfl ?_
    refine j_iload_n 3 dX6_laysDistances_52 rfl ?_
    refine j_ishr dX6_laysDistances_53 ?_
    refine j_iconst (x := 1) dX6_laysDistances_54 rfl (by decide) ?_
    refine j_iand 1 2 dX6_laysDistances_55 (by decide) (by decide) rfl (by decide) ?_
    refine j_if_ne (tgt := 133) dX6_laysDistances_56 (by decide) ?_ ?_
    · refine j_aload_n 0 dX6_laysDistances_59 rfl ?_
      refine j_aload_n 0 dX6_laysDistances_60 rfl ?_
      refine j_iload_n 3 dX6_laysDistances_61 rfl ?_
      refine j_iconst (x := 0) dX6_laysDistances_62 rfl (by decide) ?_
      refine j_cV (stk := [vr th]) [vi x3, vi 0] th dX6_laysDistances_63 mv_mo_of lm_X6_50 (sub_k hs 0 rfl rfl) zc_6 (ct_mo_of hs h) rfl rfl ⟨⟨Nat.le_of_ble_eq_true rfl, Nat.le_of_ble_eq_true rfl⟩, Nat.le_of_ble_eq_true rfl, Nat.le_of_ble_eq_true rfl⟩ (Nat.le_of_ble_eq_true rfl) rfl rfl (fun r1 h1 _ => ?_)
      refine j_aload_n 0 dX6_laysDistances_66 rfl ?_
      refine j_iload_n 3 dX6_laysDistances_67 rfl ?_
      refine j_iconst (x := 1) dX6_laysDistances_68 rfl (by decide) ?_
      refine j_cV (stk := [vi r1, vr th]) [vi x3, vi 1] th dX6_laysDistances_69 mv_mo_of lm_X6_50 (sub_k hs 0 rfl rfl) zc_6 (ct_mo_of hs h1) rfl rfl ⟨⟨Nat.le_of_ble_eq_true rfl, Nat.le_of_ble_eq_true rfl⟩, Nat.le_of_ble_eq_true rfl, Nat.le_of_ble_eq_true rfl⟩ (Nat.le_of_ble_eq_true rfl) rfl rfl (fun r2 h2 _ => ?_)
      refine j_aload_n 0 dX6_laysDistances_72 rfl ?_
      refine j_iload_n 3 dX6_laysDistances_73 rfl ?_
      refine j_cV (stk := [vi r2, vi r1, vr th]) [vi x3] th dX6_laysDistances_74 mv_mo_value lm_X6_148 (sub_k hs 0 rfl rfl) zc_6 (ct_mo_value hs h2) rfl rfl ⟨⟨Nat.le_of_ble_eq_true rfl, Nat.le_of_ble_eq_true rfl⟩, Nat.le_of_ble_eq_true rfl, Nat.le_of_ble_eq_true rfl⟩ (Nat.le_of_ble_eq_true rfl) rfl rfl (fun r3 h3 _ => ?_)
      refine j_iload_n 3 dX6_laysDistances_77 rfl ?_
      refine j_iload_n 2 dX6_laysDistances_78 rfl ?_
      refine j_icmp_ne (tgt := 86) dX6_laysDistances_79 (by decide) ?_ ?_
      · refine j_iconst (x := 0) dX6_laysDistances_82 rfl (by decide) ?_
        refine j_goto (tgt := 92) dX6_laysDistances_83 (by decide) ?_
        exact jb_mo_laysDistances_92 hs hk40 _ _ _ _ _ _
      · refine j_aload_n 0 dX6_laysDistances_86 rfl ?_
        refine j_iload_n 3 dX6_laysDistances_87 rfl ?_
        refine j_iconst (x := 3) dX6_laysDistances_88 rfl (by decide) ?_
        refine j_cV (stk := [vi r3, vi r2, vi r1, vr th]) [vi x3, vi 3] th dX6_laysDistances_89 mv_mo_of lm_X6_50 (sub_k hs 0 rfl rfl) zc_6 (ct_mo_of hs h3) rfl rfl ⟨⟨Nat.le_of_ble_eq_true rfl, Nat.le_of_ble_eq_true rfl⟩, Nat.le_of_ble_eq_true rfl, Nat.le_of_ble_eq_true rfl⟩ (Nat.le_of_ble_eq_true rfl) rfl rfl (fun r4 h4 _ => ?_)
        exact jb_mo_laysDistances_92 hs hk40 _ _ _ _ _ _
    · exact jb_mo_laysDistances_133 hs hk40 _ _
  · refine j_iconst (x := 0) dX6_laysDistances_139 rfl (by decide) ?_
    refine j_istore_n (lv' := [(3, vi 0), (0, vr th), (1, vi p1), (2, vi p2)]) dX6_laysDistances_140 (by decide) rfl ?_
    refine j_sub [1, 0] rfl ?_
    exact jl_mo_laysDistances_141 hs fuel _ _

set_option maxRecDepth 100000 in
set_option maxHeartbeats 4000000 in
theorem jb_mo_laysDistances_31 {lay : List LK} {th : Nat} {p1 : Int} {p2 : Int} {k2 : Int → Hp → O Unit} (hs : sub lay th blkModel) (hk2 : ∀ (x3 : Int) (h : Hp), J mi_mo_laysDistances encV (Same lay) lay 0 0 2 [(0, vr th), (1, vi p1), (2, vi p2), (3, vi x3)] [] h (k2 x3 h)) (x3 s0 s1 : Int) (h : Hp) : J mi_mo_laysDistances encV (Same lay) lay 0 0 31 [(0, vr th), (1, vi p1), (2, vi p2), (3, vi x3)] [vi s0, vi s1, vr (th + 9)] h (mo_laysDistances_b31 th p1 p2 k2 x3 s0 s1 h) := by
  unfold mo_laysDistances_b31
  refine j_iast dX6_laysDistances_31 (sub_k hs 9 rfl rfl) rfl (fun h1 _ => ?_)
  refine j_iinc 3 (lv' := [(3, vi (x3 + 1)), (0, vr th), (1, vi p1), (2, vi p2)]) dX6_laysDistances_32 rfl (by decide) rfl ?_
  refine j_goto (tgt := 2) dX6_laysDistances_35 (by decide) ?_
  refine j_sub [1, 2, 3, 0] rfl ?_
  exact hk2 _ _

set_option maxRecDepth 100000 in
set_option maxHeartbeats 4000000 in
theorem jl_mo_laysDistances_2 {lay : List LK} {th : Nat} {p1 : Int} {p2 : Int}  (hs : sub lay th blkModel)  : ∀ (n : Nat) (x3 : Int) (h : Hp), J mi_mo_laysDistances encV (Same lay) lay 0 0 2 [(0, vr th), (1, vi p1), (2, vi p2), (3, vi x3)] [] h (iter1 (mo_laysDistances_f2 th p1 p2) n x3 h) := by
  refine j_iter1 (lf := fun x3 => [(0, vr th), (1, vi p1), (2, vi p2), (3, vi x3)]) (fun k2 hk2 x3 h => ?_)
  unfold mo_laysDistances_f2
  refine j_iload_n 3 dX6_laysDistances_2 rfl ?_
  refine j_sipush (x := 144) dX6_laysDistances_3 (by decide) (by decide) ?_
  refine j_icmp_ge (tgt := 38) dX6_laysDistances_6 (by decide) ?_ ?_
  · refine j_aload_n 0 dX6_laysDistances_9 rfl ?_
    refine j_getR 14 9 8 dX6_laysDistances_10 zc_6 rfl (sub_k hs 0 rfl rfl) (by decide) lk_X6_35 rfl (by decide) (rfl : th + 9 = (th + 9)) ?_
    refine j_iload_n 3 dX6_laysDistances_13 rfl ?_
    refine j_iload_n 3 dX6_laysDistances_14 rfl ?_
    refine j_bipush (x := 12) dX6_laysDistances_15 (by decide) (by decide) ?_
    refine j_idiv dX6_laysDistances_17 ?_
    refine j_iload_n 3 dX6_laysDistances_18 rfl ?_
    refine j_bipush (x := 12) dX6_laysDistances_19 (by decide) (by decide) ?_
    refine j_irem dX6_laysDistances_21 ?_
    refine j_icmp_ne (tgt := 29) dX6_laysDistances_22 (by decide) ?_ ?_
    · refine j_iconst (x := 0) dX6_laysDistances_25 rfl (by decide) ?_
      refine j_goto (tgt := 31) dX6_laysDistances_26 (by decide) ?_
      exact jb_mo_laysDistances_31 hs hk2 _ _ _ _
    · refine j_ldc (x := 1000000) dX6_laysDistances_29 kc_X6_193 (by decide) ?_
      exact jb_mo_laysDistances_31 hs hk2 _ _ _ _
  · refine j_iconst (x := 0) dX6_laysDistances_38 rfl (by decide) ?_
    refine j_istore_n (lv' := [(3, vi 0), (0, vr th), (1, vi p1), (2, vi p2)]) dX6_laysDistances_39 (by decide) rfl ?_
    refine j_sub [1, 2, 3, 0] rfl ?_
    exact jl_mo_laysDistances_40 hs fuel _ _

set_option maxRecDepth 100000 in
set_option maxHeartbeats 4000000 in
theorem ct_mo_laysDistances {lay : List LK} {th : Nat} {p1 : Int} {p2 : Int} (hs : sub lay th blkModel) (h : Hp) : CT mi_mo_laysDistances encV (Same lay) lay [vr th, vi p1, vi p2] h (mo_laysDistances th p1 p2 h) := by
  refine CT.of (by decide) rfl (Nat.le_of_ble_eq_true rfl) ?_
  show J mi_mo_laysDistances encV (Same lay) lay 0 0 0 [(0, vr th), (1, vi p1), (2, vi p2)] [] h _
  unfold mo_laysDistances
  refine j_iconst (x := 0) dX6_laysDistances_0 rfl (by decide) ?_
  refine j_istore_n (lv' := [(3, vi 0), (0, vr th), (1, vi p1), (2, vi p2)]) dX6_laysDistances_1 (by decide) rfl ?_
  refine j_sub [1, 2, 3, 0] rfl ?_
  exact jl_mo_laysDistances_2 hs fuel _ _

set_option maxRecDepth 100000 in
set_option maxHeartbeats 4000000 in
theorem jb_mo_areBound_21 {lay : List LK} {th : Nat} {p1 : Int} {p2 : Int}  (hs : sub lay th blkModel)  (s0 : Int) (h : Hp) : J mi_mo_areBound encI (Same lay) lay 0 0 21 [] [vi s0] h (mo_areBound_b21 th p1 p2 s0 h) := by
  unfold mo_areBound_b21
  exact j_retZ rfl rfl rfl dX6_areBound_21 rfl ⟨Nat.le_refl _, Nat.le_refl _⟩ rfl

set_option maxRecDepth 100000 in
set_option maxHeartbeats 4000000 in
theorem ct_mo_areBound {lay : List LK} {th : Nat} {p1 : Int} {p2 : Int} (hs : sub lay th blkModel) (h : Hp) : CT mi_mo_areBound encI (Same lay) lay [vr th, vi p1, vi p2] h (mo_areBound th p1 p2 h) := by
  refine CT.of (by decide) rfl (Nat.le_of_ble_eq_true rfl) ?_
  show J mi_mo_areBound encI (Same lay) lay 0 0 0 [(0, vr th), (1, vi p1), (2, vi p2)] [] h _
  unfold mo_areBound
  refine j_aload_n 0 dX6_areBound_0 rfl ?_
  refine j_getR 14 9 8 dX6_areBound_1 zc_6 rfl (sub_k hs 0 rfl rfl) (by decide) lk_X6_35 rfl (by decide) (rfl : th + 9 = (th + 9)) ?_
  refine j_bipush (x := 12) dX6_areBound_4 (by decide) (by decide) ?_
  refine j_iload_n 1 dX6_areBound_6 rfl ?_
  refine j_imul dX6_areBound_7 ?_
  refine j_iload_n 2 dX6_areBound_8 rfl ?_
  refine j_iadd dX6_areBound_9 ?_
  refine j_iald dX6_areBound_10 (sub_k hs 9 rfl rfl) rfl ?_
  refine j_ldc (x := 1000000) dX6_areBound_11 kc_X6_193 (by decide) ?_
  refine j_icmp_eq (tgt := 20) dX6_areBound_13 (by decide) ?_ ?_
  · refine j_iconst (x := 0) dX6_areBound_20 rfl (by decide) ?_
    refine j_sub [] rfl ?_
    exact jb_mo_areBound_21 hs _ _
  · refine j_iconst (x := 1) dX6_areBound_16 rfl (by decide) ?_
    refine j_goto (tgt := 21) dX6_areBound_17 (by decide) ?_
    refine j_sub [] rfl ?_
    exact jb_mo_areBound_21 hs _ _

set_option maxRecDepth 100000 in
set_option maxHeartbeats 4000000 in
theorem ct_mo_range {lay : List LK} {th : Nat} {p1 : Int} {p2 : Int} (hs : sub lay th blkModel) (h : Hp) : CT mi_mo_range encI (Same lay) lay [vr th, vi p1, vi p2] h (mo_range th p1 p2 h) := by
  refine CT.of (by decide) rfl (Nat.le_of_ble_eq_true rfl) ?_
  show J mi_mo_range encI (Same lay) lay 0 0 0 [(0, vr th), (1, vi p1), (2, vi p2)] [] h _
  unfold mo_range
  refine j_aload_n 0 dX6_range_0 rfl ?_
  refine j_getR 14 9 8 dX6_range_1 zc_6 rfl (sub_k hs 0 rfl rfl) (by decide) lk_X6_35 rfl (by decide) (rfl : th + 9 = (th + 9)) ?_
  refine j_bipush (x := 12) dX6_range_4 (by decide) (by decide) ?_
  refine j_iload_n 1 dX6_range_6 rfl ?_
  refine j_imul dX6_range_7 ?_
  refine j_iload_n 2 dX6_range_8 rfl ?_
  refine j_iadd dX6_range_9 ?_
  refine j_iald dX6_range_10 (sub_k hs 9 rfl rfl) rfl ?_
  refine j_aload_n 0 dX6_range_11 rfl ?_
  refine j_getR 14 9 8 dX6_range_12 zc_6 rfl (sub_k hs 0 rfl rfl) (by decide) lk_X6_35 rfl (by decide) (rfl : th + 9 = (th + 9)) ?_
  refine j_bipush (x := 12) dX6_range_15 (by decide) (by decide) ?_
  refine j_iload_n 2 dX6_range_17 rfl ?_
  refine j_imul dX6_range_18 ?_
  refine j_iload_n 1 dX6_range_19 rfl ?_
  refine j_iadd dX6_range_20 ?_
  refine j_iald dX6_range_21 (sub_k hs 9 rfl rfl) rfl ?_
  refine j_iadd dX6_range_22 ?_
  exact j_retI (h0 := h) (r := 0) rfl rfl rfl dX6_range_23 rfl ⟨Nat.le_refl _, Nat.le_refl _⟩ rfl

set_option maxRecDepth 100000 in
set_option maxHeartbeats 4000000 in
theorem jb_mo_isSuperfluous_97 {lay : List LK} {th : Nat} {p1 : Int} {p2 : Int}  (hs : sub lay th blkModel)  (s0 : Int) (h : Hp) : J mi_mo_isSuperfluous encI (Same lay) lay 0 0 97 [] [vi s0] h (mo_isSuperfluous_b97 th p1 p2 s0 h) := by
  unfold mo_isSuperfluous_b97
  exact j_retZ rfl rfl rfl dX6_isSuperfluous_97 rfl ⟨Nat.le_refl _, Nat.le_refl _⟩ rfl

set_option maxRecDepth 100000 in
set_option maxHeartbeats 4000000 in
theorem jb_mo_isSuperfluous_96 {lay : List LK} {th : Nat} {p1 : Int} {p2 : Int}  (hs : sub lay th blkModel)  (h : Hp) : J mi_mo_isSuperfluous encI (Same lay) lay 0 0 96 [] [] h (mo_isSuperfluous_b96 th p1 p2 h) := by
  unfold mo_isSuperfluous_b96
  refine j_iconst (x := 0) dX6_isSuperfluous_96 rfl (by decide) ?_
  exact jb_mo_isSuperfluous_97 hs _ _

set_option maxRecDepth 100000 in
set_option maxHeartbeats 4000000 in
theorem ct_mo_isSuperfluous {lay : List LK} {th : Nat} {p1 : Int} {p2 : Int} (hs : sub lay th blkModel) (h : Hp) : CT mi_mo_isSuperfluous encI (Same lay) lay [vr th, vi p1, vi p2] h (mo_isSuperfluous th p1 p2 h) := by
  refine CT.of (by decide) rfl (Nat.le_of_ble_eq_true rfl) ?_
  show J mi_mo_isSuperfluous encI (Same lay) lay 0 0 0 [(0, vr th), (1, vi p1), (2, vi p2)] [] h _
  unfold mo_isSuperfluous
  refine j_aload_n 0 dX6_isSuperfluous_0 rfl ?_
  refine j_iload_n 2 dX6_isSuperfluous_1 rfl ?_
  refine j_iconst (x := 1) dX6_isSuperfluous_2 rfl (by decide) ?_
  refine j_iload_n 1 dX6_isSuperfluous_3 rfl ?_
  refine j_ishl1 dX6_isSuperfluous_4 ?_
  refine j_ior dX6_isSuperfluous_5 ?_
  refine j_sipush (x := (-999)) dX6_isSuperfluous_6 (by decide) (by decide) ?_
  refine j_cV (stk := []) [vi (orI p2 (pw2 p1)), vi (-999)] th dX6_isSuperfluous_9 mv_mo_laysDistances lm_X6_197 (sub_k hs 0 rfl rfl) zc_6 (ct_mo_laysDistances hs h) rfl rfl ⟨⟨Nat.le_of_ble_eq_true rfl, Nat.le_of_ble_eq_true rfl⟩, Nat.le_of_ble_eq_true rfl, Nat.le_of_ble_eq_true rfl⟩ (Nat.le_of_ble_eq_true rfl) rfl rfl (fun _ h1 _ => ?_)
  refine j_aload_n 0 dX6_isSuperfluous_12 rfl ?_
  refine j_iload_n 1 dX6_isSuperfluous_13 rfl ?_
  refine j_iconst (x := 0) dX6_isSuperfluous_14 rfl (by decide) ?_
  refine j_cV (stk := []) [vi p1, vi 0] th dX6_isSuperfluous_15 mv_mo_of lm_X6_50 (sub_k hs 0 rfl rfl) zc_6 (ct_mo_of hs h1) rfl rfl ⟨⟨Nat.le_of_ble_eq_true rfl, Nat.le_of_ble_eq_true rfl⟩, Nat.le_of_ble_eq_true rfl, Nat.le_of_ble_eq_true rfl⟩ (Nat.le_of_ble_eq_true rfl) rfl rfl (fun r2 h2 _ => ?_)
  refine j_istore_n (lv' := [(3, vi r2), (0, vr th), (1, vi p1), (2, vi p2)]) dX6_isSuperfluous_18 (by decide) rfl ?_
  refine j_aload_n 1 dX6_isSuperfluous_19 rfl ?_
  refine j_iload_n 2 dX6_isSuperfluous_20 rfl ?_
  refine j_iconst (x := 1) dX6_isSuperfluous_21 rfl (by decide) ?_
  refine j_cV (stk := []) [vi p1, vi 1] th dX6_isSuperfluous_22 mv_mo_of lm_X6_50 (sub_k hs 0 rfl rfl) zc_6 (ct_mo_of hs h2) rfl rfl ⟨⟨Nat.le_of_ble_eq_true rfl, Nat.le_of_ble_eq_true rfl⟩, Nat.le_of_ble_eq_true rfl, Nat.le_of_ble_eq_true rfl⟩ (Nat.le_of_ble_eq_true rfl) rfl rfl (fun r3 h3 _ => ?_)
  refine j_istore (lv' := [(4, vi r3), (3, vi r2), (0, vr th), (1, vi p1), (2, vi p2)]) dX6_isSuperfluous_25 (by decide) rfl ?_
  refine j_aload_n 2 dX6_isSuperfluous_27 rfl ?_
  refine j_iload_n 1 dX6_isSuperfluous_28 rfl ?_
  refine j_iload 0 dX6_isSuperfluous_29 rfl ?_
  refine j_cV (stk := []) [vi r2, vi r3] th dX6_isSuperfluous_31 mv_mo_areBound lm_X6_200 (sub_k hs 0 rfl rfl) zc_6 (ct_mo_areBound hs h3) rfl rfl ⟨⟨Nat.le_of_ble_eq_true rfl, Nat.le_of_ble_eq_true rfl⟩, Nat.le_of_ble_eq_true rfl, Nat.le_of_ble_eq_true rfl⟩ (Nat.le_of_ble_eq_true rfl) rfl rfl (fun r4 h4 _ => ?_)
  refine j_if_eq (tgt := 96) dX6_isSuperfluous_34 (by decide) ?_ ?_
  · refine j_sub [] rfl ?_
    exact jb_mo_isSuperfluous_96 hs _
  · refine j_aload_n 2 dX6_isSuperfluous_37 rfl ?_
    refine j_getR 14 9 8 dX6_isSuperfluous_38 zc_6 rfl (sub_k hs 0 rfl rfl) (by decide) lk_X6_35 rfl (by decide) (rfl : th + 9 = (th + 9)) ?_
    refine j_bipush (x := 12) dX6_isSuperfluous_41 (by decide) (by decide) ?_
    refine j_iload_n 1 dX6_isSuperfluous_43 rfl ?_
    refine j_imul dX6_isSuperfluous_44 ?_
    refine j_iload 0 dX6_isSuperfluous_45 rfl ?_
    refine j_iadd dX6_isSuperfluous_47 ?_
    refine j_iald dX6_isSuperfluous_48 (sub_k hs 9 rfl rfl) rfl ?_
    refine j_aload_n 2 dX6_isSuperfluous_49 rfl ?_
    refine j_iload_n 3 dX6_isSuperfluous_50 rfl ?_
    refine j_cV (stk := [vi (h4 (th + 9) ((12 * r2) + r3))]) [vi p1] th dX6_isSuperfluous_51 mv_mo_value lm_X6_148 (sub_k hs 0 rfl rfl) zc_6 (ct_mo_value hs h4) rfl rfl ⟨⟨Nat.le_of_ble_eq_true rfl, Nat.le_of_ble_eq_true rfl⟩, Nat.le_of_ble_eq_true rfl, Nat.le_of_ble_eq_true rfl⟩ (Nat.le_of_ble_eq_true rfl) rfl rfl (fun r5 h5 _ => ?_)
    refine j_aload_n 2 dX6_isSuperfluous_54 rfl ?_
    refine j_iload_n 3 dX6_isSuperfluous_55 rfl ?_
    refine j_iconst (x := 3) dX6_isSuperfluous_56 rfl (by decide) ?_
    refine j_cV (stk := [vi r5, vi (h4 (th + 9) ((12 * r2) + r3))]) [vi p1, vi 3] th dX6_isSuperfluous_57 mv_mo_of lm_X6_50 (sub_k hs 0 rfl rfl) zc_6 (ct_mo_of hs h5) rfl rfl ⟨⟨Nat.le_of_ble_eq_true rfl, Nat.le_of_ble_eq_true rfl⟩, Nat.le_of_ble_eq_true rfl, Nat.le_of_ble_eq_true rfl⟩ (Nat.le_of_ble_eq_true rfl) rfl rfl (fun r6 h6 _ => ?_)
    refine j_iadd dX6_isSuperfluous_60 ?_
    refine j_icmp_gt (tgt := 96) dX6_isSuperfluous_61 (by decide) ?_ ?_
    · refine j_sub [] rfl ?_
      exact jb_mo_isSuperfluous_96 hs _
    · refine j_aload_n 2 dX6_isSuperfluous_64 rfl ?_
      refine j_getR 14 9 8 dX6_isSuperfluous_65 zc_6 rfl (sub_k hs 0 rfl rfl) (by decide) lk_X6_35 rfl (by decide) (rfl : th + 9 = (th + 9)) ?_
      refine j_bipush (x := 12) dX6_isSuperfluous_68 (by decide) (by decide) ?_
      refine j_iload 0 dX6_isSuperfluous_70 rfl ?_
      refine j_imul dX6_isSuperfluous_72 ?_
      refine j_iload_n 1 dX6_isSuperfluous_73 rfl ?_
      refine j_iadd dX6_isSuperfluous_74 ?_
      refine j_iald dX6_isSuperfluous_75 (sub_k hs 9 rfl rfl) rfl ?_
      refine j_ineg dX6_isSuperfluous_76 ?_
      refine j_aload_n 2 dX6_isSuperfluous_77 rfl ?_
      refine j_iload_n 3 dX6_isSuperfluous_78 rfl ?_
      refine j_cV (stk := [vi (-(h6 (th + 9) ((12 * r3) + r2)))]) [vi p1] th dX6_isSuperfluous_79 mv_mo_value lm_X6_148 (sub_k hs 0 rfl rfl) zc_6 (ct_mo_value hs h6) rfl rfl ⟨⟨Nat.le_of_ble_eq_true rfl, Nat.le_of_ble_eq_true rfl⟩, Nat.le_of_ble_eq_true rfl, Nat.le_of_ble_eq_true rfl⟩ (Nat.le_of_ble_eq_true rfl) rfl rfl (fun r7 h7 _ => ?_)
      refine j_aload_n 2 dX6_isSuperfluous_82 rfl ?_
      refine j_iload_n 3 dX6_isSuperfluous_83 rfl ?_
      refine j_iconst (x := 2) dX6_isSuperfluous_84 rfl (by decide) ?_
      refine j_cV (stk := [vi r7, vi (-(h6 (th + 9) ((12 * r3) + r2)))]) [vi p1, vi 2] th dX6_isSuperfluous_85 mv_mo_of lm_X6_50 (sub_k hs 0 rfl rfl) zc_6 (ct_mo_of hs h7) rfl rfl ⟨⟨Nat.le_of_ble_eq_true rfl, Nat.le_of_ble_eq_true rfl⟩, Nat.le_of_ble_eq_true rfl, Nat.le_of_ble_eq_true rfl⟩ (Nat.le_of_ble_eq_true rfl) rfl rfl (fun r8 h8 _ => ?_)
      refine j_isub dX6_isSuperfluous_88 ?_
      refine j_icmp_lt (tgt := 96) dX6_isSuperfluous_89 (by decide) ?_ ?_
      · refine j_sub [] rfl ?_
        exact jb_mo_isSuperfluous_96 hs _
      · refine j_iconst (x := 1) dX6_isSuperfluous_92 rfl (by decide) ?_
        refine j_goto (tgt := 97) dX6_isSuperfluous_93 (by decide) ?_
        refine j_sub [] rfl ?_
        exact jb_mo_isSuperfluous_97 hs _ _

set_option maxRecDepth 100000 in
set_option maxHeartbeats 4000000 in
theorem jb_mo_isFirst_27 {lay : List LK} {th : Nat} {p1 : Int} {k4 : Int → Int → Hp → O Int} (hs : sub lay th blkModel) (hk4 : ∀ (x2 x3 : Int) (h : Hp), J mi_mo_isFirst encI (Same lay) lay 0 0 4 [(0, vr th), (1, vi p1), (2, vi x2), (3, vi x3)] [] h (k4 x2 x3 h)) (x3 s0 : Int) (h : Hp) : J mi_mo_isFirst encI (Same lay) lay 0 0 27 [(0, vr th), (1, vi p1), (3, vi x3)] [vi s0] h (mo_isFirst_b27 th p1 k4 x3 s0 h) := by
  unfold mo_isFirst_b27
  refine j_istore_n (lv' := [(2, vi s0), (0, vr th), (1, vi p1), (3, vi x3)]) dX6_isFirst_27 (by decide) rfl ?_
  refine j_iinc 3 (lv' := [(3, vi (x3 + 1)), (2, vi s0), (0, vr th), (1, vi p1)]) dX6_isFirst_28 rfl (by decide) rfl ?_
  refine j_goto (tgt := 4) dX6_isFirst_31 (by decide) ?_
  refine j_sub [2, 3, 1, 0] rfl ?_
  exact hk4 _ _ _

set_option maxRecDepth 100000 in
set_option maxHeartbeats 4000000 in
theorem jb_mo_isFirst_26 {lay : List LK} {th : Nat} {p1 : Int} {k4 : Int → Int → Hp → O Int} (hs : sub lay th blkModel) (hk4 : ∀ (x2 x3 : Int) (h : Hp), J mi_mo_isFirst encI (Same lay) lay 0 0 4 [(0, vr th), (1, vi p1), (2, vi x2), (3, vi x3)] [] h (k4 x2 x3 h)) (x3 : Int) (h : Hp) : J mi_mo_isFirst encI (Same lay) lay 0 0 26 [(0, vr th), (1, vi p1), (3, vi x3)] [] h (mo_isFirst_b26 th p1 k4 x3 h) := by
  unfold mo_isFirst_b26
  refine j_iconst (x := 0) dX6_isFirst_26 rfl (by decide) ?_
  exact jb_mo_isFirst_27 hs hk4 _ _ _

set_option maxRecDepth 100000 in
set_option maxHeartbeats 4000000 in
theorem jl_mo_isFirst_4 {lay : List LK} {th : Nat} {p1 : Int}  (hs : sub lay th blkModel)  : ∀ (n : Nat) (x2 x3 : Int) (h : Hp), J mi_mo_isFirst encI (Same lay) lay 0 0 4 [(0, vr th), (1, vi p1), (2, vi x2), (3, vi x3)] [] h (iter2 (mo_isFirst_f4 th p1) n x2 x3 h) := by
  refine j_iter2 (lf := fun x2 x3 => [(0, vr th), (1, vi p1), (2, vi x2), (3, vi x3)]) (fun k4 hk4 x2 x3 h => ?_)
  unfold mo_isFirst_f4
  refine j_iload_n 3 dX6_isFirst_4 rfl ?_
  refine j_iload_n 1 dX6_isFirst_5 rfl ?_
  refine j_icmp_ge (tgt := 34) dX6_isFirst_6 (by decide) ?_ ?_
  · refine j_iload_n 2 dX6_isFirst_9 rfl ?_
    refine j_if_eq (tgt := 26) dX6_isFirst_10 (by decide) ?_ ?_
    · refine j_sub [0, 1, 3] rfl ?_
      exact jb_mo_isFirst_26 hs hk4 _ _
    · refine j_aload_n 0 dX6_isFirst_13 rfl ?_
      refine j_iload_n 3 dX6_isFirst_14 rfl ?_
      refine j_iload_n 1 dX6_isFirst_15 rfl ?_
      refine j_cV (stk := []) [vi x3, vi p1] th dX6_isFirst_16 mv_mo_areBound lm_X6_200 (sub_k hs 0 rfl rfl) zc_6 (ct_mo_areBound hs h) rfl rfl ⟨⟨Nat.le_of_ble_eq_true rfl, Nat.le_of_ble_eq_true rfl⟩, Nat.le_of_ble_eq_true rfl, Nat.le_of_ble_eq_true rfl⟩ (Nat.le_of_ble_eq_true rfl) rfl rfl (fun r1 h1 _ => ?_)
      refine j_if_ne (tgt := 26) dX6_isFirst_19 (by decide) ?_ ?_
      · refine j_iconst (x := 1) dX6_isFirst_22 rfl (by decide) ?_
        refine j_goto (tgt := 27) dX6_isFirst_23 (by decide) ?_
        refine j_sub [0, 1, 3] rfl ?_
        exact jb_mo_isFirst_27 hs hk4 _ _ _
      · refine j_sub [0, 1, 3] rfl ?_
        exact jb_mo_isFirst_26 hs hk4 _ _
  · refine j_iload_n 2 dX6_isFirst_34 rfl ?_
    exact j_retZ rfl rfl rfl dX6_isFirst_35 rfl ⟨Nat.le_refl _, Nat.le_refl _⟩ rfl

set_option maxRecDepth 100000 in
set_option maxHeartbeats 4000000 in
theorem ct_mo_isFirst {lay : List LK} {th : Nat} {p1 : Int} (hs : sub lay th blkModel) (h : Hp) : CT mi_mo_isFirst encI (Same lay) lay [vr th, vi p1] h (mo_isFirst th p1 h) := by
  refine CT.of (by decide) rfl (Nat.le_of_ble_eq_true rfl) ?_
  show J mi_mo_isFirst encI (Same lay) lay 0 0 0 [(0, vr th), (1, vi p1)] [] h _
  unfold mo_isFirst
  refine j_iconst (x := 1) dX6_isFirst_0 rfl (by decide) ?_
  refine j_istore_n (lv' := [(2, vi 1), (0, vr th), (1, vi p1)]) dX6_isFirst_1 (by decide) rfl ?_
  refine j_iconst (x := 0) dX6_isFirst_2 rfl (by decide) ?_
  refine j_istore_n (lv' := [(3, vi 0), (2, vi 1), (0, vr th), (1, vi p1)]) dX6_isFirst_3 (by decide) rfl ?_
  refine j_sub [2, 3, 1, 0] rfl ?_
  exact jl_mo_isFirst_4 hs fuel _ _ _

set_option maxRecDepth 100000 in
set_option maxHeartbeats 4000000 in
theorem jb_mo_groupOfFirst_23 {lay : List LK} {th : Nat} {p1 : Int} {k4 : Int → Int → Hp → O Int} (hs : sub lay th blkModel) (hk4 : ∀ (x2 x3 : Int) (h : Hp), J mi_mo_groupOfFirst encI (Same lay) lay 0 0 4 [(0, vr th), (1, vi p1), (2, vi x2), (3, vi x3)] [] h (k4 x2 x3 h)) (x3 s0 s1 : Int) (h : Hp) : J mi_mo_groupOfFirst encI (Same lay) lay 0 0 23 [(0, vr th), (1, vi p1), (3, vi x3)] [vi s0, vi s1] h (mo_groupOfFirst_b23 th p1 k4 x3 s0 s1 h) := by
  unfold mo_groupOfFirst_b23
  refine j_iadd dX6_groupOfFirst_23 ?_
  refine j_istore_n (lv' := [(2, vi (s1 + s0)), (0, vr th), (1, vi p1), (3, vi x3)]) dX6_groupOfFirst_24 (by decide) rfl ?_
  refine j_iinc 3 (lv' := [(3, vi (x3 + 1)), (2, vi (s1 + s0)), (0, vr th), (1, vi p1)]) dX6_groupOfFirst_25 rfl (by decide) rfl ?_
  refine j_goto (tgt := 4) dX6_groupOfFirst_28 (by decide) ?_
  refine j_sub [2, 3, 1, 0] rfl ?_
  exact hk4 _ _ _

set_option maxRecDepth 100000 in
set_option maxHeartbeats 4000000 in
theorem jl_mo_groupOfFirst_4 {lay : List LK} {th : Nat} {p1 : Int}  (hs : sub lay th blkModel)  : ∀ (n : Nat) (x2 x3 : Int) (h : Hp), J mi_mo_groupOfFirst encI (Same lay) lay 0 0 4 [(0, vr th), (1, vi p1), (2, vi x2), (3, vi x3)] [] h (iter2 (mo_groupOfFirst_f4 th p1) n x2 x3 h) := by
  refine j_iter2 (lf := fun x2 x3 => [(0, vr th), (1, vi p1), (2, vi x2), (3, vi x3)]) (fun k4 hk4 x2 x3 h => ?_)
  unfold mo_groupOfFirst_f4
  refine j_iload_n 3 dX6_groupOfFirst_4 rfl ?_
  refine j_iload_n 1 dX6_groupOfFirst_5 rfl ?_
  refine j_icmp_ge (tgt := 31) dX6_groupOfFirst_6 (by decide) ?_ ?_
  · refine j_iload_n 2 dX6_groupOfFirst_9 rfl ?_
    refine j_aload_n 0 dX6_groupOfFirst_10 rfl ?_
    refine j_iload_n 3 dX6_groupOfFirst_11 rfl ?_
    refine j_cV (stk := [vi x2]) [vi x3] th dX6_groupOfFirst_12 mv_mo_isFirst lm_X6_206 (sub_k hs 0 rfl rfl) zc_6 (ct_mo_isFirst hs h) rfl rfl ⟨⟨Nat.le_of_ble_eq_true rfl, Nat.le_of_ble_eq_true rfl⟩, Nat.le_of_ble_eq_true rfl, Nat.le_of_ble_eq_true rfl⟩ (Nat.le_of_ble_eq_true rfl) rfl rfl (fun r1 h1 _ => ?_)
    refine j_if_eq (tgt := 22) dX6_groupOfFirst_15 (by decide) ?_ ?_
    · refine j_iconst (x := 0) dX6_groupOfFirst_22 rfl (by decide) ?_
      refine j_sub [0, 1, 3] rfl ?_
      exact jb_mo_groupOfFirst_23 hs hk4 _ _ _ _
    · refine j_iconst (x := 1) dX6_groupOfFirst_18 rfl (by decide) ?_
      refine j_goto (tgt := 23) dX6_groupOfFirst_19 (by decide) ?_
      refine j_sub [0, 1, 3] rfl ?_
      exact jb_mo_groupOfFirst_23 hs hk4 _ _ _ _
  · refine j_iload_n 2 dX6_groupOfFirst_31 rfl ?_
    exact j_retI (h0 := h) (r := 0) rfl rfl rfl dX6_groupOfFirst_32 rfl ⟨Nat.le_refl _, Nat.le_refl _⟩ rfl

set_option maxRecDepth 100000 in
set_option maxHeartbeats 4000000 in
theorem ct_mo_groupOfFirst {lay : List LK} {th : Nat} {p1 : Int} (hs : sub lay th blkModel) (h : Hp) : CT mi_mo_groupOfFirst encI (Same lay) lay [vr th, vi p1] h (mo_groupOfFirst th p1 h) := by
  refine CT.of (by decide) rfl (Nat.le_of_ble_eq_true rfl) ?_
  show J mi_mo_groupOfFirst encI (Same lay) lay 0 0 0 [(0, vr th), (1, vi p1)] [] h _
  unfold mo_groupOfFirst
  refine j_iconst (x := 0) dX6_groupOfFirst_0 rfl (by decide) ?_
  refine j_istore_n (lv' := [(2, vi 0), (0, vr th), (1, vi p1)]) dX6_groupOfFirst_1 (by decide) rfl ?_
  refine j_iconst (x := 0) dX6_groupOfFirst_2 rfl (by decide) ?_
  refine j_istore_n (lv' := [(3, vi 0), (2, vi 0), (0, vr th), (1, vi p1)]) dX6_groupOfFirst_3 (by decide) rfl ?_
  refine j_sub [2, 3, 1, 0] rfl ?_
  exact jl_mo_groupOfFirst_4 hs fuel _ _ _

set_option maxRecDepth 100000 in
set_option maxHeartbeats 4000000 in
theorem jb_mo_group_51 {lay : List LK} {th : Nat} {p1 : Int} {k32 : Int → Int → Hp → O Int} (hs : sub lay th blkModel) (hk32 : ∀ (x2 x3 : Int) (h : Hp), J mi_mo_group encI (Same lay) lay 0 0 32 [(0, vr th), (1, vi p1), (2, vi x2), (3, vi x3)] [] h (k32 x2 x3 h)) (x3 s0 s1 : Int) (h : Hp) : J mi_mo_group encI (Same lay) lay 0 0 51 [(0, vr th), (1, vi p1), (3, vi x3)] [vi s0, vi s1] h (mo_group_b51 th p1 k32 x3 s0 s1 h) := by
  unfold mo_group_b51
  refine j_iadd dX6_group_51 ?_
  refine j_istore_n (lv' := [(2, vi (s1 + s0)), (0, vr th), (1, vi p1), (3, vi x3)]) dX6_group_52 (by decide) rfl ?_
  refine j_iinc 3 (lv' := [(3, vi (x3 + 1)), (2, vi (s1 + s0)), (0, vr th), (1, vi p1)]) dX6_group_53 rfl (by decide) rfl ?_
  refine j_goto (tgt := 32) dX6_group_56 (by decide) ?_
  refine j_sub [2, 3, 1, 0] rfl ?_
  exact hk32 _ _ _

set_option maxRecDepth 100000 in
set_option maxHeartbeats 4000000 in
theorem jl_mo_group_32 {lay : List LK} {th : Nat} {p1 : Int}  (hs : sub lay th blkModel)  : ∀ (n : Nat) (x2 x3 : Int) (h : Hp), J mi_mo_group encI (Same lay) lay 0 0 32 [(0, vr th), (1, vi p1), (2, vi x2), (3, vi x3)] [] h (iter2 (mo_group_f32 th p1) n x2 x3 h) := by
  refine j_iter2 (lf := fun x2 x3 => [(0, vr th), (1, vi p1), (2, vi x2), (3, vi x3)]) (fun k32 hk32 x2 x3 h => ?_)
  unfold mo_group_f32
  refine j_iload_n 3 dX6_group_32 rfl ?_
  refine j_iload_n 1 dX6_group_33 rfl ?_
  refine j_icmp_ge (tgt := 59) dX6_group_34 (by decide) ?_ ?_
  · refine j_iload_n 2 dX6_group_37 rfl ?_
    refine j_aload_n 0 dX6_group_38 rfl ?_
    refine j_iload_n 3 dX6_group_39 rfl ?_
    refine j_cV (stk := [vi x2]) [vi x3] th dX6_group_40 mv_mo_isFirst lm_X6_206 (sub_k hs 0 rfl rfl) zc_6 (ct_mo_isFirst hs h) rfl rfl ⟨⟨Nat.le_of_ble_eq_true rfl, Nat.le_of_ble_eq_true rfl⟩, Nat.le_of_ble_eq_true rfl, Nat.le_of_ble_eq_true rfl⟩ (Nat.le_of_ble_eq_true rfl) rfl rfl (fun r1 h1 _ => ?_)
    refine j_if_eq (tgt := 50) dX6_group_43 (by decide) ?_ ?_
    · refine j_iconst (x := 0) dX6_group_50 rfl (by decide) ?_
      refine j_sub [0, 1, 3] rfl ?_
      exact jb_mo_group_51 hs hk32 _ _ _ _
    · refine j_iconst (x := 1) dX6_group_46 rfl (by decide) ?_
      refine j_goto (tgt := 51) dX6_group_47 (by decide) ?_
      refine j_sub [0, 1, 3] rfl ?_
      exact jb_mo_group_51 hs hk32 _ _ _ _
  · refine j_iload_n 2 dX6_group_59 rfl ?_
    exact j_retI (h0 := h) (r := 0) rfl rfl rfl dX6_group_60 rfl ⟨Nat.le_refl _, Nat.le_refl _⟩ rfl

set_option maxRecDepth 100000 in
set_option maxHeartbeats 4000000 in
theorem jl_mo_group_4 {lay : List LK} {th : Nat} {p1 : Int}  (hs : sub lay th blkModel)  : ∀ (n : Nat) (x2 x3 : Int) (h : Hp), J mi_mo_group encI (Same lay) lay 0 0 4 [(0, vr th), (1, vi p1), (2, vi x2), (3, vi x3)] [] h (iter2 (mo_group_f4 th p1) n x2 x3 h) := by
  refine j_iter2 (lf := fun x2 x3 => [(0, vr th), (1, vi p1), (2, vi x2), (3, vi x3)]) (fun k4 hk4 x2 x3 h => ?_)
  unfold mo_group_f4
  refine j_iload_n 3 dX6_group_4 rfl ?_
  refine j_iload_n 1 dX6_group_5 rfl ?_
  refine j_icmp_ge (tgt := 30) dX6_group_6 (by decide) ?_ ?_
  · refine j_aload_n 0 dX6_group_9 rfl ?_
    refine j_iload_n 3 dX6_group_10 rfl ?_
    refine j_iload_n 1 dX6_group_11 rfl ?_
    refine j_cV (stk := []) [vi x3, vi p1] th dX6_group_12 mv_mo_areBound lm_X6_200 (sub_k hs 0 rfl rfl) zc_6 (ct_mo_areBound hs h) rfl rfl ⟨⟨Nat.le_of_ble_eq_true rfl, Nat.le_of_ble_eq_true rfl⟩, Nat.le_of_ble_eq_true rfl, Nat.le_of_ble_eq_true rfl⟩ (Nat.le_of_ble_eq_true rfl) rfl rfl (fun r1 h1 _ => ?_)
    refine j_if_eq (tgt := 24) dX6_group_15 (by decide) ?_ ?_
    · refine j_iinc 3 (lv' := [(3, vi (x3 + 1)), (0, vr th), (1, vi p1), (2, vi x2)]) dX6_group_24 rfl (by decide) rfl ?_
      refine j_goto (tgt := 4) dX6_group_27 (by decide) ?_
      refine j_sub [1, 2, 3, 0] rfl ?_
      exact hk4 _ _ _
    · refine j_aload_n 0 dX6_group_18 rfl ?_
      refine j_iload_n 3 dX6_group_19 rfl ?_
      refine j_cV (stk := []) [vi x3] th dX6_group_20 mv_mo_groupOfFirst lm_X6_203 (sub_k hs 0 rfl rfl) zc_6 (ct_mo_groupOfFirst hs h1) rfl rfl ⟨⟨Nat.le_of_ble_eq_true rfl, Nat.le_of_ble_eq_true rfl⟩, Nat.le_of_ble_eq_true rfl, Nat.le_of_ble_eq_true rfl⟩ (Nat.le_of_ble_eq_true rfl) rfl rfl (fun r2 h2 _ => ?_)
      exact j_retI (h0 := h2) (r := 0) rfl rfl rfl dX6_group_23 rfl ⟨Nat.le_refl _, Nat.le_refl _⟩ rfl
  · refine j_iconst (x := 0) dX6_group_30 rfl (by decide) ?_
    refine j_istore_n (lv' := [(3, vi 0), (0, vr th), (1, vi p1), (2, vi x2)]) dX6_group_31 (by decide) rfl ?_
    refine j_sub [1, 2, 3, 0] rfl ?_
    exact jl_mo_group_32 hs fuel _ _ _

set_option maxRecDepth 100000 in
set_option maxHeartbeats 4000000 in
theorem ct_mo_group {lay : List LK} {th : Nat} {p1 : Int} (hs : sub lay th blkModel) (h : Hp) : CT mi_mo_group encI (Same lay) lay [vr th, vi p1] h (mo_group th p1 h) := by
  refine CT.of (by decide) rfl (Nat.le_of_ble_eq_true rfl) ?_
  show J mi_mo_group encI (Same lay) lay 0 0 0 [(0, vr th), (1, vi p1)] [] h _
  unfold mo_group
  refine j_iconst (x := 0) dX6_group_0 rfl (by decide) ?_
  refine j_istore_n (lv' := [(2, vi 0), (0, vr th), (1, vi p1)]) dX6_group_1 (by decide) rfl ?_
  refine j_iconst (x := 0) dX6_group_2 rfl (by decide) ?_
  refine j_istore_n (lv' := [(3, vi 0), (2, vi 0), (0, vr th), (1, vi p1)]) dX6_group_3 (by decide) rfl ?_
  refine j_sub [2, 3, 1, 0] rfl ?_
  exact jl_mo_group_4 hs fuel _ _ _

set_option maxRecDepth 100000 in
set_option maxHeartbeats 4000000 in
theorem jb_mo_point_86 {lay : List LK} {th : Nat} {p1 : Int} {p2 : Int}  (hs : sub lay th blkModel)  (s0 : Int) (h : Hp) : J mi_mo_point encI (Same lay) lay 0 0 86 [] [vi s0] h (mo_point_b86 th p1 p2 s0 h) := by
  unfold mo_point_b86
  exact j_retI (h0 := h) (r := 0) rfl rfl rfl dX6_point_86 rfl ⟨Nat.le_refl _, Nat.le_refl _⟩ rfl

set_option maxRecDepth 100000 in
set_option maxHeartbeats 4000000 in
theorem jb_mo_point_41 {lay : List LK} {th : Nat} {p1 : Int} {p2 : Int}  (hs : sub lay th blkModel)  (s0 : Int) (h : Hp) : J mi_mo_point encI (Same lay) lay 0 0 41 [] [vi s0] h (mo_point_b41 th p1 p2 s0 h) := by
  unfold mo_point_b41
  exact j_retI (h0 := h) (r := 0) rfl rfl rfl dX6_point_41 rfl ⟨Nat.le_refl _, Nat.le_refl _⟩ rfl

set_option maxRecDepth 100000 in
set_option maxHeartbeats 4000000 in
theorem jb_mo_point_17 {lay : List LK} {th : Nat} {p1 : Int} {p2 : Int}  (hs : sub lay th blkModel)  (h : Hp) : J mi_mo_point encI (Same lay) lay 0 0 17 [] [] h (mo_point_b17 th p1 p2 h) := by
  unfold mo_point_b17
  refine j_iconst (x := (-1)) dX6_point_17 rfl (by decide) ?_
  exact j_retI (h0 := h) (r := 0) rfl rfl rfl dX6_point_18 rfl ⟨Nat.le_refl _, Nat.le_refl _⟩ rfl

set_option maxRecDepth 100000 in
set_option maxHeartbeats 4000000 in
theorem ct_mo_point {lay : List LK} {th : Nat} {p1 : Int} {p2 : Int} (hs : sub lay th blkModel) (h : Hp) : CT mi_mo_point encI (Same lay) lay [vr th, vi p1, vi p2] h (mo_point th p1 p2 h) := by
  refine CT.of (by decide) rfl (Nat.le_of_ble_eq_true rfl) ?_
  show J mi_mo_point encI (Same lay) lay 0 0 0 [(0, vr th), (1, vi p1), (2, vi p2)] [] h _
  unfold mo_point
  refine j_aload_n 0 dX6_point_0 rfl ?_
  refine j_iload_n 1 dX6_point_1 rfl ?_
  refine j_cV (stk := []) [vi p1] th dX6_point_2 mv_mo_isPoint lm_X6_77 (sub_k hs 0 rfl rfl) zc_6 (ct_mo_isPoint hs h) rfl rfl ⟨⟨Nat.le_of_ble_eq_true rfl, Nat.le_of_ble_eq_true rfl⟩, Nat.le_of_ble_eq_true rfl, Nat.le_of_ble_eq_true rfl⟩ (Nat.le_of_ble_eq_true rfl) rfl rfl (fun r1 h1 _ => ?_)
  refine j_if_eq (tgt := 17) dX6_point_5 (by decide) ?_ ?_
  · refine j_sub [] rfl ?_
    exact jb_mo_point_17 hs _
  · refine j_iload_n 2 dX6_point_8 rfl ?_
    refine j_iconst (x := 0) dX6_point_9 rfl (by decide) ?_
    refine j_iconst (x := 4) dX6_point_10 rfl (by decide) ?_
    refine j_cS (stk := []) [vi p2, vi 0, vi 4] dX6_point_11 mv_mo_in lm_X6_46 (ct_mo_in h1) rfl rfl ⟨⟨Nat.le_of_ble_eq_true rfl, Nat.le_of_ble_eq_true rfl⟩, Nat.le_of_ble_eq_true rfl, Nat.le_of_ble_eq_true rfl⟩ (Nat.le_of_ble_eq_true rfl) rfl rfl (fun r2 h2 _ => ?_)
    refine j_if_ne (tgt := 19) dX6_point_14 (by decide) ?_ ?_
    · refine j_sub [] rfl ?_
      exact jb_mo_point_17 hs _
    · refine j_iload_n 2 dX6_point_19 rfl ?_
      refine j_iconst (x := 2) dX6_point_20 rfl (by decide) ?_
      refine j_icmp_ge (tgt := 42) dX6_point_21 (by decide) ?_ ?_
      · refine j_iload_n 2 dX6_point_24 rfl ?_
        refine j_if_ne (tgt := 36) dX6_point_25 (by decide) ?_ ?_
        · refine j_aload_n 0 dX6_point_28 rfl ?_
          refine j_iload_n 1 dX6_point_29 rfl ?_
          refine j_cV (stk := []) [vi p1] th dX6_point_30 mv_mo_position lm_X6_54 (sub_k hs 0 rfl rfl) zc_6 (ct_mo_position hs h2) rfl rfl ⟨⟨Nat.le_of_ble_eq_true rfl, Nat.le_of_ble_eq_true rfl⟩, Nat.le_of_ble_eq_true rfl, Nat.le_of_ble_eq_true rfl⟩ (Nat.le_of_ble_eq_true rfl) rfl rfl (fun r3 h3 _ => ?_)
          refine j_goto (tgt := 41) dX6_point_33 (by decide) ?_
          refine j_sub [] rfl ?_
          exact jb_mo_point_41 hs _ _
        · refine j_aload_n 0 dX6_point_36 rfl ?_
          refine j_iload_n 1 dX6_point_37 rfl ?_
          refine j_cV (stk := []) [vi p1] th dX6_point_38 mv_mo_ends lm_X6_85 (sub_k hs 0 rfl rfl) zc_6 (ct_mo_ends hs h2) rfl rfl ⟨⟨Nat.le_of_ble_eq_true rfl, Nat.le_of_ble_eq_true rfl⟩, Nat.le_of_ble_eq_true rfl, Nat.le_of_ble_eq_true rfl⟩ (Nat.le_of_ble_eq_true rfl) rfl rfl (fun r4 h4 _ => ?_)
          refine j_sub [] rfl ?_
          exact jb_mo_point_41 hs _ _
      · refine j_iload_n 2 dX6_point_42 rfl ?_
        refine j_iconst (x := 4) dX6_point_43 rfl (by decide) ?_
        refine j_icmp_ne (tgt := 61) dX6_point_44 (by decide) ?_ ?_
        · refine j_aload_n 0 dX6_point_47 rfl ?_
          refine j_iconst (x := 0) dX6_point_48 rfl (by decide) ?_
          refine j_sipush (x := (-999)) dX6_point_49 (by decide) (by decide) ?_
          refine j_cV (stk := []) [vi 0, vi (-999)] th dX6_point_52 mv_mo_laysDistances lm_X6_197 (sub_k hs 0 rfl rfl) zc_6 (ct_mo_laysDistances hs h2) rfl rfl ⟨⟨Nat.le_of_ble_eq_true rfl, Nat.le_of_ble_eq_true rfl⟩, Nat.le_of_ble_eq_true rfl, Nat.le_of_ble_eq_true rfl⟩ (Nat.le_of_ble_eq_true rfl) rfl rfl (fun _ h5 _ => ?_)
          refine j_aload_n 0 dX6_point_55 rfl ?_
          refine j_iload_n 1 dX6_point_56 rfl ?_
          refine j_cV (stk := []) [vi p1] th dX6_point_57 mv_mo_group lm_X6_209 (sub_k hs 0 rfl rfl) zc_6 (ct_mo_group hs h5) rfl rfl ⟨⟨Nat.le_of_ble_eq_true rfl, Nat.le_of_ble_eq_true rfl⟩, Nat.le_of_ble_eq_true rfl, Nat.le_of_ble_eq_true rfl⟩ (Nat.le_of_ble_eq_true rfl) rfl rfl (fun r6 h6 _ => ?_)
          exact j_retI (h0 := h6) (r := 0) rfl rfl rfl dX6_point_60 rfl ⟨Nat.le_refl _, Nat.le_refl _⟩ rfl
        · refine j_aload_n 0 dX6_point_61 rfl ?_
          refine j_cV (stk := []) [] th dX6_point_62 mv_mo_laysLanes lm_X6_212 (sub_k hs 0 rfl rfl) zc_6 (ct_mo_laysLanes hs h2) rfl rfl ⟨⟨Nat.le_of_ble_eq_true rfl, Nat.le_of_ble_eq_true rfl⟩, Nat.le_of_ble_eq_true rfl, Nat.le_of_ble_eq_true rfl⟩ (Nat.le_of_ble_eq_true rfl) rfl rfl (fun _ h7 _ => ?_)
          refine j_iload_n 2 dX6_point_65 rfl ?_
          refine j_iconst (x := 2) dX6_point_66 rfl (by decide) ?_
          refine j_icmp_ne (tgt := 78) dX6_point_67 (by decide) ?_ ?_
          · refine j_aload_n 0 dX6_point_70 rfl ?_
            refine j_iload_n 1 dX6_point_71 rfl ?_
            refine j_cV (stk := []) [vi p1] th dX6_point_72 mv_mo_witness lm_X6_187 (sub_k hs 0 rfl rfl) zc_6 (ct_mo_witness hs h7) rfl rfl ⟨⟨Nat.le_of_ble_eq_true rfl, Nat.le_of_ble_eq_true rfl⟩, Nat.le_of_ble_eq_true rfl, Nat.le_of_ble_eq_true rfl⟩ (Nat.le_of_ble_eq_true rfl) rfl rfl (fun r8 h8 _ => ?_)
            refine j_goto (tgt := 86) dX6_point_75 (by decide) ?_
            refine j_sub [] rfl ?_
            exact jb_mo_point_86 hs _ _
          · refine j_aload_n 0 dX6_point_78 rfl ?_
            refine j_iload_n 1 dX6_point_79 rfl ?_
            refine j_sipush (x := (-999)) dX6_point_80 (by decide) (by decide) ?_
            refine j_cV (stk := []) [vi p1, vi (-999)] th dX6_point_83 mv_mo_crossings lm_X6_215 (sub_k hs 0 rfl rfl) zc_6 (ct_mo_crossings hs h7) rfl rfl ⟨⟨Nat.le_of_ble_eq_true rfl, Nat.le_of_ble_eq_true rfl⟩, Nat.le_of_ble_eq_true rfl, Nat.le_of_ble_eq_true rfl⟩ (Nat.le_of_ble_eq_true rfl) rfl rfl (fun r9 h9 _ => ?_)
            refine j_sub [] rfl ?_
            exact jb_mo_point_86 hs _ _

set_option maxRecDepth 100000 in
set_option maxHeartbeats 4000000 in
theorem ct_mo_placeOf {lay : List LK} {p0 : Int}  (h : Hp) : CT mi_mo_placeOf encI (Same lay) lay [vi p0] h (mo_placeOf p0 h) := by
  refine CT.of (by decide) rfl (Nat.le_of_ble_eq_true rfl) ?_
  show J mi_mo_placeOf encI (Same lay) lay 0 0 0 [(0, vi p0)] [] h _
  unfold mo_placeOf
  refine j_iload_n 0 dX6_placeOf_0 rfl ?_
  refine j_table [28, 30, 32] 34 dX6_placeOf_1 rfl (by decide) (by decide) ⟨?_, ?_, ?_, trivial⟩ ?_
  · refine j_iconst (x := 2) dX6_placeOf_28 rfl (by decide) ?_
    exact j_retI (h0 := h) (r := 0) rfl rfl rfl dX6_placeOf_29 rfl ⟨Nat.le_refl _, Nat.le_refl _⟩ rfl
  · refine j_iconst (x := 3) dX6_placeOf_30 rfl (by decide) ?_
    exact j_retI (h0 := h) (r := 0) rfl rfl rfl dX6_placeOf_31 rfl ⟨Nat.le_refl _, Nat.le_refl _⟩ rfl
  · refine j_iconst (x := 4) dX6_placeOf_32 rfl (by decide) ?_
    exact j_retI (h0 := h) (r := 0) rfl rfl rfl dX6_placeOf_33 rfl ⟨Nat.le_refl _, Nat.le_refl _⟩ rfl
  · refine j_iconst (x := 5) dX6_placeOf_34 rfl (by decide) ?_
    exact j_retI (h0 := h) (r := 0) rfl rfl rfl dX6_placeOf_35 rfl ⟨Nat.le_refl _, Nat.le_refl _⟩ rfl

set_option maxRecDepth 100000 in
set_option maxHeartbeats 4000000 in
theorem jb_mo_dimension_153 {lay : List LK} {th : Nat} {p1 : Int} {p2 : Int}  (hs : sub lay th blkModel)  (h : Hp) : J mi_mo_dimension encI (Same lay) lay 0 0 153 [(0, vr th), (1, vi p1), (2, vi p2)] [] h (mo_dimension_b153 th p1 p2 h) := by
  unfold mo_dimension_b153
  refine j_aload_n 0 dX6_dimension_153 rfl ?_
  refine j_iload_n 1 dX6_dimension_154 rfl ?_
  refine j_iload_n 2 dX6_dimension_155 rfl ?_
  refine j_cS (stk := [vi p1, vr th]) [vi p2] dX6_dimension_156 mv_mo_placeOf lm_X6_221 (ct_mo_placeOf h) rfl rfl ⟨⟨Nat.le_of_ble_eq_true rfl, Nat.le_of_ble_eq_true rfl⟩, Nat.le_of_ble_eq_true rfl, Nat.le_of_ble_eq_true rfl⟩ (Nat.le_of_ble_eq_true rfl) rfl rfl (fun r1 h1 _ => ?_)
  refine j_cV (stk := []) [vi p1, vi r1] th dX6_dimension_159 mv_mo_of lm_X6_50 (sub_k hs 0 rfl rfl) zc_6 (ct_mo_of hs h1) rfl rfl ⟨⟨Nat.le_of_ble_eq_true rfl, Nat.le_of_ble_eq_true rfl⟩, Nat.le_of_ble_eq_true rfl, Nat.le_of_ble_eq_true rfl⟩ (Nat.le_of_ble_eq_true rfl) rfl rfl (fun r2 h2 _ => ?_)
  exact j_retI (h0 := h2) (r := 0) rfl rfl rfl dX6_dimension_162 rfl ⟨Nat.le_refl _, Nat.le_refl _⟩ rfl

set_option maxRecDepth 100000 in
set_option maxHeartbeats 4000000 in
theorem jb_mo_dimension_143 {lay : List LK} {th : Nat} {p1 : Int} {p2 : Int}  (hs : sub lay th blkModel)  (s0 : Int) (h : Hp) : J mi_mo_dimension encI (Same lay) lay 0 0 143 [] [vi s0] h (mo_dimension_b143 th p1 p2 s0 h) := by
  unfold mo_dimension_b143
  exact j_retI (h0 := h) (r := 0) rfl rfl rfl dX6_dimension_143 rfl ⟨Nat.le_refl _, Nat.le_refl _⟩ rfl

set_option maxRecDepth 100000 in
set_option maxHeartbeats 4000000 in
theorem jb_mo_dimension_92 {lay : List LK} {th : Nat} {p1 : Int} {p2 : Int}  (hs : sub lay th blkModel)  (h : Hp) : J mi_mo_dimension encI (Same lay) lay 0 0 92 [(0, vr th), (1, vi p1), (2, vi p2)] [] h (mo_dimension_b92 th p1 p2 h) := by
  unfold mo_dimension_b92
  refine j_aload_n 0 dX6_dimension_92 rfl ?_
  refine j_iload_n 1 dX6_dimension_93 rfl ?_
  refine j_iload_n 2 dX6_dimension_94 rfl ?_
  refine j_cV (stk := []) [vi p1, vi p2] th dX6_dimension_95 mv_mo_of lm_X6_50 (sub_k hs 0 rfl rfl) zc_6 (ct_mo_of hs h) rfl rfl ⟨⟨Nat.le_of_ble_eq_true rfl, Nat.le_of_ble_eq_true rfl⟩, Nat.le_of_ble_eq_true rfl, Nat.le_of_ble_eq_true rfl⟩ (Nat.le_of_ble_eq_true rfl) rfl rfl (fun r1 h1 _ => ?_)
  exact j_retI (h0 := h1) (r := 0) rfl rfl rfl dX6_dimension_98 rfl ⟨Nat.le_refl _, Nat.le_refl _⟩ rfl

set_option maxRecDepth 100000 in
set_option maxHeartbeats 4000000 in
theorem jb_mo_dimension_18 {lay : List LK} {th : Nat} {p1 : Int} {p2 : Int}  (hs : sub lay th blkModel)  (h : Hp) : J mi_mo_dimension encI (Same lay) lay 0 0 18 [] [] h (mo_dimension_b18 th p1 p2 h) := by
  unfold mo_dimension_b18
  refine j_iconst (x := (-1)) dX6_dimension_18 rfl (by decide) ?_
  exact j_retI (h0 := h) (r := 0) rfl rfl rfl dX6_dimension_19 rfl ⟨Nat.le_refl _, Nat.le_refl _⟩ rfl

set_option maxRecDepth 100000 in
set_option maxHeartbeats 4000000 in
theorem ct_mo_dimension {lay : List LK} {th : Nat} {p1 : Int} {p2 : Int} (hs : sub lay th blkModel) (h : Hp) : CT mi_mo_dimension encI (Same lay) lay [vr th, vi p1, vi p2] h (mo_dimension th p1 p2 h) := by
  refine CT.of (by decide) rfl (Nat.le_of_ble_eq_true rfl) ?_
  show J mi_mo_dimension encI (Same lay) lay 0 0 0 [(0, vr th), (1, vi p1), (2, vi p2)] [] h _
  unfold mo_dimension
  refine j_aload_n 0 dX6_dimension_0 rfl ?_
  refine j_iload_n 1 dX6_dimension_1 rfl ?_
  refine j_cV (stk := []) [vi p1] th dX6_dimension_2 mv_mo_isDimension lm_X6_92 (sub_k hs 0 rfl rfl) zc_6 (ct_mo_isDimension hs h) rfl rfl ⟨⟨Nat.le_of_ble_eq_true rfl, Nat.le_of_ble_eq_true rfl⟩, Nat.le_of_ble_eq_true rfl, Nat.le_of_ble_eq_true rfl⟩ (Nat.le_of_ble_eq_true rfl) rfl rfl (fun r1 h1 _ => ?_)
  refine j_if_eq (tgt := 18) dX6_dimension_5 (by decide) ?_ ?_
  · refine j_sub [] rfl ?_
    exact jb_mo_dimension_18 hs _
  · refine j_iload_n 2 dX6_dimension_8 rfl ?_
    refine j_iconst (x := 0) dX6_dimension_9 rfl (by decide) ?_
    refine j_bipush (x := 12) dX6_dimension_10 (by decide) (by decide) ?_
    refine j_cS (stk := []) [vi p2, vi 0, vi 12] dX6_dimension_12 mv_mo_in lm_X6_46 (ct_mo_in h1) rfl rfl ⟨⟨Nat.le_of_ble_eq_true rfl, Nat.le_of_ble_eq_true rfl⟩, Nat.le_of_ble_eq_true rfl, Nat.le_of_ble_eq_true rfl⟩ (Nat.le_of_ble_eq_true rfl) rfl rfl (fun r2 h2 _ => ?_)
    refine j_if_ne (tgt := 20) dX6_dimension_15 (by decide) ?_ ?_
    · refine j_sub [] rfl ?_
      exact jb_mo_dimension_18 hs _
    · refine j_aload_n 0 dX6_dimension_20 rfl ?_
      refine j_cV (stk := []) [] th dX6_dimension_21 mv_mo_laysLanes lm_X6_212 (sub_k hs 0 rfl rfl) zc_6 (ct_mo_laysLanes hs h2) rfl rfl ⟨⟨Nat.le_of_ble_eq_true rfl, Nat.le_of_ble_eq_true rfl⟩, Nat.le_of_ble_eq_true rfl, Nat.le_of_ble_eq_true rfl⟩ (Nat.le_of_ble_eq_true rfl) rfl rfl (fun _ h3 _ => ?_)
      refine j_iload_n 2 dX6_dimension_24 rfl ?_
      refine j_table [92, 92, 99, 153, 153, 153, 153, 105, 111, 117, 123, 129, 144] 153 dX6_dimension_25 rfl (by decide) (by decide) ⟨?_, ?_, ?_, ?_, ?_, ?_, ?_, ?_, ?_, ?_, ?_, ?_, ?_, trivial⟩ ?_
      · exact jb_mo_dimension_92 hs _
      · exact jb_mo_dimension_92 hs _
      · refine j_aload_n 0 dX6_dimension_99 rfl ?_
        refine j_iload_n 1 dX6_dimension_100 rfl ?_
        refine j_cV (stk := []) [vi p1] th dX6_dimension_101 mv_mo_value lm_X6_148 (sub_k hs 0 rfl rfl) zc_6 (ct_mo_value hs h3) rfl rfl ⟨⟨Nat.le_of_ble_eq_true rfl, Nat.le_of_ble_eq_true rfl⟩, Nat.le_of_ble_eq_true rfl, Nat.le_of_ble_eq_true rfl⟩ (Nat.le_of_ble_eq_true rfl) rfl rfl (fun r4 h4 _ => ?_)
        exact j_retI (h0 := h4) (r := 0) rfl rfl rfl dX6_dimension_104 rfl ⟨Nat.le_refl _, Nat.le_refl _⟩ rfl
      · exact jb_mo_dimension_153 hs _
      · exact jb_mo_dimension_153 hs _
      · exact jb_mo_dimension_153 hs _
      · exact jb_mo_dimension_153 hs _
      · refine j_aload_n 0 dX6_dimension_105 rfl ?_
        refine j_iload_n 1 dX6_dimension_106 rfl ?_
        refine j_cV (stk := []) [vi p1] th dX6_dimension_107 mv_mo_form lm_X6_154 (sub_k hs 0 rfl rfl) zc_6 (ct_mo_form hs h3) rfl rfl ⟨⟨Nat.le_of_ble_eq_true rfl, Nat.le_of_ble_eq_true rfl⟩, Nat.le_of_ble_eq_true rfl, Nat.le_of_ble_eq_true rfl⟩ (Nat.le_of_ble_eq_true rfl) rfl rfl (fun r5 h5 _ => ?_)
        exact j_retI (h0 := h5) (r := 0) rfl rfl rfl dX6_dimension_110 rfl ⟨Nat.le_refl _, Nat.le_refl _⟩ rfl
      · refine j_aload_n 0 dX6_dimension_111 rfl ?_
        refine j_iload_n 1 dX6_dimension_112 rfl ?_
        refine j_cV (stk := []) [vi p1] th dX6_dimension_113 mv_mo_begins lm_X6_166 (sub_k hs 0 rfl rfl) zc_6 (ct_mo_begins hs h3) rfl rfl ⟨⟨Nat.le_of_ble_eq_true rfl, Nat.le_of_ble_eq_true rfl⟩, Nat.le_of_ble_eq_true rfl, Nat.le_of_ble_eq_true rfl⟩ (Nat.le_of_ble_eq_true rfl) rfl rfl (fun r6 h6 _ => ?_)
        exact j_retI (h0 := h6) (r := 0) rfl rfl rfl dX6_dimension_116 rfl ⟨Nat.le_refl _, Nat.le_refl _⟩ rfl
      · refine j_aload_n 0 dX6_dimension_117 rfl ?_
        refine j_iload_n 1 dX6_dimension_118 rfl ?_
        refine j_cV (stk := []) [vi p1] th dX6_dimension_119 mv_mo_reaches lm_X6_169 (sub_k hs 0 rfl rfl) zc_6 (ct_mo_reaches hs h3) rfl rfl ⟨⟨Nat.le_of_ble_eq_true rfl, Nat.le_of_ble_eq_true rfl⟩, Nat.le_of_ble_eq_true rfl, Nat.le_of_ble_eq_true rfl⟩ (Nat.le_of_ble_eq_true rfl) rfl rfl (fun r7 h7 _ => ?_)
        exact j_retI (h0 := h7) (r := 0) rfl rfl rfl dX6_dimension_122 rfl ⟨Nat.le_refl _, Nat.le_refl _⟩ rfl
      · refine j_aload_n 0 dX6_dimension_123 rfl ?_
        refine j_iload_n 1 dX6_dimension_124 rfl ?_
        refine j_cV (stk := []) [vi p1] th dX6_dimension_125 mv_mo_laneOf lm_X6_184 (sub_k hs 0 rfl rfl) zc_6 (ct_mo_laneOf hs h3) rfl rfl ⟨⟨Nat.le_of_ble_eq_true rfl, Nat.le_of_ble_eq_true rfl⟩, Nat.le_of_ble_eq_true rfl, Nat.le_of_ble_eq_true rfl⟩ (Nat.le_of_ble_eq_true rfl) rfl rfl (fun r8 h8 _ => ?_)
        exact j_retI (h0 := h8) (r := 0) rfl rfl rfl dX6_dimension_128 rfl ⟨Nat.le_refl _, Nat.le_refl _⟩ rfl
      · refine j_aload_n 0 dX6_dimension_129 rfl ?_
        refine j_iload_n 1 dX6_dimension_130 rfl ?_
        refine j_iconst (x := 0) dX6_dimension_131 rfl (by decide) ?_
        refine j_cV (stk := []) [vi p1, vi 0] th dX6_dimension_132 mv_mo_isSuperfluous lm_X6_218 (sub_k hs 0 rfl rfl) zc_6 (ct_mo_isSuperfluous hs h3) rfl rfl ⟨⟨Nat.le_of_ble_eq_true rfl, Nat.le_of_ble_eq_true rfl⟩, Nat.le_of_ble_eq_true rfl, Nat.le_of_ble_eq_true rfl⟩ (Nat.le_of_ble_eq_true rfl) rfl rfl (fun r9 h9 _ => ?_)
        refine j_if_eq (tgt := 142) dX6_dimension_135 (by decide) ?_ ?_
        · refine j_iconst (x := 0) dX6_dimension_142 rfl (by decide) ?_
          refine j_sub [] rfl ?_
          exact jb_mo_dimension_143 hs _ _
        · refine j_iconst (x := 1) dX6_dimension_138 rfl (by decide) ?_
          refine j_goto (tgt := 143) dX6_dimension_139 (by decide) ?_
          refine j_sub [] rfl ?_
          exact jb_mo_dimension_143 hs _ _
      · refine j_aload_n 0 dX6_dimension_144 rfl ?_
        refine j_sipush (x := (-999)) dX6_dimension_145 (by decide) (by decide) ?_
        refine j_iload_n 1 dX6_dimension_148 rfl ?_
        refine j_cV (stk := []) [vi (-999), vi p1] th dX6_dimension_149 mv_mo_crossings lm_X6_215 (sub_k hs 0 rfl rfl) zc_6 (ct_mo_crossings hs h3) rfl rfl ⟨⟨Nat.le_of_ble_eq_true rfl, Nat.le_of_ble_eq_true rfl⟩, Nat.le_of_ble_eq_true rfl, Nat.le_of_ble_eq_true rfl⟩ (Nat.le_of_ble_eq_true rfl) rfl rfl (fun r10 h10 _ => ?_)
        exact j_retI (h0 := h10) (r := 0) rfl rfl rfl dX6_dimension_152 rfl ⟨Nat.le_refl _, Nat.le_refl _⟩ rfl
      · exact jb_mo_dimension_153 hs _

set_option maxRecDepth 100000 in
set_option maxHeartbeats 4000000 in
theorem jb_mo_at_63 {lay : List LK} {th : Nat} {p1 : Int} {p2 : Int} {k24 : Int → Hp → O Int} (hs : sub lay th blkModel) (hk24 : ∀ (x3 : Int) (h : Hp), J mi_mo_at encI (Same lay) lay 0 0 24 [(0, vr th), (1, vi p1), (2, vi p2), (3, vi x3)] [] h (k24 x3 h)) (x3 : Int) (h : Hp) : J mi_mo_at encI (Same lay) lay 0 0 63 [(0, vr th), (1, vi p1), (2, vi p2), (3, vi x3)] [] h (mo_at_b63 th p1 p2 k24 x3 h) := by
  unfold mo_at_b63
  refine j_iinc 3 (lv' := [(3, vi (x3 + 1)), (0, vr th), (1, vi p1), (2, vi p2)]) dX6_at_63 rfl (by decide) rfl ?_
  refine j_goto (tgt := 24) dX6_at_66 (by decide) ?_
  refine j_sub [1, 2, 3, 0] rfl ?_
  exact hk24 _ _

set_option maxRecDepth 100000 in
set_option maxHeartbeats 4000000 in
theorem jl_mo_at_24 {lay : List LK} {th : Nat} {p1 : Int} {p2 : Int}  (hs : sub lay th blkModel)  : ∀ (n : Nat) (x3 : Int) (h : Hp), J mi_mo_at encI (Same lay) lay 0 0 24 [(0, vr th), (1, vi p1), (2, vi p2), (3, vi x3)] [] h (iter1 (mo_at_f24 th p1 p2) n x3 h) := by
  refine j_iter1 (lf := fun x3 => [(0, vr th), (1, vi p1), (2, vi p2), (3, vi x3)]) (fun k24 hk24 x3 h => ?_)
  unfold mo_at_f24
  refine j_iload_n 3 dX6_at_24 rfl ?_
  refine j_aload_n 0 dX6_at_25 rfl ?_
  refine j_getR 0 1 0 dX6_at_26 zc_6 rfl (sub_k hs 0 rfl rfl) (by decide) lk_X6_7 rfl (by decide) (rfl : th + 1 = (th + 1)) ?_
  refine j_bipush (x := 13) dX6_at_29 (by decide) (by decide) ?_
  refine j_iald dX6_at_31 (sub_k hs 1 rfl rfl) rfl ?_
  refine j_icmp_ge (tgt := 69) dX6_at_32 (by decide) ?_ ?_
  · refine j_aload_n 0 dX6_at_35 rfl ?_
    refine j_iload_n 3 dX6_at_36 rfl ?_
    refine j_cV (stk := []) [vi x3] th dX6_at_37 mv_mo_laneOf lm_X6_184 (sub_k hs 0 rfl rfl) zc_6 (ct_mo_laneOf hs h) rfl rfl ⟨⟨Nat.le_of_ble_eq_true rfl, Nat.le_of_ble_eq_true rfl⟩, Nat.le_of_ble_eq_true rfl, Nat.le_of_ble_eq_true rfl⟩ (Nat.le_of_ble_eq_true rfl) rfl rfl (fun r1 h1 _ => ?_)
    refine j_iload_n 1 dX6_at_40 rfl ?_
    refine j_icmp_ne (tgt := 63) dX6_at_41 (by decide) ?_ ?_
    · refine j_iload_n 2 dX6_at_44 rfl ?_
      refine j_aload_n 0 dX6_at_45 rfl ?_
      refine j_iload_n 3 dX6_at_46 rfl ?_
      refine j_cV (stk := [vi p2]) [vi x3] th dX6_at_47 mv_mo_begins lm_X6_166 (sub_k hs 0 rfl rfl) zc_6 (ct_mo_begins hs h1) rfl rfl ⟨⟨Nat.le_of_ble_eq_true rfl, Nat.le_of_ble_eq_true rfl⟩, Nat.le_of_ble_eq_true rfl, Nat.le_of_ble_eq_true rfl⟩ (Nat.le_of_ble_eq_true rfl) rfl rfl (fun r2 h2 _ => ?_)
      refine j_aload_n 0 dX6_at_50 rfl ?_
      refine j_iload_n 3 dX6_at_51 rfl ?_
      refine j_cV (stk := [vi r2, vi p2]) [vi x3] th dX6_at_52 mv_mo_reaches lm_X6_169 (sub_k hs 0 rfl rfl) zc_6 (ct_mo_reaches hs h2) rfl rfl ⟨⟨Nat.le_of_ble_eq_true rfl, Nat.le_of_ble_eq_true rfl⟩, Nat.le_of_ble_eq_true rfl, Nat.le_of_ble_eq_true rfl⟩ (Nat.le_of_ble_eq_true rfl) rfl rfl (fun r3 h3 _ => ?_)
      refine j_cS (stk := []) [vi p2, vi r2, vi r3] dX6_at_55 mv_mo_in lm_X6_46 (ct_mo_in h3) rfl rfl ⟨⟨Nat.le_of_ble_eq_true rfl, Nat.le_of_ble_eq_true rfl⟩, Nat.le_of_ble_eq_true rfl, Nat.le_of_ble_eq_true rfl⟩ (Nat.le_of_ble_eq_true rfl) rfl rfl (fun r4 h4 _ => ?_)
      refine j_if_eq (tgt := 63) dX6_at_58 (by decide) ?_ ?_
      · exact jb_mo_at_63 hs hk24 _ _
      · refine j_iload_n 3 dX6_at_61 rfl ?_
        exact j_retI (h0 := h4) (r := 0) rfl rfl rfl dX6_at_62 rfl ⟨Nat.le_refl _, Nat.le_refl _⟩ rfl
    · exact jb_mo_at_63 hs hk24 _ _
  · refine j_sipush (x := (-999)) dX6_at_69 (by decide) (by decide) ?_
    exact j_retI (h0 := h) (r := 0) rfl rfl rfl dX6_at_72 rfl ⟨Nat.le_refl _, Nat.le_refl _⟩ rfl

set_option maxRecDepth 100000 in
set_option maxHeartbeats 4000000 in
theorem jb_mo_at_16 {lay : List LK} {th : Nat} {p1 : Int} {p2 : Int}  (hs : sub lay th blkModel)  (h : Hp) : J mi_mo_at encI (Same lay) lay 0 0 16 [] [] h (mo_at_b16 th p1 p2 h) := by
  unfold mo_at_b16
  refine j_iconst (x := (-1)) dX6_at_16 rfl (by decide) ?_
  exact j_retI (h0 := h) (r := 0) rfl rfl rfl dX6_at_17 rfl ⟨Nat.le_refl _, Nat.le_refl _⟩ rfl

set_option maxRecDepth 100000 in
set_option maxHeartbeats 4000000 in
theorem ct_mo_at {lay : List LK} {th : Nat} {p1 : Int} {p2 : Int} (hs : sub lay th blkModel) (h : Hp) : CT mi_mo_at encI (Same lay) lay [vr th, vi p1, vi p2] h (mo_at th p1 p2 h) := by
  refine CT.of (by decide) rfl (Nat.le_of_ble_eq_true rfl) ?_
  show J mi_mo_at encI (Same lay) lay 0 0 0 [(0, vr th), (1, vi p1), (2, vi p2)] [] h _
  unfold mo_at
  refine j_iload_n 1 dX6_at_0 rfl ?_
  refine j_if_lt (tgt := 16) dX6_at_1 (by decide) ?_ ?_
  · refine j_sub [] rfl ?_
    exact jb_mo_at_16 hs _
  · refine j_iload_n 2 dX6_at_4 rfl ?_
    refine j_bipush (x := (-9)) dX6_at_5 (by decide) (by decide) ?_
    refine j_sipush (x := 400) dX6_at_7 (by decide) (by decide) ?_
    refine j_cS (stk := []) [vi p2, vi (-9), vi 400] dX6_at_10 mv_mo_in lm_X6_46 (ct_mo_in h) rfl rfl ⟨⟨Nat.le_of_ble_eq_true rfl, Nat.le_of_ble_eq_true rfl⟩, Nat.le_of_ble_eq_true rfl, Nat.le_of_ble_eq_true rfl⟩ (Nat.le_of_ble_eq_true rfl) rfl rfl (fun r1 h1 _ => ?_)
    refine j_if_ne (tgt := 18) dX6_at_13 (by decide) ?_ ?_
    · refine j_sub [] rfl ?_
      exact jb_mo_at_16 hs _
    · refine j_aload_n 0 dX6_at_18 rfl ?_
      refine j_cV (stk := []) [] th dX6_at_19 mv_mo_laysLanes lm_X6_212 (sub_k hs 0 rfl rfl) zc_6 (ct_mo_laysLanes hs h1) rfl rfl ⟨⟨Nat.le_of_ble_eq_true rfl, Nat.le_of_ble_eq_true rfl⟩, Nat.le_of_ble_eq_true rfl, Nat.le_of_ble_eq_true rfl⟩ (Nat.le_of_ble_eq_true rfl) rfl rfl (fun _ h2 _ => ?_)
      refine j_iconst (x := 0) dX6_at_22 rfl (by decide) ?_
      refine j_istore_n (lv' := [(3, vi 0), (0, vr th), (1, vi p1), (2, vi p2)]) dX6_at_23 (by decide) rfl ?_
      refine j_sub [1, 2, 3, 0] rfl ?_
      exact jl_mo_at_24 hs fuel _ _

set_option maxRecDepth 100000 in
set_option maxHeartbeats 4000000 in
theorem jb_mo_arePoints_26 {lay : List LK} {th : Nat} {p1 : Int} {p2 : Int}  (hs : sub lay th blkModel)  (s0 : Int) (h : Hp) : J mi_mo_arePoints encI (Same lay) lay 0 0 26 [] [vi s0] h (mo_arePoints_b26 th p1 p2 s0 h) := by
  unfold mo_arePoints_b26
  exact j_retZ rfl rfl rfl dX6_arePoints_26 rfl ⟨Nat.le_refl _, Nat.le_refl _⟩ rfl

set_option maxRecDepth 100000 in
set_option maxHeartbeats 4000000 in
theorem jb_mo_arePoints_25 {lay : List LK} {th : Nat} {p1 : Int} {p2 : Int}  (hs : sub lay th blkModel)  (h : Hp) : J mi_mo_arePoints encI (Same lay) lay 0 0 25 [] [] h (mo_arePoints_b25 th p1 p2 h) := by
  unfold mo_arePoints_b25
  refine j_iconst (x := 0) dX6_arePoints_25 rfl (by decide) ?_
  exact jb_mo_arePoints_26 hs _ _

set_option maxRecDepth 100000 in
set_option maxHeartbeats 4000000 in
theorem ct_mo_arePoints {lay : List LK} {th : Nat} {p1 : Int} {p2 : Int} (hs : sub lay th blkModel) (h : Hp) : CT mi_mo_arePoints encI (Same lay) lay [vr th, vi p1, vi p2] h (mo_arePoints th p1 p2 h) := by
  refine CT.of (by decide) rfl (Nat.le_of_ble_eq_true rfl) ?_
  show J mi_mo_arePoints encI (Same lay) lay 0 0 0 [(0, vr th), (1, vi p1), (2, vi p2)] [] h _
  unfold mo_arePoints
  refine j_aload_n 0 dX6_arePoints_0 rfl ?_
  refine j_iload_n 1 dX6_arePoints_1 rfl ?_
  refine j_cV (stk := []) [vi p1] th dX6_arePoints_2 mv_mo_isPoint lm_X6_77 (sub_k hs 0 rfl rfl) zc_6 (ct_mo_isPoint hs h) rfl rfl ⟨⟨Nat.le_of_ble_eq_true rfl, Nat.le_of_ble_eq_true rfl⟩, Nat.le_of_ble_eq_true rfl, Nat.le_of_ble_eq_true rfl⟩ (Nat.le_of_ble_eq_true rfl) rfl rfl (fun r1 h1 _ => ?_)
  refine j_if_eq (tgt := 25) dX6_arePoints_5 (by decide) ?_ ?_
  · refine j_sub [] rfl ?_
    exact jb_mo_arePoints_25 hs _
  · refine j_aload_n 0 dX6_arePoints_8 rfl ?_
    refine j_iload_n 2 dX6_arePoints_9 rfl ?_
    refine j_cV (stk := []) [vi p2] th dX6_arePoints_10 mv_mo_isPoint lm_X6_77 (sub_k hs 0 rfl rfl) zc_6 (ct_mo_isPoint hs h1) rfl rfl ⟨⟨Nat.le_of_ble_eq_true rfl, Nat.le_of_ble_eq_true rfl⟩, Nat.le_of_ble_eq_true rfl, Nat.le_of_ble_eq_true rfl⟩ (Nat.le_of_ble_eq_true rfl) rfl rfl (fun r2 h2 _ => ?_)
    refine j_if_eq (tgt := 25) dX6_arePoints_13 (by decide) ?_ ?_
    · refine j_sub [] rfl ?_
      exact jb_mo_arePoints_25 hs _
    · refine j_iload_n 1 dX6_arePoints_16 rfl ?_
      refine j_iload_n 2 dX6_arePoints_17 rfl ?_
      refine j_icmp_eq (tgt := 25) dX6_arePoints_18 (by decide) ?_ ?_
      · refine j_sub [] rfl ?_
        exact jb_mo_arePoints_25 hs _
      · refine j_iconst (x := 1) dX6_arePoints_21 rfl (by decide) ?_
        refine j_goto (tgt := 26) dX6_arePoints_22 (by decide) ?_
        refine j_sub [] rfl ?_
        exact jb_mo_arePoints_26 hs _ _

set_option maxRecDepth 100000 in
set_option maxHeartbeats 4000000 in
theorem jb_mo_distance_62 {lay : List LK} {th : Nat} {p1 : Int} {p2 : Int} {p3 : Int}  (hs : sub lay th blkModel)  (s0 : Int) (h : Hp) : J mi_mo_distance encI (Same lay) lay 0 0 62 [] [vi s0] h (mo_distance_b62 th p1 p2 p3 s0 h) := by
  unfold mo_distance_b62
  exact j_retI (h0 := h) (r := 0) rfl rfl rfl dX6_distance_62 rfl ⟨Nat.le_refl _, Nat.le_refl _⟩ rfl

set_option maxRecDepth 100000 in
set_option maxHeartbeats 4000000 in
theorem ct_mo_distance {lay : List LK} {th : Nat} {p1 : Int} {p2 : Int} {p3 : Int} (hs : sub lay th blkModel) (h : Hp) : CT mi_mo_distance encI (Same lay) lay [vr th, vi p1, vi p2, vi p3] h (mo_distance th p1 p2 p3 h) := by
  refine CT.of (by decide) rfl (Nat.le_of_ble_eq_true rfl) ?_
  show J mi_mo_distance encI (Same lay) lay 0 0 0 [(0, vr th), (1, vi p1), (2, vi p2), (3, vi p3)] [] h _
  unfold mo_distance
  refine j_aload_n 0 dX6_distance_0 rfl ?_
  refine j_iload_n 1 dX6_distance_1 rfl ?_
  refine j_iload_n 2 dX6_distance_2 rfl ?_
  refine j_cV (stk := []) [vi p1, vi p2] th dX6_distance_3 mv_mo_arePoints lm_X6_224 (sub_k hs 0 rfl rfl) zc_6 (ct_mo_arePoints hs h) rfl rfl ⟨⟨Nat.le_of_ble_eq_true rfl, Nat.le_of_ble_eq_true rfl⟩, Nat.le_of_ble_eq_true rfl, Nat.le_of_ble_eq_true rfl⟩ (Nat.le_of_ble_eq_true rfl) rfl rfl (fun r1 h1 _ => ?_)
  refine j_if_ne (tgt := 11) dX6_distance_6 (by decide) ?_ ?_
  · refine j_iconst (x := (-1)) dX6_distance_9 rfl (by decide) ?_
    exact j_retI (h0 := h1) (r := 0) rfl rfl rfl dX6_distance_10 rfl ⟨Nat.le_refl _, Nat.le_refl _⟩ rfl
  · refine j_aload_n 0 dX6_distance_11 rfl ?_
    refine j_iconst (x := 0) dX6_distance_12 rfl (by decide) ?_
    refine j_sipush (x := (-999)) dX6_distance_13 (by decide) (by decide) ?_
    refine j_cV (stk := []) [vi 0, vi (-999)] th dX6_distance_16 mv_mo_laysDistances lm_X6_197 (sub_k hs 0 rfl rfl) zc_6 (ct_mo_laysDistances hs h1) rfl rfl ⟨⟨Nat.le_of_ble_eq_true rfl, Nat.le_of_ble_eq_true rfl⟩, Nat.le_of_ble_eq_true rfl, Nat.le_of_ble_eq_true rfl⟩ (Nat.le_of_ble_eq_true rfl) rfl rfl (fun _ h2 _ => ?_)
    refine j_aload_n 0 dX6_distance_19 rfl ?_
    refine j_iload_n 1 dX6_distance_20 rfl ?_
    refine j_iload_n 2 dX6_distance_21 rfl ?_
    refine j_cV (stk := []) [vi p1, vi p2] th dX6_distance_22 mv_mo_areBound lm_X6_200 (sub_k hs 0 rfl rfl) zc_6 (ct_mo_areBound hs h2) rfl rfl ⟨⟨Nat.le_of_ble_eq_true rfl, Nat.le_of_ble_eq_true rfl⟩, Nat.le_of_ble_eq_true rfl, Nat.le_of_ble_eq_true rfl⟩ (Nat.le_of_ble_eq_true rfl) rfl rfl (fun r3 h3 _ => ?_)
    refine j_if_ne (tgt := 32) dX6_distance_25 (by decide) ?_ ?_
    · refine j_sipush (x := (-999)) dX6_distance_28 (by decide) (by decide) ?_
      exact j_retI (h0 := h3) (r := 0) rfl rfl rfl dX6_distance_31 rfl ⟨Nat.le_refl _, Nat.le_refl _⟩ rfl
    · refine j_iload_n 3 dX6_distance_32 rfl ?_
      refine j_if_eq (tgt := 50) dX6_distance_33 (by decide) ?_ ?_
      · refine j_aload_n 0 dX6_distance_50 rfl ?_
        refine j_getR 14 9 8 dX6_distance_51 zc_6 rfl (sub_k hs 0 rfl rfl) (by decide) lk_X6_35 rfl (by decide) (rfl : th + 9 = (th + 9)) ?_
        refine j_bipush (x := 12) dX6_distance_54 (by decide) (by decide) ?_
        refine j_iload_n 2 dX6_distance_56 rfl ?_
        refine j_imul dX6_distance_57 ?_
        refine j_iload_n 1 dX6_distance_58 rfl ?_
        refine j_iadd dX6_distance_59 ?_
        refine j_iald dX6_distance_60 (sub_k hs 9 rfl rfl) rfl ?_
        refine j_ineg dX6_distance_61 ?_
        refine j_sub [] rfl ?_
        exact jb_mo_distance_62 hs _ _
      · refine j_aload_n 0 dX6_distance_36 rfl ?_
        refine j_getR 14 9 8 dX6_distance_37 zc_6 rfl (sub_k hs 0 rfl rfl) (by decide) lk_X6_35 rfl (by decide) (rfl : th + 9 = (th + 9)) ?_
        refine j_bipush (x := 12) dX6_distance_40 (by decide) (by decide) ?_
        refine j_iload_n 1 dX6_distance_42 rfl ?_
        refine j_imul dX6_distance_43 ?_
        refine j_iload_n 2 dX6_distance_44 rfl ?_
        refine j_iadd dX6_distance_45 ?_
        refine j_iald dX6_distance_46 (sub_k hs 9 rfl rfl) rfl ?_
        refine j_goto (tgt := 62) dX6_distance_47 (by decide) ?_
        refine j_sub [] rfl ?_
        exact jb_mo_distance_62 hs _ _

set_option maxRecDepth 100000 in
set_option maxHeartbeats 4000000 in
theorem ct_mo_adds {lay : List LK} {th : Nat} {p1 : Int} {p2 : Int} {p3 : Int} (hs : sub lay th blkModel) (h : Hp) : CT mi_mo_adds encI (Same lay) lay [vr th, vi p1, vi p2, vi p3] h (mo_adds th p1 p2 p3 h) := by
  refine CT.of (by decide) rfl (Nat.le_of_ble_eq_true rfl) ?_
  show J mi_mo_adds encI (Same lay) lay 0 0 0 [(0, vr th), (1, vi p1), (2, vi p2), (3, vi p3)] [] h _
  unfold mo_adds
  refine j_aload_n 0 dX6_adds_0 rfl ?_
  refine j_iconst (x := 0) dX6_adds_1 rfl (by decide) ?_
  refine j_sipush (x := (-999)) dX6_adds_2 (by decide) (by decide) ?_
  refine j_cV (stk := []) [vi 0, vi (-999)] th dX6_adds_5 mv_mo_laysDistances lm_X6_197 (sub_k hs 0 rfl rfl) zc_6 (ct_mo_laysDistances hs h) rfl rfl ⟨⟨Nat.le_of_ble_eq_true rfl, Nat.le_of_ble_eq_true rfl⟩, Nat.le_of_ble_eq_true rfl, Nat.le_of_ble_eq_true rfl⟩ (Nat.le_of_ble_eq_true rfl) rfl rfl (fun _ h1 _ => ?_)
  refine j_aload_n 0 dX6_adds_8 rfl ?_
  refine j_iload_n 2 dX6_adds_9 rfl ?_
  refine j_iload_n 3 dX6_adds_10 rfl ?_
  refine j_cV (stk := []) [vi p2, vi p3] th dX6_adds_11 mv_mo_range lm_X6_227 (sub_k hs 0 rfl rfl) zc_6 (ct_mo_range hs h1) rfl rfl ⟨⟨Nat.le_of_ble_eq_true rfl, Nat.le_of_ble_eq_true rfl⟩, Nat.le_of_ble_eq_true rfl, Nat.le_of_ble_eq_true rfl⟩ (Nat.le_of_ble_eq_true rfl) rfl rfl (fun r2 h2 _ => ?_)
  refine j_istore (lv' := [(4, vi r2), (0, vr th), (1, vi p1), (2, vi p2), (3, vi p3)]) dX6_adds_14 (by decide) rfl ?_
  refine j_aload_n 1 dX6_adds_16 rfl ?_
  refine j_iconst (x := 0) dX6_adds_17 rfl (by decide) ?_
  refine j_iload_n 2 dX6_adds_18 rfl ?_
  refine j_cV (stk := []) [vi 0, vi p1] th dX6_adds_19 mv_mo_laysDistances lm_X6_197 (sub_k hs 0 rfl rfl) zc_6 (ct_mo_laysDistances hs h2) rfl rfl ⟨⟨Nat.le_of_ble_eq_true rfl, Nat.le_of_ble_eq_true rfl⟩, Nat.le_of_ble_eq_true rfl, Nat.le_of_ble_eq_true rfl⟩ (Nat.le_of_ble_eq_true rfl) rfl rfl (fun _ h3 _ => ?_)
  refine j_iload 0 dX6_adds_22 rfl ?_
  refine j_aload_n 1 dX6_adds_24 rfl ?_
  refine j_iload_n 3 dX6_adds_25 rfl ?_
  refine j_iload_n 4 dX6_adds_26 rfl ?_
  refine j_cV (stk := [vi r2]) [vi p2, vi p3] th dX6_adds_27 mv_mo_range lm_X6_227 (sub_k hs 0 rfl rfl) zc_6 (ct_mo_range hs h3) rfl rfl ⟨⟨Nat.le_of_ble_eq_true rfl, Nat.le_of_ble_eq_true rfl⟩, Nat.le_of_ble_eq_true rfl, Nat.le_of_ble_eq_true rfl⟩ (Nat.le_of_ble_eq_true rfl) rfl rfl (fun r4 h4 _ => ?_)
  refine j_isub dX6_adds_30 ?_
  exact j_retI (h0 := h4) (r := 0) rfl rfl rfl dX6_adds_31 rfl ⟨Nat.le_refl _, Nat.le_refl _⟩ rfl

set_option maxRecDepth 100000 in
set_option maxHeartbeats 4000000 in
theorem jb_mo_ifExact_49 {lay : List LK} {th : Nat} {p1 : Int} {p2 : Int} {p3 : Int}  (hs : sub lay th blkModel)  (s0 : Int) (h : Hp) : J mi_mo_ifExact encI (Same lay) lay 0 0 49 [] [vi s0] h (mo_ifExact_b49 th p1 p2 p3 s0 h) := by
  unfold mo_ifExact_b49
  exact j_retI (h0 := h) (r := 0) rfl rfl rfl dX6_ifExact_49 rfl ⟨Nat.le_refl _, Nat.le_refl _⟩ rfl

set_option maxRecDepth 100000 in
set_option maxHeartbeats 4000000 in
theorem jb_mo_ifExact_17 {lay : List LK} {th : Nat} {p1 : Int} {p2 : Int} {p3 : Int}  (hs : sub lay th blkModel)  (h : Hp) : J mi_mo_ifExact encI (Same lay) lay 0 0 17 [] [] h (mo_ifExact_b17 th p1 p2 p3 h) := by
  unfold mo_ifExact_b17
  refine j_iconst (x := (-1)) dX6_ifExact_17 rfl (by decide) ?_
  exact j_retI (h0 := h) (r := 0) rfl rfl rfl dX6_ifExact_18 rfl ⟨Nat.le_refl _, Nat.le_refl _⟩ rfl

set_option maxRecDepth 100000 in
set_option maxHeartbeats 4000000 in
theorem ct_mo_ifExact {lay : List LK} {th : Nat} {p1 : Int} {p2 : Int} {p3 : Int} (hs : sub lay th blkModel) (h : Hp) : CT mi_mo_ifExact encI (Same lay) lay [vr th, vi p1, vi p2, vi p3] h (mo_ifExact th p1 p2 p3 h) := by
  refine CT.of (by decide) rfl (Nat.le_of_ble_eq_true rfl) ?_
  show J mi_mo_ifExact encI (Same lay) lay 0 0 0 [(0, vr th), (1, vi p1), (2, vi p2), (3, vi p3)] [] h _
  unfold mo_ifExact
  refine j_aload_n 0 dX6_ifExact_0 rfl ?_
  refine j_iload_n 1 dX6_ifExact_1 rfl ?_
  refine j_cV (stk := []) [vi p1] th dX6_ifExact_2 mv_mo_isDimension lm_X6_92 (sub_k hs 0 rfl rfl) zc_6 (ct_mo_isDimension hs h) rfl rfl ⟨⟨Nat.le_of_ble_eq_true rfl, Nat.le_of_ble_eq_true rfl⟩, Nat.le_of_ble_eq_true rfl, Nat.le_of_ble_eq_true rfl⟩ (Nat.le_of_ble_eq_true rfl) rfl rfl (fun r1 h1 _ => ?_)
  refine j_if_eq (tgt := 17) dX6_ifExact_5 (by decide) ?_ ?_
  · refine j_sub [] rfl ?_
    exact jb_mo_ifExact_17 hs _
  · refine j_aload_n 0 dX6_ifExact_8 rfl ?_
    refine j_iload_n 2 dX6_ifExact_9 rfl ?_
    refine j_iload_n 3 dX6_ifExact_10 rfl ?_
    refine j_cV (stk := []) [vi p2, vi p3] th dX6_ifExact_11 mv_mo_arePoints lm_X6_224 (sub_k hs 0 rfl rfl) zc_6 (ct_mo_arePoints hs h1) rfl rfl ⟨⟨Nat.le_of_ble_eq_true rfl, Nat.le_of_ble_eq_true rfl⟩, Nat.le_of_ble_eq_true rfl, Nat.le_of_ble_eq_true rfl⟩ (Nat.le_of_ble_eq_true rfl) rfl rfl (fun r2 h2 _ => ?_)
    refine j_if_ne (tgt := 19) dX6_ifExact_14 (by decide) ?_ ?_
    · refine j_sub [] rfl ?_
      exact jb_mo_ifExact_17 hs _
    · refine j_aload_n 0 dX6_ifExact_19 rfl ?_
      refine j_iconst (x := 0) dX6_ifExact_20 rfl (by decide) ?_
      refine j_sipush (x := (-999)) dX6_ifExact_21 (by decide) (by decide) ?_
      refine j_cV (stk := []) [vi 0, vi (-999)] th dX6_ifExact_24 mv_mo_laysDistances lm_X6_197 (sub_k hs 0 rfl rfl) zc_6 (ct_mo_laysDistances hs h2) rfl rfl ⟨⟨Nat.le_of_ble_eq_true rfl, Nat.le_of_ble_eq_true rfl⟩, Nat.le_of_ble_eq_true rfl, Nat.le_of_ble_eq_true rfl⟩ (Nat.le_of_ble_eq_true rfl) rfl rfl (fun _ h3 _ => ?_)
      refine j_aload_n 0 dX6_ifExact_27 rfl ?_
      refine j_iload_n 2 dX6_ifExact_28 rfl ?_
      refine j_iload_n 3 dX6_ifExact_29 rfl ?_
      refine j_cV (stk := []) [vi p2, vi p3] th dX6_ifExact_30 mv_mo_areBound lm_X6_200 (sub_k hs 0 rfl rfl) zc_6 (ct_mo_areBound hs h3) rfl rfl ⟨⟨Nat.le_of_ble_eq_true rfl, Nat.le_of_ble_eq_true rfl⟩, Nat.le_of_ble_eq_true rfl, Nat.le_of_ble_eq_true rfl⟩ (Nat.le_of_ble_eq_true rfl) rfl rfl (fun r4 h4 _ => ?_)
      refine j_if_eq (tgt := 46) dX6_ifExact_33 (by decide) ?_ ?_
      · refine j_sipush (x := (-999)) dX6_ifExact_46 (by decide) (by decide) ?_
        refine j_sub [] rfl ?_
        exact jb_mo_ifExact_49 hs _ _
      · refine j_aload_n 0 dX6_ifExact_36 rfl ?_
        refine j_iload_n 1 dX6_ifExact_37 rfl ?_
        refine j_iload_n 2 dX6_ifExact_38 rfl ?_
        refine j_iload_n 3 dX6_ifExact_39 rfl ?_
        refine j_cV (stk := []) [vi p1, vi p2, vi p3] th dX6_ifExact_40 mv_mo_adds lm_X6_230 (sub_k hs 0 rfl rfl) zc_6 (ct_mo_adds hs h4) rfl rfl ⟨⟨Nat.le_of_ble_eq_true rfl, Nat.le_of_ble_eq_true rfl⟩, Nat.le_of_ble_eq_true rfl, Nat.le_of_ble_eq_true rfl⟩ (Nat.le_of_ble_eq_true rfl) rfl rfl (fun r5 h5 _ => ?_)
        refine j_goto (tgt := 49) dX6_ifExact_43 (by decide) ?_
        refine j_sub [] rfl ?_
        exact jb_mo_ifExact_49 hs _ _

set_option maxRecDepth 100000 in
set_option maxHeartbeats 4000000 in
theorem jb_mo_critical_109 {lay : List LK} {th : Nat} {p1 : Int} {p2 : Int} {k42 : Int → Int → Int → Hp → O Int} (hs : sub lay th blkModel) (hk42 : ∀ (x3 x4 x5 : Int) (h : Hp), J mi_mo_critical encI (Same lay) lay 0 0 42 [(0, vr th), (1, vi p1), (2, vi p2), (3, vi x3), (4, vi x4), (5, vi x5)] [] h (k42 x3 x4 x5 h)) (x3 x5 s0 : Int) (h : Hp) : J mi_mo_critical encI (Same lay) lay 0 0 109 [(0, vr th), (1, vi p1), (2, vi p2), (3, vi x3), (5, vi x5)] [vi s0] h (mo_critical_b109 th p1 p2 k42 x3 x5 s0 h) := by
  unfold mo_critical_b109
  refine j_istore (lv' := [(4, vi s0), (0, vr th), (1, vi p1), (2, vi p2), (3, vi x3), (5, vi x5)]) dX6_critical_109 (by decide) rfl ?_
  refine j_iinc 5 (lv' := [(5, vi (x5 + 1)), (4, vi s0), (0, vr th), (1, vi p1), (2, vi p2), (3, vi x3)]) dX6_critical_111 rfl (by decide) rfl ?_
  refine j_goto (tgt := 42) dX6_critical_114 (by decide) ?_
  refine j_sub [2, 3, 4, 5, 1, 0] rfl ?_
  exact hk42 _ _ _ _

set_option maxRecDepth 100000 in
set_option maxHeartbeats 4000000 in
theorem jb_mo_critical_96 {lay : List LK} {th : Nat} {p1 : Int} {p2 : Int} {k42 : Int → Int → Int → Hp → O Int} (hs : sub lay th blkModel) (hk42 : ∀ (x3 x4 x5 : Int) (h : Hp), J mi_mo_critical encI (Same lay) lay 0 0 42 [(0, vr th), (1, vi p1), (2, vi p2), (3, vi x3), (4, vi x4), (5, vi x5)] [] h (k42 x3 x4 x5 h)) (x4 x5 x6 x7 s0 : Int) (h : Hp) : J mi_mo_critical encI (Same lay) lay 0 0 96 [(0, vr th), (1, vi p1), (2, vi p2), (4, vi x4), (5, vi x5), (6, vi x6), (7, vi x7)] [vi s0] h (mo_critical_b96 th p1 p2 k42 x4 x5 x6 x7 s0 h) := by
  unfold mo_critical_b96
  refine j_istore_n (lv' := [(3, vi s0), (0, vr th), (1, vi p1), (2, vi p2), (4, vi x4), (5, vi x5), (6, vi x6), (7, vi x7)]) dX6_critical_96 (by decide) rfl ?_
  refine j_iload 7 dX6_critical_97 rfl ?_
  refine j_if_eq (tgt := 107) dX6_critical_99 (by decide) ?_ ?_
  · refine j_iload 4 dX6_critical_107 rfl ?_
    refine j_sub [1, 2, 3, 0, 5] rfl ?_
    exact jb_mo_critical_109 hs hk42 _ _ _ _
  · refine j_iload 6 dX6_critical_102 rfl ?_
    refine j_goto (tgt := 109) dX6_critical_104 (by decide) ?_
    refine j_sub [1, 2, 3, 0, 5] rfl ?_
    exact jb_mo_critical_109 hs hk42 _ _ _ _

set_option maxRecDepth 100000 in
set_option maxHeartbeats 4000000 in
theorem jb_mo_critical_83 {lay : List LK} {th : Nat} {p1 : Int} {p2 : Int} {k42 : Int → Int → Int → Hp → O Int} (hs : sub lay th blkModel) (hk42 : ∀ (x3 x4 x5 : Int) (h : Hp), J mi_mo_critical encI (Same lay) lay 0 0 42 [(0, vr th), (1, vi p1), (2, vi p2), (3, vi x3), (4, vi x4), (5, vi x5)] [] h (k42 x3 x4 x5 h)) (x3 x4 x5 x6 s0 : Int) (h : Hp) : J mi_mo_critical encI (Same lay) lay 0 0 83 [(0, vr th), (1, vi p1), (2, vi p2), (3, vi x3), (4, vi x4), (5, vi x5), (6, vi x6)] [vi s0] h (mo_critical_b83 th p1 p2 k42 x3 x4 x5 x6 s0 h) := by
  unfold mo_critical_b83
  refine j_istore (lv' := [(7, vi s0), (0, vr th), (1, vi p1), (2, vi p2), (3, vi x3), (4, vi x4), (5, vi x5), (6, vi x6)]) dX6_critical_83 (by decide) rfl ?_
  refine j_iload 0 dX6_critical_85 rfl ?_
  refine j_if_eq (tgt := 95) dX6_critical_87 (by decide) ?_ ?_
  · refine j_iload_n 4 dX6_critical_95 rfl ?_
    refine j_sub [1, 2, 3, 5, 6, 7, 0] rfl ?_
    exact jb_mo_critical_96 hs hk42 _ _ _ _ _ _
  · refine j_iload 6 dX6_critical_90 rfl ?_
    refine j_goto (tgt := 96) dX6_critical_92 (by decide) ?_
    refine j_sub [1, 2, 3, 5, 6, 7, 0] rfl ?_
    exact jb_mo_critical_96 hs hk42 _ _ _ _ _ _

set_option maxRecDepth 100000 in
set_option maxHeartbeats 4000000 in
theorem jb_mo_critical_78 {lay : List LK} {th : Nat} {p1 : Int} {p2 : Int} {k42 : Int → Int → Int → Hp → O Int} (hs : sub lay th blkModel) (hk42 : ∀ (x3 x4 x5 : Int) (h : Hp), J mi_mo_critical encI (Same lay) lay 0 0 42 [(0, vr th), (1, vi p1), (2, vi p2), (3, vi x3), (4, vi x4), (5, vi x5)] [] h (k42 x3 x4 x5 h)) (x3 x4 x5 x6 : Int) (h : Hp) : J mi_mo_critical encI (Same lay) lay 0 0 78 [(0, vr th), (1, vi p1), (2, vi p2), (3, vi x3), (4, vi x4), (5, vi x5), (6, vi x6)] [] h (mo_critical_b78 th p1 p2 k42 x3 x4 x5 x6 h) := by
  unfold mo_critical_b78
  refine j_iconst (x := 1) dX6_critical_78 rfl (by decide) ?_
  refine j_goto (tgt := 83) dX6_critical_79 (by decide) ?_
  exact jb_mo_critical_83 hs hk42 _ _ _ _ _ _

set_option maxRecDepth 100000 in
set_option maxHeartbeats 4000000 in
theorem jl_mo_critical_42 {lay : List LK} {th : Nat} {p1 : Int} {p2 : Int}  (hs : sub lay th blkModel)  : ∀ (n : Nat) (x3 x4 x5 : Int) (h : Hp), J mi_mo_critical encI (Same lay) lay 0 0 42 [(0, vr th), (1, vi p1), (2, vi p2), (3, vi x3), (4, vi x4), (5, vi x5)] [] h (iter3 (mo_critical_f42 th p1 p2) n x3 x4 x5 h) := by
  refine j_iter3 (lf := fun x3 x4 x5 => [(0, vr th), (1, vi p1), (2, vi p2), (3, vi x3), (4, vi x4), (5, vi x5)]) (fun k42 hk42 x3 x4 x5 h => ?_)
  unfold mo_critical_f42
  refine j_iload 5 dX6_critical_42 rfl ?_
  refine j_aload_n 0 dX6_critical_44 rfl ?_
  refine j_getR 0 1 0 dX6_critical_45 zc_6 rfl (sub_k hs 0 rfl rfl) (by decide) lk_X6_7 rfl (by decide) (rfl : th + 1 = (th + 1)) ?_
  refine j_bipush (x := 13) dX6_critical_48 (by decide) (by decide) ?_
  refine j_iald dX6_critical_50 (sub_k hs 1 rfl rfl) rfl ?_
  refine j_icmp_ge (tgt := 117) dX6_critical_51 (by decide) ?_ ?_
  · refine j_aload_n 0 dX6_critical_54 rfl ?_
    refine j_iload 5 dX6_critical_55 rfl ?_
    refine j_iload_n 1 dX6_critical_57 rfl ?_
    refine j_iload_n 2 dX6_critical_58 rfl ?_
    refine j_cV (stk := []) [vi x5, vi p1, vi p2] th dX6_critical_59 mv_mo_adds lm_X6_230 (sub_k hs 0 rfl rfl) zc_6 (ct_mo_adds hs h) rfl rfl ⟨⟨Nat.le_of_ble_eq_true rfl, Nat.le_of_ble_eq_true rfl⟩, Nat.le_of_ble_eq_true rfl, Nat.le_of_ble_eq_true rfl⟩ (Nat.le_of_ble_eq_true rfl) rfl rfl (fun r1 h1 _ => ?_)
    refine j_istore (lv' := [(6, vi r1), (0, vr th), (1, vi p1), (2, vi p2), (3, vi x3), (4, vi x4), (5, vi x5)]) dX6_critical_62 (by decide) rfl ?_
    refine j_iload_n 4 dX6_critical_64 rfl ?_
    refine j_sipush (x := (-999)) dX6_critical_65 (by decide) (by decide) ?_
    refine j_icmp_eq (tgt := 78) dX6_critical_68 (by decide) ?_ ?_
    · refine j_sub [1, 2, 3, 4, 5, 6, 0] rfl ?_
      exact jb_mo_critical_78 hs hk42 _ _ _ _ _
    · refine j_iload 0 dX6_critical_71 rfl ?_
      refine j_iload 5 dX6_critical_73 rfl ?_
      refine j_icmp_le (tgt := 82) dX6_critical_75 (by decide) ?_ ?_
      · refine j_sub [1, 2, 3, 4, 5, 6, 0] rfl ?_
        exact jb_mo_critical_78 hs hk42 _ _ _ _ _
      · refine j_iconst (x := 0) dX6_critical_82 rfl (by decide) ?_
        refine j_sub [1, 2, 3, 4, 5, 6, 0] rfl ?_
        exact jb_mo_critical_83 hs hk42 _ _ _ _ _ _
  · refine j_iload_n 3 dX6_critical_117 rfl ?_
    exact j_retI (h0 := h) (r := 0) rfl rfl rfl dX6_critical_118 rfl ⟨Nat.le_refl _, Nat.le_refl _⟩ rfl

set_option maxRecDepth 100000 in
set_option maxHeartbeats 4000000 in
theorem ct_mo_critical {lay : List LK} {th : Nat} {p1 : Int} {p2 : Int} (hs : sub lay th blkModel) (h : Hp) : CT mi_mo_critical encI (Same lay) lay [vr th, vi p1, vi p2] h (mo_critical th p1 p2 h) := by
  refine CT.of (by decide) rfl (Nat.le_of_ble_eq_true rfl) ?_
  show J mi_mo_critical encI (Same lay) lay 0 0 0 [(0, vr th), (1, vi p1), (2, vi p2)] [] h _
  unfold mo_critical
  refine j_aload_n 0 dX6_critical_0 rfl ?_
  refine j_iload_n 1 dX6_critical_1 rfl ?_
  refine j_iload_n 2 dX6_critical_2 rfl ?_
  refine j_cV (stk := []) [vi p1, vi p2] th dX6_critical_3 mv_mo_arePoints lm_X6_224 (sub_k hs 0 rfl rfl) zc_6 (ct_mo_arePoints hs h) rfl rfl ⟨⟨Nat.le_of_ble_eq_true rfl, Nat.le_of_ble_eq_true rfl⟩, Nat.le_of_ble_eq_true rfl, Nat.le_of_ble_eq_true rfl⟩ (Nat.le_of_ble_eq_true rfl) rfl rfl (fun r1 h1 _ => ?_)
  refine j_if_ne (tgt := 11) dX6_critical_6 (by decide) ?_ ?_
  · refine j_iconst (x := (-1)) dX6_critical_9 rfl (by decide) ?_
    exact j_retI (h0 := h1) (r := 0) rfl rfl rfl dX6_critical_10 rfl ⟨Nat.le_refl _, Nat.le_refl _⟩ rfl
  · refine j_aload_n 0 dX6_critical_11 rfl ?_
    refine j_iconst (x := 0) dX6_critical_12 rfl (by decide) ?_
    refine j_sipush (x := (-999)) dX6_critical_13 (by decide) (by decide) ?_
    refine j_cV (stk := []) [vi 0, vi (-999)] th dX6_critical_16 mv_mo_laysDistances lm_X6_197 (sub_k hs 0 rfl rfl) zc_6 (ct_mo_laysDistances hs h1) rfl rfl ⟨⟨Nat.le_of_ble_eq_true rfl, Nat.le_of_ble_eq_true rfl⟩, Nat.le_of_ble_eq_true rfl, Nat.le_of_ble_eq_true rfl⟩ (Nat.le_of_ble_eq_true rfl) rfl rfl (fun _ h2 _ => ?_)
    refine j_aload_n 0 dX6_critical_19 rfl ?_
    refine j_iload_n 1 dX6_critical_20 rfl ?_
    refine j_iload_n 2 dX6_critical_21 rfl ?_
    refine j_cV (stk := []) [vi p1, vi p2] th dX6_critical_22 mv_mo_areBound lm_X6_200 (sub_k hs 0 rfl rfl) zc_6 (ct_mo_areBound hs h2) rfl rfl ⟨⟨Nat.le_of_ble_eq_true rfl, Nat.le_of_ble_eq_true rfl⟩, Nat.le_of_ble_eq_true rfl, Nat.le_of_ble_eq_true rfl⟩ (Nat.le_of_ble_eq_true rfl) rfl rfl (fun r3 h3 _ => ?_)
    refine j_if_ne (tgt := 32) dX6_critical_25 (by decide) ?_ ?_
    · refine j_sipush (x := (-999)) dX6_critical_28 (by decide) (by decide) ?_
      exact j_retI (h0 := h3) (r := 0) rfl rfl rfl dX6_critical_31 rfl ⟨Nat.le_refl _, Nat.le_refl _⟩ rfl
    · refine j_sipush (x := (-999)) dX6_critical_32 (by decide) (by decide) ?_
      refine j_istore_n (lv' := [(3, vi (-999)), (0, vr th), (1, vi p1), (2, vi p2)]) dX6_critical_35 (by decide) rfl ?_
      refine j_iconst (x := 0) dX6_critical_36 rfl (by decide) ?_
      refine j_istore (lv' := [(4, vi 0), (3, vi (-999)), (0, vr th), (1, vi p1), (2, vi p2)]) dX6_critical_37 (by decide) rfl ?_
      refine j_iconst (x := 0) dX6_critical_39 rfl (by decide) ?_
      refine j_istore (lv' := [(5, vi 0), (4, vi 0), (3, vi (-999)), (0, vr th), (1, vi p1), (2, vi p2)]) dX6_critical_40 (by decide) rfl ?_
      refine j_sub [3, 4, 5, 2, 1, 0] rfl ?_
      exact jl_mo_critical_42 hs fuel _ _ _ _

set_option maxRecDepth 100000 in
set_option maxHeartbeats 4000000 in
theorem jb_mo_needed_96 {lay : List LK} {th : Nat} {k12 : Int → Int → Int → Hp → O Int} (hs : sub lay th blkModel) (hk12 : ∀ (x1 x2 x3 : Int) (h : Hp), J mi_mo_needed encI (Same lay) lay 0 0 12 [(0, vr th), (1, vi x1), (2, vi x2), (3, vi x3)] [] h (k12 x1 x2 x3 h)) (x1 x2 x3 : Int) (h : Hp) : J mi_mo_needed encI (Same lay) lay 0 0 96 [(0, vr th), (1, vi x1), (2, vi x2), (3, vi x3)] [] h (mo_needed_b96 th k12 x1 x2 x3 h) := by
  unfold mo_needed_b96
  refine j_goto (tgt := 12) dX6_needed_96 (by decide) ?_
  exact hk12 _ _ _ _

set_option maxRecDepth 100000 in
set_option maxHeartbeats 4000000 in
theorem jb_mo_needed_88 {lay : List LK} {th : Nat} {k29 : Int → Int → Int → Int → Hp → O Int} (hs : sub lay th blkModel) (hk29 : ∀ (x1 x2 x3 x4 : Int) (h : Hp), J mi_mo_needed encI (Same lay) lay 0 0 29 [(0, vr th), (1, vi x1), (2, vi x2), (3, vi x3), (4, vi x4)] [] h (k29 x1 x2 x3 x4 h)) (x1 x3 x4 s0 s1 : Int) (h : Hp) : J mi_mo_needed encI (Same lay) lay 0 0 88 [(0, vr th), (1, vi x1), (3, vi x3), (4, vi x4)] [vi s0, vi s1] h (mo_needed_b88 th k29 x1 x3 x4 s0 s1 h) := by
  unfold mo_needed_b88
  refine j_isub dX6_needed_88 ?_
  refine j_istore_n (lv' := [(2, vi (s1 - s0)), (0, vr th), (1, vi x1), (3, vi x3), (4, vi x4)]) dX6_needed_89 (by decide) rfl ?_
  refine j_iinc 4 (lv' := [(4, vi (x4 + (-1))), (2, vi (s1 - s0)), (0, vr th), (1, vi x1), (3, vi x3)]) dX6_needed_90 rfl (by decide) rfl ?_
  refine j_goto (tgt := 29) dX6_needed_93 (by decide) ?_
  refine j_sub [2, 3, 1, 4, 0] rfl ?_
  exact hk29 _ _ _ _ _

set_option maxRecDepth 100000 in
set_option maxHeartbeats 4000000 in
theorem jb_mo_needed_76 {lay : List LK} {th : Nat} {k29 : Int → Int → Int → Int → Hp → O Int} (hs : sub lay th blkModel) (hk29 : ∀ (x1 x2 x3 x4 : Int) (h : Hp), J mi_mo_needed encI (Same lay) lay 0 0 29 [(0, vr th), (1, vi x1), (2, vi x2), (3, vi x3), (4, vi x4)] [] h (k29 x1 x2 x3 x4 h)) (x2 x3 x4 s0 s1 : Int) (h : Hp) : J mi_mo_needed encI (Same lay) lay 0 0 76 [(0, vr th), (2, vi x2), (3, vi x3), (4, vi x4)] [vi s0, vi s1] h (mo_needed_b76 th k29 x2 x3 x4 s0 s1 h) := by
  unfold mo_needed_b76
  refine j_ior dX6_needed_76 ?_
  refine j_istore_n (lv' := [(1, vi (orI s1 s0)), (0, vr th), (2, vi x2), (3, vi x3), (4, vi x4)]) dX6_needed_77 (by decide) rfl ?_
  refine j_iload_n 2 dX6_needed_78 rfl ?_
  refine j_iload_n 3 dX6_needed_79 rfl ?_
  refine j_if_eq (tgt := 87) dX6_needed_80 (by decide) ?_ ?_
  · refine j_iconst (x := 0) dX6_needed_87 rfl (by decide) ?_
    refine j_sub [1, 0, 3, 4] rfl ?_
    exact jb_mo_needed_88 hs hk29 _ _ _ _ _ _
  · refine j_iconst (x := 1) dX6_needed_83 rfl (by decide) ?_
    refine j_goto (tgt := 88) dX6_needed_84 (by decide) ?_
    refine j_sub [1, 0, 3, 4] rfl ?_
    exact jb_mo_needed_88 hs hk29 _ _ _ _ _ _

set_option maxRecDepth 100000 in
set_option maxHeartbeats 4000000 in
theorem jb_mo_needed_62 {lay : List LK} {th : Nat} {k29 : Int → Int → Int → Int → Hp → O Int} (hs : sub lay th blkModel) (hk29 : ∀ (x1 x2 x3 x4 : Int) (h : Hp), J mi_mo_needed encI (Same lay) lay 0 0 29 [(0, vr th), (1, vi x1), (2, vi x2), (3, vi x3), (4, vi x4)] [] h (k29 x1 x2 x3 x4 h)) (x1 x2 x4 s0 : Int) (h : Hp) : J mi_mo_needed encI (Same lay) lay 0 0 62 [(0, vr th), (1, vi x1), (2, vi x2), (4, vi x4)] [vi s0] h (mo_needed_b62 th k29 x1 x2 x4 s0 h) := by
  unfold mo_needed_b62
  refine j_istore_n (lv' := [(3, vi s0), (0, vr th), (1, vi x1), (2, vi x2), (4, vi x4)]) dX6_needed_62 (by decide) rfl ?_
  refine j_iload_n 2 dX6_needed_63 rfl ?_
  refine j_iload_n 0 dX6_needed_64 rfl ?_
  refine j_if_eq (tgt := 75) dX6_needed_65 (by decide) ?_ ?_
  · refine j_iconst (x := 0) dX6_needed_75 rfl (by decide) ?_
    refine j_sub [1, 3, 0, 4] rfl ?_
    exact jb_mo_needed_76 hs hk29 _ _ _ _ _ _
  · refine j_iconst (x := 1) dX6_needed_68 rfl (by decide) ?_
    refine j_iload 4 dX6_needed_69 rfl ?_
    refine j_ishl1 dX6_needed_71 ?_
    refine j_goto (tgt := 76) dX6_needed_72 (by decide) ?_
    refine j_sub [1, 3, 0, 4] rfl ?_
    exact jb_mo_needed_76 hs hk29 _ _ _ _ _ _

set_option maxRecDepth 100000 in
set_option maxHeartbeats 4000000 in
theorem jb_mo_needed_61 {lay : List LK} {th : Nat} {k29 : Int → Int → Int → Int → Hp → O Int} (hs : sub lay th blkModel) (hk29 : ∀ (x1 x2 x3 x4 : Int) (h : Hp), J mi_mo_needed encI (Same lay) lay 0 0 29 [(0, vr th), (1, vi x1), (2, vi x2), (3, vi x3), (4, vi x4)] [] h (k29 x1 x2 x3 x4 h)) (x1 x2 x4 : Int) (h : Hp) : J mi_mo_needed encI (Same lay) lay 0 0 61 [(0, vr th), (1, vi x1), (2, vi x2), (4, vi x4)] [] h (mo_needed_b61 th k29 x1 x2 x4 h) := by
  unfold mo_needed_b61
  refine j_iconst (x := 0) dX6_needed_61 rfl (by decide) ?_
  exact jb_mo_needed_62 hs hk29 _ _ _ _ _

set_option maxRecDepth 100000 in
set_option maxHeartbeats 4000000 in
theorem jl_mo_needed_29 {lay : List LK} {th : Nat} {k12 : Int → Int → Int → Hp → O Int} (hs : sub lay th blkModel) (hk12 : ∀ (x1 x2 x3 : Int) (h : Hp), J mi_mo_needed encI (Same lay) lay 0 0 12 [(0, vr th), (1, vi x1), (2, vi x2), (3, vi x3)] [] h (k12 x1 x2 x3 h)) : ∀ (n : Nat) (x1 x2 x3 x4 : Int) (h : Hp), J mi_mo_needed encI (Same lay) lay 0 0 29 [(0, vr th), (1, vi x1), (2, vi x2), (3, vi x3), (4, vi x4)] [] h (iter4 (mo_needed_f29 th k12) n x1 x2 x3 x4 h) := by
  refine j_iter4 (lf := fun x1 x2 x3 x4 => [(0, vr th), (1, vi x1), (2, vi x2), (3, vi x3), (4, vi x4)]) (fun k29 hk29 x1 x2 x3 x4 h => ?_)
  unfold mo_needed_f29
  refine j_iload 4 dX6_needed_29 rfl ?_
  refine j_if_lt (tgt := 96) dX6_needed_31 (by decide) ?_ ?_
  · refine j_sub [0, 1, 2, 3] rfl ?_
    exact jb_mo_needed_96 hs hk12 _ _ _ _
  · refine j_iload_n 3 dX6_needed_34 rfl ?_
    refine j_if_ne (tgt := 96) dX6_needed_35 (by decide) ?_ ?_
    · refine j_iload_n 1 dX6_needed_38 rfl ?_
      refine j_iload 4 dX6_needed_39 rfl ?_
      refine j_ishr dX6_needed_41 ?_
      refine j_iconst (x := 1) dX6_needed_42 rfl (by decide) ?_
      refine j_iand 1 2 dX6_needed_43 (by decide) (by decide) rfl (by decide) ?_
      refine j_if_ne (tgt := 61) dX6_needed_44 (by decide) ?_ ?_
      · refine j_aload_n 0 dX6_needed_47 rfl ?_
        refine j_iload 4 dX6_needed_48 rfl ?_
        refine j_iload_n 1 dX6_needed_50 rfl ?_
        refine j_cV (stk := []) [vi x4, vi x1] th dX6_needed_51 mv_mo_isSuperfluous lm_X6_218 (sub_k hs 0 rfl rfl) zc_6 (ct_mo_isSuperfluous hs h) rfl rfl ⟨⟨Nat.le_of_ble_eq_true rfl, Nat.le_of_ble_eq_true rfl⟩, Nat.le_of_ble_eq_true rfl, Nat.le_of_ble_eq_true rfl⟩ (Nat.le_of_ble_eq_true rfl) rfl rfl (fun r1 h1 _ => ?_)
        refine j_if_eq (tgt := 61) dX6_needed_54 (by decide) ?_ ?_
        · refine j_sub [0, 1, 2, 4] rfl ?_
          exact jb_mo_needed_61 hs hk29 _ _ _ _
        · refine j_iconst (x := 1) dX6_needed_57 rfl (by decide) ?_
          refine j_goto (tgt := 62) dX6_needed_58 (by decide) ?_
          refine j_sub [0, 1, 2, 4] rfl ?_
          exact jb_mo_needed_62 hs hk29 _ _ _ _ _
      · refine j_sub [0, 1, 2, 4] rfl ?_
        exact jb_mo_needed_61 hs hk29 _ _ _ _
    · refine j_sub [0, 1, 2, 3] rfl ?_
      exact jb_mo_needed_96 hs hk12 _ _ _ _

set_option maxRecDepth 100000 in
set_option maxHeartbeats 4000000 in
theorem jl_mo_needed_12 {lay : List LK} {th : Nat}  (hs : sub lay th blkModel)  : ∀ (n : Nat) (x1 x2 x3 : Int) (h : Hp), J mi_mo_needed encI (Same lay) lay 0 0 12 [(0, vr th), (1, vi x1), (2, vi x2), (3, vi x3)] [] h (iter3 (mo_needed_f12 th) n x1 x2 x3 h) := by
  refine j_iter3 (lf := fun x1 x2 x3 => [(0, vr th), (1, vi x1), (2, vi x2), (3, vi x3)]) (fun k12 hk12 x1 x2 x3 h => ?_)
  unfold mo_needed_f12
  refine j_iload_n 3 dX6_needed_12 rfl ?_
  refine j_if_eq (tgt := 99) dX6_needed_13 (by decide) ?_ ?_
  · refine j_iload_n 2 dX6_needed_99 rfl ?_
    exact j_retI (h0 := h) (r := 0) rfl rfl rfl dX6_needed_100 rfl ⟨Nat.le_refl _, Nat.le_refl _⟩ rfl
  · refine j_iconst (x := 0) dX6_needed_16 rfl (by decide) ?_
    refine j_istore_n (lv' := [(3, vi 0), (0, vr th), (1, vi x1), (2, vi x2)]) dX6_needed_17 (by decide) rfl ?_
    refine j_aload_n 1 dX6_needed_18 rfl ?_
    refine j_getR 0 1 0 dX6_needed_19 zc_6 rfl (sub_k hs 0 rfl rfl) (by decide) lk_X6_7 rfl (by decide) (rfl : th + 1 = (th + 1)) ?_
    refine j_bipush (x := 13) dX6_needed_22 (by decide) (by decide) ?_
    refine j_iald dX6_needed_24 (sub_k hs 1 rfl rfl) rfl ?_
    refine j_iconst (x := 1) dX6_needed_25 rfl (by decide) ?_
    refine j_isub dX6_needed_26 ?_
    refine j_istore (lv' := [(4, vi ((h (th + 1) 13) - 1)), (3, vi 0), (0, vr th), (1, vi x1), (2, vi x2)]) dX6_needed_27 (by decide) rfl ?_
    refine j_sub [2, 3, 4, 1, 0] rfl ?_
    exact jl_mo_needed_29 hs hk12 fuel _ _ _ _ _

set_option maxRecDepth 100000 in
set_option maxHeartbeats 4000000 in
theorem ct_mo_needed {lay : List LK} {th : Nat} (hs : sub lay th blkModel) (h : Hp) : CT mi_mo_needed encI (Same lay) lay [vr th] h (mo_needed th h) := by
  refine CT.of (by decide) rfl (Nat.le_of_ble_eq_true rfl) ?_
  show J mi_mo_needed encI (Same lay) lay 0 0 0 [(0, vr th)] [] h _
  unfold mo_needed
  refine j_iconst (x := 0) dX6_needed_0 rfl (by decide) ?_
  refine j_istore_n (lv' := [(1, vi 0), (0, vr th)]) dX6_needed_1 (by decide) rfl ?_
  refine j_aload_n 1 dX6_needed_2 rfl ?_
  refine j_getR 0 1 0 dX6_needed_3 zc_6 rfl (sub_k hs 0 rfl rfl) (by decide) lk_X6_7 rfl (by decide) (rfl : th + 1 = (th + 1)) ?_
  refine j_bipush (x := 13) dX6_needed_6 (by decide) (by decide) ?_
  refine j_iald dX6_needed_8 (sub_k hs 1 rfl rfl) rfl ?_
  refine j_istore_n (lv' := [(2, vi (h (th + 1) 13)), (1, vi 0), (0, vr th)]) dX6_needed_9 (by decide) rfl ?_
  refine j_iconst (x := 1) dX6_needed_10 rfl (by decide) ?_
  refine j_istore_n (lv' := [(3, vi 1), (2, vi (h (th + 1) 13)), (1, vi 0), (0, vr th)]) dX6_needed_11 (by decide) rfl ?_
  refine j_sub [3, 2, 1, 0] rfl ?_
  exact jl_mo_needed_12 hs fuel _ _ _ _

set_option maxRecDepth 100000 in
set_option maxHeartbeats 4000000 in
theorem jb_mo_sumOf_75 {lay : List LK} {th : Nat} {p1 : Int} {p2 : Int} {k5 : Int → Int → Hp → O Int} (hs : sub lay th blkModel) (hk5 : ∀ (x3 x4 : Int) (h : Hp), J mi_mo_sumOf encI (Same lay) lay 0 0 5 [(0, vr th), (1, vi p1), (2, vi p2), (3, vi x3), (4, vi x4)] [] h (k5 x3 x4 h)) (x4 s0 s1 : Int) (h : Hp) : J mi_mo_sumOf encI (Same lay) lay 0 0 75 [(0, vr th), (1, vi p1), (2, vi p2), (4, vi x4)] [vi s0, vi s1] h (mo_sumOf_b75 th p1 p2 k5 x4 s0 s1 h) := by
  unfold mo_sumOf_b75
  refine j_iadd dX6_sumOf_75 ?_
  refine j_istore_n (lv' := [(3, vi (s1 + s0)), (0, vr th), (1, vi p1), (2, vi p2), (4, vi x4)]) dX6_sumOf_76 (by decide) rfl ?_
  refine j_iinc 4 (lv' := [(4, vi (x4 + 1)), (3, vi (s1 + s0)), (0, vr th), (1, vi p1), (2, vi p2)]) dX6_sumOf_77 rfl (by decide) rfl ?_
  refine j_goto (tgt := 5) dX6_sumOf_80 (by decide) ?_
  refine j_sub [2, 3, 4, 1, 0] rfl ?_
  exact hk5 _ _ _

set_option maxRecDepth 100000 in
set_option maxHeartbeats 4000000 in
theorem jb_mo_sumOf_55 {lay : List LK} {th : Nat} {p1 : Int} {p2 : Int} {k5 : Int → Int → Hp → O Int} (hs : sub lay th blkModel) (hk5 : ∀ (x3 x4 : Int) (h : Hp), J mi_mo_sumOf encI (Same lay) lay 0 0 5 [(0, vr th), (1, vi p1), (2, vi p2), (3, vi x3), (4, vi x4)] [] h (k5 x3 x4 h)) (x3 x4 s0 : Int) (h : Hp) : J mi_mo_sumOf encI (Same lay) lay 0 0 55 [(0, vr th), (1, vi p1), (2, vi p2), (3, vi x3), (4, vi x4)] [vi s0] h (mo_sumOf_b55 th p1 p2 k5 x3 x4 s0 h) := by
  unfold mo_sumOf_b55
  refine j_istore (lv' := [(5, vi s0), (0, vr th), (1, vi p1), (2, vi p2), (3, vi x3), (4, vi x4)]) dX6_sumOf_55 (by decide) rfl ?_
  refine j_iload_n 4 dX6_sumOf_57 rfl ?_
  refine j_aload_n 1 dX6_sumOf_58 rfl ?_
  refine j_iload 5 dX6_sumOf_59 rfl ?_
  refine j_iconst (x := 4) dX6_sumOf_61 rfl (by decide) ?_
  refine j_cV (stk := [vi x3]) [vi x4, vi 4] th dX6_sumOf_62 mv_mo_of lm_X6_50 (sub_k hs 0 rfl rfl) zc_6 (ct_mo_of hs h) rfl rfl ⟨⟨Nat.le_of_ble_eq_true rfl, Nat.le_of_ble_eq_true rfl⟩, Nat.le_of_ble_eq_true rfl, Nat.le_of_ble_eq_true rfl⟩ (Nat.le_of_ble_eq_true rfl) rfl rfl (fun r1 h1 _ => ?_)
  refine j_iload_n 2 dX6_sumOf_65 rfl ?_
  refine j_icmp_ne (tgt := 74) dX6_sumOf_66 (by decide) ?_ ?_
  · refine j_iload 0 dX6_sumOf_69 rfl ?_
    refine j_goto (tgt := 75) dX6_sumOf_71 (by decide) ?_
    refine j_sub [1, 2, 3, 5] rfl ?_
    exact jb_mo_sumOf_75 hs hk5 _ _ _ _
  · refine j_iconst (x := 0) dX6_sumOf_74 rfl (by decide) ?_
    refine j_sub [1, 2, 3, 5] rfl ?_
    exact jb_mo_sumOf_75 hs hk5 _ _ _ _

set_option maxRecDepth 100000 in
set_option maxHeartbeats 4000000 in
theorem jb_mo_sumOf_52 {lay : List LK} {th : Nat} {p1 : Int} {p2 : Int} {k5 : Int → Int → Hp → O Int} (hs : sub lay th blkModel) (hk5 : ∀ (x3 x4 : Int) (h : Hp), J mi_mo_sumOf encI (Same lay) lay 0 0 5 [(0, vr th), (1, vi p1), (2, vi p2), (3, vi x3), (4, vi x4)] [] h (k5 x3 x4 h)) (x3 x4 s0 s1 : Int) (h : Hp) : J mi_mo_sumOf encI (Same lay) lay 0 0 52 [(0, vr th), (1, vi p1), (2, vi p2), (3, vi x3), (4, vi x4)] [vi s0, vi s1, vr th] h (mo_sumOf_b52 th p1 p2 k5 x3 x4 s0 s1 h) := by
  unfold mo_sumOf_b52
  refine j_cV (stk := []) [vi s1, vi s0] th dX6_sumOf_52 mv_mo_of lm_X6_50 (sub_k hs 0 rfl rfl) zc_6 (ct_mo_of hs h) rfl rfl ⟨⟨Nat.le_of_ble_eq_true rfl, Nat.le_of_ble_eq_true rfl⟩, Nat.le_of_ble_eq_true rfl, Nat.le_of_ble_eq_true rfl⟩ (Nat.le_of_ble_eq_true rfl) rfl rfl (fun r1 h1 _ => ?_)
  exact jb_mo_sumOf_55 hs hk5 _ _ _ _

set_option maxRecDepth 100000 in
set_option maxHeartbeats 4000000 in
theorem jl_mo_sumOf_5 {lay : List LK} {th : Nat} {p1 : Int} {p2 : Int}  (hs : sub lay th blkModel)  : ∀ (n : Nat) (x3 x4 : Int) (h : Hp), J mi_mo_sumOf encI (Same lay) lay 0 0 5 [(0, vr th), (1, vi p1), (2, vi p2), (3, vi x3), (4, vi x4)] [] h (iter2 (mo_sumOf_f5 th p1 p2) n x3 x4 h) := by
  refine j_iter2 (lf := fun x3 x4 => [(0, vr th), (1, vi p1), (2, vi p2), (3, vi x3), (4, vi x4)]) (fun k5 hk5 x3 x4 h => ?_)
  unfold mo_sumOf_f5
  refine j_iload 4 dX6_sumOf_5 rfl ?_
  refine j_aload_n 0 dX6_sumOf_7 rfl ?_
  refine j_getR 0 1 0 dX6_sumOf_8 zc_6 rfl (sub_k hs 0 rfl rfl) (by decide) lk_X6_7 rfl (by decide) (rfl : th + 1 = (th + 1)) ?_
  refine j_bipush (x := 13) dX6_sumOf_11 (by decide) (by decide) ?_
  refine j_iald dX6_sumOf_13 (sub_k hs 1 rfl rfl) rfl ?_
  refine j_icmp_ge (tgt := 83) dX6_sumOf_14 (by decide) ?_ ?_
  · refine j_iload_n 2 dX6_sumOf_17 rfl ?_
    refine j_if_ne (tgt := 25) dX6_sumOf_18 (by decide) ?_ ?_
    · refine j_iconst (x := 1) dX6_sumOf_21 rfl (by decide) ?_
      refine j_goto (tgt := 55) dX6_sumOf_22 (by decide) ?_
      exact jb_mo_sumOf_55 hs hk5 _ _ _ _
    · refine j_iload_n 2 dX6_sumOf_25 rfl ?_
      refine j_iconst (x := 4) dX6_sumOf_26 rfl (by decide) ?_
      refine j_icmp_ne (tgt := 39) dX6_sumOf_27 (by decide) ?_ ?_
      · refine j_aload_n 0 dX6_sumOf_30 rfl ?_
        refine j_iload 4 dX6_sumOf_31 rfl ?_
        refine j_cV (stk := []) [vi x4] th dX6_sumOf_33 mv_mo_value lm_X6_148 (sub_k hs 0 rfl rfl) zc_6 (ct_mo_value hs h) rfl rfl ⟨⟨Nat.le_of_ble_eq_true rfl, Nat.le_of_ble_eq_true rfl⟩, Nat.le_of_ble_eq_true rfl, Nat.le_of_ble_eq_true rfl⟩ (Nat.le_of_ble_eq_true rfl) rfl rfl (fun r1 h1 _ => ?_)
        refine j_goto (tgt := 55) dX6_sumOf_36 (by decide) ?_
        exact jb_mo_sumOf_55 hs hk5 _ _ _ _
      · refine j_aload_n 0 dX6_sumOf_39 rfl ?_
        refine j_iload 4 dX6_sumOf_40 rfl ?_
        refine j_iload_n 2 dX6_sumOf_42 rfl ?_
        refine j_iconst (x := 5) dX6_sumOf_43 rfl (by decide) ?_
        refine j_icmp_ne (tgt := 51) dX6_sumOf_44 (by decide) ?_ ?_
        · refine j_iconst (x := 2) dX6_sumOf_47 rfl (by decide) ?_
          refine j_goto (tgt := 52) dX6_sumOf_48 (by decide) ?_
          exact jb_mo_sumOf_52 hs hk5 _ _ _ _ _
        · refine j_iconst (x := 3) dX6_sumOf_51 rfl (by decide) ?_
          exact jb_mo_sumOf_52 hs hk5 _ _ _ _ _
  · refine j_iload_n 3 dX6_sumOf_83 rfl ?_
    exact j_retI (h0 := h) (r := 0) rfl rfl rfl dX6_sumOf_84 rfl ⟨Nat.le_refl _, Nat.le_refl _⟩ rfl

set_option maxRecDepth 100000 in
set_option maxHeartbeats 4000000 in
theorem ct_mo_sumOf {lay : List LK} {th : Nat} {p1 : Int} {p2 : Int} (hs : sub lay th blkModel) (h : Hp) : CT mi_mo_sumOf encI (Same lay) lay [vr th, vi p1, vi p2] h (mo_sumOf th p1 p2 h) := by
  refine CT.of (by decide) rfl (Nat.le_of_ble_eq_true rfl) ?_
  show J mi_mo_sumOf encI (Same lay) lay 0 0 0 [(0, vr th), (1, vi p1), (2, vi p2)] [] h _
  unfold mo_sumOf
  refine j_iconst (x := 0) dX6_sumOf_0 rfl (by decide) ?_
  refine j_istore_n (lv' := [(3, vi 0), (0, vr th), (1, vi p1), (2, vi p2)]) dX6_sumOf_1 (by decide) rfl ?_
  refine j_iconst (x := 0) dX6_sumOf_2 rfl (by decide) ?_
  refine j_istore (lv' := [(4, vi 0), (3, vi 0), (0, vr th), (1, vi p1), (2, vi p2)]) dX6_sumOf_3 (by decide) rfl ?_
  refine j_sub [2, 3, 4, 1, 0] rfl ?_
  exact jl_mo_sumOf_5 hs fuel _ _ _

set_option maxRecDepth 100000 in
set_option maxHeartbeats 4000000 in
theorem jb_mo_endOf_79 {lay : List LK} {th : Nat} {p1 : Int} {p2 : Int} {k7 : Int → Int → Hp → O Int} (hs : sub lay th blkModel) (hk7 : ∀ (x3 x4 : Int) (h : Hp), J mi_mo_endOf encI (Same lay) lay 0 0 7 [(0, vr th), (1, vi p1), (2, vi p2), (3, vi x3), (4, vi x4)] [] h (k7 x3 x4 h)) (x4 s0 : Int) (h : Hp) : J mi_mo_endOf encI (Same lay) lay 0 0 79 [(0, vr th), (1, vi p1), (2, vi p2), (4, vi x4)] [vi s0] h (mo_endOf_b79 th p1 p2 k7 x4 s0 h) := by
  unfold mo_endOf_b79
  refine j_istore_n (lv' := [(3, vi s0), (0, vr th), (1, vi p1), (2, vi p2), (4, vi x4)]) dX6_endOf_79 (by decide) rfl ?_
  refine j_iinc 4 (lv' := [(4, vi (x4 + 1)), (3, vi s0), (0, vr th), (1, vi p1), (2, vi p2)]) dX6_endOf_80 rfl (by decide) rfl ?_
  refine j_goto (tgt := 7) dX6_endOf_83 (by decide) ?_
  refine j_sub [2, 3, 4, 1, 0] rfl ?_
  exact hk7 _ _ _

set_option maxRecDepth 100000 in
set_option maxHeartbeats 4000000 in
theorem jb_mo_endOf_78 {lay : List LK} {th : Nat} {p1 : Int} {p2 : Int} {k7 : Int → Int → Hp → O Int} (hs : sub lay th blkModel) (hk7 : ∀ (x3 x4 : Int) (h : Hp), J mi_mo_endOf encI (Same lay) lay 0 0 7 [(0, vr th), (1, vi p1), (2, vi p2), (3, vi x3), (4, vi x4)] [] h (k7 x3 x4 h)) (x3 x4 : Int) (h : Hp) : J mi_mo_endOf encI (Same lay) lay 0 0 78 [(0, vr th), (1, vi p1), (2, vi p2), (3, vi x3), (4, vi x4)] [] h (mo_endOf_b78 th p1 p2 k7 x3 x4 h) := by
  unfold mo_endOf_b78
  refine j_iload_n 3 dX6_endOf_78 rfl ?_
  refine j_sub [0, 1, 2, 4] rfl ?_
  exact jb_mo_endOf_79 hs hk7 _ _ _

set_option maxRecDepth 100000 in
set_option maxHeartbeats 4000000 in
theorem jb_mo_endOf_73 {lay : List LK} {th : Nat} {p1 : Int} {p2 : Int} {k7 : Int → Int → Hp → O Int} (hs : sub lay th blkModel) (hk7 : ∀ (x3 x4 : Int) (h : Hp), J mi_mo_endOf encI (Same lay) lay 0 0 7 [(0, vr th), (1, vi p1), (2, vi p2), (3, vi x3), (4, vi x4)] [] h (k7 x3 x4 h)) (x4 x5 : Int) (h : Hp) : J mi_mo_endOf encI (Same lay) lay 0 0 73 [(0, vr th), (1, vi p1), (2, vi p2), (4, vi x4), (5, vi x5)] [] h (mo_endOf_b73 th p1 p2 k7 x4 x5 h) := by
  unfold mo_endOf_b73
  refine j_iload 4 dX6_endOf_73 rfl ?_
  refine j_goto (tgt := 79) dX6_endOf_75 (by decide) ?_
  refine j_sub [0, 1, 2, 3] rfl ?_
  exact jb_mo_endOf_79 hs hk7 _ _ _

set_option maxRecDepth 100000 in
set_option maxHeartbeats 4000000 in
theorem jb_mo_endOf_31 {lay : List LK} {th : Nat} {p1 : Int} {p2 : Int} {k7 : Int → Int → Hp → O Int} (hs : sub lay th blkModel) (hk7 : ∀ (x3 x4 : Int) (h : Hp), J mi_mo_endOf encI (Same lay) lay 0 0 7 [(0, vr th), (1, vi p1), (2, vi p2), (3, vi x3), (4, vi x4)] [] h (k7 x3 x4 h)) (x3 x4 s0 s1 : Int) (h : Hp) : J mi_mo_endOf encI (Same lay) lay 0 0 31 [(0, vr th), (1, vi p1), (2, vi p2), (3, vi x3), (4, vi x4)] [vi s0, vi s1, vr th] h (mo_endOf_b31 th p1 p2 k7 x3 x4 s0 s1 h) := by
  unfold mo_endOf_b31
  refine j_cV (stk := []) [vi s1, vi s0] th dX6_endOf_31 mv_mo_of lm_X6_50 (sub_k hs 0 rfl rfl) zc_6 (ct_mo_of hs h) rfl rfl ⟨⟨Nat.le_of_ble_eq_true rfl, Nat.le_of_ble_eq_true rfl⟩, Nat.le_of_ble_eq_true rfl, Nat.le_of_ble_eq_true rfl⟩ (Nat.le_of_ble_eq_true rfl) rfl rfl (fun r1 h1 _ => ?_)
  refine j_istore (lv' := [(5, vi r1), (0, vr th), (1, vi p1), (2, vi p2), (3, vi x3), (4, vi x4)]) dX6_endOf_34 (by decide) rfl ?_
  refine j_aload_n 1 dX6_endOf_36 rfl ?_
  refine j_iload 5 dX6_endOf_37 rfl ?_
  refine j_iconst (x := 4) dX6_endOf_39 rfl (by decide) ?_
  refine j_cV (stk := []) [vi x4, vi 4] th dX6_endOf_40 mv_mo_of lm_X6_50 (sub_k hs 0 rfl rfl) zc_6 (ct_mo_of hs h1) rfl rfl ⟨⟨Nat.le_of_ble_eq_true rfl, Nat.le_of_ble_eq_true rfl⟩, Nat.le_of_ble_eq_true rfl, Nat.le_of_ble_eq_true rfl⟩ (Nat.le_of_ble_eq_true rfl) rfl rfl (fun r2 h2 _ => ?_)
  refine j_iload_n 2 dX6_endOf_43 rfl ?_
  refine j_icmp_ne (tgt := 78) dX6_endOf_44 (by decide) ?_ ?_
  · refine j_iload_n 4 dX6_endOf_47 rfl ?_
    refine j_sipush (x := (-999)) dX6_endOf_48 (by decide) (by decide) ?_
    refine j_icmp_eq (tgt := 73) dX6_endOf_51 (by decide) ?_ ?_
    · refine j_sub [1, 2, 3, 5, 0] rfl ?_
      exact jb_mo_endOf_73 hs hk7 _ _ _
    · refine j_iload_n 3 dX6_endOf_54 rfl ?_
      refine j_if_eq (tgt := 67) dX6_endOf_55 (by decide) ?_ ?_
      · refine j_iload 0 dX6_endOf_67 rfl ?_
        refine j_iload_n 4 dX6_endOf_69 rfl ?_
        refine j_icmp_ge (tgt := 78) dX6_endOf_70 (by decide) ?_ ?_
        · refine j_sub [1, 2, 3, 5, 0] rfl ?_
          exact jb_mo_endOf_73 hs hk7 _ _ _
        · refine j_sub [1, 2, 3, 4, 5] rfl ?_
          exact jb_mo_endOf_78 hs hk7 _ _ _
      · refine j_iload 0 dX6_endOf_58 rfl ?_
        refine j_iload_n 4 dX6_endOf_60 rfl ?_
        refine j_icmp_le (tgt := 78) dX6_endOf_61 (by decide) ?_ ?_
        · refine j_goto (tgt := 73) dX6_endOf_64 (by decide) ?_
          refine j_sub [1, 2, 3, 5, 0] rfl ?_
          exact jb_mo_endOf_73 hs hk7 _ _ _
        · refine j_sub [1, 2, 3, 4, 5] rfl ?_
          exact jb_mo_endOf_78 hs hk7 _ _ _
  · refine j_sub [1, 2, 3, 4, 5] rfl ?_
    exact jb_mo_endOf_78 hs hk7 _ _ _

set_option maxRecDepth 100000 in
set_option maxHeartbeats 4000000 in
theorem jl_mo_endOf_7 {lay : List LK} {th : Nat} {p1 : Int} {p2 : Int}  (hs : sub lay th blkModel)  : ∀ (n : Nat) (x3 x4 : Int) (h : Hp), J mi_mo_endOf encI (Same lay) lay 0 0 7 [(0, vr th), (1, vi p1), (2, vi p2), (3, vi x3), (4, vi x4)] [] h (iter2 (mo_endOf_f7 th p1 p2) n x3 x4 h) := by
  refine j_iter2 (lf := fun x3 x4 => [(0, vr th), (1, vi p1), (2, vi p2), (3, vi x3), (4, vi x4)]) (fun k7 hk7 x3 x4 h => ?_)
  unfold mo_endOf_f7
  refine j_iload 4 dX6_endOf_7 rfl ?_
  refine j_aload_n 0 dX6_endOf_9 rfl ?_
  refine j_getR 0 1 0 dX6_endOf_10 zc_6 rfl (sub_k hs 0 rfl rfl) (by decide) lk_X6_7 rfl (by decide) (rfl : th + 1 = (th + 1)) ?_
  refine j_bipush (x := 13) dX6_endOf_13 (by decide) (by decide) ?_
  refine j_iald dX6_endOf_15 (sub_k hs 1 rfl rfl) rfl ?_
  refine j_icmp_ge (tgt := 86) dX6_endOf_16 (by decide) ?_ ?_
  · refine j_aload_n 0 dX6_endOf_19 rfl ?_
    refine j_iload 4 dX6_endOf_20 rfl ?_
    refine j_iload_n 2 dX6_endOf_22 rfl ?_
    refine j_if_eq (tgt := 30) dX6_endOf_23 (by decide) ?_ ?_
    · refine j_iconst (x := 0) dX6_endOf_30 rfl (by decide) ?_
      exact jb_mo_endOf_31 hs hk7 _ _ _ _ _
    · refine j_iconst (x := 1) dX6_endOf_26 rfl (by decide) ?_
      refine j_goto (tgt := 31) dX6_endOf_27 (by decide) ?_
      exact jb_mo_endOf_31 hs hk7 _ _ _ _ _
  · refine j_iload_n 3 dX6_endOf_86 rfl ?_
    exact j_retI (h0 := h) (r := 0) rfl rfl rfl dX6_endOf_87 rfl ⟨Nat.le_refl _, Nat.le_refl _⟩ rfl

set_option maxRecDepth 100000 in
set_option maxHeartbeats 4000000 in
theorem ct_mo_endOf {lay : List LK} {th : Nat} {p1 : Int} {p2 : Int} (hs : sub lay th blkModel) (h : Hp) : CT mi_mo_endOf encI (Same lay) lay [vr th, vi p1, vi p2] h (mo_endOf th p1 p2 h) := by
  refine CT.of (by decide) rfl (Nat.le_of_ble_eq_true rfl) ?_
  show J mi_mo_endOf encI (Same lay) lay 0 0 0 [(0, vr th), (1, vi p1), (2, vi p2)] [] h _
  unfold mo_endOf
  refine j_sipush (x := (-999)) dX6_endOf_0 (by decide) (by decide) ?_
  refine j_istore_n (lv' := [(3, vi (-999)), (0, vr th), (1, vi p1), (2, vi p2)]) dX6_endOf_3 (by decide) rfl ?_
  refine j_iconst (x := 0) dX6_endOf_4 rfl (by decide) ?_
  refine j_istore (lv' := [(4, vi 0), (3, vi (-999)), (0, vr th), (1, vi p1), (2, vi p2)]) dX6_endOf_5 (by decide) rfl ?_
  refine j_sub [2, 3, 4, 1, 0] rfl ?_
  exact jl_mo_endOf_7 hs fuel _ _ _

set_option maxRecDepth 100000 in
set_option maxHeartbeats 4000000 in
theorem jb_mo_isClosed_165 {lay : List LK} {th : Nat} {p1 : Int}  (hs : sub lay th blkModel)  (s0 : Int) (h : Hp) : J mi_mo_isClosed encI (Same lay) lay 0 0 165 [] [vi s0] h (mo_isClosed_b165 th p1 s0 h) := by
  unfold mo_isClosed_b165
  exact j_retZ rfl rfl rfl dX6_isClosed_165 rfl ⟨Nat.le_refl _, Nat.le_refl _⟩ rfl

set_option maxRecDepth 100000 in
set_option maxHeartbeats 4000000 in
theorem jb_mo_isClosed_146 {lay : List LK} {th : Nat} {p1 : Int} {k12 : Int → Int → Int → Hp → O Int} (hs : sub lay th blkModel) (hk12 : ∀ (x2 x3 x4 : Int) (h : Hp), J mi_mo_isClosed encI (Same lay) lay 0 0 12 [(0, vr th), (1, vi p1), (2, vi x2), (3, vi x3), (4, vi x4)] [] h (k12 x2 x3 x4 h)) (x3 x4 s0 : Int) (h : Hp) : J mi_mo_isClosed encI (Same lay) lay 0 0 146 [(0, vr th), (1, vi p1), (3, vi x3), (4, vi x4)] [vi s0] h (mo_isClosed_b146 th p1 k12 x3 x4 s0 h) := by
  unfold mo_isClosed_b146
  refine j_istore_n (lv' := [(2, vi s0), (0, vr th), (1, vi p1), (3, vi x3), (4, vi x4)]) dX6_isClosed_146 (by decide) rfl ?_
  refine j_goto (tgt := 12) dX6_isClosed_147 (by decide) ?_
  refine j_sub [1, 2, 0, 3, 4] rfl ?_
  exact hk12 _ _ _ _

set_option maxRecDepth 100000 in
set_option maxHeartbeats 4000000 in
theorem jb_mo_isClosed_128 {lay : List LK} {th : Nat} {p1 : Int} {k12 : Int → Int → Int → Hp → O Int} (hs : sub lay th blkModel) (hk12 : ∀ (x2 x3 x4 : Int) (h : Hp), J mi_mo_isClosed encI (Same lay) lay 0 0 12 [(0, vr th), (1, vi p1), (2, vi x2), (3, vi x3), (4, vi x4)] [] h (k12 x2 x3 x4 h)) (x2 x4 x5 s0 s1 : Int) (h : Hp) : J mi_mo_isClosed encI (Same lay) lay 0 0 128 [(0, vr th), (1, vi p1), (2, vi x2), (4, vi x4), (5, vi x5)] [vi s0, vi s1] h (mo_isClosed_b128 th p1 k12 x2 x4 x5 s0 s1 h) := by
  unfold mo_isClosed_b128
  refine j_iadd dX6_isClosed_128 ?_
  refine j_istore_n (lv' := [(3, vi (s1 + s0)), (0, vr th), (1, vi p1), (2, vi x2), (4, vi x4), (5, vi x5)]) dX6_isClosed_129 (by decide) rfl ?_
  refine j_iload 4 dX6_isClosed_130 rfl ?_
  refine j_if_eq (tgt := 145) dX6_isClosed_132 (by decide) ?_ ?_
  · refine j_iload_n 3 dX6_isClosed_145 rfl ?_
    refine j_sub [1, 2, 0, 4] rfl ?_
    exact jb_mo_isClosed_146 hs hk12 _ _ _ _
  · refine j_aload_n 1 dX6_isClosed_135 rfl ?_
    refine j_iload 5 dX6_isClosed_136 rfl ?_
    refine j_iconst (x := 1) dX6_isClosed_138 rfl (by decide) ?_
    refine j_cV (stk := []) [vi x5, vi 1] th dX6_isClosed_139 mv_mo_of lm_X6_50 (sub_k hs 0 rfl rfl) zc_6 (ct_mo_of hs h) rfl rfl ⟨⟨Nat.le_of_ble_eq_true rfl, Nat.le_of_ble_eq_true rfl⟩, Nat.le_of_ble_eq_true rfl, Nat.le_of_ble_eq_true rfl⟩ (Nat.le_of_ble_eq_true rfl) rfl rfl (fun r1 h1 _ => ?_)
    refine j_goto (tgt := 146) dX6_isClosed_142 (by decide) ?_
    refine j_sub [1, 2, 0, 4] rfl ?_
    exact jb_mo_isClosed_146 hs hk12 _ _ _ _

set_option maxRecDepth 100000 in
set_option maxHeartbeats 4000000 in
theorem jb_mo_isClosed_115 {lay : List LK} {th : Nat} {p1 : Int} {k12 : Int → Int → Int → Hp → O Int} (hs : sub lay th blkModel) (hk12 : ∀ (x2 x3 x4 : Int) (h : Hp), J mi_mo_isClosed encI (Same lay) lay 0 0 12 [(0, vr th), (1, vi p1), (2, vi x2), (3, vi x3), (4, vi x4)] [] h (k12 x2 x3 x4 h)) (x2 x3 x5 s0 : Int) (h : Hp) : J mi_mo_isClosed encI (Same lay) lay 0 0 115 [(0, vr th), (1, vi p1), (2, vi x2), (3, vi x3), (5, vi x5)] [vi s0] h (mo_isClosed_b115 th p1 k12 x2 x3 x5 s0 h) := by
  unfold mo_isClosed_b115
  refine j_istore (lv' := [(4, vi s0), (0, vr th), (1, vi p1), (2, vi x2), (3, vi x3), (5, vi x5)]) dX6_isClosed_115 (by decide) rfl ?_
  refine j_iload_n 4 dX6_isClosed_117 rfl ?_
  refine j_iload 0 dX6_isClosed_118 rfl ?_
  refine j_if_eq (tgt := 127) dX6_isClosed_120 (by decide) ?_ ?_
  · refine j_iconst (x := 0) dX6_isClosed_127 rfl (by decide) ?_
    refine j_sub [1, 2, 3, 0, 5] rfl ?_
    exact jb_mo_isClosed_128 hs hk12 _ _ _ _ _ _
  · refine j_iconst (x := 1) dX6_isClosed_123 rfl (by decide) ?_
    refine j_goto (tgt := 128) dX6_isClosed_124 (by decide) ?_
    refine j_sub [1, 2, 3, 0, 5] rfl ?_
    exact jb_mo_isClosed_128 hs hk12 _ _ _ _ _ _

set_option maxRecDepth 100000 in
set_option maxHeartbeats 4000000 in
theorem jb_mo_isClosed_95 {lay : List LK} {th : Nat} {p1 : Int} {k28 : Int → Int → Int → Int → Int → Hp → O Int} (hs : sub lay th blkModel) (hk28 : ∀ (x2 x3 x5 x6 x7 : Int) (h : Hp), J mi_mo_isClosed encI (Same lay) lay 0 0 28 [(0, vr th), (1, vi p1), (2, vi x2), (3, vi x3), (5, vi x5), (6, vi x6), (7, vi x7)] [] h (k28 x2 x3 x5 x6 x7 h)) (x2 x3 x5 x7 s0 s1 : Int) (h : Hp) : J mi_mo_isClosed encI (Same lay) lay 0 0 95 [(0, vr th), (1, vi p1), (2, vi x2), (3, vi x3), (5, vi x5), (7, vi x7)] [vi s0, vi s1] h (mo_isClosed_b95 th p1 k28 x2 x3 x5 x7 s0 s1 h) := by
  unfold mo_isClosed_b95
  refine j_iadd dX6_isClosed_95 ?_
  refine j_istore (lv' := [(6, vi (s1 + s0)), (0, vr th), (1, vi p1), (2, vi x2), (3, vi x3), (5, vi x5), (7, vi x7)]) dX6_isClosed_96 (by decide) rfl ?_
  refine j_iinc 6 (lv' := [(7, vi (x7 + 1)), (6, vi (s1 + s0)), (0, vr th), (1, vi p1), (2, vi x2), (3, vi x3), (5, vi x5)]) dX6_isClosed_98 rfl (by decide) rfl ?_
  refine j_goto (tgt := 28) dX6_isClosed_101 (by decide) ?_
  refine j_sub [2, 3, 4, 5, 6, 1, 0] rfl ?_
  exact hk28 _ _ _ _ _ _

set_option maxRecDepth 100000 in
set_option maxHeartbeats 4000000 in
theorem jb_mo_isClosed_81 {lay : List LK} {th : Nat} {p1 : Int} {k28 : Int → Int → Int → Int → Int → Hp → O Int} (hs : sub lay th blkModel) (hk28 : ∀ (x2 x3 x5 x6 x7 : Int) (h : Hp), J mi_mo_isClosed encI (Same lay) lay 0 0 28 [(0, vr th), (1, vi p1), (2, vi x2), (3, vi x3), (5, vi x5), (6, vi x6), (7, vi x7)] [] h (k28 x2 x3 x5 x6 x7 h)) (x2 x3 x6 x7 x8 s0 : Int) (h : Hp) : J mi_mo_isClosed encI (Same lay) lay 0 0 81 [(0, vr th), (1, vi p1), (2, vi x2), (3, vi x3), (6, vi x6), (7, vi x7), (8, vi x8)] [vi s0] h (mo_isClosed_b81 th p1 k28 x2 x3 x6 x7 x8 s0 h) := by
  unfold mo_isClosed_b81
  refine j_istore (lv' := [(5, vi s0), (0, vr th), (1, vi p1), (2, vi x2), (3, vi x3), (6, vi x6), (7, vi x7), (8, vi x8)]) dX6_isClosed_81 (by decide) rfl ?_
  refine j_iload 5 dX6_isClosed_83 rfl ?_
  refine j_iload 7 dX6_isClosed_85 rfl ?_
  refine j_if_eq (tgt := 94) dX6_isClosed_87 (by decide) ?_ ?_
  · refine j_iconst (x := 0) dX6_isClosed_94 rfl (by decide) ?_
    refine j_sub [1, 2, 3, 4, 0, 6] rfl ?_
    exact jb_mo_isClosed_95 hs hk28 _ _ _ _ _ _ _
  · refine j_iconst (x := 1) dX6_isClosed_90 rfl (by decide) ?_
    refine j_goto (tgt := 95) dX6_isClosed_91 (by decide) ?_
    refine j_sub [1, 2, 3, 4, 0, 6] rfl ?_
    exact jb_mo_isClosed_95 hs hk28 _ _ _ _ _ _ _

set_option maxRecDepth 100000 in
set_option maxHeartbeats 4000000 in
theorem jb_mo_isClosed_67 {lay : List LK} {th : Nat} {p1 : Int} {k28 : Int → Int → Int → Int → Int → Hp → O Int} (hs : sub lay th blkModel) (hk28 : ∀ (x2 x3 x5 x6 x7 : Int) (h : Hp), J mi_mo_isClosed encI (Same lay) lay 0 0 28 [(0, vr th), (1, vi p1), (2, vi x2), (3, vi x3), (5, vi x5), (6, vi x6), (7, vi x7)] [] h (k28 x2 x3 x5 x6 x7 h)) (x2 x3 x5 x6 x7 s0 : Int) (h : Hp) : J mi_mo_isClosed encI (Same lay) lay 0 0 67 [(0, vr th), (1, vi p1), (2, vi x2), (3, vi x3), (5, vi x5), (6, vi x6), (7, vi x7)] [vi s0] h (mo_isClosed_b67 th p1 k28 x2 x3 x5 x6 x7 s0 h) := by
  unfold mo_isClosed_b67
  refine j_istore (lv' := [(8, vi s0), (0, vr th), (1, vi p1), (2, vi x2), (3, vi x3), (5, vi x5), (6, vi x6), (7, vi x7)]) dX6_isClosed_67 (by decide) rfl ?_
  refine j_iload 0 dX6_isClosed_69 rfl ?_
  refine j_if_eq (tgt := 79) dX6_isClosed_71 (by decide) ?_ ?_
  · refine j_iload 5 dX6_isClosed_79 rfl ?_
    refine j_sub [1, 2, 3, 4, 6, 7, 0] rfl ?_
    exact jb_mo_isClosed_81 hs hk28 _ _ _ _ _ _ _
  · refine j_iload 7 dX6_isClosed_74 rfl ?_
    refine j_goto (tgt := 81) dX6_isClosed_76 (by decide) ?_
    refine j_sub [1, 2, 3, 4, 6, 7, 0] rfl ?_
    exact jb_mo_isClosed_81 hs hk28 _ _ _ _ _ _ _

set_option maxRecDepth 100000 in
set_option maxHeartbeats 4000000 in
theorem jb_mo_isClosed_66 {lay : List LK} {th : Nat} {p1 : Int} {k28 : Int → Int → Int → Int → Int → Hp → O Int} (hs : sub lay th blkModel) (hk28 : ∀ (x2 x3 x5 x6 x7 : Int) (h : Hp), J mi_mo_isClosed encI (Same lay) lay 0 0 28 [(0, vr th), (1, vi p1), (2, vi x2), (3, vi x3), (5, vi x5), (6, vi x6), (7, vi x7)] [] h (k28 x2 x3 x5 x6 x7 h)) (x2 x3 x5 x6 x7 : Int) (h : Hp) : J mi_mo_isClosed encI (Same lay) lay 0 0 66 [(0, vr th), (1, vi p1), (2, vi x2), (3, vi x3), (5, vi x5), (6, vi x6), (7, vi x7)] [] h (mo_isClosed_b66 th p1 k28 x2 x3 x5 x6 x7 h) := by
  unfold mo_isClosed_b66
  refine j_iconst (x := 0) dX6_isClosed_66 rfl (by decide) ?_
  exact jb_mo_isClosed_67 hs hk28 _ _ _ _ _ _ _

set_option maxRecDepth 100000 in
set_option maxHeartbeats 4000000 in
theorem jl_mo_isClosed_28 {lay : List LK} {th : Nat} {p1 : Int} {k12 : Int → Int → Int → Hp → O Int} (hs : sub lay th blkModel) (hk12 : ∀ (x2 x3 x4 : Int) (h : Hp), J mi_mo_isClosed encI (Same lay) lay 0 0 12 [(0, vr th), (1, vi p1), (2, vi x2), (3, vi x3), (4, vi x4)] [] h (k12 x2 x3 x4 h)) : ∀ (n : Nat) (x2 x3 x5 x6 x7 : Int) (h : Hp), J mi_mo_isClosed encI (Same lay) lay 0 0 28 [(0, vr th), (1, vi p1), (2, vi x2), (3, vi x3), (5, vi x5), (6, vi x6), (7, vi x7)] [] h (iter5 (mo_isClosed_f28 th p1 k12) n x2 x3 x5 x6 x7 h) := by
  refine j_iter5 (lf := fun x2 x3 x5 x6 x7 => [(0, vr th), (1, vi p1), (2, vi x2), (3, vi x3), (5, vi x5), (6, vi x6), (7, vi x7)]) (fun k28 hk28 x2 x3 x5 x6 x7 h => ?_)
  unfold mo_isClosed_f28
  refine j_iload 6 dX6_isClosed_28 rfl ?_
  refine j_aload_n 0 dX6_isClosed_30 rfl ?_
  refine j_getR 0 1 0 dX6_isClosed_31 zc_6 rfl (sub_k hs 0 rfl rfl) (by decide) lk_X6_7 rfl (by decide) (rfl : th + 1 = (th + 1)) ?_
  refine j_bipush (x := 13) dX6_isClosed_34 (by decide) (by decide) ?_
  refine j_iald dX6_isClosed_36 (sub_k hs 1 rfl rfl) rfl ?_
  refine j_icmp_ge (tgt := 104) dX6_isClosed_37 (by decide) ?_ ?_
  · refine j_aload_n 0 dX6_isClosed_40 rfl ?_
    refine j_iload 6 dX6_isClosed_41 rfl ?_
    refine j_iconst (x := 4) dX6_isClosed_43 rfl (by decide) ?_
    refine j_cV (stk := []) [vi x7, vi 4] th dX6_isClosed_44 mv_mo_of lm_X6_50 (sub_k hs 0 rfl rfl) zc_6 (ct_mo_of hs h) rfl rfl ⟨⟨Nat.le_of_ble_eq_true rfl, Nat.le_of_ble_eq_true rfl⟩, Nat.le_of_ble_eq_true rfl, Nat.le_of_ble_eq_true rfl⟩ (Nat.le_of_ble_eq_true rfl) rfl rfl (fun r1 h1 _ => ?_)
    refine j_iload_n 1 dX6_isClosed_47 rfl ?_
    refine j_icmp_ne (tgt := 66) dX6_isClosed_48 (by decide) ?_ ?_
    · refine j_aload_n 0 dX6_isClosed_51 rfl ?_
      refine j_iload 6 dX6_isClosed_52 rfl ?_
      refine j_iconst (x := 0) dX6_isClosed_54 rfl (by decide) ?_
      refine j_cV (stk := []) [vi x7, vi 0] th dX6_isClosed_55 mv_mo_of lm_X6_50 (sub_k hs 0 rfl rfl) zc_6 (ct_mo_of hs h1) rfl rfl ⟨⟨Nat.le_of_ble_eq_true rfl, Nat.le_of_ble_eq_true rfl⟩, Nat.le_of_ble_eq_true rfl, Nat.le_of_ble_eq_true rfl⟩ (Nat.le_of_ble_eq_true rfl) rfl rfl (fun r2 h2 _ => ?_)
      refine j_iload_n 2 dX6_isClosed_58 rfl ?_
      refine j_icmp_ne (tgt := 66) dX6_isClosed_59 (by decide) ?_ ?_
      · refine j_iconst (x := 1) dX6_isClosed_62 rfl (by decide) ?_
        refine j_goto (tgt := 67) dX6_isClosed_63 (by decide) ?_
        exact jb_mo_isClosed_67 hs hk28 _ _ _ _ _ _ _
      · exact jb_mo_isClosed_66 hs hk28 _ _ _ _ _ _
    · exact jb_mo_isClosed_66 hs hk28 _ _ _ _ _ _
  · refine j_iload 5 dX6_isClosed_104 rfl ?_
    refine j_iconst (x := 1) dX6_isClosed_106 rfl (by decide) ?_
    refine j_icmp_ne (tgt := 114) dX6_isClosed_107 (by decide) ?_ ?_
    · refine j_iconst (x := 1) dX6_isClosed_110 rfl (by decide) ?_
      refine j_goto (tgt := 115) dX6_isClosed_111 (by decide) ?_
      refine j_sub [0, 1, 2, 3, 4] rfl ?_
      exact jb_mo_isClosed_115 hs hk12 _ _ _ _ _
    · refine j_iconst (x := 0) dX6_isClosed_114 rfl (by decide) ?_
      refine j_sub [0, 1, 2, 3, 4] rfl ?_
      exact jb_mo_isClosed_115 hs hk12 _ _ _ _ _

set_option maxRecDepth 100000 in
set_option maxHeartbeats 4000000 in
theorem jl_mo_isClosed_12 {lay : List LK} {th : Nat} {p1 : Int}  (hs : sub lay th blkModel)  : ∀ (n : Nat) (x2 x3 x4 : Int) (h : Hp), J mi_mo_isClosed encI (Same lay) lay 0 0 12 [(0, vr th), (1, vi p1), (2, vi x2), (3, vi x3), (4, vi x4)] [] h (iter3 (mo_isClosed_f12 th p1) n x2 x3 x4 h) := by
  refine j_iter3 (lf := fun x2 x3 x4 => [(0, vr th), (1, vi p1), (2, vi x2), (3, vi x3), (4, vi x4)]) (fun k12 hk12 x2 x3 x4 h => ?_)
  unfold mo_isClosed_f12
  refine j_iload 4 dX6_isClosed_12 rfl ?_
  refine j_if_eq (tgt := 150) dX6_isClosed_14 (by decide) ?_ ?_
  · refine j_iload_n 3 dX6_isClosed_150 rfl ?_
    refine j_aload_n 0 dX6_isClosed_151 rfl ?_
    refine j_iload_n 1 dX6_isClosed_152 rfl ?_
    refine j_iconst (x := 0) dX6_isClosed_153 rfl (by decide) ?_
    refine j_cV (stk := [vi x3]) [vi p1, vi 0] th dX6_isClosed_154 mv_mo_sumOf lm_X6_237 (sub_k hs 0 rfl rfl) zc_6 (ct_mo_sumOf hs h) rfl rfl ⟨⟨Nat.le_of_ble_eq_true rfl, Nat.le_of_ble_eq_true rfl⟩, Nat.le_of_ble_eq_true rfl, Nat.le_of_ble_eq_true rfl⟩ (Nat.le_of_ble_eq_true rfl) rfl rfl (fun r1 h1 _ => ?_)
    refine j_icmp_ne (tgt := 164) dX6_isClosed_157 (by decide) ?_ ?_
    · refine j_iconst (x := 1) dX6_isClosed_160 rfl (by decide) ?_
      refine j_goto (tgt := 165) dX6_isClosed_161 (by decide) ?_
      refine j_sub [] rfl ?_
      exact jb_mo_isClosed_165 hs _ _
    · refine j_iconst (x := 0) dX6_isClosed_164 rfl (by decide) ?_
      refine j_sub [] rfl ?_
      exact jb_mo_isClosed_165 hs _ _
  · refine j_sipush (x := (-999)) dX6_isClosed_17 (by decide) (by decide) ?_
    refine j_istore (lv' := [(5, vi (-999)), (0, vr th), (1, vi p1), (2, vi x2), (3, vi x3), (4, vi x4)]) dX6_isClosed_20 (by decide) rfl ?_
    refine j_iconst (x := 0) dX6_isClosed_22 rfl (by decide) ?_
    refine j_istore (lv' := [(6, vi 0), (5, vi (-999)), (0, vr th), (1, vi p1), (2, vi x2), (3, vi x3), (4, vi x4)]) dX6_isClosed_23 (by decide) rfl ?_
    refine j_iconst (x := 0) dX6_isClosed_25 rfl (by decide) ?_
    refine j_istore (lv' := [(7, vi 0), (6, vi 0), (5, vi (-999)), (0, vr th), (1, vi p1), (2, vi x2), (3, vi x3), (4, vi x4)]) dX6_isClosed_26 (by decide) rfl ?_
    refine j_sub [3, 4, 5, 6, 2, 1, 0] rfl ?_
    exact jl_mo_isClosed_28 hs hk12 fuel _ _ _ _ _ _

set_option maxRecDepth 100000 in
set_option maxHeartbeats 4000000 in
theorem ct_mo_isClosed {lay : List LK} {th : Nat} {p1 : Int} (hs : sub lay th blkModel) (h : Hp) : CT mi_mo_isClosed encI (Same lay) lay [vr th, vi p1] h (mo_isClosed th p1 h) := by
  refine CT.of (by decide) rfl (Nat.le_of_ble_eq_true rfl) ?_
  show J mi_mo_isClosed encI (Same lay) lay 0 0 0 [(0, vr th), (1, vi p1)] [] h _
  unfold mo_isClosed
  refine j_aload_n 0 dX6_isClosed_0 rfl ?_
  refine j_iload_n 1 dX6_isClosed_1 rfl ?_
  refine j_iconst (x := 0) dX6_isClosed_2 rfl (by decide) ?_
  refine j_cV (stk := []) [vi p1, vi 0] th dX6_isClosed_3 mv_mo_endOf lm_X6_233 (sub_k hs 0 rfl rfl) zc_6 (ct_mo_endOf hs h) rfl rfl ⟨⟨Nat.le_of_ble_eq_true rfl, Nat.le_of_ble_eq_true rfl⟩, Nat.le_of_ble_eq_true rfl, Nat.le_of_ble_eq_true rfl⟩ (Nat.le_of_ble_eq_true rfl) rfl rfl (fun r1 h1 _ => ?_)
  refine j_istore_n (lv' := [(2, vi r1), (0, vr th), (1, vi p1)]) dX6_isClosed_6 (by decide) rfl ?_
  refine j_iconst (x := 0) dX6_isClosed_7 rfl (by decide) ?_
  refine j_istore_n (lv' := [(3, vi 0), (2, vi r1), (0, vr th), (1, vi p1)]) dX6_isClosed_8 (by decide) rfl ?_
  refine j_iconst (x := 1) dX6_isClosed_9 rfl (by decide) ?_
  refine j_istore (lv' := [(4, vi 1), (3, vi 0), (2, vi r1), (0, vr th), (1, vi p1)]) dX6_isClosed_10 (by decide) rfl ?_
  refine j_sub [3, 4, 2, 1, 0] rfl ?_
  exact jl_mo_isClosed_12 hs fuel _ _ _ _

set_option maxRecDepth 100000 in
set_option maxHeartbeats 4000000 in
theorem jb_mo_over_55 {lay : List LK} {th : Nat} {p1 : Int} {k2 : Int → Hp → O Int} (hs : sub lay th blkModel) (hk2 : ∀ (x2 : Int) (h : Hp), J mi_mo_over encI (Same lay) lay 0 0 2 [(0, vr th), (1, vi p1), (2, vi x2)] [] h (k2 x2 h)) (x2 : Int) (h : Hp) : J mi_mo_over encI (Same lay) lay 0 0 55 [(0, vr th), (1, vi p1), (2, vi x2)] [] h (mo_over_b55 th p1 k2 x2 h) := by
  unfold mo_over_b55
  refine j_iinc 2 (lv' := [(2, vi (x2 + 1)), (0, vr th), (1, vi p1)]) dX6_over_55 rfl (by decide) rfl ?_
  refine j_goto (tgt := 2) dX6_over_58 (by decide) ?_
  refine j_sub [1, 2, 0] rfl ?_
  exact hk2 _ _

set_option maxRecDepth 100000 in
set_option maxHeartbeats 4000000 in
theorem jl_mo_over_2 {lay : List LK} {th : Nat} {p1 : Int}  (hs : sub lay th blkModel)  : ∀ (n : Nat) (x2 : Int) (h : Hp), J mi_mo_over encI (Same lay) lay 0 0 2 [(0, vr th), (1, vi p1), (2, vi x2)] [] h (iter1 (mo_over_f2 th p1) n x2 h) := by
  refine j_iter1 (lf := fun x2 => [(0, vr th), (1, vi p1), (2, vi x2)]) (fun k2 hk2 x2 h => ?_)
  unfold mo_over_f2
  refine j_iload_n 2 dX6_over_2 rfl ?_
  refine j_aload_n 0 dX6_over_3 rfl ?_
  refine j_getR 0 1 0 dX6_over_4 zc_6 rfl (sub_k hs 0 rfl rfl) (by decide) lk_X6_7 rfl (by decide) (rfl : th + 1 = (th + 1)) ?_
  refine j_bipush (x := 13) dX6_over_7 (by decide) (by decide) ?_
  refine j_iald dX6_over_9 (sub_k hs 1 rfl rfl) rfl ?_
  refine j_icmp_ge (tgt := 61) dX6_over_10 (by decide) ?_ ?_
  · refine j_aload_n 0 dX6_over_13 rfl ?_
    refine j_iload_n 2 dX6_over_14 rfl ?_
    refine j_iconst (x := 4) dX6_over_15 rfl (by decide) ?_
    refine j_cV (stk := []) [vi x2, vi 4] th dX6_over_16 mv_mo_of lm_X6_50 (sub_k hs 0 rfl rfl) zc_6 (ct_mo_of hs h) rfl rfl ⟨⟨Nat.le_of_ble_eq_true rfl, Nat.le_of_ble_eq_true rfl⟩, Nat.le_of_ble_eq_true rfl, Nat.le_of_ble_eq_true rfl⟩ (Nat.le_of_ble_eq_true rfl) rfl rfl (fun r1 h1 _ => ?_)
    refine j_iload_n 1 dX6_over_19 rfl ?_
    refine j_icmp_eq (tgt := 55) dX6_over_20 (by decide) ?_ ?_
    · exact jb_mo_over_55 hs hk2 _ _
    · refine j_aload_n 0 dX6_over_23 rfl ?_
      refine j_iload_n 2 dX6_over_24 rfl ?_
      refine j_iconst (x := 0) dX6_over_25 rfl (by decide) ?_
      refine j_cV (stk := []) [vi x2, vi 0] th dX6_over_26 mv_mo_of lm_X6_50 (sub_k hs 0 rfl rfl) zc_6 (ct_mo_of hs h1) rfl rfl ⟨⟨Nat.le_of_ble_eq_true rfl, Nat.le_of_ble_eq_true rfl⟩, Nat.le_of_ble_eq_true rfl, Nat.le_of_ble_eq_true rfl⟩ (Nat.le_of_ble_eq_true rfl) rfl rfl (fun r2 h2 _ => ?_)
      refine j_aload_n 0 dX6_over_29 rfl ?_
      refine j_iload_n 1 dX6_over_30 rfl ?_
      refine j_iconst (x := 0) dX6_over_31 rfl (by decide) ?_
      refine j_cV (stk := [vi r2]) [vi p1, vi 0] th dX6_over_32 mv_mo_endOf lm_X6_233 (sub_k hs 0 rfl rfl) zc_6 (ct_mo_endOf hs h2) rfl rfl ⟨⟨Nat.le_of_ble_eq_true rfl, Nat.le_of_ble_eq_true rfl⟩, Nat.le_of_ble_eq_true rfl, Nat.le_of_ble_eq_true rfl⟩ (Nat.le_of_ble_eq_true rfl) rfl rfl (fun r3 h3 _ => ?_)
      refine j_icmp_ne (tgt := 55) dX6_over_35 (by decide) ?_ ?_
      · refine j_aload_n 0 dX6_over_38 rfl ?_
        refine j_iload_n 2 dX6_over_39 rfl ?_
        refine j_iconst (x := 1) dX6_over_40 rfl (by decide) ?_
        refine j_cV (stk := []) [vi x2, vi 1] th dX6_over_41 mv_mo_of lm_X6_50 (sub_k hs 0 rfl rfl) zc_6 (ct_mo_of hs h3) rfl rfl ⟨⟨Nat.le_of_ble_eq_true rfl, Nat.le_of_ble_eq_true rfl⟩, Nat.le_of_ble_eq_true rfl, Nat.le_of_ble_eq_true rfl⟩ (Nat.le_of_ble_eq_true rfl) rfl rfl (fun r4 h4 _ => ?_)
        refine j_aload_n 0 dX6_over_44 rfl ?_
        refine j_iload_n 1 dX6_over_45 rfl ?_
        refine j_iconst (x := 1) dX6_over_46 rfl (by decide) ?_
        refine j_cV (stk := [vi r4]) [vi p1, vi 1] th dX6_over_47 mv_mo_endOf lm_X6_233 (sub_k hs 0 rfl rfl) zc_6 (ct_mo_endOf hs h4) rfl rfl ⟨⟨Nat.le_of_ble_eq_true rfl, Nat.le_of_ble_eq_true rfl⟩, Nat.le_of_ble_eq_true rfl, Nat.le_of_ble_eq_true rfl⟩ (Nat.le_of_ble_eq_true rfl) rfl rfl (fun r5 h5 _ => ?_)
        refine j_icmp_ne (tgt := 55) dX6_over_50 (by decide) ?_ ?_
        · refine j_iload_n 2 dX6_over_53 rfl ?_
          exact j_retI (h0 := h5) (r := 0) rfl rfl rfl dX6_over_54 rfl ⟨Nat.le_refl _, Nat.le_refl _⟩ rfl
        · exact jb_mo_over_55 hs hk2 _ _
      · exact jb_mo_over_55 hs hk2 _ _
  · refine j_sipush (x := (-999)) dX6_over_61 (by decide) (by decide) ?_
    exact j_retI (h0 := h) (r := 0) rfl rfl rfl dX6_over_64 rfl ⟨Nat.le_refl _, Nat.le_refl _⟩ rfl

set_option maxRecDepth 100000 in
set_option maxHeartbeats 4000000 in
theorem ct_mo_over {lay : List LK} {th : Nat} {p1 : Int} (hs : sub lay th blkModel) (h : Hp) : CT mi_mo_over encI (Same lay) lay [vr th, vi p1] h (mo_over th p1 h) := by
  refine CT.of (by decide) rfl (Nat.le_of_ble_eq_true rfl) ?_
  show J mi_mo_over encI (Same lay) lay 0 0 0 [(0, vr th), (1, vi p1)] [] h _
  unfold mo_over
  refine j_iconst (x := 0) dX6_over_0 rfl (by decide) ?_
  refine j_istore_n (lv' := [(2, vi 0), (0, vr th), (1, vi p1)]) dX6_over_1 (by decide) rfl ?_
  refine j_sub [1, 2, 0] rfl ?_
  exact jl_mo_over_2 hs fuel _ _

set_option maxRecDepth 100000 in
set_option maxHeartbeats 4000000 in
theorem jl_mo_laneOfChain_6 {lay : List LK} {th : Nat} {p1 : Int}  (hs : sub lay th blkModel)  : ∀ (n : Nat) (x2 : Int) (h : Hp), J mi_mo_laneOfChain encI (Same lay) lay 0 0 6 [(0, vr th), (1, vi p1), (2, vi x2)] [] h (iter1 (mo_laneOfChain_f6 th p1) n x2 h) := by
  refine j_iter1 (lf := fun x2 => [(0, vr th), (1, vi p1), (2, vi x2)]) (fun k6 hk6 x2 h => ?_)
  unfold mo_laneOfChain_f6
  refine j_aload_n 0 dX6_laneOfChain_6 rfl ?_
  refine j_iload_n 2 dX6_laneOfChain_7 rfl ?_
  refine j_iconst (x := 4) dX6_laneOfChain_8 rfl (by decide) ?_
  refine j_cV (stk := []) [vi x2, vi 4] th dX6_laneOfChain_9 mv_mo_of lm_X6_50 (sub_k hs 0 rfl rfl) zc_6 (ct_mo_of hs h) rfl rfl ⟨⟨Nat.le_of_ble_eq_true rfl, Nat.le_of_ble_eq_true rfl⟩, Nat.le_of_ble_eq_true rfl, Nat.le_of_ble_eq_true rfl⟩ (Nat.le_of_ble_eq_true rfl) rfl rfl (fun r1 h1 _ => ?_)
  refine j_iload_n 1 dX6_laneOfChain_12 rfl ?_
  refine j_icmp_eq (tgt := 22) dX6_laneOfChain_13 (by decide) ?_ ?_
  · refine j_aload_n 0 dX6_laneOfChain_22 rfl ?_
    refine j_iload_n 2 dX6_laneOfChain_23 rfl ?_
    refine j_cV (stk := []) [vi x2] th dX6_laneOfChain_24 mv_mo_laneOf lm_X6_184 (sub_k hs 0 rfl rfl) zc_6 (ct_mo_laneOf hs h1) rfl rfl ⟨⟨Nat.le_of_ble_eq_true rfl, Nat.le_of_ble_eq_true rfl⟩, Nat.le_of_ble_eq_true rfl, Nat.le_of_ble_eq_true rfl⟩ (Nat.le_of_ble_eq_true rfl) rfl rfl (fun r2 h2 _ => ?_)
    exact j_retI (h0 := h2) (r := 0) rfl rfl rfl dX6_laneOfChain_27 rfl ⟨Nat.le_refl _, Nat.le_refl _⟩ rfl
  · refine j_iinc 2 (lv' := [(2, vi (x2 + 1)), (0, vr th), (1, vi p1)]) dX6_laneOfChain_16 rfl (by decide) rfl ?_
    refine j_goto (tgt := 6) dX6_laneOfChain_19 (by decide) ?_
    refine j_sub [1, 2, 0] rfl ?_
    exact hk6 _ _

set_option maxRecDepth 100000 in
set_option maxHeartbeats 4000000 in
theorem ct_mo_laneOfChain {lay : List LK} {th : Nat} {p1 : Int} (hs : sub lay th blkModel) (h : Hp) : CT mi_mo_laneOfChain encI (Same lay) lay [vr th, vi p1] h (mo_laneOfChain th p1 h) := by
  refine CT.of (by decide) rfl (Nat.le_of_ble_eq_true rfl) ?_
  show J mi_mo_laneOfChain encI (Same lay) lay 0 0 0 [(0, vr th), (1, vi p1)] [] h _
  unfold mo_laneOfChain
  refine j_aload_n 0 dX6_laneOfChain_0 rfl ?_
  refine j_cV (stk := []) [] th dX6_laneOfChain_1 mv_mo_laysLanes lm_X6_212 (sub_k hs 0 rfl rfl) zc_6 (ct_mo_laysLanes hs h) rfl rfl ⟨⟨Nat.le_of_ble_eq_true rfl, Nat.le_of_ble_eq_true rfl⟩, Nat.le_of_ble_eq_true rfl, Nat.le_of_ble_eq_true rfl⟩ (Nat.le_of_ble_eq_true rfl) rfl rfl (fun _ h1 _ => ?_)
  refine j_iconst (x := 0) dX6_laneOfChain_4 rfl (by decide) ?_
  refine j_istore_n (lv' := [(2, vi 0), (0, vr th), (1, vi p1)]) dX6_laneOfChain_5 (by decide) rfl ?_
  refine j_sub [1, 2, 0] rfl ?_
  exact jl_mo_laneOfChain_6 hs fuel _ _

set_option maxRecDepth 100000 in
set_option maxHeartbeats 4000000 in
theorem jb_mo_chain_142 {lay : List LK} {th : Nat} {p1 : Int} {p2 : Int}  (hs : sub lay th blkModel)  (h : Hp) : J mi_mo_chain encI (Same lay) lay 0 0 142 [(0, vr th), (1, vi p1)] [] h (mo_chain_b142 th p1 p2 h) := by
  unfold mo_chain_b142
  refine j_aload_n 0 dX6_chain_142 rfl ?_
  refine j_iload_n 1 dX6_chain_143 rfl ?_
  refine j_cV (stk := []) [vi p1] th dX6_chain_144 mv_mo_laneOfChain lm_X6_246 (sub_k hs 0 rfl rfl) zc_6 (ct_mo_laneOfChain hs h) rfl rfl ⟨⟨Nat.le_of_ble_eq_true rfl, Nat.le_of_ble_eq_true rfl⟩, Nat.le_of_ble_eq_true rfl, Nat.le_of_ble_eq_true rfl⟩ (Nat.le_of_ble_eq_true rfl) rfl rfl (fun r1 h1 _ => ?_)
  exact j_retI (h0 := h1) (r := 0) rfl rfl rfl dX6_chain_147 rfl ⟨Nat.le_refl _, Nat.le_refl _⟩ rfl

set_option maxRecDepth 100000 in
set_option maxHeartbeats 4000000 in
theorem jb_mo_chain_135 {lay : List LK} {th : Nat} {p1 : Int} {p2 : Int}  (hs : sub lay th blkModel)  (s0 : Int) (h : Hp) : J mi_mo_chain encI (Same lay) lay 0 0 135 [] [vi s0] h (mo_chain_b135 th p1 p2 s0 h) := by
  unfold mo_chain_b135
  exact j_retI (h0 := h) (r := 0) rfl rfl rfl dX6_chain_135 rfl ⟨Nat.le_refl _, Nat.le_refl _⟩ rfl

set_option maxRecDepth 100000 in
set_option maxHeartbeats 4000000 in
theorem jb_mo_chain_35 {lay : List LK} {th : Nat} {p1 : Int} {p2 : Int}  (hs : sub lay th blkModel)  (h : Hp) : J mi_mo_chain encI (Same lay) lay 0 0 35 [(0, vr th), (1, vi p1), (2, vi p2)] [] h (mo_chain_b35 th p1 p2 h) := by
  unfold mo_chain_b35
  refine j_aload_n 0 dX6_chain_35 rfl ?_
  refine j_iload_n 1 dX6_chain_36 rfl ?_
  refine j_iload_n 2 dX6_chain_37 rfl ?_
  refine j_cV (stk := []) [vi p1, vi p2] th dX6_chain_38 mv_mo_sumOf lm_X6_237 (sub_k hs 0 rfl rfl) zc_6 (ct_mo_sumOf hs h) rfl rfl ⟨⟨Nat.le_of_ble_eq_true rfl, Nat.le_of_ble_eq_true rfl⟩, Nat.le_of_ble_eq_true rfl, Nat.le_of_ble_eq_true rfl⟩ (Nat.le_of_ble_eq_true rfl) rfl rfl (fun r1 h1 _ => ?_)
  exact j_retI (h0 := h1) (r := 0) rfl rfl rfl dX6_chain_41 rfl ⟨Nat.le_refl _, Nat.le_refl _⟩ rfl

set_option maxRecDepth 100000 in
set_option maxHeartbeats 4000000 in
theorem jb_mo_chain_19 {lay : List LK} {th : Nat} {p1 : Int} {p2 : Int}  (hs : sub lay th blkModel)  (h : Hp) : J mi_mo_chain encI (Same lay) lay 0 0 19 [] [] h (mo_chain_b19 th p1 p2 h) := by
  unfold mo_chain_b19
  refine j_iconst (x := (-1)) dX6_chain_19 rfl (by decide) ?_
  exact j_retI (h0 := h) (r := 0) rfl rfl rfl dX6_chain_20 rfl ⟨Nat.le_refl _, Nat.le_refl _⟩ rfl

set_option maxRecDepth 100000 in
set_option maxHeartbeats 4000000 in
theorem ct_mo_chain {lay : List LK} {th : Nat} {p1 : Int} {p2 : Int} (hs : sub lay th blkModel) (h : Hp) : CT mi_mo_chain encI (Same lay) lay [vr th, vi p1, vi p2] h (mo_chain th p1 p2 h) := by
  refine CT.of (by decide) rfl (Nat.le_of_ble_eq_true rfl) ?_
  show J mi_mo_chain encI (Same lay) lay 0 0 0 [(0, vr th), (1, vi p1), (2, vi p2)] [] h _
  unfold mo_chain
  refine j_iload_n 1 dX6_chain_0 rfl ?_
  refine j_iconst (x := 1) dX6_chain_1 rfl (by decide) ?_
  refine j_iconst (x := 5) dX6_chain_2 rfl (by decide) ?_
  refine j_cS (stk := []) [vi p1, vi 1, vi 5] dX6_chain_3 mv_mo_in lm_X6_46 (ct_mo_in h) rfl rfl ⟨⟨Nat.le_of_ble_eq_true rfl, Nat.le_of_ble_eq_true rfl⟩, Nat.le_of_ble_eq_true rfl, Nat.le_of_ble_eq_true rfl⟩ (Nat.le_of_ble_eq_true rfl) rfl rfl (fun r1 h1 _ => ?_)
  refine j_if_eq (tgt := 19) dX6_chain_6 (by decide) ?_ ?_
  · refine j_sub [] rfl ?_
    exact jb_mo_chain_19 hs _
  · refine j_iload_n 2 dX6_chain_9 rfl ?_
    refine j_iconst (x := 0) dX6_chain_10 rfl (by decide) ?_
    refine j_bipush (x := 8) dX6_chain_11 (by decide) (by decide) ?_
    refine j_cS (stk := []) [vi p2, vi 0, vi 8] dX6_chain_13 mv_mo_in lm_X6_46 (ct_mo_in h1) rfl rfl ⟨⟨Nat.le_of_ble_eq_true rfl, Nat.le_of_ble_eq_true rfl⟩, Nat.le_of_ble_eq_true rfl, Nat.le_of_ble_eq_true rfl⟩ (Nat.le_of_ble_eq_true rfl) rfl rfl (fun r2 h2 _ => ?_)
    refine j_if_ne (tgt := 21) dX6_chain_16 (by decide) ?_ ?_
    · refine j_sub [] rfl ?_
      exact jb_mo_chain_19 hs _
    · refine j_iload_n 2 dX6_chain_21 rfl ?_
      refine j_if_eq (tgt := 35) dX6_chain_22 (by decide) ?_ ?_
      · exact jb_mo_chain_35 hs _
      · refine j_iload_n 2 dX6_chain_25 rfl ?_
        refine j_iconst (x := 4) dX6_chain_26 rfl (by decide) ?_
        refine j_bipush (x := 6) dX6_chain_27 (by decide) (by decide) ?_
        refine j_cS (stk := []) [vi p2, vi 4, vi 6] dX6_chain_29 mv_mo_in lm_X6_46 (ct_mo_in h2) rfl rfl ⟨⟨Nat.le_of_ble_eq_true rfl, Nat.le_of_ble_eq_true rfl⟩, Nat.le_of_ble_eq_true rfl, Nat.le_of_ble_eq_true rfl⟩ (Nat.le_of_ble_eq_true rfl) rfl rfl (fun r3 h3 _ => ?_)
        refine j_if_eq (tgt := 42) dX6_chain_32 (by decide) ?_ ?_
        · refine j_aload_n 0 dX6_chain_42 rfl ?_
          refine j_iload_n 1 dX6_chain_43 rfl ?_
          refine j_iconst (x := 0) dX6_chain_44 rfl (by decide) ?_
          refine j_cV (stk := []) [vi p1, vi 0] th dX6_chain_45 mv_mo_sumOf lm_X6_237 (sub_k hs 0 rfl rfl) zc_6 (ct_mo_sumOf hs h3) rfl rfl ⟨⟨Nat.le_of_ble_eq_true rfl, Nat.le_of_ble_eq_true rfl⟩, Nat.le_of_ble_eq_true rfl, Nat.le_of_ble_eq_true rfl⟩ (Nat.le_of_ble_eq_true rfl) rfl rfl (fun r4 h4 _ => ?_)
          refine j_if_ne (tgt := 55) dX6_chain_48 (by decide) ?_ ?_
          · refine j_sipush (x := (-999)) dX6_chain_51 (by decide) (by decide) ?_
            exact j_retI (h0 := h4) (r := 0) rfl rfl rfl dX6_chain_54 rfl ⟨Nat.le_refl _, Nat.le_refl _⟩ rfl
          · refine j_iload_n 2 dX6_chain_55 rfl ?_
            refine j_table [100, 111, 122, 142, 142, 142, 136] 142 dX6_chain_56 rfl (by decide) (by decide) ⟨?_, ?_, ?_, ?_, ?_, ?_, ?_, trivial⟩ ?_
            · refine j_aload_n 0 dX6_chain_100 rfl ?_
              refine j_aload_n 0 dX6_chain_101 rfl ?_
              refine j_iload_n 1 dX6_chain_102 rfl ?_
              refine j_iconst (x := 0) dX6_chain_103 rfl (by decide) ?_
              refine j_cV (stk := [vr th]) [vi p1, vi 0] th dX6_chain_104 mv_mo_endOf lm_X6_233 (sub_k hs 0 rfl rfl) zc_6 (ct_mo_endOf hs h4) rfl rfl ⟨⟨Nat.le_of_ble_eq_true rfl, Nat.le_of_ble_eq_true rfl⟩, Nat.le_of_ble_eq_true rfl, Nat.le_of_ble_eq_true rfl⟩ (Nat.le_of_ble_eq_true rfl) rfl rfl (fun r5 h5 _ => ?_)
              refine j_cV (stk := []) [vi r5] th dX6_chain_107 mv_mo_position lm_X6_54 (sub_k hs 0 rfl rfl) zc_6 (ct_mo_position hs h5) rfl rfl ⟨⟨Nat.le_of_ble_eq_true rfl, Nat.le_of_ble_eq_true rfl⟩, Nat.le_of_ble_eq_true rfl, Nat.le_of_ble_eq_true rfl⟩ (Nat.le_of_ble_eq_true rfl) rfl rfl (fun r6 h6 _ => ?_)
              exact j_retI (h0 := h6) (r := 0) rfl rfl rfl dX6_chain_110 rfl ⟨Nat.le_refl _, Nat.le_refl _⟩ rfl
            · refine j_aload_n 0 dX6_chain_111 rfl ?_
              refine j_aload_n 0 dX6_chain_112 rfl ?_
              refine j_iload_n 1 dX6_chain_113 rfl ?_
              refine j_iconst (x := 1) dX6_chain_114 rfl (by decide) ?_
              refine j_cV (stk := [vr th]) [vi p1, vi 1] th dX6_chain_115 mv_mo_endOf lm_X6_233 (sub_k hs 0 rfl rfl) zc_6 (ct_mo_endOf hs h4) rfl rfl ⟨⟨Nat.le_of_ble_eq_true rfl, Nat.le_of_ble_eq_true rfl⟩, Nat.le_of_ble_eq_true rfl, Nat.le_of_ble_eq_true rfl⟩ (Nat.le_of_ble_eq_true rfl) rfl rfl (fun r7 h7 _ => ?_)
              refine j_cV (stk := []) [vi r7] th dX6_chain_118 mv_mo_position lm_X6_54 (sub_k hs 0 rfl rfl) zc_6 (ct_mo_position hs h7) rfl rfl ⟨⟨Nat.le_of_ble_eq_true rfl, Nat.le_of_ble_eq_true rfl⟩, Nat.le_of_ble_eq_true rfl, Nat.le_of_ble_eq_true rfl⟩ (Nat.le_of_ble_eq_true rfl) rfl rfl (fun r8 h8 _ => ?_)
              exact j_retI (h0 := h8) (r := 0) rfl rfl rfl dX6_chain_121 rfl ⟨Nat.le_refl _, Nat.le_refl _⟩ rfl
            · refine j_aload_n 0 dX6_chain_122 rfl ?_
              refine j_iload_n 1 dX6_chain_123 rfl ?_
              refine j_cV (stk := []) [vi p1] th dX6_chain_124 mv_mo_isClosed lm_X6_240 (sub_k hs 0 rfl rfl) zc_6 (ct_mo_isClosed hs h4) rfl rfl ⟨⟨Nat.le_of_ble_eq_true rfl, Nat.le_of_ble_eq_true rfl⟩, Nat.le_of_ble_eq_true rfl, Nat.le_of_ble_eq_true rfl⟩ (Nat.le_of_ble_eq_true rfl) rfl rfl (fun r9 h9 _ => ?_)
              refine j_if_eq (tgt := 134) dX6_chain_127 (by decide) ?_ ?_
              · refine j_iconst (x := 0) dX6_chain_134 rfl (by decide) ?_
                refine j_sub [] rfl ?_
                exact jb_mo_chain_135 hs _ _
              · refine j_iconst (x := 1) dX6_chain_130 rfl (by decide) ?_
                refine j_goto (tgt := 135) dX6_chain_131 (by decide) ?_
                refine j_sub [] rfl ?_
                exact jb_mo_chain_135 hs _ _
            · refine j_sub [0, 1] rfl ?_
              exact jb_mo_chain_142 hs _
            · refine j_sub [0, 1] rfl ?_
              exact jb_mo_chain_142 hs _
            · refine j_sub [0, 1] rfl ?_
              exact jb_mo_chain_142 hs _
            · refine j_aload_n 0 dX6_chain_136 rfl ?_
              refine j_iload_n 1 dX6_chain_137 rfl ?_
              refine j_cV (stk := []) [vi p1] th dX6_chain_138 mv_mo_over lm_X6_243 (sub_k hs 0 rfl rfl) zc_6 (ct_mo_over hs h4) rfl rfl ⟨⟨Nat.le_of_ble_eq_true rfl, Nat.le_of_ble_eq_true rfl⟩, Nat.le_of_ble_eq_true rfl, Nat.le_of_ble_eq_true rfl⟩ (Nat.le_of_ble_eq_true rfl) rfl rfl (fun r10 h10 _ => ?_)
              exact j_retI (h0 := h10) (r := 0) rfl rfl rfl dX6_chain_141 rfl ⟨Nat.le_refl _, Nat.le_refl _⟩ rfl
            · refine j_sub [0, 1] rfl ?_
              exact jb_mo_chain_142 hs _
        · exact jb_mo_chain_35 hs _

set_option maxRecDepth 100000 in
set_option maxHeartbeats 4000000 in
theorem ct_mo_ifArrow {lay : List LK} {th : Nat} {p1 : Int} (hs : sub lay th blkModel) (h : Hp) : CT mi_mo_ifArrow encI (Same lay) lay [vr th, vi p1] h (mo_ifArrow th p1 h) := by
  refine CT.of (by decide) rfl (Nat.le_of_ble_eq_true rfl) ?_
  show J mi_mo_ifArrow encI (Same lay) lay 0 0 0 [(0, vr th), (1, vi p1)] [] h _
  unfold mo_ifArrow
  refine j_iload_n 1 dX6_ifArrow_0 rfl ?_
  refine j_iconst (x := 1) dX6_ifArrow_1 rfl (by decide) ?_
  refine j_bipush (x := 9) dX6_ifArrow_2 (by decide) (by decide) ?_
  refine j_cS (stk := []) [vi p1, vi 1, vi 9] dX6_ifArrow_4 mv_mo_in lm_X6_46 (ct_mo_in h) rfl rfl ⟨⟨Nat.le_of_ble_eq_true rfl, Nat.le_of_ble_eq_true rfl⟩, Nat.le_of_ble_eq_true rfl, Nat.le_of_ble_eq_true rfl⟩ (Nat.le_of_ble_eq_true rfl) rfl rfl (fun r1 h1 _ => ?_)
  refine j_if_ne (tgt := 12) dX6_ifArrow_7 (by decide) ?_ ?_
  · refine j_iconst (x := (-1)) dX6_ifArrow_10 rfl (by decide) ?_
    exact j_retI (h0 := h1) (r := 0) rfl rfl rfl dX6_ifArrow_11 rfl ⟨Nat.le_refl _, Nat.le_refl _⟩ rfl
  · refine j_aload_n 0 dX6_ifArrow_12 rfl ?_
    refine j_getR 0 1 0 dX6_ifArrow_13 zc_6 rfl (sub_k hs 0 rfl rfl) (by decide) lk_X6_7 rfl (by decide) (rfl : th + 1 = (th + 1)) ?_
    refine j_bipush (x := 111) dX6_ifArrow_16 (by decide) (by decide) ?_
    refine j_iald dX6_ifArrow_18 (sub_k hs 1 rfl rfl) rfl ?_
    refine j_istore_n (lv' := [(2, vi (h1 (th + 1) 111)), (0, vr th), (1, vi p1)]) dX6_ifArrow_19 (by decide) rfl ?_
    refine j_aload_n 1 dX6_ifArrow_20 rfl ?_
    refine j_getR 0 1 0 dX6_ifArrow_21 zc_6 rfl (sub_k hs 0 rfl rfl) (by decide) lk_X6_7 rfl (by decide) (rfl : th + 1 = (th + 1)) ?_
    refine j_bipush (x := 111) dX6_ifArrow_24 (by decide) (by decide) ?_
    refine j_iload_n 2 dX6_ifArrow_26 rfl ?_
    refine j_iast dX6_ifArrow_27 (sub_k hs 1 rfl rfl) rfl (fun h2 _ => ?_)
    refine j_aload_n 1 dX6_ifArrow_28 rfl ?_
    refine j_cV (stk := []) [] th dX6_ifArrow_29 mv_mo_laysLanes lm_X6_212 (sub_k hs 0 rfl rfl) zc_6 (ct_mo_laysLanes hs h2) rfl rfl ⟨⟨Nat.le_of_ble_eq_true rfl, Nat.le_of_ble_eq_true rfl⟩, Nat.le_of_ble_eq_true rfl, Nat.le_of_ble_eq_true rfl⟩ (Nat.le_of_ble_eq_true rfl) rfl rfl (fun _ h3 _ => ?_)
    refine j_aload_n 1 dX6_ifArrow_32 rfl ?_
    refine j_getR 0 1 0 dX6_ifArrow_33 zc_6 rfl (sub_k hs 0 rfl rfl) (by decide) lk_X6_7 rfl (by decide) (rfl : th + 1 = (th + 1)) ?_
    refine j_bipush (x := 111) dX6_ifArrow_36 (by decide) (by decide) ?_
    refine j_iload_n 0 dX6_ifArrow_38 rfl ?_
    refine j_iast dX6_ifArrow_39 (sub_k hs 1 rfl rfl) rfl (fun h4 _ => ?_)
    refine j_aload_n 1 dX6_ifArrow_40 rfl ?_
    refine j_cV (stk := []) [] th dX6_ifArrow_41 mv_mo_lanes lm_X6_249 (sub_k hs 0 rfl rfl) zc_6 (ct_mo_lanes hs h4) rfl rfl ⟨⟨Nat.le_of_ble_eq_true rfl, Nat.le_of_ble_eq_true rfl⟩, Nat.le_of_ble_eq_true rfl, Nat.le_of_ble_eq_true rfl⟩ (Nat.le_of_ble_eq_true rfl) rfl rfl (fun r5 h5 _ => ?_)
    exact j_retI (h0 := h5) (r := 0) rfl rfl rfl dX6_ifArrow_44 rfl ⟨Nat.le_refl _, Nat.le_refl _⟩ rfl

set_option maxRecDepth 100000 in
set_option maxHeartbeats 4000000 in
theorem jb_mo_units_30 {lay : List LK} {th : Nat} {k4 : Int → Int → Hp → O Int} (hs : sub lay th blkModel) (hk4 : ∀ (x1 x2 : Int) (h : Hp), J mi_mo_units encI (Same lay) lay 0 0 4 [(0, vr th), (1, vi x1), (2, vi x2)] [] h (k4 x1 x2 h)) (x2 s0 s1 : Int) (h : Hp) : J mi_mo_units encI (Same lay) lay 0 0 30 [(0, vr th), (2, vi x2)] [vi s0, vi s1] h (mo_units_b30 th k4 x2 s0 s1 h) := by
  unfold mo_units_b30
  refine j_iadd dX6_units_30 ?_
  refine j_istore_n (lv' := [(1, vi (s1 + s0)), (0, vr th), (2, vi x2)]) dX6_units_31 (by decide) rfl ?_
  refine j_iinc 2 (lv' := [(2, vi (x2 + 1)), (1, vi (s1 + s0)), (0, vr th)]) dX6_units_32 rfl (by decide) rfl ?_
  refine j_goto (tgt := 4) dX6_units_35 (by decide) ?_
  refine j_sub [2, 1, 0] rfl ?_
  exact hk4 _ _ _

set_option maxRecDepth 100000 in
set_option maxHeartbeats 4000000 in
theorem jl_mo_units_4 {lay : List LK} {th : Nat}  (hs : sub lay th blkModel)  : ∀ (n : Nat) (x1 x2 : Int) (h : Hp), J mi_mo_units encI (Same lay) lay 0 0 4 [(0, vr th), (1, vi x1), (2, vi x2)] [] h (iter2 (mo_units_f4 th) n x1 x2 h) := by
  refine j_iter2 (lf := fun x1 x2 => [(0, vr th), (1, vi x1), (2, vi x2)]) (fun k4 hk4 x1 x2 h => ?_)
  unfold mo_units_f4
  refine j_iload_n 2 dX6_units_4 rfl ?_
  refine j_aload_n 0 dX6_units_5 rfl ?_
  refine j_getR 0 1 0 dX6_units_6 zc_6 rfl (sub_k hs 0 rfl rfl) (by decide) lk_X6_7 rfl (by decide) (rfl : th + 1 = (th + 1)) ?_
  refine j_bipush (x := 13) dX6_units_9 (by decide) (by decide) ?_
  refine j_iald dX6_units_11 (sub_k hs 1 rfl rfl) rfl ?_
  refine j_icmp_ge (tgt := 38) dX6_units_12 (by decide) ?_ ?_
  · refine j_iload_n 1 dX6_units_15 rfl ?_
    refine j_aload_n 0 dX6_units_16 rfl ?_
    refine j_iload_n 2 dX6_units_17 rfl ?_
    refine j_cV (stk := [vi x1]) [vi x2] th dX6_units_18 mv_mo_unitOf lm_X6_157 (sub_k hs 0 rfl rfl) zc_6 (ct_mo_unitOf hs h) rfl rfl ⟨⟨Nat.le_of_ble_eq_true rfl, Nat.le_of_ble_eq_true rfl⟩, Nat.le_of_ble_eq_true rfl, Nat.le_of_ble_eq_true rfl⟩ (Nat.le_of_ble_eq_true rfl) rfl rfl (fun r1 h1 _ => ?_)
    refine j_iload_n 2 dX6_units_21 rfl ?_
    refine j_icmp_ne (tgt := 29) dX6_units_22 (by decide) ?_ ?_
    · refine j_iconst (x := 1) dX6_units_25 rfl (by decide) ?_
      refine j_goto (tgt := 30) dX6_units_26 (by decide) ?_
      refine j_sub [0, 2] rfl ?_
      exact jb_mo_units_30 hs hk4 _ _ _ _
    · refine j_iconst (x := 0) dX6_units_29 rfl (by decide) ?_
      refine j_sub [0, 2] rfl ?_
      exact jb_mo_units_30 hs hk4 _ _ _ _
  · refine j_iload_n 1 dX6_units_38 rfl ?_
    exact j_retI (h0 := h) (r := 0) rfl rfl rfl dX6_units_39 rfl ⟨Nat.le_refl _, Nat.le_refl _⟩ rfl

set_option maxRecDepth 100000 in
set_option maxHeartbeats 4000000 in
theorem ct_mo_units {lay : List LK} {th : Nat} (hs : sub lay th blkModel) (h : Hp) : CT mi_mo_units encI (Same lay) lay [vr th] h (mo_units th h) := by
  refine CT.of (by decide) rfl (Nat.le_of_ble_eq_true rfl) ?_
  show J mi_mo_units encI (Same lay) lay 0 0 0 [(0, vr th)] [] h _
  unfold mo_units
  refine j_iconst (x := 0) dX6_units_0 rfl (by decide) ?_
  refine j_istore_n (lv' := [(1, vi 0), (0, vr th)]) dX6_units_1 (by decide) rfl ?_
  refine j_iconst (x := 0) dX6_units_2 rfl (by decide) ?_
  refine j_istore_n (lv' := [(2, vi 0), (1, vi 0), (0, vr th)]) dX6_units_3 (by decide) rfl ?_
  refine j_sub [2, 1, 0] rfl ?_
  exact jl_mo_units_4 hs fuel _ _ _

set_option maxRecDepth 100000 in
set_option maxHeartbeats 4000000 in
theorem jb_mo_groups_36 {lay : List LK} {th : Nat} {k12 : Int → Int → Hp → O Int} (hs : sub lay th blkModel) (hk12 : ∀ (x1 x2 : Int) (h : Hp), J mi_mo_groups encI (Same lay) lay 0 0 12 [(0, vr th), (1, vi x1), (2, vi x2)] [] h (k12 x1 x2 h)) (x2 s0 s1 : Int) (h : Hp) : J mi_mo_groups encI (Same lay) lay 0 0 36 [(0, vr th), (2, vi x2)] [vi s0, vi s1] h (mo_groups_b36 th k12 x2 s0 s1 h) := by
  unfold mo_groups_b36
  refine j_iadd dX6_groups_36 ?_
  refine j_istore_n (lv' := [(1, vi (s1 + s0)), (0, vr th), (2, vi x2)]) dX6_groups_37 (by decide) rfl ?_
  refine j_iinc 2 (lv' := [(2, vi (x2 + 1)), (1, vi (s1 + s0)), (0, vr th)]) dX6_groups_38 rfl (by decide) rfl ?_
  refine j_goto (tgt := 12) dX6_groups_41 (by decide) ?_
  refine j_sub [2, 1, 0] rfl ?_
  exact hk12 _ _ _

set_option maxRecDepth 100000 in
set_option maxHeartbeats 4000000 in
theorem jl_mo_groups_12 {lay : List LK} {th : Nat}  (hs : sub lay th blkModel)  : ∀ (n : Nat) (x1 x2 : Int) (h : Hp), J mi_mo_groups encI (Same lay) lay 0 0 12 [(0, vr th), (1, vi x1), (2, vi x2)] [] h (iter2 (mo_groups_f12 th) n x1 x2 h) := by
  refine j_iter2 (lf := fun x1 x2 => [(0, vr th), (1, vi x1), (2, vi x2)]) (fun k12 hk12 x1 x2 h => ?_)
  unfold mo_groups_f12
  refine j_iload_n 2 dX6_groups_12 rfl ?_
  refine j_aload_n 0 dX6_groups_13 rfl ?_
  refine j_getR 0 1 0 dX6_groups_14 zc_6 rfl (sub_k hs 0 rfl rfl) (by decide) lk_X6_7 rfl (by decide) (rfl : th + 1 = (th + 1)) ?_
  refine j_iconst (x := 0) dX6_groups_17 rfl (by decide) ?_
  refine j_iald dX6_groups_18 (sub_k hs 1 rfl rfl) rfl ?_
  refine j_icmp_ge (tgt := 44) dX6_groups_19 (by decide) ?_ ?_
  · refine j_iload_n 1 dX6_groups_22 rfl ?_
    refine j_aload_n 0 dX6_groups_23 rfl ?_
    refine j_iload_n 2 dX6_groups_24 rfl ?_
    refine j_cV (stk := [vi x1]) [vi x2] th dX6_groups_25 mv_mo_isFirst lm_X6_206 (sub_k hs 0 rfl rfl) zc_6 (ct_mo_isFirst hs h) rfl rfl ⟨⟨Nat.le_of_ble_eq_true rfl, Nat.le_of_ble_eq_true rfl⟩, Nat.le_of_ble_eq_true rfl, Nat.le_of_ble_eq_true rfl⟩ (Nat.le_of_ble_eq_true rfl) rfl rfl (fun r1 h1 _ => ?_)
    refine j_if_eq (tgt := 35) dX6_groups_28 (by decide) ?_ ?_
    · refine j_iconst (x := 0) dX6_groups_35 rfl (by decide) ?_
      refine j_sub [0, 2] rfl ?_
      exact jb_mo_groups_36 hs hk12 _ _ _ _
    · refine j_iconst (x := 1) dX6_groups_31 rfl (by decide) ?_
      refine j_goto (tgt := 36) dX6_groups_32 (by decide) ?_
      refine j_sub [0, 2] rfl ?_
      exact jb_mo_groups_36 hs hk12 _ _ _ _
  · refine j_iload_n 1 dX6_groups_44 rfl ?_
    exact j_retI (h0 := h) (r := 0) rfl rfl rfl dX6_groups_45 rfl ⟨Nat.le_refl _, Nat.le_refl _⟩ rfl

set_option maxRecDepth 100000 in
set_option maxHeartbeats 4000000 in
theorem ct_mo_groups {lay : List LK} {th : Nat} (hs : sub lay th blkModel) (h : Hp) : CT mi_mo_groups encI (Same lay) lay [vr th] h (mo_groups th h) := by
  refine CT.of (by decide) rfl (Nat.le_of_ble_eq_true rfl) ?_
  show J mi_mo_groups encI (Same lay) lay 0 0 0 [(0, vr th)] [] h _
  unfold mo_groups
  refine j_aload_n 0 dX6_groups_0 rfl ?_
  refine j_iconst (x := 0) dX6_groups_1 rfl (by decide) ?_
  refine j_sipush (x := (-999)) dX6_groups_2 (by decide) (by decide) ?_
  refine j_cV (stk := []) [vi 0, vi (-999)] th dX6_groups_5 mv_mo_laysDistances lm_X6_197 (sub_k hs 0 rfl rfl) zc_6 (ct_mo_laysDistances hs h) rfl rfl ⟨⟨Nat.le_of_ble_eq_true rfl, Nat.le_of_ble_eq_true rfl⟩, Nat.le_of_ble_eq_true rfl, Nat.le_of_ble_eq_true rfl⟩ (Nat.le_of_ble_eq_true rfl) rfl rfl (fun _ h1 _ => ?_)
  refine j_iconst (x := 0) dX6_groups_8 rfl (by decide) ?_
  refine j_istore_n (lv' := [(1, vi 0), (0, vr th)]) dX6_groups_9 (by decide) rfl ?_
  refine j_iconst (x := 0) dX6_groups_10 rfl (by decide) ?_
  refine j_istore_n (lv' := [(2, vi 0), (1, vi 0), (0, vr th)]) dX6_groups_11 (by decide) rfl ?_
  refine j_sub [2, 1, 0] rfl ?_
  exact jl_mo_groups_12 hs fuel _ _ _

set_option maxRecDepth 100000 in
set_option maxHeartbeats 4000000 in
theorem jb_mo_superfluous_30 {lay : List LK} {th : Nat} {k4 : Int → Int → Hp → O Int} (hs : sub lay th blkModel) (hk4 : ∀ (x1 x2 : Int) (h : Hp), J mi_mo_superfluous encI (Same lay) lay 0 0 4 [(0, vr th), (1, vi x1), (2, vi x2)] [] h (k4 x1 x2 h)) (x2 s0 s1 : Int) (h : Hp) : J mi_mo_superfluous encI (Same lay) lay 0 0 30 [(0, vr th), (2, vi x2)] [vi s0, vi s1] h (mo_superfluous_b30 th k4 x2 s0 s1 h) := by
  unfold mo_superfluous_b30
  refine j_iadd dX6_superfluous_30 ?_
  refine j_istore_n (lv' := [(1, vi (s1 + s0)), (0, vr th), (2, vi x2)]) dX6_superfluous_31 (by decide) rfl ?_
  refine j_iinc 2 (lv' := [(2, vi (x2 + 1)), (1, vi (s1 + s0)), (0, vr th)]) dX6_superfluous_32 rfl (by decide) rfl ?_
  refine j_goto (tgt := 4) dX6_superfluous_35 (by decide) ?_
  refine j_sub [2, 1, 0] rfl ?_
  exact hk4 _ _ _

set_option maxRecDepth 100000 in
set_option maxHeartbeats 4000000 in
theorem jl_mo_superfluous_4 {lay : List LK} {th : Nat}  (hs : sub lay th blkModel)  : ∀ (n : Nat) (x1 x2 : Int) (h : Hp), J mi_mo_superfluous encI (Same lay) lay 0 0 4 [(0, vr th), (1, vi x1), (2, vi x2)] [] h (iter2 (mo_superfluous_f4 th) n x1 x2 h) := by
  refine j_iter2 (lf := fun x1 x2 => [(0, vr th), (1, vi x1), (2, vi x2)]) (fun k4 hk4 x1 x2 h => ?_)
  unfold mo_superfluous_f4
  refine j_iload_n 2 dX6_superfluous_4 rfl ?_
  refine j_aload_n 0 dX6_superfluous_5 rfl ?_
  refine j_getR 0 1 0 dX6_superfluous_6 zc_6 rfl (sub_k hs 0 rfl rfl) (by decide) lk_X6_7 rfl (by decide) (rfl : th + 1 = (th + 1)) ?_
  refine j_bipush (x := 13) dX6_superfluous_9 (by decide) (by decide) ?_
  refine j_iald dX6_superfluous_11 (sub_k hs 1 rfl rfl) rfl ?_
  refine j_icmp_ge (tgt := 38) dX6_superfluous_12 (by decide) ?_ ?_
  · refine j_iload_n 1 dX6_superfluous_15 rfl ?_
    refine j_aload_n 0 dX6_superfluous_16 rfl ?_
    refine j_iload_n 2 dX6_superfluous_17 rfl ?_
    refine j_iconst (x := 0) dX6_superfluous_18 rfl (by decide) ?_
    refine j_cV (stk := [vi x1]) [vi x2, vi 0] th dX6_superfluous_19 mv_mo_isSuperfluous lm_X6_218 (sub_k hs 0 rfl rfl) zc_6 (ct_mo_isSuperfluous hs h) rfl rfl ⟨⟨Nat.le_of_ble_eq_true rfl, Nat.le_of_ble_eq_true rfl⟩, Nat.le_of_ble_eq_true rfl, Nat.le_of_ble_eq_true rfl⟩ (Nat.le_of_ble_eq_true rfl) rfl rfl (fun r1 h1 _ => ?_)
    refine j_if_eq (tgt := 29) dX6_superfluous_22 (by decide) ?_ ?_
    · refine j_iconst (x := 0) dX6_superfluous_29 rfl (by decide) ?_
      refine j_sub [0, 2] rfl ?_
      exact jb_mo_superfluous_30 hs hk4 _ _ _ _
    · refine j_iconst (x := 1) dX6_superfluous_25 rfl (by decide) ?_
      refine j_goto (tgt := 30) dX6_superfluous_26 (by decide) ?_
      refine j_sub [0, 2] rfl ?_
      exact jb_mo_superfluous_30 hs hk4 _ _ _ _
  · refine j_iload_n 1 dX6_superfluous_38 rfl ?_
    exact j_retI (h0 := h) (r := 0) rfl rfl rfl dX6_superfluous_39 rfl ⟨Nat.le_refl _, Nat.le_refl _⟩ rfl

set_option maxRecDepth 100000 in
set_option maxHeartbeats 4000000 in
theorem ct_mo_superfluous {lay : List LK} {th : Nat} (hs : sub lay th blkModel) (h : Hp) : CT mi_mo_superfluous encI (Same lay) lay [vr th] h (mo_superfluous th h) := by
  refine CT.of (by decide) rfl (Nat.le_of_ble_eq_true rfl) ?_
  show J mi_mo_superfluous encI (Same lay) lay 0 0 0 [(0, vr th)] [] h _
  unfold mo_superfluous
  refine j_iconst (x := 0) dX6_superfluous_0 rfl (by decide) ?_
  refine j_istore_n (lv' := [(1, vi 0), (0, vr th)]) dX6_superfluous_1 (by decide) rfl ?_
  refine j_iconst (x := 0) dX6_superfluous_2 rfl (by decide) ?_
  refine j_istore_n (lv' := [(2, vi 0), (1, vi 0), (0, vr th)]) dX6_superfluous_3 (by decide) rfl ?_
  refine j_sub [2, 1, 0] rfl ?_
  exact jl_mo_superfluous_4 hs fuel _ _ _

set_option maxRecDepth 100000 in
set_option maxHeartbeats 4000000 in
theorem ct_mo_count {lay : List LK} {th : Nat} {p1 : Int} (hs : sub lay th blkModel) (h : Hp) : CT mi_mo_count encI (Same lay) lay [vr th, vi p1] h (mo_count th p1 h) := by
  refine CT.of (by decide) rfl (Nat.le_of_ble_eq_true rfl) ?_
  show J mi_mo_count encI (Same lay) lay 0 0 0 [(0, vr th), (1, vi p1)] [] h _
  unfold mo_count
  refine j_aload_n 0 dX6_count_0 rfl ?_
  refine j_cV (stk := []) [] th dX6_count_1 mv_mo_laysLanes lm_X6_212 (sub_k hs 0 rfl rfl) zc_6 (ct_mo_laysLanes hs h) rfl rfl ⟨⟨Nat.le_of_ble_eq_true rfl, Nat.le_of_ble_eq_true rfl⟩, Nat.le_of_ble_eq_true rfl, Nat.le_of_ble_eq_true rfl⟩ (Nat.le_of_ble_eq_true rfl) rfl rfl (fun _ h1 _ => ?_)
  refine j_iload_n 1 dX6_count_4 rfl ?_
  refine j_table [64, 71, 79, 84, 89, 100, 105, 110, 118, 126, 131] 136 dX6_count_5 rfl (by decide) (by decide) ⟨?_, ?_, ?_, ?_, ?_, ?_, ?_, ?_, ?_, ?_, ?_, trivial⟩ ?_
  · refine j_aload_n 0 dX6_count_64 rfl ?_
    refine j_getR 0 1 0 dX6_count_65 zc_6 rfl (sub_k hs 0 rfl rfl) (by decide) lk_X6_7 rfl (by decide) (rfl : th + 1 = (th + 1)) ?_
    refine j_iconst (x := 0) dX6_count_68 rfl (by decide) ?_
    refine j_iald dX6_count_69 (sub_k hs 1 rfl rfl) rfl ?_
    exact j_retI (h0 := h1) (r := 0) rfl rfl rfl dX6_count_70 rfl ⟨Nat.le_refl _, Nat.le_refl _⟩ rfl
  · refine j_aload_n 0 dX6_count_71 rfl ?_
    refine j_getR 0 1 0 dX6_count_72 zc_6 rfl (sub_k hs 0 rfl rfl) (by decide) lk_X6_7 rfl (by decide) (rfl : th + 1 = (th + 1)) ?_
    refine j_bipush (x := 13) dX6_count_75 (by decide) (by decide) ?_
    refine j_iald dX6_count_77 (sub_k hs 1 rfl rfl) rfl ?_
    exact j_retI (h0 := h1) (r := 0) rfl rfl rfl dX6_count_78 rfl ⟨Nat.le_refl _, Nat.le_refl _⟩ rfl
  · refine j_aload_n 0 dX6_count_79 rfl ?_
    refine j_cV (stk := []) [] th dX6_count_80 mv_mo_units lm_X6_252 (sub_k hs 0 rfl rfl) zc_6 (ct_mo_units hs h1) rfl rfl ⟨⟨Nat.le_of_ble_eq_true rfl, Nat.le_of_ble_eq_true rfl⟩, Nat.le_of_ble_eq_true rfl, Nat.le_of_ble_eq_true rfl⟩ (Nat.le_of_ble_eq_true rfl) rfl rfl (fun r2 h2 _ => ?_)
    exact j_retI (h0 := h2) (r := 0) rfl rfl rfl dX6_count_83 rfl ⟨Nat.le_refl _, Nat.le_refl _⟩ rfl
  · refine j_aload_n 0 dX6_count_84 rfl ?_
    refine j_cV (stk := []) [] th dX6_count_85 mv_mo_lanes lm_X6_249 (sub_k hs 0 rfl rfl) zc_6 (ct_mo_lanes hs h1) rfl rfl ⟨⟨Nat.le_of_ble_eq_true rfl, Nat.le_of_ble_eq_true rfl⟩, Nat.le_of_ble_eq_true rfl, Nat.le_of_ble_eq_true rfl⟩ (Nat.le_of_ble_eq_true rfl) rfl rfl (fun r3 h3 _ => ?_)
    exact j_retI (h0 := h3) (r := 0) rfl rfl rfl dX6_count_88 rfl ⟨Nat.le_refl _, Nat.le_refl _⟩ rfl
  · refine j_aload_n 0 dX6_count_89 rfl ?_
    refine j_sipush (x := (-999)) dX6_count_90 (by decide) (by decide) ?_
    refine j_sipush (x := (-999)) dX6_count_93 (by decide) (by decide) ?_
    refine j_cV (stk := []) [vi (-999), vi (-999)] th dX6_count_96 mv_mo_crossings lm_X6_215 (sub_k hs 0 rfl rfl) zc_6 (ct_mo_crossings hs h1) rfl rfl ⟨⟨Nat.le_of_ble_eq_true rfl, Nat.le_of_ble_eq_true rfl⟩, Nat.le_of_ble_eq_true rfl, Nat.le_of_ble_eq_true rfl⟩ (Nat.le_of_ble_eq_true rfl) rfl rfl (fun r4 h4 _ => ?_)
    exact j_retI (h0 := h4) (r := 0) rfl rfl rfl dX6_count_99 rfl ⟨Nat.le_refl _, Nat.le_refl _⟩ rfl
  · refine j_aload_n 0 dX6_count_100 rfl ?_
    refine j_cV (stk := []) [] th dX6_count_101 mv_mo_groups lm_X6_255 (sub_k hs 0 rfl rfl) zc_6 (ct_mo_groups hs h1) rfl rfl ⟨⟨Nat.le_of_ble_eq_true rfl, Nat.le_of_ble_eq_true rfl⟩, Nat.le_of_ble_eq_true rfl, Nat.le_of_ble_eq_true rfl⟩ (Nat.le_of_ble_eq_true rfl) rfl rfl (fun r5 h5 _ => ?_)
    exact j_retI (h0 := h5) (r := 0) rfl rfl rfl dX6_count_104 rfl ⟨Nat.le_refl _, Nat.le_refl _⟩ rfl
  · refine j_aload_n 0 dX6_count_105 rfl ?_
    refine j_cV (stk := []) [] th dX6_count_106 mv_mo_superfluous lm_X6_258 (sub_k hs 0 rfl rfl) zc_6 (ct_mo_superfluous hs h1) rfl rfl ⟨⟨Nat.le_of_ble_eq_true rfl, Nat.le_of_ble_eq_true rfl⟩, Nat.le_of_ble_eq_true rfl, Nat.le_of_ble_eq_true rfl⟩ (Nat.le_of_ble_eq_true rfl) rfl rfl (fun r6 h6 _ => ?_)
    exact j_retI (h0 := h6) (r := 0) rfl rfl rfl dX6_count_109 rfl ⟨Nat.le_refl _, Nat.le_refl _⟩ rfl
  · refine j_aload_n 0 dX6_count_110 rfl ?_
    refine j_getR 0 1 0 dX6_count_111 zc_6 rfl (sub_k hs 0 rfl rfl) (by decide) lk_X6_7 rfl (by decide) (rfl : th + 1 = (th + 1)) ?_
    refine j_bipush (x := 110) dX6_count_114 (by decide) (by decide) ?_
    refine j_iald dX6_count_116 (sub_k hs 1 rfl rfl) rfl ?_
    exact j_retI (h0 := h1) (r := 0) rfl rfl rfl dX6_count_117 rfl ⟨Nat.le_refl _, Nat.le_refl _⟩ rfl
  · refine j_aload_n 0 dX6_count_118 rfl ?_
    refine j_getR 0 1 0 dX6_count_119 zc_6 rfl (sub_k hs 0 rfl rfl) (by decide) lk_X6_7 rfl (by decide) (rfl : th + 1 = (th + 1)) ?_
    refine j_bipush (x := 111) dX6_count_122 (by decide) (by decide) ?_
    refine j_iald dX6_count_124 (sub_k hs 1 rfl rfl) rfl ?_
    exact j_retI (h0 := h1) (r := 0) rfl rfl rfl dX6_count_125 rfl ⟨Nat.le_refl _, Nat.le_refl _⟩ rfl
  · refine j_aload_n 0 dX6_count_126 rfl ?_
    refine j_getI 3 3 dX6_count_127 zc_6 rfl (sub_k hs 0 rfl rfl) (by decide) lk_X6_102 rfl rfl ?_
    exact j_retI (h0 := h1) (r := 0) rfl rfl rfl dX6_count_130 rfl ⟨Nat.le_refl _, Nat.le_refl _⟩ rfl
  · refine j_aload_n 0 dX6_count_131 rfl ?_
    refine j_getI 1 1 dX6_count_132 zc_6 rfl (sub_k hs 0 rfl rfl) (by decide) lk_X6_38 rfl rfl ?_
    exact j_retI (h0 := h1) (r := 0) rfl rfl rfl dX6_count_135 rfl ⟨Nat.le_refl _, Nat.le_refl _⟩ rfl
  · refine j_iconst (x := (-1)) dX6_count_136 rfl (by decide) ?_
    exact j_retI (h0 := h1) (r := 0) rfl rfl rfl dX6_count_137 rfl ⟨Nat.le_refl _, Nat.le_refl _⟩ rfl

set_option maxRecDepth 100000 in
set_option maxHeartbeats 4000000 in
theorem ct_mo_mixes {lay : List LK} {th : Nat} {p1 : Int} (hs : sub lay th blkModel) (h : Hp) : CT mi_mo_mixes encV (Same lay) lay [vr th, vi p1] h (mo_mixes th p1 h) := by
  refine CT.of (by decide) rfl (Nat.le_of_ble_eq_true rfl) ?_
  show J mi_mo_mixes encV (Same lay) lay 0 0 0 [(0, vr th), (1, vi p1)] [] h _
  unfold mo_mixes
  refine j_aload_n 0 dX6_mixes_0 rfl ?_
  refine j_ldc2 (x := 31) dX6_mixes_1 kc_X6_261 ?_
  refine j_aload_n 0 dX6_mixes_4 rfl ?_
  refine j_getL 15 15 dX6_mixes_5 zc_6 rfl (sub_k hs 0 rfl rfl) (by decide) lk_X6_263 rfl rfl ?_
  refine j_lmul dX6_mixes_8 ?_
  refine j_iload_n 1 dX6_mixes_9 rfl ?_
  refine j_i2l dX6_mixes_10 ?_
  refine j_ladd dX6_mixes_11 ?_
  refine j_putL 15 15 dX6_mixes_12 zc_6 rfl (sub_k hs 0 rfl rfl) (by decide) lk_X6_263 rfl rfl rfl rfl (fun h1 _ => ?_)
  exact j_retV rfl rfl rfl dX6_mixes_15 rfl ⟨Nat.le_refl _, Nat.le_refl _⟩ rfl

set_option maxRecDepth 100000 in
set_option maxHeartbeats 4000000 in
theorem jl_mo_digest_193 {lay : List LK} {th : Nat} {k186 : Int → Hp → O Int} (hs : sub lay th blkModel) (hk186 : ∀ (x1 : Int) (h : Hp), J mi_mo_digest encL (Same lay) lay 0 0 186 [(0, vr th), (1, vi x1)] [] h (k186 x1 h)) : ∀ (n : Nat) (x1 x2 : Int) (h : Hp), J mi_mo_digest encL (Same lay) lay 0 0 193 [(0, vr th), (1, vi x1), (2, vi x2)] [] h (iter2 (mo_digest_f193 th k186) n x1 x2 h) := by
  refine j_iter2 (lf := fun x1 x2 => [(0, vr th), (1, vi x1), (2, vi x2)]) (fun k193 hk193 x1 x2 h => ?_)
  unfold mo_digest_f193
  refine j_iload_n 2 dX6_digest_193 rfl ?_
  refine j_bipush (x := 9) dX6_digest_194 (by decide) (by decide) ?_
  refine j_icmp_ge (tgt := 215) dX6_digest_196 (by decide) ?_ ?_
  · refine j_aload_n 0 dX6_digest_199 rfl ?_
    refine j_aload_n 0 dX6_digest_200 rfl ?_
    refine j_iload_n 1 dX6_digest_201 rfl ?_
    refine j_iload_n 2 dX6_digest_202 rfl ?_
    refine j_cV (stk := [vr th]) [vi x1, vi x2] th dX6_digest_203 mv_mo_chain lm_X6_288 (sub_k hs 0 rfl rfl) zc_6 (ct_mo_chain hs h) rfl rfl ⟨⟨Nat.le_of_ble_eq_true rfl, Nat.le_of_ble_eq_true rfl⟩, Nat.le_of_ble_eq_true rfl, Nat.le_of_ble_eq_true rfl⟩ (Nat.le_of_ble_eq_true rfl) rfl rfl (fun r1 h1 _ => ?_)
    refine j_cV (stk := []) [vi r1] th dX6_digest_206 mv_mo_mixes lm_X6_272 (sub_k hs 0 rfl rfl) zc_6 (ct_mo_mixes hs h1) rfl rfl ⟨⟨Nat.le_of_ble_eq_true rfl, Nat.le_of_ble_eq_true rfl⟩, Nat.le_of_ble_eq_true rfl, Nat.le_of_ble_eq_true rfl⟩ (Nat.le_of_ble_eq_true rfl) rfl rfl (fun _ h2 _ => ?_)
    refine j_iinc 2 (lv' := [(2, vi (x2 + 1)), (0, vr th), (1, vi x1)]) dX6_digest_209 rfl (by decide) rfl ?_
    refine j_goto (tgt := 193) dX6_digest_212 (by decide) ?_
    refine j_sub [1, 2, 0] rfl ?_
    exact hk193 _ _ _
  · refine j_iinc 1 (lv' := [(1, vi (x1 + 1)), (0, vr th), (2, vi x2)]) dX6_digest_215 rfl (by decide) rfl ?_
    refine j_goto (tgt := 186) dX6_digest_218 (by decide) ?_
    refine j_sub [1, 0] rfl ?_
    exact hk186 _ _

set_option maxRecDepth 100000 in
set_option maxHeartbeats 4000000 in
theorem jl_mo_digest_186 {lay : List LK} {th : Nat}  (hs : sub lay th blkModel)  : ∀ (n : Nat) (x1 : Int) (h : Hp), J mi_mo_digest encL (Same lay) lay 0 0 186 [(0, vr th), (1, vi x1)] [] h (iter1 (mo_digest_f186 th) n x1 h) := by
  refine j_iter1 (lf := fun x1 => [(0, vr th), (1, vi x1)]) (fun k186 hk186 x1 h => ?_)
  unfold mo_digest_f186
  refine j_iload_n 1 dX6_digest_186 rfl ?_
  refine j_iconst (x := 5) dX6_digest_187 rfl (by decide) ?_
  refine j_icmp_gt (tgt := 221) dX6_digest_188 (by decide) ?_ ?_
  · refine j_aload_n 0 dX6_digest_221 rfl ?_
    refine j_aload_n 0 dX6_digest_222 rfl ?_
    refine j_cV (stk := [vr th]) [] th dX6_digest_223 mv_mo_needed lm_X6_291 (sub_k hs 0 rfl rfl) zc_6 (ct_mo_needed hs h) rfl rfl ⟨⟨Nat.le_of_ble_eq_true rfl, Nat.le_of_ble_eq_true rfl⟩, Nat.le_of_ble_eq_true rfl, Nat.le_of_ble_eq_true rfl⟩ (Nat.le_of_ble_eq_true rfl) rfl rfl (fun r1 h1 _ => ?_)
    refine j_cV (stk := []) [vi r1] th dX6_digest_226 mv_mo_mixes lm_X6_272 (sub_k hs 0 rfl rfl) zc_6 (ct_mo_mixes hs h1) rfl rfl ⟨⟨Nat.le_of_ble_eq_true rfl, Nat.le_of_ble_eq_true rfl⟩, Nat.le_of_ble_eq_true rfl, Nat.le_of_ble_eq_true rfl⟩ (Nat.le_of_ble_eq_true rfl) rfl rfl (fun _ h2 _ => ?_)
    refine j_aload_n 0 dX6_digest_229 rfl ?_
    refine j_getL 15 15 dX6_digest_230 zc_6 rfl (sub_k hs 0 rfl rfl) (by decide) lk_X6_263 rfl rfl ?_
    exact j_retL rfl rfl rfl dX6_digest_233 rfl ⟨Nat.le_refl _, Nat.le_refl _⟩ rfl
  · refine j_iconst (x := 0) dX6_digest_191 rfl (by decide) ?_
    refine j_istore_n (lv' := [(2, vi 0), (0, vr th), (1, vi x1)]) dX6_digest_192 (by decide) rfl ?_
    refine j_sub [1, 2, 0] rfl ?_
    exact jl_mo_digest_193 hs hk186 fuel _ _ _

set_option maxRecDepth 100000 in
set_option maxHeartbeats 4000000 in
theorem jl_mo_digest_130 {lay : List LK} {th : Nat} {k116 : Int → Hp → O Int} (hs : sub lay th blkModel) (hk116 : ∀ (x1 : Int) (h : Hp), J mi_mo_digest encL (Same lay) lay 0 0 116 [(0, vr th), (1, vi x1)] [] h (k116 x1 h)) : ∀ (n : Nat) (x1 x2 : Int) (h : Hp), J mi_mo_digest encL (Same lay) lay 0 0 130 [(0, vr th), (1, vi x1), (2, vi x2)] [] h (iter2 (mo_digest_f130 th k116) n x1 x2 h) := by
  refine j_iter2 (lf := fun x1 x2 => [(0, vr th), (1, vi x1), (2, vi x2)]) (fun k130 hk130 x1 x2 h => ?_)
  unfold mo_digest_f130
  refine j_iload_n 2 dX6_digest_130 rfl ?_
  refine j_aload_n 0 dX6_digest_131 rfl ?_
  refine j_getR 0 1 0 dX6_digest_132 zc_6 rfl (sub_k hs 0 rfl rfl) (by decide) lk_X6_7 rfl (by decide) (rfl : th + 1 = (th + 1)) ?_
  refine j_iconst (x := 0) dX6_digest_135 rfl (by decide) ?_
  refine j_iald dX6_digest_136 (sub_k hs 1 rfl rfl) rfl ?_
  refine j_icmp_ge (tgt := 178) dX6_digest_137 (by decide) ?_ ?_
  · refine j_aload_n 0 dX6_digest_140 rfl ?_
    refine j_aload_n 0 dX6_digest_141 rfl ?_
    refine j_iload_n 1 dX6_digest_142 rfl ?_
    refine j_iload_n 2 dX6_digest_143 rfl ?_
    refine j_iconst (x := 0) dX6_digest_144 rfl (by decide) ?_
    refine j_cV (stk := [vr th]) [vi x1, vi x2, vi 0] th dX6_digest_145 mv_mo_distance lm_X6_281 (sub_k hs 0 rfl rfl) zc_6 (ct_mo_distance hs h) rfl rfl ⟨⟨Nat.le_of_ble_eq_true rfl, Nat.le_of_ble_eq_true rfl⟩, Nat.le_of_ble_eq_true rfl, Nat.le_of_ble_eq_true rfl⟩ (Nat.le_of_ble_eq_true rfl) rfl rfl (fun r1 h1 _ => ?_)
    refine j_cV (stk := []) [vi r1] th dX6_digest_148 mv_mo_mixes lm_X6_272 (sub_k hs 0 rfl rfl) zc_6 (ct_mo_mixes hs h1) rfl rfl ⟨⟨Nat.le_of_ble_eq_true rfl, Nat.le_of_ble_eq_true rfl⟩, Nat.le_of_ble_eq_true rfl, Nat.le_of_ble_eq_true rfl⟩ (Nat.le_of_ble_eq_true rfl) rfl rfl (fun _ h2 _ => ?_)
    refine j_aload_n 0 dX6_digest_151 rfl ?_
    refine j_aload_n 0 dX6_digest_152 rfl ?_
    refine j_iload_n 1 dX6_digest_153 rfl ?_
    refine j_iload_n 2 dX6_digest_154 rfl ?_
    refine j_iconst (x := 1) dX6_digest_155 rfl (by decide) ?_
    refine j_cV (stk := [vr th]) [vi x1, vi x2, vi 1] th dX6_digest_156 mv_mo_distance lm_X6_281 (sub_k hs 0 rfl rfl) zc_6 (ct_mo_distance hs h2) rfl rfl ⟨⟨Nat.le_of_ble_eq_true rfl, Nat.le_of_ble_eq_true rfl⟩, Nat.le_of_ble_eq_true rfl, Nat.le_of_ble_eq_true rfl⟩ (Nat.le_of_ble_eq_true rfl) rfl rfl (fun r3 h3 _ => ?_)
    refine j_cV (stk := []) [vi r3] th dX6_digest_159 mv_mo_mixes lm_X6_272 (sub_k hs 0 rfl rfl) zc_6 (ct_mo_mixes hs h3) rfl rfl ⟨⟨Nat.le_of_ble_eq_true rfl, Nat.le_of_ble_eq_true rfl⟩, Nat.le_of_ble_eq_true rfl, Nat.le_of_ble_eq_true rfl⟩ (Nat.le_of_ble_eq_true rfl) rfl rfl (fun _ h4 _ => ?_)
    refine j_aload_n 0 dX6_digest_162 rfl ?_
    refine j_aload_n 0 dX6_digest_163 rfl ?_
    refine j_iload_n 1 dX6_digest_164 rfl ?_
    refine j_iload_n 2 dX6_digest_165 rfl ?_
    refine j_cV (stk := [vr th]) [vi x1, vi x2] th dX6_digest_166 mv_mo_critical lm_X6_285 (sub_k hs 0 rfl rfl) zc_6 (ct_mo_critical hs h4) rfl rfl ⟨⟨Nat.le_of_ble_eq_true rfl, Nat.le_of_ble_eq_true rfl⟩, Nat.le_of_ble_eq_true rfl, Nat.le_of_ble_eq_true rfl⟩ (Nat.le_of_ble_eq_true rfl) rfl rfl (fun r5 h5 _ => ?_)
    refine j_cV (stk := []) [vi r5] th dX6_digest_169 mv_mo_mixes lm_X6_272 (sub_k hs 0 rfl rfl) zc_6 (ct_mo_mixes hs h5) rfl rfl ⟨⟨Nat.le_of_ble_eq_true rfl, Nat.le_of_ble_eq_true rfl⟩, Nat.le_of_ble_eq_true rfl, Nat.le_of_ble_eq_true rfl⟩ (Nat.le_of_ble_eq_true rfl) rfl rfl (fun _ h6 _ => ?_)
    refine j_iinc 2 (lv' := [(2, vi (x2 + 1)), (0, vr th), (1, vi x1)]) dX6_digest_172 rfl (by decide) rfl ?_
    refine j_goto (tgt := 130) dX6_digest_175 (by decide) ?_
    refine j_sub [1, 2, 0] rfl ?_
    exact hk130 _ _ _
  · refine j_iinc 1 (lv' := [(1, vi (x1 + 1)), (0, vr th), (2, vi x2)]) dX6_digest_178 rfl (by decide) rfl ?_
    refine j_goto (tgt := 116) dX6_digest_181 (by decide) ?_
    refine j_sub [1, 0] rfl ?_
    exact hk116 _ _

set_option maxRecDepth 100000 in
set_option maxHeartbeats 4000000 in
theorem jl_mo_digest_116 {lay : List LK} {th : Nat}  (hs : sub lay th blkModel)  : ∀ (n : Nat) (x1 : Int) (h : Hp), J mi_mo_digest encL (Same lay) lay 0 0 116 [(0, vr th), (1, vi x1)] [] h (iter1 (mo_digest_f116 th) n x1 h) := by
  refine j_iter1 (lf := fun x1 => [(0, vr th), (1, vi x1)]) (fun k116 hk116 x1 h => ?_)
  unfold mo_digest_f116
  refine j_iload_n 1 dX6_digest_116 rfl ?_
  refine j_aload_n 0 dX6_digest_117 rfl ?_
  refine j_getR 0 1 0 dX6_digest_118 zc_6 rfl (sub_k hs 0 rfl rfl) (by decide) lk_X6_7 rfl (by decide) (rfl : th + 1 = (th + 1)) ?_
  refine j_iconst (x := 0) dX6_digest_121 rfl (by decide) ?_
  refine j_iald dX6_digest_122 (sub_k hs 1 rfl rfl) rfl ?_
  refine j_icmp_ge (tgt := 184) dX6_digest_123 (by decide) ?_ ?_
  · refine j_iload_n 1 dX6_digest_126 rfl ?_
    refine j_iconst (x := 1) dX6_digest_127 rfl (by decide) ?_
    refine j_iadd dX6_digest_128 ?_
    refine j_istore_n (lv' := [(2, vi (x1 + 1)), (0, vr th), (1, vi x1)]) dX6_digest_129 (by decide) rfl ?_
    refine j_sub [1, 2, 0] rfl ?_
    exact jl_mo_digest_130 hs hk116 fuel _ _ _
  · refine j_iconst (x := 1) dX6_digest_184 rfl (by decide) ?_
    refine j_istore_n (lv' := [(1, vi 1), (0, vr th)]) dX6_digest_185 (by decide) rfl ?_
    refine j_sub [1, 0] rfl ?_
    exact jl_mo_digest_186 hs fuel _ _

set_option maxRecDepth 100000 in
set_option maxHeartbeats 4000000 in
theorem jl_mo_digest_86 {lay : List LK} {th : Nat} {k73 : Int → Hp → O Int} (hs : sub lay th blkModel) (hk73 : ∀ (x1 : Int) (h : Hp), J mi_mo_digest encL (Same lay) lay 0 0 73 [(0, vr th), (1, vi x1)] [] h (k73 x1 h)) : ∀ (n : Nat) (x1 x2 : Int) (h : Hp), J mi_mo_digest encL (Same lay) lay 0 0 86 [(0, vr th), (1, vi x1), (2, vi x2)] [] h (iter2 (mo_digest_f86 th k73) n x1 x2 h) := by
  refine j_iter2 (lf := fun x1 x2 => [(0, vr th), (1, vi x1), (2, vi x2)]) (fun k86 hk86 x1 x2 h => ?_)
  unfold mo_digest_f86
  refine j_iload_n 2 dX6_digest_86 rfl ?_
  refine j_bipush (x := 13) dX6_digest_87 (by decide) (by decide) ?_
  refine j_icmp_ge (tgt := 108) dX6_digest_89 (by decide) ?_ ?_
  · refine j_aload_n 0 dX6_digest_92 rfl ?_
    refine j_aload_n 0 dX6_digest_93 rfl ?_
    refine j_iload_n 1 dX6_digest_94 rfl ?_
    refine j_iload_n 2 dX6_digest_95 rfl ?_
    refine j_cV (stk := [vr th]) [vi x1, vi x2] th dX6_digest_96 mv_mo_dimension lm_X6_278 (sub_k hs 0 rfl rfl) zc_6 (ct_mo_dimension hs h) rfl rfl ⟨⟨Nat.le_of_ble_eq_true rfl, Nat.le_of_ble_eq_true rfl⟩, Nat.le_of_ble_eq_true rfl, Nat.le_of_ble_eq_true rfl⟩ (Nat.le_of_ble_eq_true rfl) rfl rfl (fun r1 h1 _ => ?_)
    refine j_cV (stk := []) [vi r1] th dX6_digest_99 mv_mo_mixes lm_X6_272 (sub_k hs 0 rfl rfl) zc_6 (ct_mo_mixes hs h1) rfl rfl ⟨⟨Nat.le_of_ble_eq_true rfl, Nat.le_of_ble_eq_true rfl⟩, Nat.le_of_ble_eq_true rfl, Nat.le_of_ble_eq_true rfl⟩ (Nat.le_of_ble_eq_true rfl) rfl rfl (fun _ h2 _ => ?_)
    refine j_iinc 2 (lv' := [(2, vi (x2 + 1)), (0, vr th), (1, vi x1)]) dX6_digest_102 rfl (by decide) rfl ?_
    refine j_goto (tgt := 86) dX6_digest_105 (by decide) ?_
    refine j_sub [1, 2, 0] rfl ?_
    exact hk86 _ _ _
  · refine j_iinc 1 (lv' := [(1, vi (x1 + 1)), (0, vr th), (2, vi x2)]) dX6_digest_108 rfl (by decide) rfl ?_
    refine j_goto (tgt := 73) dX6_digest_111 (by decide) ?_
    refine j_sub [1, 0] rfl ?_
    exact hk73 _ _

set_option maxRecDepth 100000 in
set_option maxHeartbeats 4000000 in
theorem jl_mo_digest_73 {lay : List LK} {th : Nat}  (hs : sub lay th blkModel)  : ∀ (n : Nat) (x1 : Int) (h : Hp), J mi_mo_digest encL (Same lay) lay 0 0 73 [(0, vr th), (1, vi x1)] [] h (iter1 (mo_digest_f73 th) n x1 h) := by
  refine j_iter1 (lf := fun x1 => [(0, vr th), (1, vi x1)]) (fun k73 hk73 x1 h => ?_)
  unfold mo_digest_f73
  refine j_iload_n 1 dX6_digest_73 rfl ?_
  refine j_aload_n 0 dX6_digest_74 rfl ?_
  refine j_getR 0 1 0 dX6_digest_75 zc_6 rfl (sub_k hs 0 rfl rfl) (by decide) lk_X6_7 rfl (by decide) (rfl : th + 1 = (th + 1)) ?_
  refine j_bipush (x := 13) dX6_digest_78 (by decide) (by decide) ?_
  refine j_iald dX6_digest_80 (sub_k hs 1 rfl rfl) rfl ?_
  refine j_icmp_ge (tgt := 114) dX6_digest_81 (by decide) ?_ ?_
  · refine j_iconst (x := 0) dX6_digest_84 rfl (by decide) ?_
    refine j_istore_n (lv' := [(2, vi 0), (0, vr th), (1, vi x1)]) dX6_digest_85 (by decide) rfl ?_
    refine j_sub [1, 2, 0] rfl ?_
    exact jl_mo_digest_86 hs hk73 fuel _ _ _
  · refine j_iconst (x := 0) dX6_digest_114 rfl (by decide) ?_
    refine j_istore_n (lv' := [(1, vi 0), (0, vr th)]) dX6_digest_115 (by decide) rfl ?_
    refine j_sub [1, 0] rfl ?_
    exact jl_mo_digest_116 hs fuel _ _

set_option maxRecDepth 100000 in
set_option maxHeartbeats 4000000 in
theorem jl_mo_digest_44 {lay : List LK} {th : Nat} {k32 : Int → Hp → O Int} (hs : sub lay th blkModel) (hk32 : ∀ (x1 : Int) (h : Hp), J mi_mo_digest encL (Same lay) lay 0 0 32 [(0, vr th), (1, vi x1)] [] h (k32 x1 h)) : ∀ (n : Nat) (x1 x2 : Int) (h : Hp), J mi_mo_digest encL (Same lay) lay 0 0 44 [(0, vr th), (1, vi x1), (2, vi x2)] [] h (iter2 (mo_digest_f44 th k32) n x1 x2 h) := by
  refine j_iter2 (lf := fun x1 x2 => [(0, vr th), (1, vi x1), (2, vi x2)]) (fun k44 hk44 x1 x2 h => ?_)
  unfold mo_digest_f44
  refine j_iload_n 2 dX6_digest_44 rfl ?_
  refine j_iconst (x := 5) dX6_digest_45 rfl (by decide) ?_
  refine j_icmp_ge (tgt := 65) dX6_digest_46 (by decide) ?_ ?_
  · refine j_aload_n 0 dX6_digest_49 rfl ?_
    refine j_aload_n 0 dX6_digest_50 rfl ?_
    refine j_iload_n 1 dX6_digest_51 rfl ?_
    refine j_iload_n 2 dX6_digest_52 rfl ?_
    refine j_cV (stk := [vr th]) [vi x1, vi x2] th dX6_digest_53 mv_mo_point lm_X6_275 (sub_k hs 0 rfl rfl) zc_6 (ct_mo_point hs h) rfl rfl ⟨⟨Nat.le_of_ble_eq_true rfl, Nat.le_of_ble_eq_true rfl⟩, Nat.le_of_ble_eq_true rfl, Nat.le_of_ble_eq_true rfl⟩ (Nat.le_of_ble_eq_true rfl) rfl rfl (fun r1 h1 _ => ?_)
    refine j_cV (stk := []) [vi r1] th dX6_digest_56 mv_mo_mixes lm_X6_272 (sub_k hs 0 rfl rfl) zc_6 (ct_mo_mixes hs h1) rfl rfl ⟨⟨Nat.le_of_ble_eq_true rfl, Nat.le_of_ble_eq_true rfl⟩, Nat.le_of_ble_eq_true rfl, Nat.le_of_ble_eq_true rfl⟩ (Nat.le_of_ble_eq_true rfl) rfl rfl (fun _ h2 _ => ?_)
    refine j_iinc 2 (lv' := [(2, vi (x2 + 1)), (0, vr th), (1, vi x1)]) dX6_digest_59 rfl (by decide) rfl ?_
    refine j_goto (tgt := 44) dX6_digest_62 (by decide) ?_
    refine j_sub [1, 2, 0] rfl ?_
    exact hk44 _ _ _
  · refine j_iinc 1 (lv' := [(1, vi (x1 + 1)), (0, vr th), (2, vi x2)]) dX6_digest_65 rfl (by decide) rfl ?_
    refine j_goto (tgt := 32) dX6_digest_68 (by decide) ?_
    refine j_sub [1, 0] rfl ?_
    exact hk32 _ _

set_option maxRecDepth 100000 in
set_option maxHeartbeats 4000000 in
theorem jl_mo_digest_32 {lay : List LK} {th : Nat}  (hs : sub lay th blkModel)  : ∀ (n : Nat) (x1 : Int) (h : Hp), J mi_mo_digest encL (Same lay) lay 0 0 32 [(0, vr th), (1, vi x1)] [] h (iter1 (mo_digest_f32 th) n x1 h) := by
  refine j_iter1 (lf := fun x1 => [(0, vr th), (1, vi x1)]) (fun k32 hk32 x1 h => ?_)
  unfold mo_digest_f32
  refine j_iload_n 1 dX6_digest_32 rfl ?_
  refine j_aload_n 0 dX6_digest_33 rfl ?_
  refine j_getR 0 1 0 dX6_digest_34 zc_6 rfl (sub_k hs 0 rfl rfl) (by decide) lk_X6_7 rfl (by decide) (rfl : th + 1 = (th + 1)) ?_
  refine j_iconst (x := 0) dX6_digest_37 rfl (by decide) ?_
  refine j_iald dX6_digest_38 (sub_k hs 1 rfl rfl) rfl ?_
  refine j_icmp_ge (tgt := 71) dX6_digest_39 (by decide) ?_ ?_
  · refine j_iconst (x := 0) dX6_digest_42 rfl (by decide) ?_
    refine j_istore_n (lv' := [(2, vi 0), (0, vr th), (1, vi x1)]) dX6_digest_43 (by decide) rfl ?_
    refine j_sub [1, 2, 0] rfl ?_
    exact jl_mo_digest_44 hs hk32 fuel _ _ _
  · refine j_iconst (x := 0) dX6_digest_71 rfl (by decide) ?_
    refine j_istore_n (lv' := [(1, vi 0), (0, vr th)]) dX6_digest_72 (by decide) rfl ?_
    refine j_sub [1, 0] rfl ?_
    exact jl_mo_digest_73 hs fuel _ _

set_option maxRecDepth 100000 in
set_option maxHeartbeats 4000000 in
theorem jl_mo_digest_9 {lay : List LK} {th : Nat}  (hs : sub lay th blkModel)  : ∀ (n : Nat) (x1 : Int) (h : Hp), J mi_mo_digest encL (Same lay) lay 0 0 9 [(0, vr th), (1, vi x1)] [] h (iter1 (mo_digest_f9 th) n x1 h) := by
  refine j_iter1 (lf := fun x1 => [(0, vr th), (1, vi x1)]) (fun k9 hk9 x1 h => ?_)
  unfold mo_digest_f9
  refine j_iload_n 1 dX6_digest_9 rfl ?_
  refine j_bipush (x := 11) dX6_digest_10 (by decide) (by decide) ?_
  refine j_icmp_ge (tgt := 30) dX6_digest_12 (by decide) ?_ ?_
  · refine j_aload_n 0 dX6_digest_15 rfl ?_
    refine j_aload_n 0 dX6_digest_16 rfl ?_
    refine j_iload_n 1 dX6_digest_17 rfl ?_
    refine j_cV (stk := [vr th]) [vi x1] th dX6_digest_18 mv_mo_count lm_X6_269 (sub_k hs 0 rfl rfl) zc_6 (ct_mo_count hs h) rfl rfl ⟨⟨Nat.le_of_ble_eq_true rfl, Nat.le_of_ble_eq_true rfl⟩, Nat.le_of_ble_eq_true rfl, Nat.le_of_ble_eq_true rfl⟩ (Nat.le_of_ble_eq_true rfl) rfl rfl (fun r1 h1 _ => ?_)
    refine j_cV (stk := []) [vi r1] th dX6_digest_21 mv_mo_mixes lm_X6_272 (sub_k hs 0 rfl rfl) zc_6 (ct_mo_mixes hs h1) rfl rfl ⟨⟨Nat.le_of_ble_eq_true rfl, Nat.le_of_ble_eq_true rfl⟩, Nat.le_of_ble_eq_true rfl, Nat.le_of_ble_eq_true rfl⟩ (Nat.le_of_ble_eq_true rfl) rfl rfl (fun _ h2 _ => ?_)
    refine j_iinc 1 (lv' := [(1, vi (x1 + 1)), (0, vr th)]) dX6_digest_24 rfl (by decide) rfl ?_
    refine j_goto (tgt := 9) dX6_digest_27 (by decide) ?_
    refine j_sub [1, 0] rfl ?_
    exact hk9 _ _
  · refine j_iconst (x := 0) dX6_digest_30 rfl (by decide) ?_
    refine j_istore_n (lv' := [(1, vi 0), (0, vr th)]) dX6_digest_31 (by decide) rfl ?_
    refine j_sub [1, 0] rfl ?_
    exact jl_mo_digest_32 hs fuel _ _

set_option maxRecDepth 100000 in
set_option maxHeartbeats 4000000 in
theorem ct_mo_digest {lay : List LK} {th : Nat} (hs : sub lay th blkModel) (h : Hp) : CT mi_mo_digest encL (Same lay) lay [vr th] h (mo_digest th h) := by
  refine CT.of (by decide) rfl (Nat.le_of_ble_eq_true rfl) ?_
  show J mi_mo_digest encL (Same lay) lay 0 0 0 [(0, vr th)] [] h _
  unfold mo_digest
  refine j_aload_n 0 dX6_digest_0 rfl ?_
  refine j_ldc2 (x := 18841) dX6_digest_1 kc_X6_267 ?_
  refine j_putL 15 15 dX6_digest_4 zc_6 rfl (sub_k hs 0 rfl rfl) (by decide) lk_X6_263 rfl rfl rfl rfl (fun h1 _ => ?_)
  refine j_iconst (x := 0) dX6_digest_7 rfl (by decide) ?_
  refine j_istore_n (lv' := [(1, vi 0), (0, vr th)]) dX6_digest_8 (by decide) rfl ?_
  refine j_sub [1, 0] rfl ?_
  exact jl_mo_digest_9 hs fuel _ _


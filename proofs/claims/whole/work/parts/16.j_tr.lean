set_option maxRecDepth 100000 in
set_option maxHeartbeats 4000000 in
theorem ct_tr_append {lay : List LK} {th : Nat} {p1 : Int} (hs : sub lay th blkReader) (h : Hp) : CT mi_tr_append encI (Same lay) lay [vr th, vi p1] h (tr_append th p1 h) := by
  refine CT.of (by decide) rfl (Nat.le_of_ble_eq_true rfl) ?_
  show J mi_tr_append encI (Same lay) lay 0 0 0 [(0, vr th), (1, vi p1)] [] h _
  unfold tr_append
  refine j_aload_n 0 dX4_append_0 rfl ?_
  refine j_getR 0 1 0 dX4_append_1 zc_4 rfl (sub_k hs 0 rfl rfl) (by decide) lk_X4_9 rfl (by decide) (rfl : th + 1 = (th + 1)) ?_
  refine j_aload_n 0 dX4_append_4 rfl ?_
  refine j_getI 2 2 dX4_append_5 zc_4 rfl (sub_k hs 0 rfl rfl) (by decide) lk_X4_22 rfl rfl ?_
  refine j_iload_n 1 dX4_append_8 rfl ?_
  refine j_iast dX4_append_9 (sub_k hs 1 rfl rfl) rfl (fun h1 _ => ?_)
  refine j_aload_n 0 dX4_append_10 rfl ?_
  refine j_dup dX4_append_11 (fun _ _ => rfl) ?_
  refine j_getI 2 2 dX4_append_12 zc_4 rfl (sub_k hs 0 rfl rfl) (by decide) lk_X4_22 rfl rfl ?_
  refine j_iconst (x := 1) dX4_append_15 rfl (by decide) ?_
  refine j_iadd dX4_append_16 ?_
  refine j_putI 2 2 dX4_append_17 zc_4 rfl (sub_k hs 0 rfl rfl) (by decide) lk_X4_22 rfl rfl rfl rfl (fun h2 _ => ?_)
  refine j_aload_n 0 dX4_append_20 rfl ?_
  refine j_getI 2 2 dX4_append_21 zc_4 rfl (sub_k hs 0 rfl rfl) (by decide) lk_X4_22 rfl rfl ?_
  exact j_retI (h0 := h2) (r := 0) rfl rfl rfl dX4_append_24 rfl ⟨Nat.le_refl _, Nat.le_refl _⟩ rfl

set_option maxRecDepth 100000 in
set_option maxHeartbeats 4000000 in
theorem ct_tr_empty {lay : List LK} {th : Nat} (hs : sub lay th blkReader) (h : Hp) : CT mi_tr_empty encI (Same lay) lay [vr th] h (tr_empty th h) := by
  refine CT.of (by decide) rfl (Nat.le_of_ble_eq_true rfl) ?_
  show J mi_tr_empty encI (Same lay) lay 0 0 0 [(0, vr th)] [] h _
  unfold tr_empty
  refine j_aload_n 0 dX4_empty_0 rfl ?_
  refine j_getI 2 2 dX4_empty_1 zc_4 rfl (sub_k hs 0 rfl rfl) (by decide) lk_X4_22 rfl rfl ?_
  refine j_istore_n (lv' := [(1, vi (h th 2)), (0, vr th)]) dX4_empty_4 (by decide) rfl ?_
  refine j_aload_n 1 dX4_empty_5 rfl ?_
  refine j_iconst (x := 0) dX4_empty_6 rfl (by decide) ?_
  refine j_putI 2 2 dX4_empty_7 zc_4 rfl (sub_k hs 0 rfl rfl) (by decide) lk_X4_22 rfl rfl rfl rfl (fun h1 _ => ?_)
  refine j_iload_n 0 dX4_empty_10 rfl ?_
  exact j_retI (h0 := h1) (r := 0) rfl rfl rfl dX4_empty_11 rfl ⟨Nat.le_refl _, Nat.le_refl _⟩ rfl

set_option maxRecDepth 100000 in
set_option maxHeartbeats 4000000 in
theorem jb_tr_next_24 {lay : List LK} {th : Nat}  (hs : sub lay th blkReader)  (s0 : Int) (h : Hp) : J mi_tr_next encI (Same lay) lay 0 0 24 [] [vi s0] h (tr_next_b24 th s0 h) := by
  unfold tr_next_b24
  exact j_retI (h0 := h) (r := 0) rfl rfl rfl dX4_next_24 rfl ⟨Nat.le_refl _, Nat.le_refl _⟩ rfl

set_option maxRecDepth 100000 in
set_option maxHeartbeats 4000000 in
theorem ct_tr_next {lay : List LK} {th : Nat} (hs : sub lay th blkReader) (h : Hp) : CT mi_tr_next encI (Same lay) lay [vr th] h (tr_next th h) := by
  refine CT.of (by decide) rfl (Nat.le_of_ble_eq_true rfl) ?_
  show J mi_tr_next encI (Same lay) lay 0 0 0 [(0, vr th)] [] h _
  unfold tr_next
  refine j_aload_n 0 dX4_next_0 rfl ?_
  refine j_getI 5 5 dX4_next_1 zc_4 rfl (sub_k hs 0 rfl rfl) (by decide) lk_X4_32 rfl rfl ?_
  refine j_aload_n 0 dX4_next_4 rfl ?_
  refine j_getI 2 2 dX4_next_5 zc_4 rfl (sub_k hs 0 rfl rfl) (by decide) lk_X4_22 rfl rfl ?_
  refine j_icmp_ge (tgt := 23) dX4_next_8 (by decide) ?_ ?_
  · refine j_aload_n 0 dX4_next_11 rfl ?_
    refine j_getR 0 1 0 dX4_next_12 zc_4 rfl (sub_k hs 0 rfl rfl) (by decide) lk_X4_9 rfl (by decide) (rfl : th + 1 = (th + 1)) ?_
    refine j_aload_n 0 dX4_next_15 rfl ?_
    refine j_getI 5 5 dX4_next_16 zc_4 rfl (sub_k hs 0 rfl rfl) (by decide) lk_X4_32 rfl rfl ?_
    refine j_iald dX4_next_19 (sub_k hs 1 rfl rfl) rfl ?_
    refine j_goto (tgt := 24) dX4_next_20 (by decide) ?_
    refine j_sub [] rfl ?_
    exact jb_tr_next_24 hs _ _
  · refine j_iconst (x := (-1)) dX4_next_23 rfl (by decide) ?_
    refine j_sub [] rfl ?_
    exact jb_tr_next_24 hs _ _

set_option maxRecDepth 100000 in
set_option maxHeartbeats 4000000 in
theorem jb_tr_accept_15 {lay : List LK} {th : Nat} {p1 : Int}  (hs : sub lay th blkReader)  (h : Hp) : J mi_tr_accept encI (Same lay) lay 0 0 15 [] [] h (tr_accept_b15 th p1 h) := by
  unfold tr_accept_b15
  refine j_iconst (x := 0) dX4_accept_15 rfl (by decide) ?_
  exact j_retZ bz0.symm rfl rfl dX4_accept_16 rfl ⟨Nat.le_refl _, Nat.le_refl _⟩ rfl

set_option maxRecDepth 100000 in
set_option maxHeartbeats 4000000 in
theorem ct_tr_accept {lay : List LK} {th : Nat} {p1 : Int} (hs : sub lay th blkReader) (h : Hp) : CT mi_tr_accept encI (Same lay) lay [vr th, vi p1] h (tr_accept th p1 h) := by
  refine CT.of (by decide) rfl (Nat.le_of_ble_eq_true rfl) ?_
  show J mi_tr_accept encI (Same lay) lay 0 0 0 [(0, vr th), (1, vi p1)] [] h _
  unfold tr_accept
  refine j_aload_n 0 dX4_accept_0 rfl ?_
  refine j_getI 3 3 dX4_accept_1 zc_4 rfl (sub_k hs 0 rfl rfl) (by decide) lk_X4_26 rfl rfl ?_
  refine j_if_ne (tgt := 15) dX4_accept_4 (by decide) ?_ ?_
  · refine j_aload_n 0 dX4_accept_7 rfl ?_
    refine j_cV (stk := []) [] th dX4_accept_8 mv_tr_next lm_X4_96 (sub_k hs 0 rfl rfl) zc_4 (ct_tr_next hs h) rfl rfl ⟨⟨Nat.le_of_ble_eq_true rfl, Nat.le_of_ble_eq_true rfl⟩, Nat.le_of_ble_eq_true rfl, Nat.le_of_ble_eq_true rfl⟩ (Nat.le_of_ble_eq_true rfl) rfl rfl (fun r1 h1 _ => ?_)
    refine j_iload_n 1 dX4_accept_11 rfl ?_
    refine j_icmp_eq (tgt := 17) dX4_accept_12 (by decide) ?_ ?_
    · refine j_aload_n 0 dX4_accept_17 rfl ?_
      refine j_dup dX4_accept_18 (fun _ _ => rfl) ?_
      refine j_getI 5 5 dX4_accept_19 zc_4 rfl (sub_k hs 0 rfl rfl) (by decide) lk_X4_32 rfl rfl ?_
      refine j_iconst (x := 1) dX4_accept_22 rfl (by decide) ?_
      refine j_iadd dX4_accept_23 ?_
      refine j_putI 5 5 dX4_accept_24 zc_4 rfl (sub_k hs 0 rfl rfl) (by decide) lk_X4_32 rfl rfl rfl rfl (fun h2 _ => ?_)
      refine j_iconst (x := 1) dX4_accept_27 rfl (by decide) ?_
      exact j_retZ bz1.symm rfl rfl dX4_accept_28 rfl ⟨Nat.le_refl _, Nat.le_refl _⟩ rfl
    · refine j_sub [] rfl ?_
      exact jb_tr_accept_15 hs _
  · refine j_sub [] rfl ?_
    exact jb_tr_accept_15 hs _

set_option maxRecDepth 100000 in
set_option maxHeartbeats 4000000 in
theorem jb_tr_fail_17 {lay : List LK} {th : Nat} {p1 : Int} {p2 : Int}  (hs : sub lay th blkReader)  (h : Hp) : J mi_tr_fail encV (Same lay) lay 0 0 17 [] [] h (tr_fail_b17 th p1 p2 h) := by
  unfold tr_fail_b17
  exact j_retV rfl rfl rfl dX4_fail_17 rfl ⟨Nat.le_refl _, Nat.le_refl _⟩ rfl

set_option maxRecDepth 100000 in
set_option maxHeartbeats 4000000 in
theorem ct_tr_fail {lay : List LK} {th : Nat} {p1 : Int} {p2 : Int} (hs : sub lay th blkReader) (h : Hp) : CT mi_tr_fail encV (Same lay) lay [vr th, vi p1, vi p2] h (tr_fail th p1 p2 h) := by
  refine CT.of (by decide) rfl (Nat.le_of_ble_eq_true rfl) ?_
  show J mi_tr_fail encV (Same lay) lay 0 0 0 [(0, vr th), (1, vi p1), (2, vi p2)] [] h _
  unfold tr_fail
  refine j_aload_n 0 dX4_fail_0 rfl ?_
  refine j_getI 3 3 dX4_fail_1 zc_4 rfl (sub_k hs 0 rfl rfl) (by decide) lk_X4_26 rfl rfl ?_
  refine j_if_ne (tgt := 17) dX4_fail_4 (by decide) ?_ ?_
  · refine j_aload_n 0 dX4_fail_7 rfl ?_
    refine j_iload_n 1 dX4_fail_8 rfl ?_
    refine j_putI 3 3 dX4_fail_9 zc_4 rfl (sub_k hs 0 rfl rfl) (by decide) lk_X4_26 rfl rfl rfl rfl (fun h1 _ => ?_)
    refine j_aload_n 0 dX4_fail_12 rfl ?_
    refine j_iload_n 2 dX4_fail_13 rfl ?_
    refine j_putI 4 4 dX4_fail_14 zc_4 rfl (sub_k hs 0 rfl rfl) (by decide) lk_X4_29 rfl rfl rfl rfl (fun h2 _ => ?_)
    refine j_sub [] rfl ?_
    exact jb_tr_fail_17 hs _
  · refine j_sub [] rfl ?_
    exact jb_tr_fail_17 hs _

set_option maxRecDepth 100000 in
set_option maxHeartbeats 4000000 in
theorem jb_tr_expect_17 {lay : List LK} {th : Nat} {p1 : Int}  (hs : sub lay th blkReader)  (h : Hp) : J mi_tr_expect encV (Same lay) lay 0 0 17 [] [] h (tr_expect_b17 th p1 h) := by
  unfold tr_expect_b17
  exact j_retV rfl rfl rfl dX4_expect_17 rfl ⟨Nat.le_refl _, Nat.le_refl _⟩ rfl

set_option maxRecDepth 100000 in
set_option maxHeartbeats 4000000 in
theorem ct_tr_expect {lay : List LK} {th : Nat} {p1 : Int} (hs : sub lay th blkReader) (h : Hp) : CT mi_tr_expect encV (Same lay) lay [vr th, vi p1] h (tr_expect th p1 h) := by
  refine CT.of (by decide) rfl (Nat.le_of_ble_eq_true rfl) ?_
  show J mi_tr_expect encV (Same lay) lay 0 0 0 [(0, vr th), (1, vi p1)] [] h _
  unfold tr_expect
  refine j_aload_n 0 dX4_expect_0 rfl ?_
  refine j_iload_n 1 dX4_expect_1 rfl ?_
  refine j_cV (stk := []) [vi p1] th dX4_expect_2 mv_tr_accept lm_X4_51 (sub_k hs 0 rfl rfl) zc_4 (ct_tr_accept hs h) rfl rfl ⟨⟨Nat.le_of_ble_eq_true rfl, Nat.le_of_ble_eq_true rfl⟩, Nat.le_of_ble_eq_true rfl, Nat.le_of_ble_eq_true rfl⟩ (Nat.le_of_ble_eq_true rfl) rfl rfl (fun r1 h1 _ => ?_)
  refine j_if_ne (tgt := 17) dX4_expect_5 (by decide) ?_ ?_
  · refine j_aload_n 0 dX4_expect_8 rfl ?_
    refine j_iconst (x := 1) dX4_expect_9 rfl (by decide) ?_
    refine j_aload_n 0 dX4_expect_10 rfl ?_
    refine j_getI 5 5 dX4_expect_11 zc_4 rfl (sub_k hs 0 rfl rfl) (by decide) lk_X4_32 rfl rfl ?_
    refine j_cV (stk := []) [vi 1, vi (h1 th 5)] th dX4_expect_14 mv_tr_fail lm_X4_58 (sub_k hs 0 rfl rfl) zc_4 (ct_tr_fail hs h1) rfl rfl ⟨⟨Nat.le_of_ble_eq_true rfl, Nat.le_of_ble_eq_true rfl⟩, Nat.le_of_ble_eq_true rfl, Nat.le_of_ble_eq_true rfl⟩ (Nat.le_of_ble_eq_true rfl) rfl rfl (fun _ h2 _ => ?_)
    refine j_sub [] rfl ?_
    exact jb_tr_expect_17 hs _
  · refine j_sub [] rfl ?_
    exact jb_tr_expect_17 hs _

set_option maxRecDepth 100000 in
set_option maxHeartbeats 4000000 in
theorem ct_tr_isDigitNext {lay : List LK} {th : Nat} (hs : sub lay th blkReader) (h : Hp) : CT mi_tr_isDigitNext encI (Same lay) lay [vr th] h (tr_isDigitNext th h) := by
  refine CT.of (by decide) rfl (Nat.le_of_ble_eq_true rfl) ?_
  show J mi_tr_isDigitNext encI (Same lay) lay 0 0 0 [(0, vr th)] [] h _
  unfold tr_isDigitNext
  refine j_aload_n 0 dX4_isDigitNext_0 rfl ?_
  refine j_cV (stk := []) [] th dX4_isDigitNext_1 mv_tr_next lm_X4_96 (sub_k hs 0 rfl rfl) zc_4 (ct_tr_next hs h) rfl rfl ⟨⟨Nat.le_of_ble_eq_true rfl, Nat.le_of_ble_eq_true rfl⟩, Nat.le_of_ble_eq_true rfl, Nat.le_of_ble_eq_true rfl⟩ (Nat.le_of_ble_eq_true rfl) rfl rfl (fun r1 h1 _ => ?_)
  refine j_bipush (x := 48) dX4_isDigitNext_4 (by decide) (by decide) ?_
  refine j_bipush (x := 57) dX4_isDigitNext_6 (by decide) (by decide) ?_
  refine j_cSN (stk := []) [vi r1, vi 48, vi 57] dX4_isDigitNext_8 mv_dl_isWithin lm_X4_100 (ct_dl_isWithin h1) rfl rfl ⟨⟨Nat.le_of_ble_eq_true rfl, Nat.le_of_ble_eq_true rfl⟩, Nat.le_of_ble_eq_true rfl, Nat.le_of_ble_eq_true rfl⟩ (Nat.le_of_ble_eq_true rfl) rfl rfl (fun r2 h2 _ => ?_)
  exact j_retZ rfl rfl rfl dX4_isDigitNext_11 rfl ⟨Nat.le_refl _, Nat.le_refl _⟩ rfl

set_option maxRecDepth 100000 in
set_option maxHeartbeats 4000000 in
theorem jb_tr_readNumber_80 {lay : List LK} {th : Nat} {p1 : Int}  (hs : sub lay th blkReader)  (x2 : Int) (h : Hp) : J mi_tr_readNumber encI (Same lay) lay 0 0 80 [(2, vi x2)] [] h (tr_readNumber_b80 th p1 x2 h) := by
  unfold tr_readNumber_b80
  refine j_iload_n 0 dX4_readNumber_80 rfl ?_
  exact j_retI (h0 := h) (r := 0) rfl rfl rfl dX4_readNumber_81 rfl ⟨Nat.le_refl _, Nat.le_refl _⟩ rfl

set_option maxRecDepth 100000 in
set_option maxHeartbeats 4000000 in
theorem jb_tr_readNumber_71 {lay : List LK} {th : Nat} {p1 : Int}  (hs : sub lay th blkReader)  (x2 : Int) (h : Hp) : J mi_tr_readNumber encI (Same lay) lay 0 0 71 [(0, vr th), (2, vi x2)] [] h (tr_readNumber_b71 th p1 x2 h) := by
  unfold tr_readNumber_b71
  refine j_aload_n 0 dX4_readNumber_71 rfl ?_
  refine j_iconst (x := 1) dX4_readNumber_72 rfl (by decide) ?_
  refine j_aload_n 0 dX4_readNumber_73 rfl ?_
  refine j_getI 5 5 dX4_readNumber_74 zc_4 rfl (sub_k hs 0 rfl rfl) (by decide) lk_X4_32 rfl rfl ?_
  refine j_cV (stk := []) [vi 1, vi (h th 5)] th dX4_readNumber_77 mv_tr_fail lm_X4_58 (sub_k hs 0 rfl rfl) zc_4 (ct_tr_fail hs h) rfl rfl ⟨⟨Nat.le_of_ble_eq_true rfl, Nat.le_of_ble_eq_true rfl⟩, Nat.le_of_ble_eq_true rfl, Nat.le_of_ble_eq_true rfl⟩ (Nat.le_of_ble_eq_true rfl) rfl rfl (fun _ h1 _ => ?_)
  refine j_sub [1] rfl ?_
  exact jb_tr_readNumber_80 hs _ _

set_option maxRecDepth 100000 in
set_option maxHeartbeats 4000000 in
theorem jb_tr_readNumber_53 {lay : List LK} {th : Nat} {p1 : Int}  (hs : sub lay th blkReader)  (x2 : Int) (h : Hp) : J mi_tr_readNumber encI (Same lay) lay 0 0 53 [(0, vr th), (2, vi x2)] [] h (tr_readNumber_b53 th p1 x2 h) := by
  unfold tr_readNumber_b53
  refine j_aload_n 0 dX4_readNumber_53 rfl ?_
  refine j_getI 5 5 dX4_readNumber_54 zc_4 rfl (sub_k hs 0 rfl rfl) (by decide) lk_X4_32 rfl rfl ?_
  refine j_aload_n 0 dX4_readNumber_57 rfl ?_
  refine j_getI 6 6 dX4_readNumber_58 zc_4 rfl (sub_k hs 0 rfl rfl) (by decide) lk_X4_35 rfl rfl ?_
  refine j_icmp_eq (tgt := 71) dX4_readNumber_61 (by decide) ?_ ?_
  · exact jb_tr_readNumber_71 hs _ _
  · refine j_aload_n 0 dX4_readNumber_64 rfl ?_
    refine j_cV (stk := []) [] th dX4_readNumber_65 mv_tr_isDigitNext lm_X4_92 (sub_k hs 0 rfl rfl) zc_4 (ct_tr_isDigitNext hs h) rfl rfl ⟨⟨Nat.le_of_ble_eq_true rfl, Nat.le_of_ble_eq_true rfl⟩, Nat.le_of_ble_eq_true rfl, Nat.le_of_ble_eq_true rfl⟩ (Nat.le_of_ble_eq_true rfl) rfl rfl (fun r1 h1 _ => ?_)
    refine j_if_eq (tgt := 80) dX4_readNumber_68 (by decide) ?_ ?_
    · refine j_sub [1] rfl ?_
      exact jb_tr_readNumber_80 hs _ _
    · exact jb_tr_readNumber_71 hs _ _

set_option maxRecDepth 100000 in
set_option maxHeartbeats 4000000 in
theorem jl_tr_readNumber_12 {lay : List LK} {th : Nat} {p1 : Int}  (hs : sub lay th blkReader)  : ∀ (n : Nat) (x2 x3 : Int) (h : Hp), J mi_tr_readNumber encI (Same lay) lay 0 0 12 [(0, vr th), (1, vi p1), (2, vi x2), (3, vi x3)] [] h (iter2 (tr_readNumber_f12 th p1) n x2 x3 h) := by
  refine j_iter2 (lf := fun x2 x3 => [(0, vr th), (1, vi p1), (2, vi x2), (3, vi x3)]) (fun k12 hk12 x2 x3 h => ?_)
  unfold tr_readNumber_f12
  refine j_iload_n 3 dX4_readNumber_12 rfl ?_
  refine j_iload_n 1 dX4_readNumber_13 rfl ?_
  refine j_icmp_ge (tgt := 53) dX4_readNumber_14 (by decide) ?_ ?_
  · refine j_aload_n 0 dX4_readNumber_17 rfl ?_
    refine j_cV (stk := []) [] th dX4_readNumber_18 mv_tr_isDigitNext lm_X4_92 (sub_k hs 0 rfl rfl) zc_4 (ct_tr_isDigitNext hs h) rfl rfl ⟨⟨Nat.le_of_ble_eq_true rfl, Nat.le_of_ble_eq_true rfl⟩, Nat.le_of_ble_eq_true rfl, Nat.le_of_ble_eq_true rfl⟩ (Nat.le_of_ble_eq_true rfl) rfl rfl (fun r1 h1 _ => ?_)
    refine j_if_eq (tgt := 53) dX4_readNumber_21 (by decide) ?_ ?_
    · refine j_sub [0, 2] rfl ?_
      exact jb_tr_readNumber_53 hs _ _
    · refine j_bipush (x := 10) dX4_readNumber_24 (by decide) (by decide) ?_
      refine j_iload_n 2 dX4_readNumber_26 rfl ?_
      refine j_imul dX4_readNumber_27 ?_
      refine j_aload_n 0 dX4_readNumber_28 rfl ?_
      refine j_cV (stk := [vi (10 * x2)]) [] th dX4_readNumber_29 mv_tr_next lm_X4_96 (sub_k hs 0 rfl rfl) zc_4 (ct_tr_next hs h1) rfl rfl ⟨⟨Nat.le_of_ble_eq_true rfl, Nat.le_of_ble_eq_true rfl⟩, Nat.le_of_ble_eq_true rfl, Nat.le_of_ble_eq_true rfl⟩ (Nat.le_of_ble_eq_true rfl) rfl rfl (fun r2 h2 _ => ?_)
      refine j_iadd dX4_readNumber_32 ?_
      refine j_bipush (x := 48) dX4_readNumber_33 (by decide) (by decide) ?_
      refine j_isub dX4_readNumber_35 ?_
      refine j_istore_n (lv' := [(2, vi (((10 * x2) + r2) - 48)), (0, vr th), (1, vi p1), (3, vi x3)]) dX4_readNumber_36 (by decide) rfl ?_
      refine j_aload_n 1 dX4_readNumber_37 rfl ?_
      refine j_dup dX4_readNumber_38 (fun _ _ => rfl) ?_
      refine j_getI 5 5 dX4_readNumber_39 zc_4 rfl (sub_k hs 0 rfl rfl) (by decide) lk_X4_32 rfl rfl ?_
      refine j_iconst (x := 1) dX4_readNumber_42 rfl (by decide) ?_
      refine j_iadd dX4_readNumber_43 ?_
      refine j_putI 5 5 dX4_readNumber_44 zc_4 rfl (sub_k hs 0 rfl rfl) (by decide) lk_X4_32 rfl rfl rfl rfl (fun h3 _ => ?_)
      refine j_iinc 3 (lv' := [(3, vi (x3 + 1)), (2, vi (((10 * x2) + r2) - 48)), (0, vr th), (1, vi p1)]) dX4_readNumber_47 rfl (by decide) rfl ?_
      refine j_goto (tgt := 12) dX4_readNumber_50 (by decide) ?_
      refine j_sub [2, 3, 1, 0] rfl ?_
      exact hk12 _ _ _
  · refine j_sub [0, 2] rfl ?_
    exact jb_tr_readNumber_53 hs _ _

set_option maxRecDepth 100000 in
set_option maxHeartbeats 4000000 in
theorem ct_tr_readNumber {lay : List LK} {th : Nat} {p1 : Int} (hs : sub lay th blkReader) (h : Hp) : CT mi_tr_readNumber encI (Same lay) lay [vr th, vi p1] h (tr_readNumber th p1 h) := by
  refine CT.of (by decide) rfl (Nat.le_of_ble_eq_true rfl) ?_
  show J mi_tr_readNumber encI (Same lay) lay 0 0 0 [(0, vr th), (1, vi p1)] [] h _
  unfold tr_readNumber
  refine j_aload_n 0 dX4_readNumber_0 rfl ?_
  refine j_aload_n 0 dX4_readNumber_1 rfl ?_
  refine j_getI 5 5 dX4_readNumber_2 zc_4 rfl (sub_k hs 0 rfl rfl) (by decide) lk_X4_32 rfl rfl ?_
  refine j_putI 6 6 dX4_readNumber_5 zc_4 rfl (sub_k hs 0 rfl rfl) (by decide) lk_X4_35 rfl rfl rfl rfl (fun h1 _ => ?_)
  refine j_iconst (x := 0) dX4_readNumber_8 rfl (by decide) ?_
  refine j_istore_n (lv' := [(2, vi 0), (0, vr th), (1, vi p1)]) dX4_readNumber_9 (by decide) rfl ?_
  refine j_iconst (x := 0) dX4_readNumber_10 rfl (by decide) ?_
  refine j_istore_n (lv' := [(3, vi 0), (2, vi 0), (0, vr th), (1, vi p1)]) dX4_readNumber_11 (by decide) rfl ?_
  refine j_sub [2, 3, 1, 0] rfl ?_
  exact jl_tr_readNumber_12 hs fuel _ _ _

set_option maxRecDepth 100000 in
set_option maxHeartbeats 4000000 in
theorem jb_tr_demand_13 {lay : List LK} {th : Nat} {p1 : Int}  (hs : sub lay th blkReader)  (h : Hp) : J mi_tr_demand encV (Same lay) lay 0 0 13 [] [] h (tr_demand_b13 th p1 h) := by
  unfold tr_demand_b13
  exact j_retV rfl rfl rfl dX4_demand_13 rfl ⟨Nat.le_refl _, Nat.le_refl _⟩ rfl

set_option maxRecDepth 100000 in
set_option maxHeartbeats 4000000 in
theorem ct_tr_demand {lay : List LK} {th : Nat} {p1 : Int} (hs : sub lay th blkReader) (h : Hp) : CT mi_tr_demand encV (Same lay) lay [vr th, vi p1] h (tr_demand th p1 h) := by
  refine CT.of (by decide) rfl (Nat.le_of_ble_eq_true rfl) ?_
  show J mi_tr_demand encV (Same lay) lay 0 0 0 [(0, vr th), (1, vi p1)] [] h _
  unfold tr_demand
  refine j_iload_n 1 dX4_demand_0 rfl ?_
  refine j_if_ne (tgt := 13) dX4_demand_1 (by decide) ?_ ?_
  · refine j_aload_n 0 dX4_demand_4 rfl ?_
    refine j_iconst (x := 2) dX4_demand_5 rfl (by decide) ?_
    refine j_aload_n 0 dX4_demand_6 rfl ?_
    refine j_getI 6 6 dX4_demand_7 zc_4 rfl (sub_k hs 0 rfl rfl) (by decide) lk_X4_35 rfl rfl ?_
    refine j_cV (stk := []) [vi 2, vi (h th 6)] th dX4_demand_10 mv_tr_fail lm_X4_58 (sub_k hs 0 rfl rfl) zc_4 (ct_tr_fail hs h) rfl rfl ⟨⟨Nat.le_of_ble_eq_true rfl, Nat.le_of_ble_eq_true rfl⟩, Nat.le_of_ble_eq_true rfl, Nat.le_of_ble_eq_true rfl⟩ (Nat.le_of_ble_eq_true rfl) rfl rfl (fun _ h1 _ => ?_)
    refine j_sub [] rfl ?_
    exact jb_tr_demand_13 hs _
  · refine j_sub [] rfl ?_
    exact jb_tr_demand_13 hs _

set_option maxRecDepth 100000 in
set_option maxHeartbeats 4000000 in
theorem jb_tr_readPosition_56 {lay : List LK} {th : Nat}  (hs : sub lay th blkReader)  (x1 x2 s0 : Int) (h : Hp) : J mi_tr_readPosition encV (Same lay) lay 0 0 56 [(0, vr th), (1, vi x1), (2, vi x2)] [vi s0, vr th] h (tr_readPosition_b56 th x1 x2 s0 h) := by
  unfold tr_readPosition_b56
  refine j_cV (stk := []) [vi s0] th dX4_readPosition_56 mv_tr_demand lm_X4_69 (sub_k hs 0 rfl rfl) zc_4 (ct_tr_demand hs h) rfl rfl ⟨⟨Nat.le_of_ble_eq_true rfl, Nat.le_of_ble_eq_true rfl⟩, Nat.le_of_ble_eq_true rfl, Nat.le_of_ble_eq_true rfl⟩ (Nat.le_of_ble_eq_true rfl) rfl rfl (fun _ h1 _ => ?_)
  refine j_aload_n 0 dX4_readPosition_59 rfl ?_
  refine j_getR 1 2 1 dX4_readPosition_60 zc_4 rfl (sub_k hs 0 rfl rfl) (by decide) lk_X4_18 rfl (by decide) (rfl : th + 2 = (th + 2)) ?_
  refine j_getR 0 1 0 dX4_readPosition_63 zc_1 rfl (sub_k (sub_drop (blk' := blkDrawing) hs 2 rfl (rfl : th + 2 = (th + 2))) 0 rfl rfl) (by decide) lk_X4_66 rfl (by decide) (rfl : (th + 2) + 1 = (th + 3)) ?_
  refine j_iload_n 2 dX4_readPosition_66 rfl ?_
  refine j_iload_n 1 dX4_readPosition_67 rfl ?_
  refine j_iast dX4_readPosition_68 (sub_k (sub_drop (blk' := blkDrawing) hs 2 rfl (rfl : th + 2 = (th + 2))) 1 rfl rfl) rfl (fun h2 _ => ?_)
  refine j_aload_n 0 dX4_readPosition_69 rfl ?_
  refine j_getR 1 2 1 dX4_readPosition_70 zc_4 rfl (sub_k hs 0 rfl rfl) (by decide) lk_X4_18 rfl (by decide) (rfl : th + 2 = (th + 2)) ?_
  refine j_dup dX4_readPosition_73 (fun _ _ => rfl) ?_
  refine j_getI 7 7 dX4_readPosition_74 zc_1 rfl (sub_k (sub_drop (blk' := blkDrawing) hs 2 rfl (rfl : th + 2 = (th + 2))) 0 rfl rfl) (by decide) lk_X4_38 rfl rfl ?_
  refine j_iconst (x := 1) dX4_readPosition_77 rfl (by decide) ?_
  refine j_iadd dX4_readPosition_78 ?_
  refine j_putI 7 7 dX4_readPosition_79 zc_1 rfl (sub_k (sub_drop (blk' := blkDrawing) hs 2 rfl (rfl : th + 2 = (th + 2))) 0 rfl rfl) (by decide) lk_X4_38 rfl rfl rfl rfl (fun h3 _ => ?_)
  exact j_retV rfl rfl rfl dX4_readPosition_82 rfl ⟨Nat.le_refl _, Nat.le_refl _⟩ rfl

set_option maxRecDepth 100000 in
set_option maxHeartbeats 4000000 in
theorem jb_tr_readPosition_55 {lay : List LK} {th : Nat}  (hs : sub lay th blkReader)  (x1 x2 : Int) (h : Hp) : J mi_tr_readPosition encV (Same lay) lay 0 0 55 [(0, vr th), (1, vi x1), (2, vi x2)] [vr th] h (tr_readPosition_b55 th x1 x2 h) := by
  unfold tr_readPosition_b55
  refine j_iconst (x := 0) dX4_readPosition_55 rfl (by decide) ?_
  exact jb_tr_readPosition_56 hs _ _ _ _

set_option maxRecDepth 100000 in
set_option maxHeartbeats 4000000 in
theorem jb_tr_readPosition_38 {lay : List LK} {th : Nat}  (hs : sub lay th blkReader)  (x1 x2 s0 : Int) (h : Hp) : J mi_tr_readPosition encV (Same lay) lay 0 0 38 [(0, vr th), (1, vi x1), (2, vi x2)] [vi s0] h (tr_readPosition_b38 th x1 x2 s0 h) := by
  unfold tr_readPosition_b38
  refine j_istore_n (lv' := [(3, vi s0), (0, vr th), (1, vi x1), (2, vi x2)]) dX4_readPosition_38 (by decide) rfl ?_
  refine j_aload_n 1 dX4_readPosition_39 rfl ?_
  refine j_iload_n 2 dX4_readPosition_40 rfl ?_
  refine j_sipush (x := 300) dX4_readPosition_41 (by decide) (by decide) ?_
  refine j_icmp_gt (tgt := 55) dX4_readPosition_44 (by decide) ?_ ?_
  · refine j_sub [1, 2, 3] rfl ?_
    exact jb_tr_readPosition_55 hs _ _ _
  · refine j_iload_n 0 dX4_readPosition_47 rfl ?_
    refine j_if_eq (tgt := 55) dX4_readPosition_48 (by decide) ?_ ?_
    · refine j_sub [1, 2, 3] rfl ?_
      exact jb_tr_readPosition_55 hs _ _ _
    · refine j_iconst (x := 1) dX4_readPosition_51 rfl (by decide) ?_
      refine j_goto (tgt := 56) dX4_readPosition_52 (by decide) ?_
      refine j_sub [1, 2, 3] rfl ?_
      exact jb_tr_readPosition_56 hs _ _ _ _

set_option maxRecDepth 100000 in
set_option maxHeartbeats 4000000 in
theorem jb_tr_readPosition_33 {lay : List LK} {th : Nat}  (hs : sub lay th blkReader)  (x1 x2 : Int) (h : Hp) : J mi_tr_readPosition encV (Same lay) lay 0 0 33 [(0, vr th), (1, vi x1), (2, vi x2)] [] h (tr_readPosition_b33 th x1 x2 h) := by
  unfold tr_readPosition_b33
  refine j_iconst (x := 1) dX4_readPosition_33 rfl (by decide) ?_
  refine j_goto (tgt := 38) dX4_readPosition_34 (by decide) ?_
  exact jb_tr_readPosition_38 hs _ _ _ _

set_option maxRecDepth 100000 in
set_option maxHeartbeats 4000000 in
theorem ct_tr_readPosition {lay : List LK} {th : Nat} (hs : sub lay th blkReader) (h : Hp) : CT mi_tr_readPosition encV (Same lay) lay [vr th] h (tr_readPosition th h) := by
  refine CT.of (by decide) rfl (Nat.le_of_ble_eq_true rfl) ?_
  show J mi_tr_readPosition encV (Same lay) lay 0 0 0 [(0, vr th)] [] h _
  unfold tr_readPosition
  refine j_aload_n 0 dX4_readPosition_0 rfl ?_
  refine j_iconst (x := 3) dX4_readPosition_1 rfl (by decide) ?_
  refine j_cV (stk := []) [vi 3] th dX4_readPosition_2 mv_tr_readNumber lm_X4_62 (sub_k hs 0 rfl rfl) zc_4 (ct_tr_readNumber hs h) rfl rfl ⟨⟨Nat.le_of_ble_eq_true rfl, Nat.le_of_ble_eq_true rfl⟩, Nat.le_of_ble_eq_true rfl, Nat.le_of_ble_eq_true rfl⟩ (Nat.le_of_ble_eq_true rfl) rfl rfl (fun r1 h1 _ => ?_)
  refine j_istore_n (lv' := [(1, vi r1), (0, vr th)]) dX4_readPosition_5 (by decide) rfl ?_
  refine j_aload_n 1 dX4_readPosition_6 rfl ?_
  refine j_getR 1 2 1 dX4_readPosition_7 zc_4 rfl (sub_k hs 0 rfl rfl) (by decide) lk_X4_18 rfl (by decide) (rfl : th + 2 = (th + 2)) ?_
  refine j_getI 7 7 dX4_readPosition_10 zc_1 rfl (sub_k (sub_drop (blk' := blkDrawing) hs 2 rfl (rfl : th + 2 = (th + 2))) 0 rfl rfl) (by decide) lk_X4_38 rfl rfl ?_
  refine j_istore_n (lv' := [(2, vi (h1 (th + 2) 7)), (1, vi r1), (0, vr th)]) dX4_readPosition_13 (by decide) rfl ?_
  refine j_iload_n 0 dX4_readPosition_14 rfl ?_
  refine j_if_eq (tgt := 33) dX4_readPosition_15 (by decide) ?_ ?_
  · refine j_sub [2, 1, 0] rfl ?_
    exact jb_tr_readPosition_33 hs _ _ _
  · refine j_aload_n 2 dX4_readPosition_18 rfl ?_
    refine j_getR 1 2 1 dX4_readPosition_19 zc_4 rfl (sub_k hs 0 rfl rfl) (by decide) lk_X4_18 rfl (by decide) (rfl : th + 2 = (th + 2)) ?_
    refine j_getR 0 1 0 dX4_readPosition_22 zc_1 rfl (sub_k (sub_drop (blk' := blkDrawing) hs 2 rfl (rfl : th + 2 = (th + 2))) 0 rfl rfl) (by decide) lk_X4_66 rfl (by decide) (rfl : (th + 2) + 1 = (th + 3)) ?_
    refine j_iload_n 0 dX4_readPosition_25 rfl ?_
    refine j_iconst (x := 1) dX4_readPosition_26 rfl (by decide) ?_
    refine j_isub dX4_readPosition_27 ?_
    refine j_iald dX4_readPosition_28 (sub_k (sub_drop (blk' := blkDrawing) hs 2 rfl (rfl : th + 2 = (th + 2))) 1 rfl rfl) rfl ?_
    refine j_iload_n 1 dX4_readPosition_29 rfl ?_
    refine j_icmp_ge (tgt := 37) dX4_readPosition_30 (by decide) ?_ ?_
    · refine j_sub [2, 1, 0] rfl ?_
      exact jb_tr_readPosition_33 hs _ _ _
    · refine j_iconst (x := 0) dX4_readPosition_37 rfl (by decide) ?_
      refine j_sub [2, 1, 0] rfl ?_
      exact jb_tr_readPosition_38 hs _ _ _ _

set_option maxRecDepth 100000 in
set_option maxHeartbeats 4000000 in
theorem jb_tr_readUpTo_17 {lay : List LK} {th : Nat} {p1 : Int} {p2 : Int}  (hs : sub lay th blkReader)  (x3 s0 : Int) (h : Hp) : J mi_tr_readUpTo encI (Same lay) lay 0 0 17 [(3, vi x3)] [vi s0, vr th] h (tr_readUpTo_b17 th p1 p2 x3 s0 h) := by
  unfold tr_readUpTo_b17
  refine j_cV (stk := []) [vi s0] th dX4_readUpTo_17 mv_tr_demand lm_X4_69 (sub_k hs 0 rfl rfl) zc_4 (ct_tr_demand hs h) rfl rfl ⟨⟨Nat.le_of_ble_eq_true rfl, Nat.le_of_ble_eq_true rfl⟩, Nat.le_of_ble_eq_true rfl, Nat.le_of_ble_eq_true rfl⟩ (Nat.le_of_ble_eq_true rfl) rfl rfl (fun _ h1 _ => ?_)
  refine j_iload_n 0 dX4_readUpTo_20 rfl ?_
  exact j_retI (h0 := h1) (r := 0) rfl rfl rfl dX4_readUpTo_21 rfl ⟨Nat.le_refl _, Nat.le_refl _⟩ rfl

set_option maxRecDepth 100000 in
set_option maxHeartbeats 4000000 in
theorem ct_tr_readUpTo {lay : List LK} {th : Nat} {p1 : Int} {p2 : Int} (hs : sub lay th blkReader) (h : Hp) : CT mi_tr_readUpTo encI (Same lay) lay [vr th, vi p1, vi p2] h (tr_readUpTo th p1 p2 h) := by
  refine CT.of (by decide) rfl (Nat.le_of_ble_eq_true rfl) ?_
  show J mi_tr_readUpTo encI (Same lay) lay 0 0 0 [(0, vr th), (1, vi p1), (2, vi p2)] [] h _
  unfold tr_readUpTo
  refine j_aload_n 0 dX4_readUpTo_0 rfl ?_
  refine j_iload_n 2 dX4_readUpTo_1 rfl ?_
  refine j_cV (stk := []) [vi p2] th dX4_readUpTo_2 mv_tr_readNumber lm_X4_62 (sub_k hs 0 rfl rfl) zc_4 (ct_tr_readNumber hs h) rfl rfl ⟨⟨Nat.le_of_ble_eq_true rfl, Nat.le_of_ble_eq_true rfl⟩, Nat.le_of_ble_eq_true rfl, Nat.le_of_ble_eq_true rfl⟩ (Nat.le_of_ble_eq_true rfl) rfl rfl (fun r1 h1 _ => ?_)
  refine j_istore_n (lv' := [(3, vi r1), (0, vr th), (1, vi p1), (2, vi p2)]) dX4_readUpTo_5 (by decide) rfl ?_
  refine j_aload_n 1 dX4_readUpTo_6 rfl ?_
  refine j_iload_n 0 dX4_readUpTo_7 rfl ?_
  refine j_iload_n 2 dX4_readUpTo_8 rfl ?_
  refine j_icmp_gt (tgt := 16) dX4_readUpTo_9 (by decide) ?_ ?_
  · refine j_iconst (x := 0) dX4_readUpTo_16 rfl (by decide) ?_
    refine j_sub [0] rfl ?_
    exact jb_tr_readUpTo_17 hs _ _ _
  · refine j_iconst (x := 1) dX4_readUpTo_12 rfl (by decide) ?_
    refine j_goto (tgt := 17) dX4_readUpTo_13 (by decide) ?_
    refine j_sub [0] rfl ?_
    exact jb_tr_readUpTo_17 hs _ _ _

set_option maxRecDepth 100000 in
set_option maxHeartbeats 4000000 in
theorem jb_tr_readDimension_139 {lay : List LK} {th : Nat}  (hs : sub lay th blkReader)  (h : Hp) : J mi_tr_readDimension encV (Same lay) lay 0 0 139 [] [] h (tr_readDimension_b139 th h) := by
  unfold tr_readDimension_b139
  exact j_retV rfl rfl rfl dX4_readDimension_139 rfl ⟨Nat.le_refl _, Nat.le_refl _⟩ rfl

set_option maxRecDepth 100000 in
set_option maxHeartbeats 4000000 in
theorem jb_tr_readDimension_115 {lay : List LK} {th : Nat}  (hs : sub lay th blkReader)  (x3 : Int) (h : Hp) : J mi_tr_readDimension encV (Same lay) lay 0 0 115 [(0, vr th), (3, vi x3)] [] h (tr_readDimension_b115 th x3 h) := by
  unfold tr_readDimension_b115
  refine j_aload_n 0 dX4_readDimension_115 rfl ?_
  refine j_bipush (x := 99) dX4_readDimension_116 (by decide) (by decide) ?_
  refine j_cV (stk := []) [vi 99] th dX4_readDimension_118 mv_tr_accept lm_X4_51 (sub_k hs 0 rfl rfl) zc_4 (ct_tr_accept hs h) rfl rfl ⟨⟨Nat.le_of_ble_eq_true rfl, Nat.le_of_ble_eq_true rfl⟩, Nat.le_of_ble_eq_true rfl, Nat.le_of_ble_eq_true rfl⟩ (Nat.le_of_ble_eq_true rfl) rfl rfl (fun r1 h1 _ => ?_)
  refine j_if_eq (tgt := 139) dX4_readDimension_121 (by decide) ?_ ?_
  · refine j_sub [] rfl ?_
    exact jb_tr_readDimension_139 hs _
  · refine j_aload_n 0 dX4_readDimension_124 rfl ?_
    refine j_getR 1 2 1 dX4_readDimension_125 zc_4 rfl (sub_k hs 0 rfl rfl) (by decide) lk_X4_18 rfl (by decide) (rfl : th + 2 = (th + 2)) ?_
    refine j_getR 5 6 5 dX4_readDimension_128 zc_1 rfl (sub_k (sub_drop (blk' := blkDrawing) hs 2 rfl (rfl : th + 2 = (th + 2))) 0 rfl rfl) (by decide) lk_X4_89 rfl (by decide) (rfl : (th + 2) + 6 = (th + 8)) ?_
    refine j_iload_n 1 dX4_readDimension_131 rfl ?_
    refine j_aload_n 0 dX4_readDimension_132 rfl ?_
    refine j_iconst (x := 5) dX4_readDimension_133 rfl (by decide) ?_
    refine j_iconst (x := 1) dX4_readDimension_134 rfl (by decide) ?_
    refine j_cV (stk := [vi x3, vr (th + 8)]) [vi 5, vi 1] th dX4_readDimension_135 mv_tr_readUpTo lm_X4_83 (sub_k hs 0 rfl rfl) zc_4 (ct_tr_readUpTo hs h1) rfl rfl ⟨⟨Nat.le_of_ble_eq_true rfl, Nat.le_of_ble_eq_true rfl⟩, Nat.le_of_ble_eq_true rfl, Nat.le_of_ble_eq_true rfl⟩ (Nat.le_of_ble_eq_true rfl) rfl rfl (fun r2 h2 _ => ?_)
    refine j_iast dX4_readDimension_138 (sub_k (sub_drop (blk' := blkDrawing) hs 2 rfl (rfl : th + 2 = (th + 2))) 6 rfl rfl) rfl (fun h3 _ => ?_)
    refine j_sub [] rfl ?_
    exact jb_tr_readDimension_139 hs _

set_option maxRecDepth 100000 in
set_option maxHeartbeats 4000000 in
theorem jb_tr_readDimension_90 {lay : List LK} {th : Nat}  (hs : sub lay th blkReader)  (x3 : Int) (h : Hp) : J mi_tr_readDimension encV (Same lay) lay 0 0 90 [(0, vr th), (3, vi x3)] [] h (tr_readDimension_b90 th x3 h) := by
  unfold tr_readDimension_b90
  refine j_aload_n 0 dX4_readDimension_90 rfl ?_
  refine j_bipush (x := 45) dX4_readDimension_91 (by decide) (by decide) ?_
  refine j_cV (stk := []) [vi 45] th dX4_readDimension_93 mv_tr_accept lm_X4_51 (sub_k hs 0 rfl rfl) zc_4 (ct_tr_accept hs h) rfl rfl ⟨⟨Nat.le_of_ble_eq_true rfl, Nat.le_of_ble_eq_true rfl⟩, Nat.le_of_ble_eq_true rfl, Nat.le_of_ble_eq_true rfl⟩ (Nat.le_of_ble_eq_true rfl) rfl rfl (fun r1 h1 _ => ?_)
  refine j_if_eq (tgt := 115) dX4_readDimension_96 (by decide) ?_ ?_
  · exact jb_tr_readDimension_115 hs _ _
  · refine j_aload_n 0 dX4_readDimension_99 rfl ?_
    refine j_getR 1 2 1 dX4_readDimension_100 zc_4 rfl (sub_k hs 0 rfl rfl) (by decide) lk_X4_18 rfl (by decide) (rfl : th + 2 = (th + 2)) ?_
    refine j_getR 3 4 3 dX4_readDimension_103 zc_1 rfl (sub_k (sub_drop (blk' := blkDrawing) hs 2 rfl (rfl : th + 2 = (th + 2))) 0 rfl rfl) (by decide) lk_X4_86 rfl (by decide) (rfl : (th + 2) + 4 = (th + 6)) ?_
    refine j_iload_n 1 dX4_readDimension_106 rfl ?_
    refine j_aload_n 0 dX4_readDimension_107 rfl ?_
    refine j_bipush (x := 20) dX4_readDimension_108 (by decide) (by decide) ?_
    refine j_iconst (x := 2) dX4_readDimension_110 rfl (by decide) ?_
    refine j_cV (stk := [vi x3, vr (th + 6)]) [vi 20, vi 2] th dX4_readDimension_111 mv_tr_readUpTo lm_X4_83 (sub_k hs 0 rfl rfl) zc_4 (ct_tr_readUpTo hs h1) rfl rfl ⟨⟨Nat.le_of_ble_eq_true rfl, Nat.le_of_ble_eq_true rfl⟩, Nat.le_of_ble_eq_true rfl, Nat.le_of_ble_eq_true rfl⟩ (Nat.le_of_ble_eq_true rfl) rfl rfl (fun r2 h2 _ => ?_)
    refine j_iast dX4_readDimension_114 (sub_k (sub_drop (blk' := blkDrawing) hs 2 rfl (rfl : th + 2 = (th + 2))) 4 rfl rfl) rfl (fun h3 _ => ?_)
    exact jb_tr_readDimension_115 hs _ _

set_option maxRecDepth 100000 in
set_option maxHeartbeats 4000000 in
theorem jb_tr_readDimension_52 {lay : List LK} {th : Nat}  (hs : sub lay th blkReader)  (x1 x2 s0 : Int) (h : Hp) : J mi_tr_readDimension encV (Same lay) lay 0 0 52 [(0, vr th), (1, vi x1), (2, vi x2)] [vi s0, vr th] h (tr_readDimension_b52 th x1 x2 s0 h) := by
  unfold tr_readDimension_b52
  refine j_cV (stk := []) [vi s0] th dX4_readDimension_52 mv_tr_demand lm_X4_69 (sub_k hs 0 rfl rfl) zc_4 (ct_tr_demand hs h) rfl rfl ⟨⟨Nat.le_of_ble_eq_true rfl, Nat.le_of_ble_eq_true rfl⟩, Nat.le_of_ble_eq_true rfl, Nat.le_of_ble_eq_true rfl⟩ (Nat.le_of_ble_eq_true rfl) rfl rfl (fun _ h1 _ => ?_)
  refine j_aload_n 0 dX4_readDimension_55 rfl ?_
  refine j_getR 1 2 1 dX4_readDimension_56 zc_4 rfl (sub_k hs 0 rfl rfl) (by decide) lk_X4_18 rfl (by decide) (rfl : th + 2 = (th + 2)) ?_
  refine j_iload_n 1 dX4_readDimension_59 rfl ?_
  refine j_iload_n 2 dX4_readDimension_60 rfl ?_
  refine j_cV (stk := []) [vi x1, vi x2] (th + 2) dX4_readDimension_61 mv_dr_append lm_X4_76 (sub_k (sub_drop (blk' := blkDrawing) hs 2 rfl (rfl : th + 2 = (th + 2))) 0 rfl rfl) zc_1 (ct_dr_append (sub_drop (blk' := blkDrawing) hs 2 rfl (rfl : th + 2 = (th + 2))) h1) rfl rfl ⟨⟨Nat.le_of_ble_eq_true rfl, Nat.le_of_ble_eq_true rfl⟩, Nat.le_of_ble_eq_true rfl, Nat.le_of_ble_eq_true rfl⟩ (Nat.le_of_ble_eq_true rfl) rfl rfl (fun r2 h2 _ => ?_)
  refine j_istore_n (lv' := [(3, vi r2), (0, vr th), (1, vi x1), (2, vi x2)]) dX4_readDimension_64 (by decide) rfl ?_
  refine j_aload_n 1 dX4_readDimension_65 rfl ?_
  refine j_bipush (x := 43) dX4_readDimension_66 (by decide) (by decide) ?_
  refine j_cV (stk := []) [vi 43] th dX4_readDimension_68 mv_tr_accept lm_X4_51 (sub_k hs 0 rfl rfl) zc_4 (ct_tr_accept hs h2) rfl rfl ⟨⟨Nat.le_of_ble_eq_true rfl, Nat.le_of_ble_eq_true rfl⟩, Nat.le_of_ble_eq_true rfl, Nat.le_of_ble_eq_true rfl⟩ (Nat.le_of_ble_eq_true rfl) rfl rfl (fun r3 h3 _ => ?_)
  refine j_if_eq (tgt := 90) dX4_readDimension_71 (by decide) ?_ ?_
  · refine j_sub [1, 0] rfl ?_
    exact jb_tr_readDimension_90 hs _ _
  · refine j_aload_n 1 dX4_readDimension_74 rfl ?_
    refine j_getR 1 2 1 dX4_readDimension_75 zc_4 rfl (sub_k hs 0 rfl rfl) (by decide) lk_X4_18 rfl (by decide) (rfl : th + 2 = (th + 2)) ?_
    refine j_getR 4 5 4 dX4_readDimension_78 zc_1 rfl (sub_k (sub_drop (blk' := blkDrawing) hs 2 rfl (rfl : th + 2 = (th + 2))) 0 rfl rfl) (by decide) lk_X4_80 rfl (by decide) (rfl : (th + 2) + 5 = (th + 7)) ?_
    refine j_iload_n 0 dX4_readDimension_81 rfl ?_
    refine j_aload_n 1 dX4_readDimension_82 rfl ?_
    refine j_bipush (x := 20) dX4_readDimension_83 (by decide) (by decide) ?_
    refine j_iconst (x := 2) dX4_readDimension_85 rfl (by decide) ?_
    refine j_cV (stk := [vi r2, vr (th + 7)]) [vi 20, vi 2] th dX4_readDimension_86 mv_tr_readUpTo lm_X4_83 (sub_k hs 0 rfl rfl) zc_4 (ct_tr_readUpTo hs h3) rfl rfl ⟨⟨Nat.le_of_ble_eq_true rfl, Nat.le_of_ble_eq_true rfl⟩, Nat.le_of_ble_eq_true rfl, Nat.le_of_ble_eq_true rfl⟩ (Nat.le_of_ble_eq_true rfl) rfl rfl (fun r4 h4 _ => ?_)
    refine j_iast dX4_readDimension_89 (sub_k (sub_drop (blk' := blkDrawing) hs 2 rfl (rfl : th + 2 = (th + 2))) 5 rfl rfl) rfl (fun h5 _ => ?_)
    refine j_sub [1, 0] rfl ?_
    exact jb_tr_readDimension_90 hs _ _

set_option maxRecDepth 100000 in
set_option maxHeartbeats 4000000 in
theorem jb_tr_readDimension_51 {lay : List LK} {th : Nat}  (hs : sub lay th blkReader)  (x1 x2 : Int) (h : Hp) : J mi_tr_readDimension encV (Same lay) lay 0 0 51 [(0, vr th), (1, vi x1), (2, vi x2)] [vr th] h (tr_readDimension_b51 th x1 x2 h) := by
  unfold tr_readDimension_b51
  refine j_iconst (x := 0) dX4_readDimension_51 rfl (by decide) ?_
  exact jb_tr_readDimension_52 hs _ _ _ _

set_option maxRecDepth 100000 in
set_option maxHeartbeats 4000000 in
theorem ct_tr_readDimension {lay : List LK} {th : Nat} (hs : sub lay th blkReader) (h : Hp) : CT mi_tr_readDimension encV (Same lay) lay [vr th] h (tr_readDimension th h) := by
  refine CT.of (by decide) rfl (Nat.le_of_ble_eq_true rfl) ?_
  show J mi_tr_readDimension encV (Same lay) lay 0 0 0 [(0, vr th)] [] h _
  unfold tr_readDimension
  refine j_aload_n 0 dX4_readDimension_0 rfl ?_
  refine j_iconst (x := 1) dX4_readDimension_1 rfl (by decide) ?_
  refine j_cV (stk := []) [vi 1] th dX4_readDimension_2 mv_tr_readNumber lm_X4_62 (sub_k hs 0 rfl rfl) zc_4 (ct_tr_readNumber hs h) rfl rfl ⟨⟨Nat.le_of_ble_eq_true rfl, Nat.le_of_ble_eq_true rfl⟩, Nat.le_of_ble_eq_true rfl, Nat.le_of_ble_eq_true rfl⟩ (Nat.le_of_ble_eq_true rfl) rfl rfl (fun r1 h1 _ => ?_)
  refine j_istore_n (lv' := [(1, vi r1), (0, vr th)]) dX4_readDimension_5 (by decide) rfl ?_
  refine j_aload_n 1 dX4_readDimension_6 rfl ?_
  refine j_aload_n 1 dX4_readDimension_7 rfl ?_
  refine j_getR 1 2 1 dX4_readDimension_8 zc_4 rfl (sub_k hs 0 rfl rfl) (by decide) lk_X4_18 rfl (by decide) (rfl : th + 2 = (th + 2)) ?_
  refine j_iload_n 0 dX4_readDimension_11 rfl ?_
  refine j_cV (stk := [vr th]) [vi r1] (th + 2) dX4_readDimension_12 mv_dr_hasPoint lm_X4_73 (sub_k (sub_drop (blk' := blkDrawing) hs 2 rfl (rfl : th + 2 = (th + 2))) 0 rfl rfl) zc_1 (ct_dr_hasPoint (sub_drop (blk' := blkDrawing) hs 2 rfl (rfl : th + 2 = (th + 2))) h1) rfl rfl ⟨⟨Nat.le_of_ble_eq_true rfl, Nat.le_of_ble_eq_true rfl⟩, Nat.le_of_ble_eq_true rfl, Nat.le_of_ble_eq_true rfl⟩ (Nat.le_of_ble_eq_true rfl) rfl rfl (fun r2 h2 _ => ?_)
  refine j_cV (stk := []) [vi r2] th dX4_readDimension_15 mv_tr_demand lm_X4_69 (sub_k hs 0 rfl rfl) zc_4 (ct_tr_demand hs h2) rfl rfl ⟨⟨Nat.le_of_ble_eq_true rfl, Nat.le_of_ble_eq_true rfl⟩, Nat.le_of_ble_eq_true rfl, Nat.le_of_ble_eq_true rfl⟩ (Nat.le_of_ble_eq_true rfl) rfl rfl (fun _ h3 _ => ?_)
  refine j_aload_n 1 dX4_readDimension_18 rfl ?_
  refine j_bipush (x := 45) dX4_readDimension_19 (by decide) (by decide) ?_
  refine j_cV (stk := []) [vi 45] th dX4_readDimension_21 mv_tr_expect lm_X4_44 (sub_k hs 0 rfl rfl) zc_4 (ct_tr_expect hs h3) rfl rfl ⟨⟨Nat.le_of_ble_eq_true rfl, Nat.le_of_ble_eq_true rfl⟩, Nat.le_of_ble_eq_true rfl, Nat.le_of_ble_eq_true rfl⟩ (Nat.le_of_ble_eq_true rfl) rfl rfl (fun _ h4 _ => ?_)
  refine j_aload_n 1 dX4_readDimension_24 rfl ?_
  refine j_iconst (x := 1) dX4_readDimension_25 rfl (by decide) ?_
  refine j_cV (stk := []) [vi 1] th dX4_readDimension_26 mv_tr_readNumber lm_X4_62 (sub_k hs 0 rfl rfl) zc_4 (ct_tr_readNumber hs h4) rfl rfl ⟨⟨Nat.le_of_ble_eq_true rfl, Nat.le_of_ble_eq_true rfl⟩, Nat.le_of_ble_eq_true rfl, Nat.le_of_ble_eq_true rfl⟩ (Nat.le_of_ble_eq_true rfl) rfl rfl (fun r5 h5 _ => ?_)
  refine j_istore_n (lv' := [(2, vi r5), (1, vi r1), (0, vr th)]) dX4_readDimension_29 (by decide) rfl ?_
  refine j_aload_n 2 dX4_readDimension_30 rfl ?_
  refine j_aload_n 2 dX4_readDimension_31 rfl ?_
  refine j_getR 1 2 1 dX4_readDimension_32 zc_4 rfl (sub_k hs 0 rfl rfl) (by decide) lk_X4_18 rfl (by decide) (rfl : th + 2 = (th + 2)) ?_
  refine j_iload_n 0 dX4_readDimension_35 rfl ?_
  refine j_cV (stk := [vr th]) [vi r5] (th + 2) dX4_readDimension_36 mv_dr_hasPoint lm_X4_73 (sub_k (sub_drop (blk' := blkDrawing) hs 2 rfl (rfl : th + 2 = (th + 2))) 0 rfl rfl) zc_1 (ct_dr_hasPoint (sub_drop (blk' := blkDrawing) hs 2 rfl (rfl : th + 2 = (th + 2))) h5) rfl rfl ⟨⟨Nat.le_of_ble_eq_true rfl, Nat.le_of_ble_eq_true rfl⟩, Nat.le_of_ble_eq_true rfl, Nat.le_of_ble_eq_true rfl⟩ (Nat.le_of_ble_eq_true rfl) rfl rfl (fun r6 h6 _ => ?_)
  refine j_if_eq (tgt := 51) dX4_readDimension_39 (by decide) ?_ ?_
  · refine j_sub [2, 1, 0] rfl ?_
    exact jb_tr_readDimension_51 hs _ _ _
  · refine j_iload_n 1 dX4_readDimension_42 rfl ?_
    refine j_iload_n 0 dX4_readDimension_43 rfl ?_
    refine j_icmp_ge (tgt := 51) dX4_readDimension_44 (by decide) ?_ ?_
    · refine j_iconst (x := 1) dX4_readDimension_47 rfl (by decide) ?_
      refine j_goto (tgt := 52) dX4_readDimension_48 (by decide) ?_
      refine j_sub [2, 1, 0] rfl ?_
      exact jb_tr_readDimension_52 hs _ _ _ _
    · refine j_sub [2, 1, 0] rfl ?_
      exact jb_tr_readDimension_51 hs _ _ _

set_option maxRecDepth 100000 in
set_option maxHeartbeats 4000000 in
theorem jb_tr_read_110 {lay : List LK} {th : Nat}  (hs : sub lay th blkReader)  (h : Hp) : J mi_tr_read encV (Same lay) lay 0 0 110 [] [] h (tr_read_b110 th h) := by
  unfold tr_read_b110
  exact j_retV rfl rfl rfl dX4_read_110 rfl ⟨Nat.le_refl _, Nat.le_refl _⟩ rfl

set_option maxRecDepth 100000 in
set_option maxHeartbeats 4000000 in
theorem jb_tr_read_90 {lay : List LK} {th : Nat}  (hs : sub lay th blkReader)  (h : Hp) : J mi_tr_read encV (Same lay) lay 0 0 90 [(0, vr th)] [] h (tr_read_b90 th h) := by
  unfold tr_read_b90
  refine j_aload_n 0 dX4_read_90 rfl ?_
  refine j_getI 5 5 dX4_read_91 zc_4 rfl (sub_k hs 0 rfl rfl) (by decide) lk_X4_32 rfl rfl ?_
  refine j_aload_n 0 dX4_read_94 rfl ?_
  refine j_getI 2 2 dX4_read_95 zc_4 rfl (sub_k hs 0 rfl rfl) (by decide) lk_X4_22 rfl rfl ?_
  refine j_icmp_ge (tgt := 110) dX4_read_98 (by decide) ?_ ?_
  · refine j_aload_n 0 dX4_read_101 rfl ?_
    refine j_iconst (x := 1) dX4_read_102 rfl (by decide) ?_
    refine j_aload_n 0 dX4_read_103 rfl ?_
    refine j_getI 5 5 dX4_read_104 zc_4 rfl (sub_k hs 0 rfl rfl) (by decide) lk_X4_32 rfl rfl ?_
    refine j_cV (stk := []) [vi 1, vi (h th 5)] th dX4_read_107 mv_tr_fail lm_X4_58 (sub_k hs 0 rfl rfl) zc_4 (ct_tr_fail hs h) rfl rfl ⟨⟨Nat.le_of_ble_eq_true rfl, Nat.le_of_ble_eq_true rfl⟩, Nat.le_of_ble_eq_true rfl, Nat.le_of_ble_eq_true rfl⟩ (Nat.le_of_ble_eq_true rfl) rfl rfl (fun _ h1 _ => ?_)
    refine j_sub [] rfl ?_
    exact jb_tr_read_110 hs _
  · refine j_sub [] rfl ?_
    exact jb_tr_read_110 hs _

set_option maxRecDepth 100000 in
set_option maxHeartbeats 4000000 in
theorem jl_tr_read_65 {lay : List LK} {th : Nat}  (hs : sub lay th blkReader)  : ∀ (n : Nat) (x1 : Int) (h : Hp), J mi_tr_read encV (Same lay) lay 0 0 65 [(0, vr th), (1, vi x1)] [] h (iter1 (tr_read_f65 th) n x1 h) := by
  refine j_iter1 (lf := fun x1 => [(0, vr th), (1, vi x1)]) (fun k65 hk65 x1 h => ?_)
  unfold tr_read_f65
  refine j_iload_n 1 dX4_read_65 rfl ?_
  refine j_bipush (x := 16) dX4_read_66 (by decide) (by decide) ?_
  refine j_icmp_ge (tgt := 90) dX4_read_68 (by decide) ?_ ?_
  · refine j_aload_n 0 dX4_read_71 rfl ?_
    refine j_bipush (x := 59) dX4_read_72 (by decide) (by decide) ?_
    refine j_cV (stk := []) [vi 59] th dX4_read_74 mv_tr_accept lm_X4_51 (sub_k hs 0 rfl rfl) zc_4 (ct_tr_accept hs h) rfl rfl ⟨⟨Nat.le_of_ble_eq_true rfl, Nat.le_of_ble_eq_true rfl⟩, Nat.le_of_ble_eq_true rfl, Nat.le_of_ble_eq_true rfl⟩ (Nat.le_of_ble_eq_true rfl) rfl rfl (fun r1 h1 _ => ?_)
    refine j_if_eq (tgt := 90) dX4_read_77 (by decide) ?_ ?_
    · refine j_sub [0] rfl ?_
      exact jb_tr_read_90 hs _
    · refine j_aload_n 0 dX4_read_80 rfl ?_
      refine j_cV (stk := []) [] th dX4_read_81 mv_tr_readDimension lm_X4_55 (sub_k hs 0 rfl rfl) zc_4 (ct_tr_readDimension hs h1) rfl rfl ⟨⟨Nat.le_of_ble_eq_true rfl, Nat.le_of_ble_eq_true rfl⟩, Nat.le_of_ble_eq_true rfl, Nat.le_of_ble_eq_true rfl⟩ (Nat.le_of_ble_eq_true rfl) rfl rfl (fun _ h2 _ => ?_)
      refine j_iinc 1 (lv' := [(1, vi (x1 + 1)), (0, vr th)]) dX4_read_84 rfl (by decide) rfl ?_
      refine j_goto (tgt := 65) dX4_read_87 (by decide) ?_
      refine j_sub [1, 0] rfl ?_
      exact hk65 _ _
  · refine j_sub [0] rfl ?_
    exact jb_tr_read_90 hs _

set_option maxRecDepth 100000 in
set_option maxHeartbeats 4000000 in
theorem jb_tr_read_63 {lay : List LK} {th : Nat}  (hs : sub lay th blkReader)  (h : Hp) : J mi_tr_read encV (Same lay) lay 0 0 63 [(0, vr th)] [] h (tr_read_b63 th h) := by
  unfold tr_read_b63
  refine j_iconst (x := 0) dX4_read_63 rfl (by decide) ?_
  refine j_istore_n (lv' := [(1, vi 0), (0, vr th)]) dX4_read_64 (by decide) rfl ?_
  refine j_sub [1, 0] rfl ?_
  exact jl_tr_read_65 hs fuel _ _

set_option maxRecDepth 100000 in
set_option maxHeartbeats 4000000 in
theorem jl_tr_read_38 {lay : List LK} {th : Nat}  (hs : sub lay th blkReader)  : ∀ (n : Nat) (x1 : Int) (h : Hp), J mi_tr_read encV (Same lay) lay 0 0 38 [(0, vr th), (1, vi x1)] [] h (iter1 (tr_read_f38 th) n x1 h) := by
  refine j_iter1 (lf := fun x1 => [(0, vr th), (1, vi x1)]) (fun k38 hk38 x1 h => ?_)
  unfold tr_read_f38
  refine j_iload_n 1 dX4_read_38 rfl ?_
  refine j_bipush (x := 12) dX4_read_39 (by decide) (by decide) ?_
  refine j_icmp_ge (tgt := 63) dX4_read_41 (by decide) ?_ ?_
  · refine j_aload_n 0 dX4_read_44 rfl ?_
    refine j_bipush (x := 44) dX4_read_45 (by decide) (by decide) ?_
    refine j_cV (stk := []) [vi 44] th dX4_read_47 mv_tr_accept lm_X4_51 (sub_k hs 0 rfl rfl) zc_4 (ct_tr_accept hs h) rfl rfl ⟨⟨Nat.le_of_ble_eq_true rfl, Nat.le_of_ble_eq_true rfl⟩, Nat.le_of_ble_eq_true rfl, Nat.le_of_ble_eq_true rfl⟩ (Nat.le_of_ble_eq_true rfl) rfl rfl (fun r1 h1 _ => ?_)
    refine j_if_eq (tgt := 63) dX4_read_50 (by decide) ?_ ?_
    · refine j_sub [0] rfl ?_
      exact jb_tr_read_63 hs _
    · refine j_aload_n 0 dX4_read_53 rfl ?_
      refine j_cV (stk := []) [] th dX4_read_54 mv_tr_readPosition lm_X4_48 (sub_k hs 0 rfl rfl) zc_4 (ct_tr_readPosition hs h1) rfl rfl ⟨⟨Nat.le_of_ble_eq_true rfl, Nat.le_of_ble_eq_true rfl⟩, Nat.le_of_ble_eq_true rfl, Nat.le_of_ble_eq_true rfl⟩ (Nat.le_of_ble_eq_true rfl) rfl rfl (fun _ h2 _ => ?_)
      refine j_iinc 1 (lv' := [(1, vi (x1 + 1)), (0, vr th)]) dX4_read_57 rfl (by decide) rfl ?_
      refine j_goto (tgt := 38) dX4_read_60 (by decide) ?_
      refine j_sub [1, 0] rfl ?_
      exact hk38 _ _
  · refine j_sub [0] rfl ?_
    exact jb_tr_read_63 hs _

set_option maxRecDepth 100000 in
set_option maxHeartbeats 4000000 in
theorem ct_tr_read {lay : List LK} {th : Nat} (hs : sub lay th blkReader) (h : Hp) : CT mi_tr_read encV (Same lay) lay [vr th] h (tr_read th h) := by
  refine CT.of (by decide) rfl (Nat.le_of_ble_eq_true rfl) ?_
  show J mi_tr_read encV (Same lay) lay 0 0 0 [(0, vr th)] [] h _
  unfold tr_read
  refine j_aload_n 0 dX4_read_0 rfl ?_
  refine j_iconst (x := 0) dX4_read_1 rfl (by decide) ?_
  refine j_putI 3 3 dX4_read_2 zc_4 rfl (sub_k hs 0 rfl rfl) (by decide) lk_X4_26 rfl rfl rfl rfl (fun h1 _ => ?_)
  refine j_aload_n 0 dX4_read_5 rfl ?_
  refine j_iconst (x := 0) dX4_read_6 rfl (by decide) ?_
  refine j_putI 5 5 dX4_read_7 zc_4 rfl (sub_k hs 0 rfl rfl) (by decide) lk_X4_32 rfl rfl rfl rfl (fun h2 _ => ?_)
  refine j_aload_n 0 dX4_read_10 rfl ?_
  refine j_getR 1 2 1 dX4_read_11 zc_4 rfl (sub_k hs 0 rfl rfl) (by decide) lk_X4_18 rfl (by decide) (rfl : th + 2 = (th + 2)) ?_
  refine j_iconst (x := 0) dX4_read_14 rfl (by decide) ?_
  refine j_putI 7 7 dX4_read_15 zc_1 rfl (sub_k (sub_drop (blk' := blkDrawing) hs 2 rfl (rfl : th + 2 = (th + 2))) 0 rfl rfl) (by decide) lk_X4_38 rfl rfl rfl rfl (fun h3 _ => ?_)
  refine j_aload_n 0 dX4_read_18 rfl ?_
  refine j_getR 1 2 1 dX4_read_19 zc_4 rfl (sub_k hs 0 rfl rfl) (by decide) lk_X4_18 rfl (by decide) (rfl : th + 2 = (th + 2)) ?_
  refine j_iconst (x := 0) dX4_read_22 rfl (by decide) ?_
  refine j_putI 8 8 dX4_read_23 zc_1 rfl (sub_k (sub_drop (blk' := blkDrawing) hs 2 rfl (rfl : th + 2 = (th + 2))) 0 rfl rfl) (by decide) lk_X4_41 rfl rfl rfl rfl (fun h4 _ => ?_)
  refine j_aload_n 0 dX4_read_26 rfl ?_
  refine j_bipush (x := 112) dX4_read_27 (by decide) (by decide) ?_
  refine j_cV (stk := []) [vi 112] th dX4_read_29 mv_tr_expect lm_X4_44 (sub_k hs 0 rfl rfl) zc_4 (ct_tr_expect hs h4) rfl rfl ⟨⟨Nat.le_of_ble_eq_true rfl, Nat.le_of_ble_eq_true rfl⟩, Nat.le_of_ble_eq_true rfl, Nat.le_of_ble_eq_true rfl⟩ (Nat.le_of_ble_eq_true rfl) rfl rfl (fun _ h5 _ => ?_)
  refine j_aload_n 0 dX4_read_32 rfl ?_
  refine j_cV (stk := []) [] th dX4_read_33 mv_tr_readPosition lm_X4_48 (sub_k hs 0 rfl rfl) zc_4 (ct_tr_readPosition hs h5) rfl rfl ⟨⟨Nat.le_of_ble_eq_true rfl, Nat.le_of_ble_eq_true rfl⟩, Nat.le_of_ble_eq_true rfl, Nat.le_of_ble_eq_true rfl⟩ (Nat.le_of_ble_eq_true rfl) rfl rfl (fun _ h6 _ => ?_)
  refine j_iconst (x := 1) dX4_read_36 rfl (by decide) ?_
  refine j_istore_n (lv' := [(1, vi 1), (0, vr th)]) dX4_read_37 (by decide) rfl ?_
  refine j_sub [1, 0] rfl ?_
  exact jl_tr_read_38 hs fuel _ _


set_option maxRecDepth 100000 in
set_option maxHeartbeats 4000000 in
theorem ct_dr_valueOf {lay : List LK} {th : Nat} {p1 : Int} (hs : sub lay th blkDrawing) (h : Hp) : CT mi_dr_valueOf encI (Same lay) lay [vr th, vi p1] h (dr_valueOf th p1 h) := by
  refine CT.of (by decide) rfl (Nat.le_of_ble_eq_true rfl) ?_
  show J mi_dr_valueOf encI (Same lay) lay 0 0 0 [(0, vr th), (1, vi p1)] [] h _
  unfold dr_valueOf
  refine j_aload_n 0 dX1_valueOf_0 rfl ?_
  refine j_getR 0 1 0 dX1_valueOf_1 zc_1 rfl (sub_k hs 0 rfl rfl) (by decide) lk_X1_9 rfl (by decide) (rfl : th + 1 = (th + 1)) ?_
  refine j_aload_n 0 dX1_valueOf_4 rfl ?_
  refine j_getR 2 3 2 dX1_valueOf_5 zc_1 rfl (sub_k hs 0 rfl rfl) (by decide) lk_X1_18 rfl (by decide) (rfl : th + 3 = (th + 3)) ?_
  refine j_iload_n 1 dX1_valueOf_8 rfl ?_
  refine j_iald dX1_valueOf_9 (sub_k hs 3 rfl rfl) rfl ?_
  refine j_iald dX1_valueOf_10 (sub_k hs 1 rfl rfl) rfl ?_
  refine j_aload_n 0 dX1_valueOf_11 rfl ?_
  refine j_getR 0 1 0 dX1_valueOf_12 zc_1 rfl (sub_k hs 0 rfl rfl) (by decide) lk_X1_9 rfl (by decide) (rfl : th + 1 = (th + 1)) ?_
  refine j_aload_n 0 dX1_valueOf_15 rfl ?_
  refine j_getR 1 2 1 dX1_valueOf_16 zc_1 rfl (sub_k hs 0 rfl rfl) (by decide) lk_X1_15 rfl (by decide) (rfl : th + 2 = (th + 2)) ?_
  refine j_iload_n 1 dX1_valueOf_19 rfl ?_
  refine j_iald dX1_valueOf_20 (sub_k hs 2 rfl rfl) rfl ?_
  refine j_iald dX1_valueOf_21 (sub_k hs 1 rfl rfl) rfl ?_
  refine j_isub dX1_valueOf_22 ?_
  exact j_retI (h0 := h) (r := 0) rfl rfl rfl dX1_valueOf_23 rfl ⟨Nat.le_refl _, Nat.le_refl _⟩ rfl

set_option maxRecDepth 100000 in
set_option maxHeartbeats 4000000 in
theorem ct_dr_copyContentFrom {lay : List LK} {th : Nat} {q1 : Nat} (hs : sub lay th blkDrawing) (hq1 : sub lay q1 blkDrawing) (h : Hp) : CT mi_dr_copyContentFrom encV (Same lay) lay [vr th, vr q1] h (dr_copyContentFrom th q1 h) := by
  refine CT.of (by decide) rfl (Nat.le_of_ble_eq_true rfl) ?_
  show J mi_dr_copyContentFrom encV (Same lay) lay 0 0 0 [(0, vr th), (1, vr q1)] [] h _
  unfold dr_copyContentFrom
  refine j_aload_n 0 dX1_copyContentFrom_0 rfl ?_
  refine j_aload_n 1 dX1_copyContentFrom_1 rfl ?_
  refine j_getI 7 7 dX1_copyContentFrom_2 zc_1 rfl (sub_k hq1 0 rfl rfl) (by decide) lk_X1_33 rfl rfl ?_
  refine j_putI 7 7 dX1_copyContentFrom_5 zc_1 rfl (sub_k hs 0 rfl rfl) (by decide) lk_X1_33 rfl rfl rfl rfl (fun h1 _ => ?_)
  refine j_aload_n 0 dX1_copyContentFrom_8 rfl ?_
  refine j_aload_n 1 dX1_copyContentFrom_9 rfl ?_
  refine j_getI 8 8 dX1_copyContentFrom_10 zc_1 rfl (sub_k hq1 0 rfl rfl) (by decide) lk_X1_37 rfl rfl ?_
  refine j_putI 8 8 dX1_copyContentFrom_13 zc_1 rfl (sub_k hs 0 rfl rfl) (by decide) lk_X1_37 rfl rfl rfl rfl (fun h2 _ => ?_)
  refine j_aload_n 1 dX1_copyContentFrom_16 rfl ?_
  refine j_getR 0 1 0 dX1_copyContentFrom_17 zc_1 rfl (sub_k hq1 0 rfl rfl) (by decide) lk_X1_9 rfl (by decide) (rfl : q1 + 1 = (q1 + 1)) ?_
  refine j_iconst (x := 0) dX1_copyContentFrom_20 rfl (by decide) ?_
  refine j_aload_n 0 dX1_copyContentFrom_21 rfl ?_
  refine j_getR 0 1 0 dX1_copyContentFrom_22 zc_1 rfl (sub_k hs 0 rfl rfl) (by decide) lk_X1_9 rfl (by decide) (rfl : th + 1 = (th + 1)) ?_
  refine j_iconst (x := 0) dX1_copyContentFrom_25 rfl (by decide) ?_
  refine j_bipush (x := 12) dX1_copyContentFrom_26 (by decide) (by decide) ?_
  refine j_copy dX1_copyContentFrom_28 lm_X1_50 ks_1 ks_2 ks_3 (sub_k hq1 1 rfl rfl) (sub_k hs 1 rfl rfl) (by decide) (by decide) (by decide) (Nat.le_of_ble_eq_true rfl) (Nat.le_of_ble_eq_true rfl) (fun h3 _ => ?_)
  refine j_aload_n 1 dX1_copyContentFrom_31 rfl ?_
  refine j_getR 1 2 1 dX1_copyContentFrom_32 zc_1 rfl (sub_k hq1 0 rfl rfl) (by decide) lk_X1_15 rfl (by decide) (rfl : q1 + 2 = (q1 + 2)) ?_
  refine j_iconst (x := 0) dX1_copyContentFrom_35 rfl (by decide) ?_
  refine j_aload_n 0 dX1_copyContentFrom_36 rfl ?_
  refine j_getR 1 2 1 dX1_copyContentFrom_37 zc_1 rfl (sub_k hs 0 rfl rfl) (by decide) lk_X1_15 rfl (by decide) (rfl : th + 2 = (th + 2)) ?_
  refine j_iconst (x := 0) dX1_copyContentFrom_40 rfl (by decide) ?_
  refine j_bipush (x := 16) dX1_copyContentFrom_41 (by decide) (by decide) ?_
  refine j_copy dX1_copyContentFrom_43 lm_X1_50 ks_1 ks_2 ks_3 (sub_k hq1 2 rfl rfl) (sub_k hs 2 rfl rfl) (by decide) (by decide) (by decide) (Nat.le_of_ble_eq_true rfl) (Nat.le_of_ble_eq_true rfl) (fun h4 _ => ?_)
  refine j_aload_n 1 dX1_copyContentFrom_46 rfl ?_
  refine j_getR 2 3 2 dX1_copyContentFrom_47 zc_1 rfl (sub_k hq1 0 rfl rfl) (by decide) lk_X1_18 rfl (by decide) (rfl : q1 + 3 = (q1 + 3)) ?_
  refine j_iconst (x := 0) dX1_copyContentFrom_50 rfl (by decide) ?_
  refine j_aload_n 0 dX1_copyContentFrom_51 rfl ?_
  refine j_getR 2 3 2 dX1_copyContentFrom_52 zc_1 rfl (sub_k hs 0 rfl rfl) (by decide) lk_X1_18 rfl (by decide) (rfl : th + 3 = (th + 3)) ?_
  refine j_iconst (x := 0) dX1_copyContentFrom_55 rfl (by decide) ?_
  refine j_bipush (x := 16) dX1_copyContentFrom_56 (by decide) (by decide) ?_
  refine j_copy dX1_copyContentFrom_58 lm_X1_50 ks_1 ks_2 ks_3 (sub_k hq1 3 rfl rfl) (sub_k hs 3 rfl rfl) (by decide) (by decide) (by decide) (Nat.le_of_ble_eq_true rfl) (Nat.le_of_ble_eq_true rfl) (fun h5 _ => ?_)
  refine j_aload_n 1 dX1_copyContentFrom_61 rfl ?_
  refine j_getR 3 4 3 dX1_copyContentFrom_62 zc_1 rfl (sub_k hq1 0 rfl rfl) (by decide) lk_X1_21 rfl (by decide) (rfl : q1 + 4 = (q1 + 4)) ?_
  refine j_iconst (x := 0) dX1_copyContentFrom_65 rfl (by decide) ?_
  refine j_aload_n 0 dX1_copyContentFrom_66 rfl ?_
  refine j_getR 3 4 3 dX1_copyContentFrom_67 zc_1 rfl (sub_k hs 0 rfl rfl) (by decide) lk_X1_21 rfl (by decide) (rfl : th + 4 = (th + 4)) ?_
  refine j_iconst (x := 0) dX1_copyContentFrom_70 rfl (by decide) ?_
  refine j_bipush (x := 16) dX1_copyContentFrom_71 (by decide) (by decide) ?_
  refine j_copy dX1_copyContentFrom_73 lm_X1_50 ks_1 ks_2 ks_3 (sub_k hq1 4 rfl rfl) (sub_k hs 4 rfl rfl) (by decide) (by decide) (by decide) (Nat.le_of_ble_eq_true rfl) (Nat.le_of_ble_eq_true rfl) (fun h6 _ => ?_)
  refine j_aload_n 1 dX1_copyContentFrom_76 rfl ?_
  refine j_getR 4 5 4 dX1_copyContentFrom_77 zc_1 rfl (sub_k hq1 0 rfl rfl) (by decide) lk_X1_24 rfl (by decide) (rfl : q1 + 5 = (q1 + 5)) ?_
  refine j_iconst (x := 0) dX1_copyContentFrom_80 rfl (by decide) ?_
  refine j_aload_n 0 dX1_copyContentFrom_81 rfl ?_
  refine j_getR 4 5 4 dX1_copyContentFrom_82 zc_1 rfl (sub_k hs 0 rfl rfl) (by decide) lk_X1_24 rfl (by decide) (rfl : th + 5 = (th + 5)) ?_
  refine j_iconst (x := 0) dX1_copyContentFrom_85 rfl (by decide) ?_
  refine j_bipush (x := 16) dX1_copyContentFrom_86 (by decide) (by decide) ?_
  refine j_copy dX1_copyContentFrom_88 lm_X1_50 ks_1 ks_2 ks_3 (sub_k hq1 5 rfl rfl) (sub_k hs 5 rfl rfl) (by decide) (by decide) (by decide) (Nat.le_of_ble_eq_true rfl) (Nat.le_of_ble_eq_true rfl) (fun h7 _ => ?_)
  refine j_aload_n 1 dX1_copyContentFrom_91 rfl ?_
  refine j_getR 5 6 5 dX1_copyContentFrom_92 zc_1 rfl (sub_k hq1 0 rfl rfl) (by decide) lk_X1_27 rfl (by decide) (rfl : q1 + 6 = (q1 + 6)) ?_
  refine j_iconst (x := 0) dX1_copyContentFrom_95 rfl (by decide) ?_
  refine j_aload_n 0 dX1_copyContentFrom_96 rfl ?_
  refine j_getR 5 6 5 dX1_copyContentFrom_97 zc_1 rfl (sub_k hs 0 rfl rfl) (by decide) lk_X1_27 rfl (by decide) (rfl : th + 6 = (th + 6)) ?_
  refine j_iconst (x := 0) dX1_copyContentFrom_100 rfl (by decide) ?_
  refine j_bipush (x := 16) dX1_copyContentFrom_101 (by decide) (by decide) ?_
  refine j_copy dX1_copyContentFrom_103 lm_X1_50 ks_1 ks_2 ks_3 (sub_k hq1 6 rfl rfl) (sub_k hs 6 rfl rfl) (by decide) (by decide) (by decide) (Nat.le_of_ble_eq_true rfl) (Nat.le_of_ble_eq_true rfl) (fun h8 _ => ?_)
  refine j_aload_n 1 dX1_copyContentFrom_106 rfl ?_
  refine j_getR 6 7 6 dX1_copyContentFrom_107 zc_1 rfl (sub_k hq1 0 rfl rfl) (by decide) lk_X1_30 rfl (by decide) (rfl : q1 + 7 = (q1 + 7)) ?_
  refine j_iconst (x := 0) dX1_copyContentFrom_110 rfl (by decide) ?_
  refine j_aload_n 0 dX1_copyContentFrom_111 rfl ?_
  refine j_getR 6 7 6 dX1_copyContentFrom_112 zc_1 rfl (sub_k hs 0 rfl rfl) (by decide) lk_X1_30 rfl (by decide) (rfl : th + 7 = (th + 7)) ?_
  refine j_iconst (x := 0) dX1_copyContentFrom_115 rfl (by decide) ?_
  refine j_bipush (x := 16) dX1_copyContentFrom_116 (by decide) (by decide) ?_
  refine j_copy dX1_copyContentFrom_118 lm_X1_50 ks_1 ks_2 ks_3 (sub_k hq1 7 rfl rfl) (sub_k hs 7 rfl rfl) (by decide) (by decide) (by decide) (Nat.le_of_ble_eq_true rfl) (Nat.le_of_ble_eq_true rfl) (fun h9 _ => ?_)
  exact j_retV rfl rfl rfl dX1_copyContentFrom_121 rfl ⟨Nat.le_refl _, Nat.le_refl _⟩ rfl

set_option maxRecDepth 100000 in
set_option maxHeartbeats 4000000 in
theorem ct_dr_copyFrom {lay : List LK} {th : Nat} {q1 : Nat} (hs : sub lay th blkDrawing) (hq1 : sub lay q1 blkDrawing) (h : Hp) : CT mi_dr_copyFrom encV (Same lay) lay [vr th, vr q1] h (dr_copyFrom th q1 h) := by
  refine CT.of (by decide) rfl (Nat.le_of_ble_eq_true rfl) ?_
  show J mi_dr_copyFrom encV (Same lay) lay 0 0 0 [(0, vr th), (1, vr q1)] [] h _
  unfold dr_copyFrom
  refine j_aload_n 0 dX1_copyFrom_0 rfl ?_
  refine j_aload_n 1 dX1_copyFrom_1 rfl ?_
  refine j_cV (stk := []) [vr q1] th dX1_copyFrom_2 mv_dr_copyContentFrom lm_X1_46 (sub_k hs 0 rfl rfl) zc_1 (ct_dr_copyContentFrom hs hq1 h) rfl rfl ⟨⟨Nat.le_of_ble_eq_true rfl, Nat.le_of_ble_eq_true rfl⟩, Nat.le_of_ble_eq_true rfl, Nat.le_of_ble_eq_true rfl⟩ (Nat.le_of_ble_eq_true rfl) rfl rfl (fun _ h1 _ => ?_)
  refine j_aload_n 0 dX1_copyFrom_5 rfl ?_
  refine j_aload_n 1 dX1_copyFrom_6 rfl ?_
  refine j_getI 9 9 dX1_copyFrom_7 zc_1 rfl (sub_k hq1 0 rfl rfl) (by decide) lk_X1_40 rfl rfl ?_
  refine j_putI 9 9 dX1_copyFrom_10 zc_1 rfl (sub_k hs 0 rfl rfl) (by decide) lk_X1_40 rfl rfl rfl rfl (fun h2 _ => ?_)
  refine j_aload_n 0 dX1_copyFrom_13 rfl ?_
  refine j_aload_n 1 dX1_copyFrom_14 rfl ?_
  refine j_getI 10 10 dX1_copyFrom_15 zc_1 rfl (sub_k hq1 0 rfl rfl) (by decide) lk_X1_43 rfl rfl ?_
  refine j_putI 10 10 dX1_copyFrom_18 zc_1 rfl (sub_k hs 0 rfl rfl) (by decide) lk_X1_43 rfl rfl rfl rfl (fun h3 _ => ?_)
  exact j_retV rfl rfl rfl dX1_copyFrom_21 rfl ⟨Nat.le_refl _, Nat.le_refl _⟩ rfl

set_option maxRecDepth 100000 in
set_option maxHeartbeats 4000000 in
theorem jb_dr_hasPoint_17 {lay : List LK} {th : Nat} {p1 : Int}  (hs : sub lay th blkDrawing)  (s0 : Int) (h : Hp) : J mi_dr_hasPoint encI (Same lay) lay 0 0 17 [] [vi s0] h (dr_hasPoint_b17 th p1 s0 h) := by
  unfold dr_hasPoint_b17
  exact j_retZ rfl rfl rfl dX1_hasPoint_17 rfl ⟨Nat.le_refl _, Nat.le_refl _⟩ rfl

set_option maxRecDepth 100000 in
set_option maxHeartbeats 4000000 in
theorem jb_dr_hasPoint_16 {lay : List LK} {th : Nat} {p1 : Int}  (hs : sub lay th blkDrawing)  (h : Hp) : J mi_dr_hasPoint encI (Same lay) lay 0 0 16 [] [] h (dr_hasPoint_b16 th p1 h) := by
  unfold dr_hasPoint_b16
  refine j_iconst (x := 0) dX1_hasPoint_16 rfl (by decide) ?_
  exact jb_dr_hasPoint_17 hs _ _

set_option maxRecDepth 100000 in
set_option maxHeartbeats 4000000 in
theorem ct_dr_hasPoint {lay : List LK} {th : Nat} {p1 : Int} (hs : sub lay th blkDrawing) (h : Hp) : CT mi_dr_hasPoint encI (Same lay) lay [vr th, vi p1] h (dr_hasPoint th p1 h) := by
  refine CT.of (by decide) rfl (Nat.le_of_ble_eq_true rfl) ?_
  show J mi_dr_hasPoint encI (Same lay) lay 0 0 0 [(0, vr th), (1, vi p1)] [] h _
  unfold dr_hasPoint
  refine j_iload_n 1 dX1_hasPoint_0 rfl ?_
  refine j_if_lt (tgt := 16) dX1_hasPoint_1 (by decide) ?_ ?_
  · refine j_sub [] rfl ?_
    exact jb_dr_hasPoint_16 hs _
  · refine j_iload_n 1 dX1_hasPoint_4 rfl ?_
    refine j_aload_n 0 dX1_hasPoint_5 rfl ?_
    refine j_getI 7 7 dX1_hasPoint_6 zc_1 rfl (sub_k hs 0 rfl rfl) (by decide) lk_X1_33 rfl rfl ?_
    refine j_icmp_ge (tgt := 16) dX1_hasPoint_9 (by decide) ?_ ?_
    · refine j_iconst (x := 1) dX1_hasPoint_12 rfl (by decide) ?_
      refine j_goto (tgt := 17) dX1_hasPoint_13 (by decide) ?_
      refine j_sub [] rfl ?_
      exact jb_dr_hasPoint_17 hs _ _
    · refine j_sub [] rfl ?_
      exact jb_dr_hasPoint_16 hs _

set_option maxRecDepth 100000 in
set_option maxHeartbeats 4000000 in
theorem jb_dr_hasDimension_17 {lay : List LK} {th : Nat} {p1 : Int}  (hs : sub lay th blkDrawing)  (s0 : Int) (h : Hp) : J mi_dr_hasDimension encI (Same lay) lay 0 0 17 [] [vi s0] h (dr_hasDimension_b17 th p1 s0 h) := by
  unfold dr_hasDimension_b17
  exact j_retZ rfl rfl rfl dX1_hasDimension_17 rfl ⟨Nat.le_refl _, Nat.le_refl _⟩ rfl

set_option maxRecDepth 100000 in
set_option maxHeartbeats 4000000 in
theorem jb_dr_hasDimension_16 {lay : List LK} {th : Nat} {p1 : Int}  (hs : sub lay th blkDrawing)  (h : Hp) : J mi_dr_hasDimension encI (Same lay) lay 0 0 16 [] [] h (dr_hasDimension_b16 th p1 h) := by
  unfold dr_hasDimension_b16
  refine j_iconst (x := 0) dX1_hasDimension_16 rfl (by decide) ?_
  exact jb_dr_hasDimension_17 hs _ _

set_option maxRecDepth 100000 in
set_option maxHeartbeats 4000000 in
theorem ct_dr_hasDimension {lay : List LK} {th : Nat} {p1 : Int} (hs : sub lay th blkDrawing) (h : Hp) : CT mi_dr_hasDimension encI (Same lay) lay [vr th, vi p1] h (dr_hasDimension th p1 h) := by
  refine CT.of (by decide) rfl (Nat.le_of_ble_eq_true rfl) ?_
  show J mi_dr_hasDimension encI (Same lay) lay 0 0 0 [(0, vr th), (1, vi p1)] [] h _
  unfold dr_hasDimension
  refine j_iload_n 1 dX1_hasDimension_0 rfl ?_
  refine j_if_lt (tgt := 16) dX1_hasDimension_1 (by decide) ?_ ?_
  · refine j_sub [] rfl ?_
    exact jb_dr_hasDimension_16 hs _
  · refine j_iload_n 1 dX1_hasDimension_4 rfl ?_
    refine j_aload_n 0 dX1_hasDimension_5 rfl ?_
    refine j_getI 8 8 dX1_hasDimension_6 zc_1 rfl (sub_k hs 0 rfl rfl) (by decide) lk_X1_37 rfl rfl ?_
    refine j_icmp_ge (tgt := 16) dX1_hasDimension_9 (by decide) ?_ ?_
    · refine j_iconst (x := 1) dX1_hasDimension_12 rfl (by decide) ?_
      refine j_goto (tgt := 17) dX1_hasDimension_13 (by decide) ?_
      refine j_sub [] rfl ?_
      exact jb_dr_hasDimension_17 hs _ _
    · refine j_sub [] rfl ?_
      exact jb_dr_hasDimension_16 hs _

set_option maxRecDepth 100000 in
set_option maxHeartbeats 4000000 in
theorem jb_dr_countPointsBefore_25 {lay : List LK} {th : Nat} {p1 : Int} {k4 : Int → Int → Hp → O Int} (hs : sub lay th blkDrawing) (hk4 : ∀ (x2 x3 : Int) (h : Hp), J mi_dr_countPointsBefore encI (Same lay) lay 0 0 4 [(0, vr th), (1, vi p1), (2, vi x2), (3, vi x3)] [] h (k4 x2 x3 h)) (x2 x3 : Int) (h : Hp) : J mi_dr_countPointsBefore encI (Same lay) lay 0 0 25 [(0, vr th), (1, vi p1), (2, vi x2), (3, vi x3)] [] h (dr_countPointsBefore_b25 th p1 k4 x2 x3 h) := by
  unfold dr_countPointsBefore_b25
  refine j_iinc 3 (lv' := [(3, vi (x3 + 1)), (0, vr th), (1, vi p1), (2, vi x2)]) dX1_countPointsBefore_25 rfl (by decide) rfl ?_
  refine j_goto (tgt := 4) dX1_countPointsBefore_28 (by decide) ?_
  refine j_sub [1, 2, 3, 0] rfl ?_
  exact hk4 _ _ _

set_option maxRecDepth 100000 in
set_option maxHeartbeats 4000000 in
theorem jl_dr_countPointsBefore_4 {lay : List LK} {th : Nat} {p1 : Int}  (hs : sub lay th blkDrawing)  : ∀ (n : Nat) (x2 x3 : Int) (h : Hp), J mi_dr_countPointsBefore encI (Same lay) lay 0 0 4 [(0, vr th), (1, vi p1), (2, vi x2), (3, vi x3)] [] h (iter2 (dr_countPointsBefore_f4 th p1) n x2 x3 h) := by
  refine j_iter2 (lf := fun x2 x3 => [(0, vr th), (1, vi p1), (2, vi x2), (3, vi x3)]) (fun k4 hk4 x2 x3 h => ?_)
  unfold dr_countPointsBefore_f4
  refine j_iload_n 3 dX1_countPointsBefore_4 rfl ?_
  refine j_aload_n 0 dX1_countPointsBefore_5 rfl ?_
  refine j_getI 7 7 dX1_countPointsBefore_6 zc_1 rfl (sub_k hs 0 rfl rfl) (by decide) lk_X1_33 rfl rfl ?_
  refine j_icmp_ge (tgt := 31) dX1_countPointsBefore_9 (by decide) ?_ ?_
  · refine j_aload_n 0 dX1_countPointsBefore_12 rfl ?_
    refine j_getR 0 1 0 dX1_countPointsBefore_13 zc_1 rfl (sub_k hs 0 rfl rfl) (by decide) lk_X1_9 rfl (by decide) (rfl : th + 1 = (th + 1)) ?_
    refine j_iload_n 3 dX1_countPointsBefore_16 rfl ?_
    refine j_iald dX1_countPointsBefore_17 (sub_k hs 1 rfl rfl) rfl ?_
    refine j_iload_n 1 dX1_countPointsBefore_18 rfl ?_
    refine j_icmp_ge (tgt := 25) dX1_countPointsBefore_19 (by decide) ?_ ?_
    · refine j_iinc 2 (lv' := [(2, vi (x2 + 1)), (0, vr th), (1, vi p1), (3, vi x3)]) dX1_countPointsBefore_22 rfl (by decide) rfl ?_
      refine j_sub [1, 2, 0, 3] rfl ?_
      exact jb_dr_countPointsBefore_25 hs hk4 _ _ _
    · exact jb_dr_countPointsBefore_25 hs hk4 _ _ _
  · refine j_iload_n 2 dX1_countPointsBefore_31 rfl ?_
    exact j_retI (h0 := h) (r := 0) rfl rfl rfl dX1_countPointsBefore_32 rfl ⟨Nat.le_refl _, Nat.le_refl _⟩ rfl

set_option maxRecDepth 100000 in
set_option maxHeartbeats 4000000 in
theorem ct_dr_countPointsBefore {lay : List LK} {th : Nat} {p1 : Int} (hs : sub lay th blkDrawing) (h : Hp) : CT mi_dr_countPointsBefore encI (Same lay) lay [vr th, vi p1] h (dr_countPointsBefore th p1 h) := by
  refine CT.of (by decide) rfl (Nat.le_of_ble_eq_true rfl) ?_
  show J mi_dr_countPointsBefore encI (Same lay) lay 0 0 0 [(0, vr th), (1, vi p1)] [] h _
  unfold dr_countPointsBefore
  refine j_iconst (x := 0) dX1_countPointsBefore_0 rfl (by decide) ?_
  refine j_istore_n (lv' := [(2, vi 0), (0, vr th), (1, vi p1)]) dX1_countPointsBefore_1 (by decide) rfl ?_
  refine j_iconst (x := 0) dX1_countPointsBefore_2 rfl (by decide) ?_
  refine j_istore_n (lv' := [(3, vi 0), (2, vi 0), (0, vr th), (1, vi p1)]) dX1_countPointsBefore_3 (by decide) rfl ?_
  refine j_sub [2, 3, 1, 0] rfl ?_
  exact jl_dr_countPointsBefore_4 hs fuel _ _ _

set_option maxRecDepth 100000 in
set_option maxHeartbeats 4000000 in
theorem jb_dr_hasPointAt_29 {lay : List LK} {th : Nat} {p1 : Int}  (hs : sub lay th blkDrawing)  (s0 : Int) (h : Hp) : J mi_dr_hasPointAt encI (Same lay) lay 0 0 29 [] [vi s0] h (dr_hasPointAt_b29 th p1 s0 h) := by
  unfold dr_hasPointAt_b29
  exact j_retZ rfl rfl rfl dX1_hasPointAt_29 rfl ⟨Nat.le_refl _, Nat.le_refl _⟩ rfl

set_option maxRecDepth 100000 in
set_option maxHeartbeats 4000000 in
theorem jb_dr_hasPointAt_28 {lay : List LK} {th : Nat} {p1 : Int}  (hs : sub lay th blkDrawing)  (h : Hp) : J mi_dr_hasPointAt encI (Same lay) lay 0 0 28 [] [] h (dr_hasPointAt_b28 th p1 h) := by
  unfold dr_hasPointAt_b28
  refine j_iconst (x := 0) dX1_hasPointAt_28 rfl (by decide) ?_
  exact jb_dr_hasPointAt_29 hs _ _

set_option maxRecDepth 100000 in
set_option maxHeartbeats 4000000 in
theorem ct_dr_hasPointAt {lay : List LK} {th : Nat} {p1 : Int} (hs : sub lay th blkDrawing) (h : Hp) : CT mi_dr_hasPointAt encI (Same lay) lay [vr th, vi p1] h (dr_hasPointAt th p1 h) := by
  refine CT.of (by decide) rfl (Nat.le_of_ble_eq_true rfl) ?_
  show J mi_dr_hasPointAt encI (Same lay) lay 0 0 0 [(0, vr th), (1, vi p1)] [] h _
  unfold dr_hasPointAt
  refine j_aload_n 0 dX1_hasPointAt_0 rfl ?_
  refine j_iload_n 1 dX1_hasPointAt_1 rfl ?_
  refine j_cV (stk := []) [vi p1] th dX1_hasPointAt_2 mv_dr_countPointsBefore lm_X1_56 (sub_k hs 0 rfl rfl) zc_1 (ct_dr_countPointsBefore hs h) rfl rfl ⟨⟨Nat.le_of_ble_eq_true rfl, Nat.le_of_ble_eq_true rfl⟩, Nat.le_of_ble_eq_true rfl, Nat.le_of_ble_eq_true rfl⟩ (Nat.le_of_ble_eq_true rfl) rfl rfl (fun r1 h1 _ => ?_)
  refine j_istore_n (lv' := [(2, vi r1), (0, vr th), (1, vi p1)]) dX1_hasPointAt_5 (by decide) rfl ?_
  refine j_iload_n 0 dX1_hasPointAt_6 rfl ?_
  refine j_aload_n 1 dX1_hasPointAt_7 rfl ?_
  refine j_getI 7 7 dX1_hasPointAt_8 zc_1 rfl (sub_k hs 0 rfl rfl) (by decide) lk_X1_33 rfl rfl ?_
  refine j_icmp_ge (tgt := 28) dX1_hasPointAt_11 (by decide) ?_ ?_
  · refine j_aload_n 1 dX1_hasPointAt_14 rfl ?_
    refine j_getR 0 1 0 dX1_hasPointAt_15 zc_1 rfl (sub_k hs 0 rfl rfl) (by decide) lk_X1_9 rfl (by decide) (rfl : th + 1 = (th + 1)) ?_
    refine j_iload_n 0 dX1_hasPointAt_18 rfl ?_
    refine j_iald dX1_hasPointAt_19 (sub_k hs 1 rfl rfl) rfl ?_
    refine j_iload_n 2 dX1_hasPointAt_20 rfl ?_
    refine j_icmp_ne (tgt := 28) dX1_hasPointAt_21 (by decide) ?_ ?_
    · refine j_iconst (x := 1) dX1_hasPointAt_24 rfl (by decide) ?_
      refine j_goto (tgt := 29) dX1_hasPointAt_25 (by decide) ?_
      refine j_sub [] rfl ?_
      exact jb_dr_hasPointAt_29 hs _ _
    · refine j_sub [] rfl ?_
      exact jb_dr_hasPointAt_28 hs _
  · refine j_sub [] rfl ?_
    exact jb_dr_hasPointAt_28 hs _

set_option maxRecDepth 100000 in
set_option maxHeartbeats 4000000 in
theorem jb_dr_isEnd_25 {lay : List LK} {th : Nat} {p1 : Int} {p2 : Int}  (hs : sub lay th blkDrawing)  (s0 : Int) (h : Hp) : J mi_dr_isEnd encI (Same lay) lay 0 0 25 [] [vi s0] h (dr_isEnd_b25 th p1 p2 s0 h) := by
  unfold dr_isEnd_b25
  exact j_retZ rfl rfl rfl dX1_isEnd_25 rfl ⟨Nat.le_refl _, Nat.le_refl _⟩ rfl

set_option maxRecDepth 100000 in
set_option maxHeartbeats 4000000 in
theorem jb_dr_isEnd_20 {lay : List LK} {th : Nat} {p1 : Int} {p2 : Int}  (hs : sub lay th blkDrawing)  (h : Hp) : J mi_dr_isEnd encI (Same lay) lay 0 0 20 [] [] h (dr_isEnd_b20 th p1 p2 h) := by
  unfold dr_isEnd_b20
  refine j_iconst (x := 1) dX1_isEnd_20 rfl (by decide) ?_
  refine j_goto (tgt := 25) dX1_isEnd_21 (by decide) ?_
  exact jb_dr_isEnd_25 hs _ _

set_option maxRecDepth 100000 in
set_option maxHeartbeats 4000000 in
theorem ct_dr_isEnd {lay : List LK} {th : Nat} {p1 : Int} {p2 : Int} (hs : sub lay th blkDrawing) (h : Hp) : CT mi_dr_isEnd encI (Same lay) lay [vr th, vi p1, vi p2] h (dr_isEnd th p1 p2 h) := by
  refine CT.of (by decide) rfl (Nat.le_of_ble_eq_true rfl) ?_
  show J mi_dr_isEnd encI (Same lay) lay 0 0 0 [(0, vr th), (1, vi p1), (2, vi p2)] [] h _
  unfold dr_isEnd
  refine j_aload_n 0 dX1_isEnd_0 rfl ?_
  refine j_getR 1 2 1 dX1_isEnd_1 zc_1 rfl (sub_k hs 0 rfl rfl) (by decide) lk_X1_15 rfl (by decide) (rfl : th + 2 = (th + 2)) ?_
  refine j_iload_n 1 dX1_isEnd_4 rfl ?_
  refine j_iald dX1_isEnd_5 (sub_k hs 2 rfl rfl) rfl ?_
  refine j_iload_n 2 dX1_isEnd_6 rfl ?_
  refine j_icmp_eq (tgt := 20) dX1_isEnd_7 (by decide) ?_ ?_
  · refine j_sub [] rfl ?_
    exact jb_dr_isEnd_20 hs _
  · refine j_aload_n 0 dX1_isEnd_10 rfl ?_
    refine j_getR 2 3 2 dX1_isEnd_11 zc_1 rfl (sub_k hs 0 rfl rfl) (by decide) lk_X1_18 rfl (by decide) (rfl : th + 3 = (th + 3)) ?_
    refine j_iload_n 1 dX1_isEnd_14 rfl ?_
    refine j_iald dX1_isEnd_15 (sub_k hs 3 rfl rfl) rfl ?_
    refine j_iload_n 2 dX1_isEnd_16 rfl ?_
    refine j_icmp_ne (tgt := 24) dX1_isEnd_17 (by decide) ?_ ?_
    · refine j_sub [] rfl ?_
      exact jb_dr_isEnd_20 hs _
    · refine j_iconst (x := 0) dX1_isEnd_24 rfl (by decide) ?_
      refine j_sub [] rfl ?_
      exact jb_dr_isEnd_25 hs _ _

set_option maxRecDepth 100000 in
set_option maxHeartbeats 4000000 in
theorem jb_dr_countDimensionsAt_24 {lay : List LK} {th : Nat} {p1 : Int} {k4 : Int → Int → Hp → O Int} (hs : sub lay th blkDrawing) (hk4 : ∀ (x2 x3 : Int) (h : Hp), J mi_dr_countDimensionsAt encI (Same lay) lay 0 0 4 [(0, vr th), (1, vi p1), (2, vi x2), (3, vi x3)] [] h (k4 x2 x3 h)) (x2 x3 : Int) (h : Hp) : J mi_dr_countDimensionsAt encI (Same lay) lay 0 0 24 [(0, vr th), (1, vi p1), (2, vi x2), (3, vi x3)] [] h (dr_countDimensionsAt_b24 th p1 k4 x2 x3 h) := by
  unfold dr_countDimensionsAt_b24
  refine j_iinc 3 (lv' := [(3, vi (x3 + 1)), (0, vr th), (1, vi p1), (2, vi x2)]) dX1_countDimensionsAt_24 rfl (by decide) rfl ?_
  refine j_goto (tgt := 4) dX1_countDimensionsAt_27 (by decide) ?_
  refine j_sub [1, 2, 3, 0] rfl ?_
  exact hk4 _ _ _

set_option maxRecDepth 100000 in
set_option maxHeartbeats 4000000 in
theorem jl_dr_countDimensionsAt_4 {lay : List LK} {th : Nat} {p1 : Int}  (hs : sub lay th blkDrawing)  : ∀ (n : Nat) (x2 x3 : Int) (h : Hp), J mi_dr_countDimensionsAt encI (Same lay) lay 0 0 4 [(0, vr th), (1, vi p1), (2, vi x2), (3, vi x3)] [] h (iter2 (dr_countDimensionsAt_f4 th p1) n x2 x3 h) := by
  refine j_iter2 (lf := fun x2 x3 => [(0, vr th), (1, vi p1), (2, vi x2), (3, vi x3)]) (fun k4 hk4 x2 x3 h => ?_)
  unfold dr_countDimensionsAt_f4
  refine j_iload_n 3 dX1_countDimensionsAt_4 rfl ?_
  refine j_aload_n 0 dX1_countDimensionsAt_5 rfl ?_
  refine j_getI 8 8 dX1_countDimensionsAt_6 zc_1 rfl (sub_k hs 0 rfl rfl) (by decide) lk_X1_37 rfl rfl ?_
  refine j_icmp_ge (tgt := 30) dX1_countDimensionsAt_9 (by decide) ?_ ?_
  · refine j_aload_n 0 dX1_countDimensionsAt_12 rfl ?_
    refine j_iload_n 3 dX1_countDimensionsAt_13 rfl ?_
    refine j_iload_n 1 dX1_countDimensionsAt_14 rfl ?_
    refine j_cV (stk := []) [vi x3, vi p1] th dX1_countDimensionsAt_15 mv_dr_isEnd lm_X1_60 (sub_k hs 0 rfl rfl) zc_1 (ct_dr_isEnd hs h) rfl rfl ⟨⟨Nat.le_of_ble_eq_true rfl, Nat.le_of_ble_eq_true rfl⟩, Nat.le_of_ble_eq_true rfl, Nat.le_of_ble_eq_true rfl⟩ (Nat.le_of_ble_eq_true rfl) rfl rfl (fun r1 h1 _ => ?_)
    refine j_if_eq (tgt := 24) dX1_countDimensionsAt_18 (by decide) ?_ ?_
    · exact jb_dr_countDimensionsAt_24 hs hk4 _ _ _
    · refine j_iinc 2 (lv' := [(2, vi (x2 + 1)), (0, vr th), (1, vi p1), (3, vi x3)]) dX1_countDimensionsAt_21 rfl (by decide) rfl ?_
      refine j_sub [1, 2, 0, 3] rfl ?_
      exact jb_dr_countDimensionsAt_24 hs hk4 _ _ _
  · refine j_iload_n 2 dX1_countDimensionsAt_30 rfl ?_
    exact j_retI (h0 := h) (r := 0) rfl rfl rfl dX1_countDimensionsAt_31 rfl ⟨Nat.le_refl _, Nat.le_refl _⟩ rfl

set_option maxRecDepth 100000 in
set_option maxHeartbeats 4000000 in
theorem ct_dr_countDimensionsAt {lay : List LK} {th : Nat} {p1 : Int} (hs : sub lay th blkDrawing) (h : Hp) : CT mi_dr_countDimensionsAt encI (Same lay) lay [vr th, vi p1] h (dr_countDimensionsAt th p1 h) := by
  refine CT.of (by decide) rfl (Nat.le_of_ble_eq_true rfl) ?_
  show J mi_dr_countDimensionsAt encI (Same lay) lay 0 0 0 [(0, vr th), (1, vi p1)] [] h _
  unfold dr_countDimensionsAt
  refine j_iconst (x := 0) dX1_countDimensionsAt_0 rfl (by decide) ?_
  refine j_istore_n (lv' := [(2, vi 0), (0, vr th), (1, vi p1)]) dX1_countDimensionsAt_1 (by decide) rfl ?_
  refine j_iconst (x := 0) dX1_countDimensionsAt_2 rfl (by decide) ?_
  refine j_istore_n (lv' := [(3, vi 0), (2, vi 0), (0, vr th), (1, vi p1)]) dX1_countDimensionsAt_3 (by decide) rfl ?_
  refine j_sub [2, 3, 1, 0] rfl ?_
  exact jl_dr_countDimensionsAt_4 hs fuel _ _ _

set_option maxRecDepth 100000 in
set_option maxHeartbeats 4000000 in
theorem jb_dr_renumbered_38 {lay : List LK} {p0 : Int} {p1 : Int} {p2 : Int}    (s0 : Int) (h : Hp) : J mi_dr_renumbered encI (Same lay) lay 0 0 38 [] [vi s0] h (dr_renumbered_b38 p0 p1 p2 s0 h) := by
  unfold dr_renumbered_b38
  exact j_retI (h0 := h) (r := 0) rfl rfl rfl dX1_renumbered_38 rfl ⟨Nat.le_refl _, Nat.le_refl _⟩ rfl

set_option maxRecDepth 100000 in
set_option maxHeartbeats 4000000 in
theorem jb_dr_renumbered_37 {lay : List LK} {p0 : Int} {p1 : Int} {p2 : Int}    (h : Hp) : J mi_dr_renumbered encI (Same lay) lay 0 0 37 [(0, vi p0)] [] h (dr_renumbered_b37 p0 p1 p2 h) := by
  unfold dr_renumbered_b37
  refine j_iload_n 0 dX1_renumbered_37 rfl ?_
  refine j_sub [] rfl ?_
  exact jb_dr_renumbered_38  _ _

set_option maxRecDepth 100000 in
set_option maxHeartbeats 4000000 in
theorem jb_dr_renumbered_21 {lay : List LK} {p0 : Int} {p1 : Int} {p2 : Int}    (h : Hp) : J mi_dr_renumbered encI (Same lay) lay 0 0 21 [(0, vi p0), (1, vi p1), (2, vi p2)] [] h (dr_renumbered_b21 p0 p1 p2 h) := by
  unfold dr_renumbered_b21
  refine j_iload_n 2 dX1_renumbered_21 rfl ?_
  refine j_iload_n 0 dX1_renumbered_22 rfl ?_
  refine j_icmp_gt (tgt := 37) dX1_renumbered_23 (by decide) ?_ ?_
  · refine j_sub [0] rfl ?_
    exact jb_dr_renumbered_37  _
  · refine j_iload_n 0 dX1_renumbered_26 rfl ?_
    refine j_iload_n 1 dX1_renumbered_27 rfl ?_
    refine j_icmp_ge (tgt := 37) dX1_renumbered_28 (by decide) ?_ ?_
    · refine j_iload_n 0 dX1_renumbered_31 rfl ?_
      refine j_iconst (x := 1) dX1_renumbered_32 rfl (by decide) ?_
      refine j_iadd dX1_renumbered_33 ?_
      refine j_goto (tgt := 38) dX1_renumbered_34 (by decide) ?_
      refine j_sub [] rfl ?_
      exact jb_dr_renumbered_38  _ _
    · refine j_sub [0] rfl ?_
      exact jb_dr_renumbered_37  _

set_option maxRecDepth 100000 in
set_option maxHeartbeats 4000000 in
theorem ct_dr_renumbered {lay : List LK} {p0 : Int} {p1 : Int} {p2 : Int}  (h : Hp) : CT mi_dr_renumbered encI (Same lay) lay [vi p0, vi p1, vi p2] h (dr_renumbered p0 p1 p2 h) := by
  refine CT.of (by decide) rfl (Nat.le_of_ble_eq_true rfl) ?_
  show J mi_dr_renumbered encI (Same lay) lay 0 0 0 [(0, vi p0), (1, vi p1), (2, vi p2)] [] h _
  unfold dr_renumbered
  refine j_iload_n 0 dX1_renumbered_0 rfl ?_
  refine j_iload_n 1 dX1_renumbered_1 rfl ?_
  refine j_icmp_ne (tgt := 7) dX1_renumbered_2 (by decide) ?_ ?_
  · refine j_iload_n 2 dX1_renumbered_5 rfl ?_
    exact j_retI (h0 := h) (r := 0) rfl rfl rfl dX1_renumbered_6 rfl ⟨Nat.le_refl _, Nat.le_refl _⟩ rfl
  · refine j_iload_n 1 dX1_renumbered_7 rfl ?_
    refine j_iload_n 0 dX1_renumbered_8 rfl ?_
    refine j_icmp_ge (tgt := 21) dX1_renumbered_9 (by decide) ?_ ?_
    · refine j_iload_n 0 dX1_renumbered_12 rfl ?_
      refine j_iload_n 2 dX1_renumbered_13 rfl ?_
      refine j_icmp_gt (tgt := 21) dX1_renumbered_14 (by decide) ?_ ?_
      · exact jb_dr_renumbered_21  _
      · refine j_iload_n 0 dX1_renumbered_17 rfl ?_
        refine j_iconst (x := 1) dX1_renumbered_18 rfl (by decide) ?_
        refine j_isub dX1_renumbered_19 ?_
        exact j_retI (h0 := h) (r := 0) rfl rfl rfl dX1_renumbered_20 rfl ⟨Nat.le_refl _, Nat.le_refl _⟩ rfl
    · exact jb_dr_renumbered_21  _

set_option maxRecDepth 100000 in
set_option maxHeartbeats 4000000 in
theorem jl_dr_renumberEnds_2 {lay : List LK} {th : Nat} {p1 : Int} {p2 : Int}  (hs : sub lay th blkDrawing)  : ∀ (n : Nat) (x3 : Int) (h : Hp), J mi_dr_renumberEnds encV (Same lay) lay 0 0 2 [(0, vr th), (1, vi p1), (2, vi p2), (3, vi x3)] [] h (iter1 (dr_renumberEnds_f2 th p1 p2) n x3 h) := by
  refine j_iter1 (lf := fun x3 => [(0, vr th), (1, vi p1), (2, vi p2), (3, vi x3)]) (fun k2 hk2 x3 h => ?_)
  unfold dr_renumberEnds_f2
  refine j_iload_n 3 dX1_renumberEnds_2 rfl ?_
  refine j_aload_n 0 dX1_renumberEnds_3 rfl ?_
  refine j_getI 8 8 dX1_renumberEnds_4 zc_1 rfl (sub_k hs 0 rfl rfl) (by decide) lk_X1_37 rfl rfl ?_
  refine j_icmp_ge (tgt := 68) dX1_renumberEnds_7 (by decide) ?_ ?_
  · refine j_aload_n 0 dX1_renumberEnds_10 rfl ?_
    refine j_getR 1 2 1 dX1_renumberEnds_11 zc_1 rfl (sub_k hs 0 rfl rfl) (by decide) lk_X1_15 rfl (by decide) (rfl : th + 2 = (th + 2)) ?_
    refine j_iload_n 3 dX1_renumberEnds_14 rfl ?_
    refine j_iald dX1_renumberEnds_15 (sub_k hs 2 rfl rfl) rfl ?_
    refine j_iload_n 1 dX1_renumberEnds_16 rfl ?_
    refine j_iload_n 2 dX1_renumberEnds_17 rfl ?_
    refine j_cS (stk := []) [vi (h (th + 2) x3), vi p1, vi p2] dX1_renumberEnds_18 mv_dr_renumbered lm_X1_76 (ct_dr_renumbered h) rfl rfl ⟨⟨Nat.le_of_ble_eq_true rfl, Nat.le_of_ble_eq_true rfl⟩, Nat.le_of_ble_eq_true rfl, Nat.le_of_ble_eq_true rfl⟩ (Nat.le_of_ble_eq_true rfl) rfl rfl (fun r1 h1 _ => ?_)
    refine j_istore (lv' := [(4, vi r1), (0, vr th), (1, vi p1), (2, vi p2), (3, vi x3)]) dX1_renumberEnds_21 (by decide) rfl ?_
    refine j_aload_n 1 dX1_renumberEnds_23 rfl ?_
    refine j_getR 2 3 2 dX1_renumberEnds_24 zc_1 rfl (sub_k hs 0 rfl rfl) (by decide) lk_X1_18 rfl (by decide) (rfl : th + 3 = (th + 3)) ?_
    refine j_iload_n 4 dX1_renumberEnds_27 rfl ?_
    refine j_iald dX1_renumberEnds_28 (sub_k hs 3 rfl rfl) rfl ?_
    refine j_iload_n 2 dX1_renumberEnds_29 rfl ?_
    refine j_iload_n 3 dX1_renumberEnds_30 rfl ?_
    refine j_cS (stk := []) [vi (h1 (th + 3) x3), vi p1, vi p2] dX1_renumberEnds_31 mv_dr_renumbered lm_X1_76 (ct_dr_renumbered h1) rfl rfl ⟨⟨Nat.le_of_ble_eq_true rfl, Nat.le_of_ble_eq_true rfl⟩, Nat.le_of_ble_eq_true rfl, Nat.le_of_ble_eq_true rfl⟩ (Nat.le_of_ble_eq_true rfl) rfl rfl (fun r2 h2 _ => ?_)
    refine j_istore (lv' := [(5, vi r2), (4, vi r1), (0, vr th), (1, vi p1), (2, vi p2), (3, vi x3)]) dX1_renumberEnds_34 (by decide) rfl ?_
    refine j_aload_n 2 dX1_renumberEnds_36 rfl ?_
    refine j_getR 1 2 1 dX1_renumberEnds_37 zc_1 rfl (sub_k hs 0 rfl rfl) (by decide) lk_X1_15 rfl (by decide) (rfl : th + 2 = (th + 2)) ?_
    refine j_iload_n 5 dX1_renumberEnds_40 rfl ?_
    refine j_iload 1 dX1_renumberEnds_41 rfl ?_
    refine j_iload 0 dX1_renumberEnds_43 rfl ?_
    refine j_mmin dX1_renumberEnds_45 lm_X1_80 km_min1 km_2 km_min3 (Nat.le_of_ble_eq_true rfl) (Nat.le_of_ble_eq_true rfl) (Nat.le_of_ble_eq_true rfl) (Nat.le_of_ble_eq_true rfl) ?_
    refine j_iast dX1_renumberEnds_48 (sub_k hs 2 rfl rfl) rfl (fun h3 _ => ?_)
    refine j_aload_n 2 dX1_renumberEnds_49 rfl ?_
    refine j_getR 2 3 2 dX1_renumberEnds_50 zc_1 rfl (sub_k hs 0 rfl rfl) (by decide) lk_X1_18 rfl (by decide) (rfl : th + 3 = (th + 3)) ?_
    refine j_iload_n 5 dX1_renumberEnds_53 rfl ?_
    refine j_iload 1 dX1_renumberEnds_54 rfl ?_
    refine j_iload 0 dX1_renumberEnds_56 rfl ?_
    refine j_mmax dX1_renumberEnds_58 lm_X1_85 km_max1 km_2 km_max3 (Nat.le_of_ble_eq_true rfl) (Nat.le_of_ble_eq_true rfl) (Nat.le_of_ble_eq_true rfl) (Nat.le_of_ble_eq_true rfl) ?_
    refine j_iast dX1_renumberEnds_61 (sub_k hs 3 rfl rfl) rfl (fun h4 _ => ?_)
    refine j_iinc 5 (lv' := [(3, vi (x3 + 1)), (5, vi r2), (4, vi r1), (0, vr th), (1, vi p1), (2, vi p2)]) dX1_renumberEnds_62 rfl (by decide) rfl ?_
    refine j_goto (tgt := 2) dX1_renumberEnds_65 (by decide) ?_
    refine j_sub [3, 4, 5, 0] rfl ?_
    exact hk2 _ _
  · exact j_retV rfl rfl rfl dX1_renumberEnds_68 rfl ⟨Nat.le_refl _, Nat.le_refl _⟩ rfl

set_option maxRecDepth 100000 in
set_option maxHeartbeats 4000000 in
theorem ct_dr_renumberEnds {lay : List LK} {th : Nat} {p1 : Int} {p2 : Int} (hs : sub lay th blkDrawing) (h : Hp) : CT mi_dr_renumberEnds encV (Same lay) lay [vr th, vi p1, vi p2] h (dr_renumberEnds th p1 p2 h) := by
  refine CT.of (by decide) rfl (Nat.le_of_ble_eq_true rfl) ?_
  show J mi_dr_renumberEnds encV (Same lay) lay 0 0 0 [(0, vr th), (1, vi p1), (2, vi p2)] [] h _
  unfold dr_renumberEnds
  refine j_iconst (x := 0) dX1_renumberEnds_0 rfl (by decide) ?_
  refine j_istore_n (lv' := [(3, vi 0), (0, vr th), (1, vi p1), (2, vi p2)]) dX1_renumberEnds_1 (by decide) rfl ?_
  refine j_sub [1, 2, 3, 0] rfl ?_
  exact jl_dr_renumberEnds_2 hs fuel _ _

set_option maxRecDepth 100000 in
set_option maxHeartbeats 4000000 in
theorem jl_dr_shiftPoint_59 {lay : List LK} {th : Nat} {p1 : Int} {p2 : Int}  (hs : sub lay th blkDrawing)  : ∀ (n : Nat) (x3 x4 : Int) (h : Hp), J mi_dr_shiftPoint encI (Same lay) lay 0 0 59 [(0, vr th), (2, vi p2), (3, vi x3), (4, vi x4)] [] h (iter2 (dr_shiftPoint_f59 th p1 p2) n x3 x4 h) := by
  refine j_iter2 (lf := fun x3 x4 => [(0, vr th), (2, vi p2), (3, vi x3), (4, vi x4)]) (fun k59 hk59 x3 x4 h => ?_)
  unfold dr_shiftPoint_f59
  refine j_iload 3 dX1_shiftPoint_59 rfl ?_
  refine j_iload_n 2 dX1_shiftPoint_61 rfl ?_
  refine j_icmp_le (tgt := 87) dX1_shiftPoint_62 (by decide) ?_ ?_
  · refine j_aload_n 0 dX1_shiftPoint_65 rfl ?_
    refine j_getR 0 1 0 dX1_shiftPoint_66 zc_1 rfl (sub_k hs 0 rfl rfl) (by decide) lk_X1_9 rfl (by decide) (rfl : th + 1 = (th + 1)) ?_
    refine j_iload 3 dX1_shiftPoint_69 rfl ?_
    refine j_aload_n 0 dX1_shiftPoint_71 rfl ?_
    refine j_getR 0 1 0 dX1_shiftPoint_72 zc_1 rfl (sub_k hs 0 rfl rfl) (by decide) lk_X1_9 rfl (by decide) (rfl : th + 1 = (th + 1)) ?_
    refine j_iload 3 dX1_shiftPoint_75 rfl ?_
    refine j_iconst (x := 1) dX1_shiftPoint_77 rfl (by decide) ?_
    refine j_isub dX1_shiftPoint_78 ?_
    refine j_iald dX1_shiftPoint_79 (sub_k hs 1 rfl rfl) rfl ?_
    refine j_iast dX1_shiftPoint_80 (sub_k hs 1 rfl rfl) rfl (fun h1 _ => ?_)
    refine j_iinc 3 (lv' := [(4, vi (x4 + (-1))), (0, vr th), (2, vi p2), (3, vi x3)]) dX1_shiftPoint_81 rfl (by decide) rfl ?_
    refine j_goto (tgt := 59) dX1_shiftPoint_84 (by decide) ?_
    refine j_sub [1, 2, 3, 0] rfl ?_
    exact hk59 _ _ _
  · refine j_aload_n 0 dX1_shiftPoint_87 rfl ?_
    refine j_getR 0 1 0 dX1_shiftPoint_88 zc_1 rfl (sub_k hs 0 rfl rfl) (by decide) lk_X1_9 rfl (by decide) (rfl : th + 1 = (th + 1)) ?_
    refine j_iload_n 2 dX1_shiftPoint_91 rfl ?_
    refine j_iload_n 1 dX1_shiftPoint_92 rfl ?_
    refine j_iast dX1_shiftPoint_93 (sub_k hs 1 rfl rfl) rfl (fun h2 _ => ?_)
    refine j_iload_n 2 dX1_shiftPoint_94 rfl ?_
    exact j_retI (h0 := h2) (r := 0) rfl rfl rfl dX1_shiftPoint_95 rfl ⟨Nat.le_refl _, Nat.le_refl _⟩ rfl

set_option maxRecDepth 100000 in
set_option maxHeartbeats 4000000 in
theorem jl_dr_shiftPoint_28 {lay : List LK} {th : Nat} {p1 : Int} {p2 : Int}  (hs : sub lay th blkDrawing)  : ∀ (n : Nat) (x3 x4 : Int) (h : Hp), J mi_dr_shiftPoint encI (Same lay) lay 0 0 28 [(0, vr th), (1, vi p1), (2, vi p2), (3, vi x3), (4, vi x4)] [] h (iter2 (dr_shiftPoint_f28 th p1 p2) n x3 x4 h) := by
  refine j_iter2 (lf := fun x3 x4 => [(0, vr th), (1, vi p1), (2, vi p2), (3, vi x3), (4, vi x4)]) (fun k28 hk28 x3 x4 h => ?_)
  unfold dr_shiftPoint_f28
  refine j_iload 4 dX1_shiftPoint_28 rfl ?_
  refine j_iload_n 3 dX1_shiftPoint_30 rfl ?_
  refine j_icmp_ge (tgt := 56) dX1_shiftPoint_31 (by decide) ?_ ?_
  · refine j_aload_n 0 dX1_shiftPoint_34 rfl ?_
    refine j_getR 0 1 0 dX1_shiftPoint_35 zc_1 rfl (sub_k hs 0 rfl rfl) (by decide) lk_X1_9 rfl (by decide) (rfl : th + 1 = (th + 1)) ?_
    refine j_iload 4 dX1_shiftPoint_38 rfl ?_
    refine j_aload_n 0 dX1_shiftPoint_40 rfl ?_
    refine j_getR 0 1 0 dX1_shiftPoint_41 zc_1 rfl (sub_k hs 0 rfl rfl) (by decide) lk_X1_9 rfl (by decide) (rfl : th + 1 = (th + 1)) ?_
    refine j_iload 4 dX1_shiftPoint_44 rfl ?_
    refine j_iconst (x := 1) dX1_shiftPoint_46 rfl (by decide) ?_
    refine j_iadd dX1_shiftPoint_47 ?_
    refine j_iald dX1_shiftPoint_48 (sub_k hs 1 rfl rfl) rfl ?_
    refine j_iast dX1_shiftPoint_49 (sub_k hs 1 rfl rfl) rfl (fun h1 _ => ?_)
    refine j_iinc 4 (lv' := [(4, vi (x4 + 1)), (0, vr th), (1, vi p1), (2, vi p2), (3, vi x3)]) dX1_shiftPoint_50 rfl (by decide) rfl ?_
    refine j_goto (tgt := 28) dX1_shiftPoint_53 (by decide) ?_
    refine j_sub [1, 2, 3, 4, 0] rfl ?_
    exact hk28 _ _ _
  · refine j_iload_n 1 dX1_shiftPoint_56 rfl ?_
    refine j_istore (lv' := [(4, vi p1), (0, vr th), (1, vi p1), (2, vi p2), (3, vi x3)]) dX1_shiftPoint_57 (by decide) rfl ?_
    refine j_sub [1, 3, 4, 0] rfl ?_
    exact jl_dr_shiftPoint_59 hs fuel _ _ _

set_option maxRecDepth 100000 in
set_option maxHeartbeats 4000000 in
theorem jb_dr_shiftPoint_19 {lay : List LK} {th : Nat} {p1 : Int} {p2 : Int}  (hs : sub lay th blkDrawing)  (x3 : Int) (h : Hp) : J mi_dr_shiftPoint encI (Same lay) lay 0 0 19 [(0, vr th), (1, vi p1), (2, vi p2), (3, vi x3)] [] h (dr_shiftPoint_b19 th p1 p2 x3 h) := by
  unfold dr_shiftPoint_b19
  refine j_aload_n 0 dX1_shiftPoint_19 rfl ?_
  refine j_iload_n 1 dX1_shiftPoint_20 rfl ?_
  refine j_iload_n 3 dX1_shiftPoint_21 rfl ?_
  refine j_cV (stk := []) [vi p1, vi x3] th dX1_shiftPoint_22 mv_dr_renumberEnds lm_X1_68 (sub_k hs 0 rfl rfl) zc_1 (ct_dr_renumberEnds hs h) rfl rfl ⟨⟨Nat.le_of_ble_eq_true rfl, Nat.le_of_ble_eq_true rfl⟩, Nat.le_of_ble_eq_true rfl, Nat.le_of_ble_eq_true rfl⟩ (Nat.le_of_ble_eq_true rfl) rfl rfl (fun _ h1 _ => ?_)
  refine j_iload_n 1 dX1_shiftPoint_25 rfl ?_
  refine j_istore (lv' := [(4, vi p1), (0, vr th), (1, vi p1), (2, vi p2), (3, vi x3)]) dX1_shiftPoint_26 (by decide) rfl ?_
  refine j_sub [1, 2, 3, 4, 0] rfl ?_
  exact jl_dr_shiftPoint_28 hs fuel _ _ _

set_option maxRecDepth 100000 in
set_option maxHeartbeats 4000000 in
theorem ct_dr_shiftPoint {lay : List LK} {th : Nat} {p1 : Int} {p2 : Int} (hs : sub lay th blkDrawing) (h : Hp) : CT mi_dr_shiftPoint encI (Same lay) lay [vr th, vi p1, vi p2] h (dr_shiftPoint th p1 p2 h) := by
  refine CT.of (by decide) rfl (Nat.le_of_ble_eq_true rfl) ?_
  show J mi_dr_shiftPoint encI (Same lay) lay 0 0 0 [(0, vr th), (1, vi p1), (2, vi p2)] [] h _
  unfold dr_shiftPoint
  refine j_aload_n 0 dX1_shiftPoint_0 rfl ?_
  refine j_iload_n 2 dX1_shiftPoint_1 rfl ?_
  refine j_cV (stk := []) [vi p2] th dX1_shiftPoint_2 mv_dr_countPointsBefore lm_X1_56 (sub_k hs 0 rfl rfl) zc_1 (ct_dr_countPointsBefore hs h) rfl rfl ⟨⟨Nat.le_of_ble_eq_true rfl, Nat.le_of_ble_eq_true rfl⟩, Nat.le_of_ble_eq_true rfl, Nat.le_of_ble_eq_true rfl⟩ (Nat.le_of_ble_eq_true rfl) rfl rfl (fun r1 h1 _ => ?_)
  refine j_istore_n (lv' := [(3, vi r1), (0, vr th), (1, vi p1), (2, vi p2)]) dX1_shiftPoint_5 (by decide) rfl ?_
  refine j_aload_n 1 dX1_shiftPoint_6 rfl ?_
  refine j_getR 0 1 0 dX1_shiftPoint_7 zc_1 rfl (sub_k hs 0 rfl rfl) (by decide) lk_X1_9 rfl (by decide) (rfl : th + 1 = (th + 1)) ?_
  refine j_iload_n 2 dX1_shiftPoint_10 rfl ?_
  refine j_iald dX1_shiftPoint_11 (sub_k hs 1 rfl rfl) rfl ?_
  refine j_iload_n 3 dX1_shiftPoint_12 rfl ?_
  refine j_icmp_ge (tgt := 19) dX1_shiftPoint_13 (by decide) ?_ ?_
  · refine j_iinc 0 (lv' := [(3, vi (r1 + (-1))), (0, vr th), (1, vi p1), (2, vi p2)]) dX1_shiftPoint_16 rfl (by decide) rfl ?_
    refine j_sub [1, 2, 3, 0] rfl ?_
    exact jb_dr_shiftPoint_19 hs _ _
  · refine j_sub [1, 2, 3, 0] rfl ?_
    exact jb_dr_shiftPoint_19 hs _ _

set_option maxRecDepth 100000 in
set_option maxHeartbeats 4000000 in
theorem ct_dr_insertPoint {lay : List LK} {th : Nat} {p1 : Int} (hs : sub lay th blkDrawing) (h : Hp) : CT mi_dr_insertPoint encI (Same lay) lay [vr th, vi p1] h (dr_insertPoint th p1 h) := by
  refine CT.of (by decide) rfl (Nat.le_of_ble_eq_true rfl) ?_
  show J mi_dr_insertPoint encI (Same lay) lay 0 0 0 [(0, vr th), (1, vi p1)] [] h _
  unfold dr_insertPoint
  refine j_aload_n 0 dX1_insertPoint_0 rfl ?_
  refine j_dup dX1_insertPoint_1 (fun _ _ => rfl) ?_
  refine j_getI 7 7 dX1_insertPoint_2 zc_1 rfl (sub_k hs 0 rfl rfl) (by decide) lk_X1_33 rfl rfl ?_
  refine j_iconst (x := 1) dX1_insertPoint_5 rfl (by decide) ?_
  refine j_iadd dX1_insertPoint_6 ?_
  refine j_putI 7 7 dX1_insertPoint_7 zc_1 rfl (sub_k hs 0 rfl rfl) (by decide) lk_X1_33 rfl rfl rfl rfl (fun h1 _ => ?_)
  refine j_aload_n 0 dX1_insertPoint_10 rfl ?_
  refine j_getR 0 1 0 dX1_insertPoint_11 zc_1 rfl (sub_k hs 0 rfl rfl) (by decide) lk_X1_9 rfl (by decide) (rfl : th + 1 = (th + 1)) ?_
  refine j_aload_n 0 dX1_insertPoint_14 rfl ?_
  refine j_getI 7 7 dX1_insertPoint_15 zc_1 rfl (sub_k hs 0 rfl rfl) (by decide) lk_X1_33 rfl rfl ?_
  refine j_iconst (x := 1) dX1_insertPoint_18 rfl (by decide) ?_
  refine j_isub dX1_insertPoint_19 ?_
  refine j_iload_n 1 dX1_insertPoint_20 rfl ?_
  refine j_iast dX1_insertPoint_21 (sub_k hs 1 rfl rfl) rfl (fun h2 _ => ?_)
  refine j_aload_n 0 dX1_insertPoint_22 rfl ?_
  refine j_aload_n 0 dX1_insertPoint_23 rfl ?_
  refine j_getI 7 7 dX1_insertPoint_24 zc_1 rfl (sub_k hs 0 rfl rfl) (by decide) lk_X1_33 rfl rfl ?_
  refine j_iconst (x := 1) dX1_insertPoint_27 rfl (by decide) ?_
  refine j_isub dX1_insertPoint_28 ?_
  refine j_iload_n 1 dX1_insertPoint_29 rfl ?_
  refine j_cV (stk := []) [vi ((h2 th 7) - 1), vi p1] th dX1_insertPoint_30 mv_dr_shiftPoint lm_X1_64 (sub_k hs 0 rfl rfl) zc_1 (ct_dr_shiftPoint hs h2) rfl rfl ⟨⟨Nat.le_of_ble_eq_true rfl, Nat.le_of_ble_eq_true rfl⟩, Nat.le_of_ble_eq_true rfl, Nat.le_of_ble_eq_true rfl⟩ (Nat.le_of_ble_eq_true rfl) rfl rfl (fun r3 h3 _ => ?_)
  exact j_retI (h0 := h3) (r := 0) rfl rfl rfl dX1_insertPoint_33 rfl ⟨Nat.le_refl _, Nat.le_refl _⟩ rfl

set_option maxRecDepth 100000 in
set_option maxHeartbeats 4000000 in
theorem jl_dr_closeGap_4 {lay : List LK} {q0 : Nat} {n0 : Nat} {p1 : Int} {p2 : Int}  (hq0 : lay[q0]? = some (0, n0, 0, 0)) (hn0 : inR (n0 : Int))  : ∀ (n : Nat) (x3 : Int) (h : Hp), J mi_dr_closeGap encV (Same lay) lay 0 0 4 [(0, vr q0), (2, vi p2), (3, vi x3)] [] h (iter1 (dr_closeGap_f4 q0 n0 p1 p2) n x3 h) := by
  refine j_iter1 (lf := fun x3 => [(0, vr q0), (2, vi p2), (3, vi x3)]) (fun k4 hk4 x3 h => ?_)
  unfold dr_closeGap_f4
  refine j_iload_n 2 dX1_closeGap_4 rfl ?_
  refine j_iload_n 1 dX1_closeGap_5 rfl ?_
  refine j_icmp_ge (tgt := 23) dX1_closeGap_6 (by decide) ?_ ?_
  · refine j_aload_n 0 dX1_closeGap_9 rfl ?_
    refine j_iload_n 2 dX1_closeGap_10 rfl ?_
    refine j_iconst (x := 1) dX1_closeGap_11 rfl (by decide) ?_
    refine j_isub dX1_closeGap_12 ?_
    refine j_aload_n 0 dX1_closeGap_13 rfl ?_
    refine j_iload_n 2 dX1_closeGap_14 rfl ?_
    refine j_iald dX1_closeGap_15 hq0 rfl ?_
    refine j_iast dX1_closeGap_16 hq0 rfl (fun h1 _ => ?_)
    refine j_iinc 2 (lv' := [(3, vi (x3 + 1)), (0, vr q0), (2, vi p2)]) dX1_closeGap_17 rfl (by decide) rfl ?_
    refine j_goto (tgt := 4) dX1_closeGap_20 (by decide) ?_
    refine j_sub [1, 2, 0] rfl ?_
    exact hk4 _ _
  · exact j_retV rfl rfl rfl dX1_closeGap_23 rfl ⟨Nat.le_refl _, Nat.le_refl _⟩ rfl

set_option maxRecDepth 100000 in
set_option maxHeartbeats 4000000 in
theorem ct_dr_closeGap {lay : List LK} {q0 : Nat} {n0 : Nat} {p1 : Int} {p2 : Int} (hq0 : lay[q0]? = some (0, n0, 0, 0)) (hn0 : inR (n0 : Int)) (h : Hp) : CT mi_dr_closeGap encV (Same lay) lay [vr q0, vi p1, vi p2] h (dr_closeGap q0 n0 p1 p2 h) := by
  refine CT.of (by decide) rfl (Nat.le_of_ble_eq_true rfl) ?_
  show J mi_dr_closeGap encV (Same lay) lay 0 0 0 [(0, vr q0), (1, vi p1), (2, vi p2)] [] h _
  unfold dr_closeGap
  refine j_iload_n 1 dX1_closeGap_0 rfl ?_
  refine j_iconst (x := 1) dX1_closeGap_1 rfl (by decide) ?_
  refine j_iadd dX1_closeGap_2 ?_
  refine j_istore_n (lv' := [(3, vi (p1 + 1)), (0, vr q0), (1, vi p1), (2, vi p2)]) dX1_closeGap_3 (by decide) rfl ?_
  refine j_sub [1, 3, 0] rfl ?_
  exact jl_dr_closeGap_4 hq0 hn0 fuel _ _

set_option maxRecDepth 100000 in
set_option maxHeartbeats 4000000 in
theorem ct_dr_append {lay : List LK} {th : Nat} {p1 : Int} {p2 : Int} (hs : sub lay th blkDrawing) (h : Hp) : CT mi_dr_append encI (Same lay) lay [vr th, vi p1, vi p2] h (dr_append th p1 p2 h) := by
  refine CT.of (by decide) rfl (Nat.le_of_ble_eq_true rfl) ?_
  show J mi_dr_append encI (Same lay) lay 0 0 0 [(0, vr th), (1, vi p1), (2, vi p2)] [] h _
  unfold dr_append
  refine j_aload_n 0 dX1_append_0 rfl ?_
  refine j_getI 8 8 dX1_append_1 zc_1 rfl (sub_k hs 0 rfl rfl) (by decide) lk_X1_37 rfl rfl ?_
  refine j_istore_n (lv' := [(3, vi (h th 8)), (0, vr th), (1, vi p1), (2, vi p2)]) dX1_append_4 (by decide) rfl ?_
  refine j_aload_n 1 dX1_append_5 rfl ?_
  refine j_dup dX1_append_6 (fun _ _ => rfl) ?_
  refine j_getI 8 8 dX1_append_7 zc_1 rfl (sub_k hs 0 rfl rfl) (by decide) lk_X1_37 rfl rfl ?_
  refine j_iconst (x := 1) dX1_append_10 rfl (by decide) ?_
  refine j_iadd dX1_append_11 ?_
  refine j_putI 8 8 dX1_append_12 zc_1 rfl (sub_k hs 0 rfl rfl) (by decide) lk_X1_37 rfl rfl rfl rfl (fun h1 _ => ?_)
  refine j_aload_n 1 dX1_append_15 rfl ?_
  refine j_getR 1 2 1 dX1_append_16 zc_1 rfl (sub_k hs 0 rfl rfl) (by decide) lk_X1_15 rfl (by decide) (rfl : th + 2 = (th + 2)) ?_
  refine j_iload_n 0 dX1_append_19 rfl ?_
  refine j_iload_n 2 dX1_append_20 rfl ?_
  refine j_iast dX1_append_21 (sub_k hs 2 rfl rfl) rfl (fun h2 _ => ?_)
  refine j_aload_n 1 dX1_append_22 rfl ?_
  refine j_getR 2 3 2 dX1_append_23 zc_1 rfl (sub_k hs 0 rfl rfl) (by decide) lk_X1_18 rfl (by decide) (rfl : th + 3 = (th + 3)) ?_
  refine j_iload_n 0 dX1_append_26 rfl ?_
  refine j_iload_n 3 dX1_append_27 rfl ?_
  refine j_iast dX1_append_28 (sub_k hs 3 rfl rfl) rfl (fun h3 _ => ?_)
  refine j_aload_n 1 dX1_append_29 rfl ?_
  refine j_getR 3 4 3 dX1_append_30 zc_1 rfl (sub_k hs 0 rfl rfl) (by decide) lk_X1_21 rfl (by decide) (rfl : th + 4 = (th + 4)) ?_
  refine j_iload_n 0 dX1_append_33 rfl ?_
  refine j_iconst (x := 0) dX1_append_34 rfl (by decide) ?_
  refine j_iast dX1_append_35 (sub_k hs 4 rfl rfl) rfl (fun h4 _ => ?_)
  refine j_aload_n 1 dX1_append_36 rfl ?_
  refine j_getR 4 5 4 dX1_append_37 zc_1 rfl (sub_k hs 0 rfl rfl) (by decide) lk_X1_24 rfl (by decide) (rfl : th + 5 = (th + 5)) ?_
  refine j_iload_n 0 dX1_append_40 rfl ?_
  refine j_iconst (x := 0) dX1_append_41 rfl (by decide) ?_
  refine j_iast dX1_append_42 (sub_k hs 5 rfl rfl) rfl (fun h5 _ => ?_)
  refine j_aload_n 1 dX1_append_43 rfl ?_
  refine j_getR 5 6 5 dX1_append_44 zc_1 rfl (sub_k hs 0 rfl rfl) (by decide) lk_X1_27 rfl (by decide) (rfl : th + 6 = (th + 6)) ?_
  refine j_iload_n 0 dX1_append_47 rfl ?_
  refine j_iconst (x := 0) dX1_append_48 rfl (by decide) ?_
  refine j_iast dX1_append_49 (sub_k hs 6 rfl rfl) rfl (fun h6 _ => ?_)
  refine j_aload_n 1 dX1_append_50 rfl ?_
  refine j_getR 6 7 6 dX1_append_51 zc_1 rfl (sub_k hs 0 rfl rfl) (by decide) lk_X1_30 rfl (by decide) (rfl : th + 7 = (th + 7)) ?_
  refine j_iload_n 0 dX1_append_54 rfl ?_
  refine j_iconst (x := 0) dX1_append_55 rfl (by decide) ?_
  refine j_iast dX1_append_56 (sub_k hs 7 rfl rfl) rfl (fun h7 _ => ?_)
  refine j_iload_n 0 dX1_append_57 rfl ?_
  exact j_retI (h0 := h7) (r := 0) rfl rfl rfl dX1_append_58 rfl ⟨Nat.le_refl _, Nat.le_refl _⟩ rfl

set_option maxRecDepth 100000 in
set_option maxHeartbeats 4000000 in
theorem ct_dr_removeDimension {lay : List LK} {th : Nat} {p1 : Int} (hs : sub lay th blkDrawing) (h : Hp) : CT mi_dr_removeDimension encV (Same lay) lay [vr th, vi p1] h (dr_removeDimension th p1 h) := by
  refine CT.of (by decide) rfl (Nat.le_of_ble_eq_true rfl) ?_
  show J mi_dr_removeDimension encV (Same lay) lay 0 0 0 [(0, vr th), (1, vi p1)] [] h _
  unfold dr_removeDimension
  refine j_aload_n 0 dX1_removeDimension_0 rfl ?_
  refine j_getR 1 2 1 dX1_removeDimension_1 zc_1 rfl (sub_k hs 0 rfl rfl) (by decide) lk_X1_15 rfl (by decide) (rfl : th + 2 = (th + 2)) ?_
  refine j_iload_n 1 dX1_removeDimension_4 rfl ?_
  refine j_aload_n 0 dX1_removeDimension_5 rfl ?_
  refine j_getI 8 8 dX1_removeDimension_6 zc_1 rfl (sub_k hs 0 rfl rfl) (by decide) lk_X1_37 rfl rfl ?_
  refine j_cS (stk := []) [vr (th + 2), vi p1, vi (h th 8)] dX1_removeDimension_9 mv_dr_closeGap lm_X1_72 (ct_dr_closeGap (sub_k hs 2 rfl rfl) (by decide) h) rfl rfl ⟨⟨Nat.le_of_ble_eq_true rfl, Nat.le_of_ble_eq_true rfl⟩, Nat.le_of_ble_eq_true rfl, Nat.le_of_ble_eq_true rfl⟩ (Nat.le_of_ble_eq_true rfl) rfl rfl (fun _ h1 _ => ?_)
  refine j_aload_n 0 dX1_removeDimension_12 rfl ?_
  refine j_getR 2 3 2 dX1_removeDimension_13 zc_1 rfl (sub_k hs 0 rfl rfl) (by decide) lk_X1_18 rfl (by decide) (rfl : th + 3 = (th + 3)) ?_
  refine j_iload_n 1 dX1_removeDimension_16 rfl ?_
  refine j_aload_n 0 dX1_removeDimension_17 rfl ?_
  refine j_getI 8 8 dX1_removeDimension_18 zc_1 rfl (sub_k hs 0 rfl rfl) (by decide) lk_X1_37 rfl rfl ?_
  refine j_cS (stk := []) [vr (th + 3), vi p1, vi (h1 th 8)] dX1_removeDimension_21 mv_dr_closeGap lm_X1_72 (ct_dr_closeGap (sub_k hs 3 rfl rfl) (by decide) h1) rfl rfl ⟨⟨Nat.le_of_ble_eq_true rfl, Nat.le_of_ble_eq_true rfl⟩, Nat.le_of_ble_eq_true rfl, Nat.le_of_ble_eq_true rfl⟩ (Nat.le_of_ble_eq_true rfl) rfl rfl (fun _ h2 _ => ?_)
  refine j_aload_n 0 dX1_removeDimension_24 rfl ?_
  refine j_getR 3 4 3 dX1_removeDimension_25 zc_1 rfl (sub_k hs 0 rfl rfl) (by decide) lk_X1_21 rfl (by decide) (rfl : th + 4 = (th + 4)) ?_
  refine j_iload_n 1 dX1_removeDimension_28 rfl ?_
  refine j_aload_n 0 dX1_removeDimension_29 rfl ?_
  refine j_getI 8 8 dX1_removeDimension_30 zc_1 rfl (sub_k hs 0 rfl rfl) (by decide) lk_X1_37 rfl rfl ?_
  refine j_cS (stk := []) [vr (th + 4), vi p1, vi (h2 th 8)] dX1_removeDimension_33 mv_dr_closeGap lm_X1_72 (ct_dr_closeGap (sub_k hs 4 rfl rfl) (by decide) h2) rfl rfl ⟨⟨Nat.le_of_ble_eq_true rfl, Nat.le_of_ble_eq_true rfl⟩, Nat.le_of_ble_eq_true rfl, Nat.le_of_ble_eq_true rfl⟩ (Nat.le_of_ble_eq_true rfl) rfl rfl (fun _ h3 _ => ?_)
  refine j_aload_n 0 dX1_removeDimension_36 rfl ?_
  refine j_getR 4 5 4 dX1_removeDimension_37 zc_1 rfl (sub_k hs 0 rfl rfl) (by decide) lk_X1_24 rfl (by decide) (rfl : th + 5 = (th + 5)) ?_
  refine j_iload_n 1 dX1_removeDimension_40 rfl ?_
  refine j_aload_n 0 dX1_removeDimension_41 rfl ?_
  refine j_getI 8 8 dX1_removeDimension_42 zc_1 rfl (sub_k hs 0 rfl rfl) (by decide) lk_X1_37 rfl rfl ?_
  refine j_cS (stk := []) [vr (th + 5), vi p1, vi (h3 th 8)] dX1_removeDimension_45 mv_dr_closeGap lm_X1_72 (ct_dr_closeGap (sub_k hs 5 rfl rfl) (by decide) h3) rfl rfl ⟨⟨Nat.le_of_ble_eq_true rfl, Nat.le_of_ble_eq_true rfl⟩, Nat.le_of_ble_eq_true rfl, Nat.le_of_ble_eq_true rfl⟩ (Nat.le_of_ble_eq_true rfl) rfl rfl (fun _ h4 _ => ?_)
  refine j_aload_n 0 dX1_removeDimension_48 rfl ?_
  refine j_getR 5 6 5 dX1_removeDimension_49 zc_1 rfl (sub_k hs 0 rfl rfl) (by decide) lk_X1_27 rfl (by decide) (rfl : th + 6 = (th + 6)) ?_
  refine j_iload_n 1 dX1_removeDimension_52 rfl ?_
  refine j_aload_n 0 dX1_removeDimension_53 rfl ?_
  refine j_getI 8 8 dX1_removeDimension_54 zc_1 rfl (sub_k hs 0 rfl rfl) (by decide) lk_X1_37 rfl rfl ?_
  refine j_cS (stk := []) [vr (th + 6), vi p1, vi (h4 th 8)] dX1_removeDimension_57 mv_dr_closeGap lm_X1_72 (ct_dr_closeGap (sub_k hs 6 rfl rfl) (by decide) h4) rfl rfl ⟨⟨Nat.le_of_ble_eq_true rfl, Nat.le_of_ble_eq_true rfl⟩, Nat.le_of_ble_eq_true rfl, Nat.le_of_ble_eq_true rfl⟩ (Nat.le_of_ble_eq_true rfl) rfl rfl (fun _ h5 _ => ?_)
  refine j_aload_n 0 dX1_removeDimension_60 rfl ?_
  refine j_getR 6 7 6 dX1_removeDimension_61 zc_1 rfl (sub_k hs 0 rfl rfl) (by decide) lk_X1_30 rfl (by decide) (rfl : th + 7 = (th + 7)) ?_
  refine j_iload_n 1 dX1_removeDimension_64 rfl ?_
  refine j_aload_n 0 dX1_removeDimension_65 rfl ?_
  refine j_getI 8 8 dX1_removeDimension_66 zc_1 rfl (sub_k hs 0 rfl rfl) (by decide) lk_X1_37 rfl rfl ?_
  refine j_cS (stk := []) [vr (th + 7), vi p1, vi (h5 th 8)] dX1_removeDimension_69 mv_dr_closeGap lm_X1_72 (ct_dr_closeGap (sub_k hs 7 rfl rfl) (by decide) h5) rfl rfl ⟨⟨Nat.le_of_ble_eq_true rfl, Nat.le_of_ble_eq_true rfl⟩, Nat.le_of_ble_eq_true rfl, Nat.le_of_ble_eq_true rfl⟩ (Nat.le_of_ble_eq_true rfl) rfl rfl (fun _ h6 _ => ?_)
  refine j_aload_n 0 dX1_removeDimension_72 rfl ?_
  refine j_dup dX1_removeDimension_73 (fun _ _ => rfl) ?_
  refine j_getI 8 8 dX1_removeDimension_74 zc_1 rfl (sub_k hs 0 rfl rfl) (by decide) lk_X1_37 rfl rfl ?_
  refine j_iconst (x := 1) dX1_removeDimension_77 rfl (by decide) ?_
  refine j_isub dX1_removeDimension_78 ?_
  refine j_putI 8 8 dX1_removeDimension_79 zc_1 rfl (sub_k hs 0 rfl rfl) (by decide) lk_X1_37 rfl rfl rfl rfl (fun h7 _ => ?_)
  exact j_retV rfl rfl rfl dX1_removeDimension_82 rfl ⟨Nat.le_refl _, Nat.le_refl _⟩ rfl


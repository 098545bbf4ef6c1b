set_option maxRecDepth 100000 in
set_option maxHeartbeats 4000000 in
theorem jb_la_digitsOf_19 {lay : List LK} {p0 : Int}    (s0 : Int) (h : Hp) : J mi_la_digitsOf encI (Same lay) lay 0 0 19 [] [vi s0] h (la_digitsOf_b19 p0 s0 h) := by
  unfold la_digitsOf_b19
  exact j_retI (h0 := h) (r := 0) rfl rfl rfl dX3_digitsOf_19 rfl ⟨Nat.le_refl _, Nat.le_refl _⟩ rfl

set_option maxRecDepth 100000 in
set_option maxHeartbeats 4000000 in
theorem ct_la_digitsOf {lay : List LK} {p0 : Int}  (h : Hp) : CT mi_la_digitsOf encI (Same lay) lay [vi p0] h (la_digitsOf p0 h) := by
  refine CT.of (by decide) rfl (Nat.le_of_ble_eq_true rfl) ?_
  show J mi_la_digitsOf encI (Same lay) lay 0 0 0 [(0, vi p0)] [] h _
  unfold la_digitsOf
  refine j_iload_n 0 dX3_digitsOf_0 rfl ?_
  refine j_bipush (x := 100) dX3_digitsOf_1 (by decide) (by decide) ?_
  refine j_icmp_lt (tgt := 8) dX3_digitsOf_3 (by decide) ?_ ?_
  · refine j_iload_n 0 dX3_digitsOf_8 rfl ?_
    refine j_bipush (x := 10) dX3_digitsOf_9 (by decide) (by decide) ?_
    refine j_icmp_lt (tgt := 18) dX3_digitsOf_11 (by decide) ?_ ?_
    · refine j_iconst (x := 1) dX3_digitsOf_18 rfl (by decide) ?_
      refine j_sub [] rfl ?_
      exact jb_la_digitsOf_19  _ _
    · refine j_iconst (x := 2) dX3_digitsOf_14 rfl (by decide) ?_
      refine j_goto (tgt := 19) dX3_digitsOf_15 (by decide) ?_
      refine j_sub [] rfl ?_
      exact jb_la_digitsOf_19  _ _
  · refine j_iconst (x := 3) dX3_digitsOf_6 rfl (by decide) ?_
    exact j_retI (h0 := h) (r := 0) rfl rfl rfl dX3_digitsOf_7 rfl ⟨Nat.le_refl _, Nat.le_refl _⟩ rfl

set_option maxRecDepth 100000 in
set_option maxHeartbeats 4000000 in
theorem jb_la_measure_125 {lay : List LK} {th : Nat} {q1 : Nat} {p2 : Int} {p3 : Int}  (hs : sub lay th blkLanes) (hq1 : sub lay q1 blkDrawing)  (s0 s1 s2 : Int) (h : Hp) : J mi_la_measure encV (Same lay) lay 0 0 125 [] [vi s0, vi s1, vi s2, vr (th + 3)] h (la_measure_b125 th q1 p2 p3 s0 s1 s2 h) := by
  unfold la_measure_b125
  refine j_iadd dX3_measure_125 ?_
  refine j_iast dX3_measure_126 (sub_k hs 3 rfl rfl) rfl (fun h1 _ => ?_)
  exact j_retV rfl rfl rfl dX3_measure_127 rfl ⟨Nat.le_refl _, Nat.le_refl _⟩ rfl

set_option maxRecDepth 100000 in
set_option maxHeartbeats 4000000 in
theorem jb_la_measure_89 {lay : List LK} {th : Nat} {q1 : Nat} {p2 : Int} {p3 : Int}  (hs : sub lay th blkLanes) (hq1 : sub lay q1 blkDrawing)  (x5 s0 s1 : Int) (h : Hp) : J mi_la_measure encV (Same lay) lay 0 0 89 [(0, vr th), (2, vi p2), (3, vi p3), (5, vi x5)] [vi s0, vi s1, vr (th + 1)] h (la_measure_b89 th q1 p2 p3 x5 s0 s1 h) := by
  unfold la_measure_b89
  refine j_iast dX3_measure_89 (sub_k hs 1 rfl rfl) rfl (fun h1 _ => ?_)
  refine j_aload_n 0 dX3_measure_90 rfl ?_
  refine j_getR 1 2 1 dX3_measure_91 zc_3 rfl (sub_k hs 0 rfl rfl) (by decide) lk_X3_15 rfl (by decide) (rfl : th + 2 = (th + 2)) ?_
  refine j_iload_n 1 dX3_measure_94 rfl ?_
  refine j_dup2 dX3_measure_95 (fun _ _ => rfl) (fun _ _ => rfl) ?_
  refine j_iald dX3_measure_96 (sub_k hs 2 rfl rfl) rfl ?_
  refine j_iload_n 2 dX3_measure_97 rfl ?_
  refine j_isub dX3_measure_98 ?_
  refine j_iast dX3_measure_99 (sub_k hs 2 rfl rfl) rfl (fun h2 _ => ?_)
  refine j_aload_n 0 dX3_measure_100 rfl ?_
  refine j_getR 2 3 2 dX3_measure_101 zc_3 rfl (sub_k hs 0 rfl rfl) (by decide) lk_X3_18 rfl (by decide) (rfl : th + 3 = (th + 3)) ?_
  refine j_iload_n 1 dX3_measure_104 rfl ?_
  refine j_dup2 dX3_measure_105 (fun _ _ => rfl) (fun _ _ => rfl) ?_
  refine j_iald dX3_measure_106 (sub_k hs 3 rfl rfl) rfl ?_
  refine j_aload_n 0 dX3_measure_107 rfl ?_
  refine j_getR 0 1 0 dX3_measure_108 zc_3 rfl (sub_k hs 0 rfl rfl) (by decide) lk_X3_9 rfl (by decide) (rfl : th + 1 = (th + 1)) ?_
  refine j_iload_n 1 dX3_measure_111 rfl ?_
  refine j_iald dX3_measure_112 (sub_k hs 1 rfl rfl) rfl ?_
  refine j_iconst (x := 1) dX3_measure_113 rfl (by decide) ?_
  refine j_icmp_ne (tgt := 121) dX3_measure_114 (by decide) ?_ ?_
  · refine j_iload_n 2 dX3_measure_117 rfl ?_
    refine j_goto (tgt := 125) dX3_measure_118 (by decide) ?_
    refine j_sub [] rfl ?_
    exact jb_la_measure_125 hs hq1 _ _ _ _
  · refine j_iload_n 2 dX3_measure_121 rfl ?_
    refine j_iload 3 dX3_measure_122 rfl ?_
    refine j_iadd dX3_measure_124 ?_
    refine j_sub [] rfl ?_
    exact jb_la_measure_125 hs hq1 _ _ _ _

set_option maxRecDepth 100000 in
set_option maxHeartbeats 4000000 in
theorem ct_la_measure {lay : List LK} {th : Nat} {q1 : Nat} {p2 : Int} {p3 : Int} (hs : sub lay th blkLanes) (hq1 : sub lay q1 blkDrawing) (h : Hp) : CT mi_la_measure encV (Same lay) lay [vr th, vr q1, vi p2, vi p3] h (la_measure th q1 p2 p3 h) := by
  refine CT.of (by decide) rfl (Nat.le_of_ble_eq_true rfl) ?_
  show J mi_la_measure encV (Same lay) lay 0 0 0 [(0, vr th), (1, vr q1), (2, vi p2), (3, vi p3)] [] h _
  unfold la_measure
  refine j_aload_n 1 dX3_measure_0 rfl ?_
  refine j_iload_n 2 dX3_measure_1 rfl ?_
  refine j_cV (stk := []) [vi p2] q1 dX3_measure_2 mv_dr_valueOf lm_X3_83 (sub_k hq1 0 rfl rfl) zc_1 (ct_dr_valueOf hq1 h) rfl rfl ⟨⟨Nat.le_of_ble_eq_true rfl, Nat.le_of_ble_eq_true rfl⟩, Nat.le_of_ble_eq_true rfl, Nat.le_of_ble_eq_true rfl⟩ (Nat.le_of_ble_eq_true rfl) rfl rfl (fun r1 h1 _ => ?_)
  refine j_istore (lv' := [(4, vi r1), (0, vr th), (1, vr q1), (2, vi p2), (3, vi p3)]) dX3_measure_5 (by decide) rfl ?_
  refine j_aload_n 2 dX3_measure_7 rfl ?_
  refine j_getI 9 9 dX3_measure_8 zc_1 rfl (sub_k hq1 0 rfl rfl) (by decide) lk_X3_87 rfl rfl ?_
  refine j_iload 0 dX3_measure_11 rfl ?_
  refine j_cS (stk := [vi (h1 q1 9)]) [vi r1] dX3_measure_13 mv_la_digitsOf lm_X3_90 (ct_la_digitsOf h1) rfl rfl ⟨⟨Nat.le_of_ble_eq_true rfl, Nat.le_of_ble_eq_true rfl⟩, Nat.le_of_ble_eq_true rfl, Nat.le_of_ble_eq_true rfl⟩ (Nat.le_of_ble_eq_true rfl) rfl rfl (fun r2 h2 _ => ?_)
  refine j_imul dX3_measure_16 ?_
  refine j_istore (lv' := [(5, vi ((h1 q1 9) * r2)), (4, vi r1), (0, vr th), (1, vr q1), (2, vi p2), (3, vi p3)]) dX3_measure_17 (by decide) rfl ?_
  refine j_aload_n 2 dX3_measure_19 rfl ?_
  refine j_getR 1 2 1 dX3_measure_20 zc_3 rfl (sub_k hs 0 rfl rfl) (by decide) lk_X3_15 rfl (by decide) (rfl : th + 2 = (th + 2)) ?_
  refine j_iload_n 4 dX3_measure_23 rfl ?_
  refine j_aload_n 3 dX3_measure_24 rfl ?_
  refine j_getR 0 1 0 dX3_measure_25 zc_1 rfl (sub_k hq1 0 rfl rfl) (by decide) lk_X3_93 rfl (by decide) (rfl : q1 + 1 = (q1 + 1)) ?_
  refine j_aload_n 3 dX3_measure_28 rfl ?_
  refine j_getR 1 2 1 dX3_measure_29 zc_1 rfl (sub_k hq1 0 rfl rfl) (by decide) lk_X3_96 rfl (by decide) (rfl : q1 + 2 = (q1 + 2)) ?_
  refine j_iload_n 4 dX3_measure_32 rfl ?_
  refine j_iald dX3_measure_33 (sub_k hq1 2 rfl rfl) rfl ?_
  refine j_iald dX3_measure_34 (sub_k hq1 1 rfl rfl) rfl ?_
  refine j_iast dX3_measure_35 (sub_k hs 2 rfl rfl) rfl (fun h3 _ => ?_)
  refine j_aload_n 2 dX3_measure_36 rfl ?_
  refine j_getR 2 3 2 dX3_measure_37 zc_3 rfl (sub_k hs 0 rfl rfl) (by decide) lk_X3_18 rfl (by decide) (rfl : th + 3 = (th + 3)) ?_
  refine j_iload_n 4 dX3_measure_40 rfl ?_
  refine j_aload_n 3 dX3_measure_41 rfl ?_
  refine j_getR 0 1 0 dX3_measure_42 zc_1 rfl (sub_k hq1 0 rfl rfl) (by decide) lk_X3_93 rfl (by decide) (rfl : q1 + 1 = (q1 + 1)) ?_
  refine j_aload_n 3 dX3_measure_45 rfl ?_
  refine j_getR 2 3 2 dX3_measure_46 zc_1 rfl (sub_k hq1 0 rfl rfl) (by decide) lk_X3_99 rfl (by decide) (rfl : q1 + 3 = (q1 + 3)) ?_
  refine j_iload_n 4 dX3_measure_49 rfl ?_
  refine j_iald dX3_measure_50 (sub_k hq1 3 rfl rfl) rfl ?_
  refine j_iald dX3_measure_51 (sub_k hq1 1 rfl rfl) rfl ?_
  refine j_iast dX3_measure_52 (sub_k hs 3 rfl rfl) rfl (fun h4 _ => ?_)
  refine j_iload 1 dX3_measure_53 rfl ?_
  refine j_iload 0 dX3_measure_55 rfl ?_
  refine j_iconst (x := 2) dX3_measure_57 rfl (by decide) ?_
  refine j_iload_n 5 dX3_measure_58 rfl ?_
  refine j_imul dX3_measure_59 ?_
  refine j_iadd dX3_measure_60 ?_
  refine j_icmp_lt (tgt := 72) dX3_measure_61 (by decide) ?_ ?_
  · refine j_aload_n 2 dX3_measure_72 rfl ?_
    refine j_getR 0 1 0 dX3_measure_73 zc_3 rfl (sub_k hs 0 rfl rfl) (by decide) lk_X3_9 rfl (by decide) (rfl : th + 1 = (th + 1)) ?_
    refine j_iload_n 4 dX3_measure_76 rfl ?_
    refine j_iload 1 dX3_measure_77 rfl ?_
    refine j_iload 0 dX3_measure_79 rfl ?_
    refine j_icmp_lt (tgt := 88) dX3_measure_81 (by decide) ?_ ?_
    · refine j_iconst (x := 2) dX3_measure_88 rfl (by decide) ?_
      refine j_sub [2, 4, 5, 0] rfl ?_
      exact jb_la_measure_89 hs hq1 _ _ _ _
    · refine j_iconst (x := 1) dX3_measure_84 rfl (by decide) ?_
      refine j_goto (tgt := 89) dX3_measure_85 (by decide) ?_
      refine j_sub [2, 4, 5, 0] rfl ?_
      exact jb_la_measure_89 hs hq1 _ _ _ _
  · refine j_aload_n 2 dX3_measure_64 rfl ?_
    refine j_getR 0 1 0 dX3_measure_65 zc_3 rfl (sub_k hs 0 rfl rfl) (by decide) lk_X3_9 rfl (by decide) (rfl : th + 1 = (th + 1)) ?_
    refine j_iload_n 4 dX3_measure_68 rfl ?_
    refine j_iconst (x := 0) dX3_measure_69 rfl (by decide) ?_
    refine j_iast dX3_measure_70 (sub_k hs 1 rfl rfl) rfl (fun h5 _ => ?_)
    exact j_retV rfl rfl rfl dX3_measure_71 rfl ⟨Nat.le_refl _, Nat.le_refl _⟩ rfl

set_option maxRecDepth 100000 in
set_option maxHeartbeats 4000000 in
theorem jb_la_leaderOf_36 {lay : List LK} {q0 : Nat} {p1 : Int}  (hq0 : sub lay q0 blkDrawing)  (h : Hp) : J mi_la_leaderOf encI (Same lay) lay 0 0 36 [(1, vi p1)] [] h (la_leaderOf_b36 q0 p1 h) := by
  unfold la_leaderOf_b36
  refine j_iload_n 0 dX3_leaderOf_36 rfl ?_
  exact j_retI (h0 := h) (r := 0) rfl rfl rfl dX3_leaderOf_37 rfl ⟨Nat.le_refl _, Nat.le_refl _⟩ rfl

set_option maxRecDepth 100000 in
set_option maxHeartbeats 4000000 in
theorem jl_la_leaderOf_9 {lay : List LK} {q0 : Nat} {p1 : Int}  (hq0 : sub lay q0 blkDrawing)  : ∀ (n : Nat) (x2 x3 : Int) (h : Hp), J mi_la_leaderOf encI (Same lay) lay 0 0 9 [(0, vr q0), (1, vi p1), (2, vi x2), (3, vi x3)] [] h (iter2 (la_leaderOf_f9 q0 p1) n x2 x3 h) := by
  refine j_iter2 (lf := fun x2 x3 => [(0, vr q0), (1, vi p1), (2, vi x2), (3, vi x3)]) (fun k9 hk9 x2 x3 h => ?_)
  unfold la_leaderOf_f9
  refine j_iload_n 2 dX3_leaderOf_9 rfl ?_
  refine j_if_eq (tgt := 36) dX3_leaderOf_10 (by decide) ?_ ?_
  · refine j_sub [1] rfl ?_
    exact jb_la_leaderOf_36 hq0 _
  · refine j_iload_n 3 dX3_leaderOf_13 rfl ?_
    refine j_iload_n 1 dX3_leaderOf_14 rfl ?_
    refine j_icmp_ge (tgt := 36) dX3_leaderOf_15 (by decide) ?_ ?_
    · refine j_aload_n 0 dX3_leaderOf_18 rfl ?_
      refine j_getR 5 6 5 dX3_leaderOf_19 zc_1 rfl (sub_k hq0 0 rfl rfl) (by decide) lk_X3_80 rfl (by decide) (rfl : q0 + 6 = (q0 + 6)) ?_
      refine j_iload_n 3 dX3_leaderOf_22 rfl ?_
      refine j_iald dX3_leaderOf_23 (sub_k hq0 6 rfl rfl) rfl ?_
      refine j_iload_n 2 dX3_leaderOf_24 rfl ?_
      refine j_icmp_ne (tgt := 30) dX3_leaderOf_25 (by decide) ?_ ?_
      · refine j_iload_n 3 dX3_leaderOf_28 rfl ?_
        exact j_retI (h0 := h) (r := 0) rfl rfl rfl dX3_leaderOf_29 rfl ⟨Nat.le_refl _, Nat.le_refl _⟩ rfl
      · refine j_iinc 3 (lv' := [(3, vi (x3 + 1)), (0, vr q0), (1, vi p1), (2, vi x2)]) dX3_leaderOf_30 rfl (by decide) rfl ?_
        refine j_goto (tgt := 9) dX3_leaderOf_33 (by decide) ?_
        refine j_sub [1, 2, 3, 0] rfl ?_
        exact hk9 _ _ _
    · refine j_sub [1] rfl ?_
      exact jb_la_leaderOf_36 hq0 _

set_option maxRecDepth 100000 in
set_option maxHeartbeats 4000000 in
theorem ct_la_leaderOf {lay : List LK} {q0 : Nat} {p1 : Int} (hq0 : sub lay q0 blkDrawing) (h : Hp) : CT mi_la_leaderOf encI (Same lay) lay [vr q0, vi p1] h (la_leaderOf q0 p1 h) := by
  refine CT.of (by decide) rfl (Nat.le_of_ble_eq_true rfl) ?_
  show J mi_la_leaderOf encI (Same lay) lay 0 0 0 [(0, vr q0), (1, vi p1)] [] h _
  unfold la_leaderOf
  refine j_aload_n 0 dX3_leaderOf_0 rfl ?_
  refine j_getR 5 6 5 dX3_leaderOf_1 zc_1 rfl (sub_k hq0 0 rfl rfl) (by decide) lk_X3_80 rfl (by decide) (rfl : q0 + 6 = (q0 + 6)) ?_
  refine j_iload_n 1 dX3_leaderOf_4 rfl ?_
  refine j_iald dX3_leaderOf_5 (sub_k hq0 6 rfl rfl) rfl ?_
  refine j_istore_n (lv' := [(2, vi (h (q0 + 6) p1)), (0, vr q0), (1, vi p1)]) dX3_leaderOf_6 (by decide) rfl ?_
  refine j_iconst (x := 0) dX3_leaderOf_7 rfl (by decide) ?_
  refine j_istore_n (lv' := [(3, vi 0), (2, vi (h (q0 + 6) p1)), (0, vr q0), (1, vi p1)]) dX3_leaderOf_8 (by decide) rfl ?_
  refine j_sub [2, 3, 1, 0] rfl ?_
  exact jl_la_leaderOf_9 hq0 fuel _ _ _

set_option maxRecDepth 100000 in
set_option maxHeartbeats 4000000 in
theorem ct_la_joinUnit {lay : List LK} {th : Nat} {q1 : Nat} {p2 : Int} (hs : sub lay th blkLanes) (hq1 : sub lay q1 blkDrawing) (h : Hp) : CT mi_la_joinUnit encV (Same lay) lay [vr th, vr q1, vi p2] h (la_joinUnit th q1 p2 h) := by
  refine CT.of (by decide) rfl (Nat.le_of_ble_eq_true rfl) ?_
  show J mi_la_joinUnit encV (Same lay) lay 0 0 0 [(0, vr th), (1, vr q1), (2, vi p2)] [] h _
  unfold la_joinUnit
  refine j_aload_n 1 dX3_joinUnit_0 rfl ?_
  refine j_getR 0 1 0 dX3_joinUnit_1 zc_1 rfl (sub_k hq1 0 rfl rfl) (by decide) lk_X3_93 rfl (by decide) (rfl : q1 + 1 = (q1 + 1)) ?_
  refine j_aload_n 1 dX3_joinUnit_4 rfl ?_
  refine j_getR 1 2 1 dX3_joinUnit_5 zc_1 rfl (sub_k hq1 0 rfl rfl) (by decide) lk_X3_96 rfl (by decide) (rfl : q1 + 2 = (q1 + 2)) ?_
  refine j_iload_n 2 dX3_joinUnit_8 rfl ?_
  refine j_iald dX3_joinUnit_9 (sub_k hq1 2 rfl rfl) rfl ?_
  refine j_iald dX3_joinUnit_10 (sub_k hq1 1 rfl rfl) rfl ?_
  refine j_istore_n (lv' := [(3, vi (h (q1 + 1) (h (q1 + 2) p2))), (0, vr th), (1, vr q1), (2, vi p2)]) dX3_joinUnit_11 (by decide) rfl ?_
  refine j_aload_n 2 dX3_joinUnit_12 rfl ?_
  refine j_getR 0 1 0 dX3_joinUnit_13 zc_1 rfl (sub_k hq1 0 rfl rfl) (by decide) lk_X3_93 rfl (by decide) (rfl : q1 + 1 = (q1 + 1)) ?_
  refine j_aload_n 2 dX3_joinUnit_16 rfl ?_
  refine j_getR 2 3 2 dX3_joinUnit_17 zc_1 rfl (sub_k hq1 0 rfl rfl) (by decide) lk_X3_99 rfl (by decide) (rfl : q1 + 3 = (q1 + 3)) ?_
  refine j_iload_n 3 dX3_joinUnit_20 rfl ?_
  refine j_iald dX3_joinUnit_21 (sub_k hq1 3 rfl rfl) rfl ?_
  refine j_iald dX3_joinUnit_22 (sub_k hq1 1 rfl rfl) rfl ?_
  refine j_istore (lv' := [(4, vi (h (q1 + 1) (h (q1 + 3) p2))), (3, vi (h (q1 + 1) (h (q1 + 2) p2))), (0, vr th), (1, vr q1), (2, vi p2)]) dX3_joinUnit_23 (by decide) rfl ?_
  refine j_aload_n 3 dX3_joinUnit_25 rfl ?_
  refine j_iload_n 4 dX3_joinUnit_26 rfl ?_
  refine j_cS (stk := []) [vr q1, vi p2] dX3_joinUnit_27 mv_la_leaderOf lm_X3_102 (ct_la_leaderOf hq1 h) rfl rfl ⟨⟨Nat.le_of_ble_eq_true rfl, Nat.le_of_ble_eq_true rfl⟩, Nat.le_of_ble_eq_true rfl, Nat.le_of_ble_eq_true rfl⟩ (Nat.le_of_ble_eq_true rfl) rfl rfl (fun r1 h1 _ => ?_)
  refine j_istore (lv' := [(5, vi r1), (4, vi (h (q1 + 1) (h (q1 + 3) p2))), (3, vi (h (q1 + 1) (h (q1 + 2) p2))), (0, vr th), (1, vr q1), (2, vi p2)]) dX3_joinUnit_30 (by decide) rfl ?_
  refine j_aload_n 3 dX3_joinUnit_32 rfl ?_
  refine j_getR 10 8 7 dX3_joinUnit_33 zc_3 rfl (sub_k hs 0 rfl rfl) (by decide) lk_X3_43 rfl (by decide) (rfl : th + 8 = (th + 8)) ?_
  refine j_iload_n 5 dX3_joinUnit_36 rfl ?_
  refine j_iload 0 dX3_joinUnit_37 rfl ?_
  refine j_iast dX3_joinUnit_39 (sub_k hs 8 rfl rfl) rfl (fun h2 _ => ?_)
  refine j_iload 0 dX3_joinUnit_40 rfl ?_
  refine j_iload_n 5 dX3_joinUnit_42 rfl ?_
  refine j_icmp_ne (tgt := 94) dX3_joinUnit_43 (by decide) ?_ ?_
  · refine j_aload_n 3 dX3_joinUnit_46 rfl ?_
    refine j_getR 11 9 8 dX3_joinUnit_47 zc_3 rfl (sub_k hs 0 rfl rfl) (by decide) lk_X3_46 rfl (by decide) (rfl : th + 9 = (th + 9)) ?_
    refine j_iload_n 5 dX3_joinUnit_50 rfl ?_
    refine j_iload_n 2 dX3_joinUnit_51 rfl ?_
    refine j_iast dX3_joinUnit_52 (sub_k hs 9 rfl rfl) rfl (fun h3 _ => ?_)
    refine j_aload_n 3 dX3_joinUnit_53 rfl ?_
    refine j_getR 12 10 9 dX3_joinUnit_54 zc_3 rfl (sub_k hs 0 rfl rfl) (by decide) lk_X3_49 rfl (by decide) (rfl : th + 10 = (th + 10)) ?_
    refine j_iload_n 5 dX3_joinUnit_57 rfl ?_
    refine j_iload 1 dX3_joinUnit_58 rfl ?_
    refine j_iast dX3_joinUnit_60 (sub_k hs 10 rfl rfl) rfl (fun h4 _ => ?_)
    refine j_aload_n 3 dX3_joinUnit_61 rfl ?_
    refine j_getR 13 11 10 dX3_joinUnit_62 zc_3 rfl (sub_k hs 0 rfl rfl) (by decide) lk_X3_52 rfl (by decide) (rfl : th + 11 = (th + 11)) ?_
    refine j_iload_n 5 dX3_joinUnit_65 rfl ?_
    refine j_aload_n 4 dX3_joinUnit_66 rfl ?_
    refine j_getR 6 7 6 dX3_joinUnit_67 zc_1 rfl (sub_k hq1 0 rfl rfl) (by decide) lk_X3_106 rfl (by decide) (rfl : q1 + 7 = (q1 + 7)) ?_
    refine j_iload_n 5 dX3_joinUnit_70 rfl ?_
    refine j_iald dX3_joinUnit_71 (sub_k hq1 7 rfl rfl) rfl ?_
    refine j_iast dX3_joinUnit_72 (sub_k hs 11 rfl rfl) rfl (fun h5 _ => ?_)
    refine j_aload_n 3 dX3_joinUnit_73 rfl ?_
    refine j_getR 14 12 11 dX3_joinUnit_74 zc_3 rfl (sub_k hs 0 rfl rfl) (by decide) lk_X3_55 rfl (by decide) (rfl : th + 12 = (th + 12)) ?_
    refine j_aload_n 3 dX3_joinUnit_77 rfl ?_
    refine j_getI 6 6 dX3_joinUnit_78 zc_3 rfl (sub_k hs 0 rfl rfl) (by decide) lk_X3_30 rfl rfl ?_
    refine j_iload_n 5 dX3_joinUnit_81 rfl ?_
    refine j_iast dX3_joinUnit_82 (sub_k hs 12 rfl rfl) rfl (fun h6 _ => ?_)
    refine j_aload_n 3 dX3_joinUnit_83 rfl ?_
    refine j_dup dX3_joinUnit_84 (fun _ _ => rfl) ?_
    refine j_getI 6 6 dX3_joinUnit_85 zc_3 rfl (sub_k hs 0 rfl rfl) (by decide) lk_X3_30 rfl rfl ?_
    refine j_iconst (x := 1) dX3_joinUnit_88 rfl (by decide) ?_
    refine j_iadd dX3_joinUnit_89 ?_
    refine j_putI 6 6 dX3_joinUnit_90 zc_3 rfl (sub_k hs 0 rfl rfl) (by decide) lk_X3_30 rfl rfl rfl rfl (fun h7 _ => ?_)
    exact j_retV rfl rfl rfl dX3_joinUnit_93 rfl ⟨Nat.le_refl _, Nat.le_refl _⟩ rfl
  · refine j_aload_n 3 dX3_joinUnit_94 rfl ?_
    refine j_getR 11 9 8 dX3_joinUnit_95 zc_3 rfl (sub_k hs 0 rfl rfl) (by decide) lk_X3_46 rfl (by decide) (rfl : th + 9 = (th + 9)) ?_
    refine j_iload 0 dX3_joinUnit_98 rfl ?_
    refine j_aload_n 3 dX3_joinUnit_100 rfl ?_
    refine j_getR 11 9 8 dX3_joinUnit_101 zc_3 rfl (sub_k hs 0 rfl rfl) (by decide) lk_X3_46 rfl (by decide) (rfl : th + 9 = (th + 9)) ?_
    refine j_iload 0 dX3_joinUnit_104 rfl ?_
    refine j_iald dX3_joinUnit_106 (sub_k hs 9 rfl rfl) rfl ?_
    refine j_iload_n 2 dX3_joinUnit_107 rfl ?_
    refine j_mmin dX3_joinUnit_108 lm_X3_109 km_min1 km_2 km_min3 (Nat.le_of_ble_eq_true rfl) (Nat.le_of_ble_eq_true rfl) (Nat.le_of_ble_eq_true rfl) (Nat.le_of_ble_eq_true rfl) ?_
    refine j_iast dX3_joinUnit_111 (sub_k hs 9 rfl rfl) rfl (fun h8 _ => ?_)
    refine j_aload_n 3 dX3_joinUnit_112 rfl ?_
    refine j_getR 12 10 9 dX3_joinUnit_113 zc_3 rfl (sub_k hs 0 rfl rfl) (by decide) lk_X3_49 rfl (by decide) (rfl : th + 10 = (th + 10)) ?_
    refine j_iload 0 dX3_joinUnit_116 rfl ?_
    refine j_aload_n 3 dX3_joinUnit_118 rfl ?_
    refine j_getR 12 10 9 dX3_joinUnit_119 zc_3 rfl (sub_k hs 0 rfl rfl) (by decide) lk_X3_49 rfl (by decide) (rfl : th + 10 = (th + 10)) ?_
    refine j_iload 0 dX3_joinUnit_122 rfl ?_
    refine j_iald dX3_joinUnit_124 (sub_k hs 10 rfl rfl) rfl ?_
    refine j_iload 1 dX3_joinUnit_125 rfl ?_
    refine j_mmax dX3_joinUnit_127 lm_X3_115 km_max1 km_2 km_max3 (Nat.le_of_ble_eq_true rfl) (Nat.le_of_ble_eq_true rfl) (Nat.le_of_ble_eq_true rfl) (Nat.le_of_ble_eq_true rfl) ?_
    refine j_iast dX3_joinUnit_130 (sub_k hs 10 rfl rfl) rfl (fun h9 _ => ?_)
    refine j_aload_n 3 dX3_joinUnit_131 rfl ?_
    refine j_getR 13 11 10 dX3_joinUnit_132 zc_3 rfl (sub_k hs 0 rfl rfl) (by decide) lk_X3_52 rfl (by decide) (rfl : th + 11 = (th + 11)) ?_
    refine j_iload 0 dX3_joinUnit_135 rfl ?_
    refine j_aload_n 3 dX3_joinUnit_137 rfl ?_
    refine j_getR 13 11 10 dX3_joinUnit_138 zc_3 rfl (sub_k hs 0 rfl rfl) (by decide) lk_X3_52 rfl (by decide) (rfl : th + 11 = (th + 11)) ?_
    refine j_iload 0 dX3_joinUnit_141 rfl ?_
    refine j_iald dX3_joinUnit_143 (sub_k hs 11 rfl rfl) rfl ?_
    refine j_aload_n 4 dX3_joinUnit_144 rfl ?_
    refine j_getR 6 7 6 dX3_joinUnit_145 zc_1 rfl (sub_k hq1 0 rfl rfl) (by decide) lk_X3_106 rfl (by decide) (rfl : q1 + 7 = (q1 + 7)) ?_
    refine j_iload_n 5 dX3_joinUnit_148 rfl ?_
    refine j_iald dX3_joinUnit_149 (sub_k hq1 7 rfl rfl) rfl ?_
    refine j_mmax dX3_joinUnit_150 lm_X3_115 km_max1 km_2 km_max3 (Nat.le_of_ble_eq_true rfl) (Nat.le_of_ble_eq_true rfl) (Nat.le_of_ble_eq_true rfl) (Nat.le_of_ble_eq_true rfl) ?_
    refine j_iast dX3_joinUnit_153 (sub_k hs 11 rfl rfl) rfl (fun h10 _ => ?_)
    exact j_retV rfl rfl rfl dX3_joinUnit_154 rfl ⟨Nat.le_refl _, Nat.le_refl _⟩ rfl

set_option maxRecDepth 100000 in
set_option maxHeartbeats 4000000 in
theorem jb_la_comesBefore_88 {lay : List LK} {th : Nat} {p1 : Int} {p2 : Int}  (hs : sub lay th blkLanes)  (s0 : Int) (h : Hp) : J mi_la_comesBefore encI (Same lay) lay 0 0 88 [] [vi s0] h (la_comesBefore_b88 th p1 p2 s0 h) := by
  unfold la_comesBefore_b88
  exact j_retZ rfl rfl rfl dX3_comesBefore_88 rfl ⟨Nat.le_refl _, Nat.le_refl _⟩ rfl

set_option maxRecDepth 100000 in
set_option maxHeartbeats 4000000 in
theorem jb_la_comesBefore_77 {lay : List LK} {th : Nat} {p1 : Int} {p2 : Int}  (hs : sub lay th blkLanes)  (s0 : Int) (h : Hp) : J mi_la_comesBefore encI (Same lay) lay 0 0 77 [] [vi s0] h (la_comesBefore_b77 th p1 p2 s0 h) := by
  unfold la_comesBefore_b77
  exact j_retZ rfl rfl rfl dX3_comesBefore_77 rfl ⟨Nat.le_refl _, Nat.le_refl _⟩ rfl

set_option maxRecDepth 100000 in
set_option maxHeartbeats 4000000 in
theorem jb_la_comesBefore_41 {lay : List LK} {th : Nat} {p1 : Int} {p2 : Int}  (hs : sub lay th blkLanes)  (s0 : Int) (h : Hp) : J mi_la_comesBefore encI (Same lay) lay 0 0 41 [] [vi s0] h (la_comesBefore_b41 th p1 p2 s0 h) := by
  unfold la_comesBefore_b41
  exact j_retZ rfl rfl rfl dX3_comesBefore_41 rfl ⟨Nat.le_refl _, Nat.le_refl _⟩ rfl

set_option maxRecDepth 100000 in
set_option maxHeartbeats 4000000 in
theorem ct_la_comesBefore {lay : List LK} {th : Nat} {p1 : Int} {p2 : Int} (hs : sub lay th blkLanes) (h : Hp) : CT mi_la_comesBefore encI (Same lay) lay [vr th, vi p1, vi p2] h (la_comesBefore th p1 p2 h) := by
  refine CT.of (by decide) rfl (Nat.le_of_ble_eq_true rfl) ?_
  show J mi_la_comesBefore encI (Same lay) lay 0 0 0 [(0, vr th), (1, vi p1), (2, vi p2)] [] h _
  unfold la_comesBefore
  refine j_aload_n 0 dX3_comesBefore_0 rfl ?_
  refine j_getR 12 10 9 dX3_comesBefore_1 zc_3 rfl (sub_k hs 0 rfl rfl) (by decide) lk_X3_49 rfl (by decide) (rfl : th + 10 = (th + 10)) ?_
  refine j_iload_n 1 dX3_comesBefore_4 rfl ?_
  refine j_iald dX3_comesBefore_5 (sub_k hs 10 rfl rfl) rfl ?_
  refine j_aload_n 0 dX3_comesBefore_6 rfl ?_
  refine j_getR 11 9 8 dX3_comesBefore_7 zc_3 rfl (sub_k hs 0 rfl rfl) (by decide) lk_X3_46 rfl (by decide) (rfl : th + 9 = (th + 9)) ?_
  refine j_iload_n 1 dX3_comesBefore_10 rfl ?_
  refine j_iald dX3_comesBefore_11 (sub_k hs 9 rfl rfl) rfl ?_
  refine j_isub dX3_comesBefore_12 ?_
  refine j_aload_n 0 dX3_comesBefore_13 rfl ?_
  refine j_getR 12 10 9 dX3_comesBefore_14 zc_3 rfl (sub_k hs 0 rfl rfl) (by decide) lk_X3_49 rfl (by decide) (rfl : th + 10 = (th + 10)) ?_
  refine j_iload_n 2 dX3_comesBefore_17 rfl ?_
  refine j_iald dX3_comesBefore_18 (sub_k hs 10 rfl rfl) rfl ?_
  refine j_aload_n 0 dX3_comesBefore_19 rfl ?_
  refine j_getR 11 9 8 dX3_comesBefore_20 zc_3 rfl (sub_k hs 0 rfl rfl) (by decide) lk_X3_46 rfl (by decide) (rfl : th + 9 = (th + 9)) ?_
  refine j_iload_n 2 dX3_comesBefore_23 rfl ?_
  refine j_iald dX3_comesBefore_24 (sub_k hs 9 rfl rfl) rfl ?_
  refine j_isub dX3_comesBefore_25 ?_
  refine j_isub dX3_comesBefore_26 ?_
  refine j_istore_n (lv' := [(3, vi (((h (th + 10) p1) - (h (th + 9) p1)) - ((h (th + 10) p2) - (h (th + 9) p2)))), (0, vr th), (1, vi p1), (2, vi p2)]) dX3_comesBefore_27 (by decide) rfl ?_
  refine j_iload_n 0 dX3_comesBefore_28 rfl ?_
  refine j_if_eq (tgt := 42) dX3_comesBefore_29 (by decide) ?_ ?_
  · refine j_aload_n 1 dX3_comesBefore_42 rfl ?_
    refine j_getR 11 9 8 dX3_comesBefore_43 zc_3 rfl (sub_k hs 0 rfl rfl) (by decide) lk_X3_46 rfl (by decide) (rfl : th + 9 = (th + 9)) ?_
    refine j_iload_n 2 dX3_comesBefore_46 rfl ?_
    refine j_iald dX3_comesBefore_47 (sub_k hs 9 rfl rfl) rfl ?_
    refine j_aload_n 1 dX3_comesBefore_48 rfl ?_
    refine j_getR 11 9 8 dX3_comesBefore_49 zc_3 rfl (sub_k hs 0 rfl rfl) (by decide) lk_X3_46 rfl (by decide) (rfl : th + 9 = (th + 9)) ?_
    refine j_iload_n 3 dX3_comesBefore_52 rfl ?_
    refine j_iald dX3_comesBefore_53 (sub_k hs 9 rfl rfl) rfl ?_
    refine j_icmp_eq (tgt := 78) dX3_comesBefore_54 (by decide) ?_ ?_
    · refine j_iload_n 2 dX3_comesBefore_78 rfl ?_
      refine j_iload_n 3 dX3_comesBefore_79 rfl ?_
      refine j_icmp_ge (tgt := 87) dX3_comesBefore_80 (by decide) ?_ ?_
      · refine j_iconst (x := 1) dX3_comesBefore_83 rfl (by decide) ?_
        refine j_goto (tgt := 88) dX3_comesBefore_84 (by decide) ?_
        refine j_sub [] rfl ?_
        exact jb_la_comesBefore_88 hs _ _
      · refine j_iconst (x := 0) dX3_comesBefore_87 rfl (by decide) ?_
        refine j_sub [] rfl ?_
        exact jb_la_comesBefore_88 hs _ _
    · refine j_aload_n 1 dX3_comesBefore_57 rfl ?_
      refine j_getR 11 9 8 dX3_comesBefore_58 zc_3 rfl (sub_k hs 0 rfl rfl) (by decide) lk_X3_46 rfl (by decide) (rfl : th + 9 = (th + 9)) ?_
      refine j_iload_n 2 dX3_comesBefore_61 rfl ?_
      refine j_iald dX3_comesBefore_62 (sub_k hs 9 rfl rfl) rfl ?_
      refine j_aload_n 1 dX3_comesBefore_63 rfl ?_
      refine j_getR 11 9 8 dX3_comesBefore_64 zc_3 rfl (sub_k hs 0 rfl rfl) (by decide) lk_X3_46 rfl (by decide) (rfl : th + 9 = (th + 9)) ?_
      refine j_iload_n 3 dX3_comesBefore_67 rfl ?_
      refine j_iald dX3_comesBefore_68 (sub_k hs 9 rfl rfl) rfl ?_
      refine j_icmp_ge (tgt := 76) dX3_comesBefore_69 (by decide) ?_ ?_
      · refine j_iconst (x := 1) dX3_comesBefore_72 rfl (by decide) ?_
        refine j_goto (tgt := 77) dX3_comesBefore_73 (by decide) ?_
        refine j_sub [] rfl ?_
        exact jb_la_comesBefore_77 hs _ _
      · refine j_iconst (x := 0) dX3_comesBefore_76 rfl (by decide) ?_
        refine j_sub [] rfl ?_
        exact jb_la_comesBefore_77 hs _ _
  · refine j_iload_n 0 dX3_comesBefore_32 rfl ?_
    refine j_if_ge (tgt := 40) dX3_comesBefore_33 (by decide) ?_ ?_
    · refine j_iconst (x := 1) dX3_comesBefore_36 rfl (by decide) ?_
      refine j_goto (tgt := 41) dX3_comesBefore_37 (by decide) ?_
      refine j_sub [] rfl ?_
      exact jb_la_comesBefore_41 hs _ _
    · refine j_iconst (x := 0) dX3_comesBefore_40 rfl (by decide) ?_
      refine j_sub [] rfl ?_
      exact jb_la_comesBefore_41 hs _ _

set_option maxRecDepth 100000 in
set_option maxHeartbeats 4000000 in
theorem jb_la_isTaken_83 {lay : List LK} {th : Nat} {p1 : Int} {p2 : Int} {k2 : Int → Hp → O Int} (hs : sub lay th blkLanes) (hk2 : ∀ (x3 : Int) (h : Hp), J mi_la_isTaken encI (Same lay) lay 0 0 2 [(0, vr th), (1, vi p1), (2, vi p2), (3, vi x3)] [] h (k2 x3 h)) (x3 : Int) (h : Hp) : J mi_la_isTaken encI (Same lay) lay 0 0 83 [(0, vr th), (1, vi p1), (2, vi p2), (3, vi x3)] [] h (la_isTaken_b83 th p1 p2 k2 x3 h) := by
  unfold la_isTaken_b83
  refine j_iinc 3 (lv' := [(3, vi (x3 + 1)), (0, vr th), (1, vi p1), (2, vi p2)]) dX3_isTaken_83 rfl (by decide) rfl ?_
  refine j_goto (tgt := 2) dX3_isTaken_86 (by decide) ?_
  refine j_sub [1, 2, 3, 0] rfl ?_
  exact hk2 _ _

set_option maxRecDepth 100000 in
set_option maxHeartbeats 4000000 in
theorem jb_la_isTaken_77 {lay : List LK} {th : Nat} {p1 : Int} {p2 : Int} {k13 : Int → Int → Hp → O Int} (hs : sub lay th blkLanes) (hk13 : ∀ (x3 x4 : Int) (h : Hp), J mi_la_isTaken encI (Same lay) lay 0 0 13 [(0, vr th), (1, vi p1), (2, vi p2), (3, vi x3), (4, vi x4)] [] h (k13 x3 x4 h)) (x3 x4 : Int) (h : Hp) : J mi_la_isTaken encI (Same lay) lay 0 0 77 [(0, vr th), (1, vi p1), (2, vi p2), (3, vi x3), (4, vi x4)] [] h (la_isTaken_b77 th p1 p2 k13 x3 x4 h) := by
  unfold la_isTaken_b77
  refine j_iinc 4 (lv' := [(4, vi (x4 + 1)), (0, vr th), (1, vi p1), (2, vi p2), (3, vi x3)]) dX3_isTaken_77 rfl (by decide) rfl ?_
  refine j_goto (tgt := 13) dX3_isTaken_80 (by decide) ?_
  refine j_sub [1, 2, 3, 4, 0] rfl ?_
  exact hk13 _ _ _

set_option maxRecDepth 100000 in
set_option maxHeartbeats 4000000 in
theorem jl_la_isTaken_13 {lay : List LK} {th : Nat} {p1 : Int} {p2 : Int} {k2 : Int → Hp → O Int} (hs : sub lay th blkLanes) (hk2 : ∀ (x3 : Int) (h : Hp), J mi_la_isTaken encI (Same lay) lay 0 0 2 [(0, vr th), (1, vi p1), (2, vi p2), (3, vi x3)] [] h (k2 x3 h)) : ∀ (n : Nat) (x3 x4 : Int) (h : Hp), J mi_la_isTaken encI (Same lay) lay 0 0 13 [(0, vr th), (1, vi p1), (2, vi p2), (3, vi x3), (4, vi x4)] [] h (iter2 (la_isTaken_f13 th p1 p2 k2) n x3 x4 h) := by
  refine j_iter2 (lf := fun x3 x4 => [(0, vr th), (1, vi p1), (2, vi p2), (3, vi x3), (4, vi x4)]) (fun k13 hk13 x3 x4 h => ?_)
  unfold la_isTaken_f13
  refine j_aload_n 0 dX3_isTaken_13 rfl ?_
  refine j_getR 10 8 7 dX3_isTaken_14 zc_3 rfl (sub_k hs 0 rfl rfl) (by decide) lk_X3_43 rfl (by decide) (rfl : th + 8 = (th + 8)) ?_
  refine j_iload_n 3 dX3_isTaken_17 rfl ?_
  refine j_iald dX3_isTaken_18 (sub_k hs 8 rfl rfl) rfl ?_
  refine j_iload_n 2 dX3_isTaken_19 rfl ?_
  refine j_icmp_ne (tgt := 83) dX3_isTaken_20 (by decide) ?_ ?_
  · refine j_iload 4 dX3_isTaken_23 rfl ?_
    refine j_aload_n 0 dX3_isTaken_25 rfl ?_
    refine j_getI 15 15 dX3_isTaken_26 zc_3 rfl (sub_k hs 0 rfl rfl) (by decide) lk_X3_58 rfl rfl ?_
    refine j_icmp_ge (tgt := 83) dX3_isTaken_29 (by decide) ?_ ?_
    · refine j_aload_n 0 dX3_isTaken_32 rfl ?_
      refine j_getR 3 4 3 dX3_isTaken_33 zc_3 rfl (sub_k hs 0 rfl rfl) (by decide) lk_X3_21 rfl (by decide) (rfl : th + 4 = (th + 4)) ?_
      refine j_iload 4 dX3_isTaken_36 rfl ?_
      refine j_iald dX3_isTaken_38 (sub_k hs 4 rfl rfl) rfl ?_
      refine j_iload_n 1 dX3_isTaken_39 rfl ?_
      refine j_icmp_ne (tgt := 77) dX3_isTaken_40 (by decide) ?_ ?_
      · refine j_aload_n 0 dX3_isTaken_43 rfl ?_
        refine j_getR 1 2 1 dX3_isTaken_44 zc_3 rfl (sub_k hs 0 rfl rfl) (by decide) lk_X3_15 rfl (by decide) (rfl : th + 2 = (th + 2)) ?_
        refine j_iload 4 dX3_isTaken_47 rfl ?_
        refine j_iald dX3_isTaken_49 (sub_k hs 2 rfl rfl) rfl ?_
        refine j_aload_n 0 dX3_isTaken_50 rfl ?_
        refine j_getR 2 3 2 dX3_isTaken_51 zc_3 rfl (sub_k hs 0 rfl rfl) (by decide) lk_X3_18 rfl (by decide) (rfl : th + 3 = (th + 3)) ?_
        refine j_iload_n 3 dX3_isTaken_54 rfl ?_
        refine j_iald dX3_isTaken_55 (sub_k hs 3 rfl rfl) rfl ?_
        refine j_icmp_gt (tgt := 77) dX3_isTaken_56 (by decide) ?_ ?_
        · exact jb_la_isTaken_77 hs hk13 _ _ _
        · refine j_aload_n 0 dX3_isTaken_59 rfl ?_
          refine j_getR 1 2 1 dX3_isTaken_60 zc_3 rfl (sub_k hs 0 rfl rfl) (by decide) lk_X3_15 rfl (by decide) (rfl : th + 2 = (th + 2)) ?_
          refine j_iload_n 3 dX3_isTaken_63 rfl ?_
          refine j_iald dX3_isTaken_64 (sub_k hs 2 rfl rfl) rfl ?_
          refine j_aload_n 0 dX3_isTaken_65 rfl ?_
          refine j_getR 2 3 2 dX3_isTaken_66 zc_3 rfl (sub_k hs 0 rfl rfl) (by decide) lk_X3_18 rfl (by decide) (rfl : th + 3 = (th + 3)) ?_
          refine j_iload 4 dX3_isTaken_69 rfl ?_
          refine j_iald dX3_isTaken_71 (sub_k hs 3 rfl rfl) rfl ?_
          refine j_icmp_gt (tgt := 77) dX3_isTaken_72 (by decide) ?_ ?_
          · exact jb_la_isTaken_77 hs hk13 _ _ _
          · refine j_iconst (x := 1) dX3_isTaken_75 rfl (by decide) ?_
            exact j_retZ bz1.symm rfl rfl dX3_isTaken_76 rfl ⟨Nat.le_refl _, Nat.le_refl _⟩ rfl
      · exact jb_la_isTaken_77 hs hk13 _ _ _
    · refine j_sub [0, 1, 2, 3] rfl ?_
      exact jb_la_isTaken_83 hs hk2 _ _
  · refine j_sub [0, 1, 2, 3] rfl ?_
    exact jb_la_isTaken_83 hs hk2 _ _

set_option maxRecDepth 100000 in
set_option maxHeartbeats 4000000 in
theorem jl_la_isTaken_2 {lay : List LK} {th : Nat} {p1 : Int} {p2 : Int}  (hs : sub lay th blkLanes)  : ∀ (n : Nat) (x3 : Int) (h : Hp), J mi_la_isTaken encI (Same lay) lay 0 0 2 [(0, vr th), (1, vi p1), (2, vi p2), (3, vi x3)] [] h (iter1 (la_isTaken_f2 th p1 p2) n x3 h) := by
  refine j_iter1 (lf := fun x3 => [(0, vr th), (1, vi p1), (2, vi p2), (3, vi x3)]) (fun k2 hk2 x3 h => ?_)
  unfold la_isTaken_f2
  refine j_iload_n 3 dX3_isTaken_2 rfl ?_
  refine j_aload_n 0 dX3_isTaken_3 rfl ?_
  refine j_getI 15 15 dX3_isTaken_4 zc_3 rfl (sub_k hs 0 rfl rfl) (by decide) lk_X3_58 rfl rfl ?_
  refine j_icmp_ge (tgt := 89) dX3_isTaken_7 (by decide) ?_ ?_
  · refine j_iconst (x := 0) dX3_isTaken_10 rfl (by decide) ?_
    refine j_istore (lv' := [(4, vi 0), (0, vr th), (1, vi p1), (2, vi p2), (3, vi x3)]) dX3_isTaken_11 (by decide) rfl ?_
    refine j_sub [1, 2, 3, 4, 0] rfl ?_
    exact jl_la_isTaken_13 hs hk2 fuel _ _ _
  · refine j_iconst (x := 0) dX3_isTaken_89 rfl (by decide) ?_
    exact j_retZ bz0.symm rfl rfl dX3_isTaken_90 rfl ⟨Nat.le_refl _, Nat.le_refl _⟩ rfl

set_option maxRecDepth 100000 in
set_option maxHeartbeats 4000000 in
theorem ct_la_isTaken {lay : List LK} {th : Nat} {p1 : Int} {p2 : Int} (hs : sub lay th blkLanes) (h : Hp) : CT mi_la_isTaken encI (Same lay) lay [vr th, vi p1, vi p2] h (la_isTaken th p1 p2 h) := by
  refine CT.of (by decide) rfl (Nat.le_of_ble_eq_true rfl) ?_
  show J mi_la_isTaken encI (Same lay) lay 0 0 0 [(0, vr th), (1, vi p1), (2, vi p2)] [] h _
  unfold la_isTaken
  refine j_iconst (x := 0) dX3_isTaken_0 rfl (by decide) ?_
  refine j_istore_n (lv' := [(3, vi 0), (0, vr th), (1, vi p1), (2, vi p2)]) dX3_isTaken_1 (by decide) rfl ?_
  refine j_sub [1, 2, 3, 0] rfl ?_
  exact jl_la_isTaken_2 hs fuel _ _

set_option maxRecDepth 100000 in
set_option maxHeartbeats 4000000 in
theorem jb_la_lowestLaneFor_104 {lay : List LK} {th : Nat} {p1 : Int} {p2 : Int}  (hs : sub lay th blkLanes)  (x3 : Int) (h : Hp) : J mi_la_lowestLaneFor encI (Same lay) lay 0 0 104 [(3, vi x3)] [] h (la_lowestLaneFor_b104 th p1 p2 x3 h) := by
  unfold la_lowestLaneFor_b104
  refine j_iload_n 0 dX3_lowestLaneFor_104 rfl ?_
  exact j_retI (h0 := h) (r := 0) rfl rfl rfl dX3_lowestLaneFor_105 rfl ⟨Nat.le_refl _, Nat.le_refl _⟩ rfl

set_option maxRecDepth 100000 in
set_option maxHeartbeats 4000000 in
theorem jl_la_lowestLaneFor_80 {lay : List LK} {th : Nat} {p1 : Int} {p2 : Int}  (hs : sub lay th blkLanes)  : ∀ (n : Nat) (x3 x4 : Int) (h : Hp), J mi_la_lowestLaneFor encI (Same lay) lay 0 0 80 [(0, vr th), (1, vi p1), (2, vi p2), (3, vi x3), (4, vi x4)] [] h (iter2 (la_lowestLaneFor_f80 th p1 p2) n x3 x4 h) := by
  refine j_iter2 (lf := fun x3 x4 => [(0, vr th), (1, vi p1), (2, vi p2), (3, vi x3), (4, vi x4)]) (fun k80 hk80 x3 x4 h => ?_)
  unfold la_lowestLaneFor_f80
  refine j_iload 4 dX3_lowestLaneFor_80 rfl ?_
  refine j_iload_n 2 dX3_lowestLaneFor_82 rfl ?_
  refine j_icmp_ge (tgt := 104) dX3_lowestLaneFor_83 (by decide) ?_ ?_
  · refine j_aload_n 0 dX3_lowestLaneFor_86 rfl ?_
    refine j_iload_n 3 dX3_lowestLaneFor_87 rfl ?_
    refine j_iload_n 1 dX3_lowestLaneFor_88 rfl ?_
    refine j_cV (stk := []) [vi x3, vi p1] th dX3_lowestLaneFor_89 mv_la_isTaken lm_X3_125 (sub_k hs 0 rfl rfl) zc_3 (ct_la_isTaken hs h) rfl rfl ⟨⟨Nat.le_of_ble_eq_true rfl, Nat.le_of_ble_eq_true rfl⟩, Nat.le_of_ble_eq_true rfl, Nat.le_of_ble_eq_true rfl⟩ (Nat.le_of_ble_eq_true rfl) rfl rfl (fun r1 h1 _ => ?_)
    refine j_if_eq (tgt := 104) dX3_lowestLaneFor_92 (by decide) ?_ ?_
    · refine j_sub [3] rfl ?_
      exact jb_la_lowestLaneFor_104 hs _ _
    · refine j_iinc 3 (lv' := [(3, vi (x3 + 1)), (0, vr th), (1, vi p1), (2, vi p2), (4, vi x4)]) dX3_lowestLaneFor_95 rfl (by decide) rfl ?_
      refine j_iinc 4 (lv' := [(4, vi (x4 + 1)), (3, vi (x3 + 1)), (0, vr th), (1, vi p1), (2, vi p2)]) dX3_lowestLaneFor_98 rfl (by decide) rfl ?_
      refine j_goto (tgt := 80) dX3_lowestLaneFor_101 (by decide) ?_
      refine j_sub [2, 3, 4, 1, 0] rfl ?_
      exact hk80 _ _ _
  · refine j_sub [3] rfl ?_
    exact jb_la_lowestLaneFor_104 hs _ _

set_option maxRecDepth 100000 in
set_option maxHeartbeats 4000000 in
theorem jb_la_lowestLaneFor_71 {lay : List LK} {th : Nat} {p1 : Int} {p2 : Int} {k10 : Int → Int → Hp → O Int} (hs : sub lay th blkLanes) (hk10 : ∀ (x3 x4 : Int) (h : Hp), J mi_la_lowestLaneFor encI (Same lay) lay 0 0 10 [(0, vr th), (1, vi p1), (2, vi p2), (3, vi x3), (4, vi x4)] [] h (k10 x3 x4 h)) (x3 x4 : Int) (h : Hp) : J mi_la_lowestLaneFor encI (Same lay) lay 0 0 71 [(0, vr th), (1, vi p1), (2, vi p2), (3, vi x3), (4, vi x4)] [] h (la_lowestLaneFor_b71 th p1 p2 k10 x3 x4 h) := by
  unfold la_lowestLaneFor_b71
  refine j_iinc 4 (lv' := [(4, vi (x4 + 1)), (0, vr th), (1, vi p1), (2, vi p2), (3, vi x3)]) dX3_lowestLaneFor_71 rfl (by decide) rfl ?_
  refine j_goto (tgt := 10) dX3_lowestLaneFor_74 (by decide) ?_
  refine j_sub [1, 2, 3, 4, 0] rfl ?_
  exact hk10 _ _ _

set_option maxRecDepth 100000 in
set_option maxHeartbeats 4000000 in
theorem jl_la_lowestLaneFor_10 {lay : List LK} {th : Nat} {p1 : Int} {p2 : Int}  (hs : sub lay th blkLanes)  : ∀ (n : Nat) (x3 x4 : Int) (h : Hp), J mi_la_lowestLaneFor encI (Same lay) lay 0 0 10 [(0, vr th), (1, vi p1), (2, vi p2), (3, vi x3), (4, vi x4)] [] h (iter2 (la_lowestLaneFor_f10 th p1 p2) n x3 x4 h) := by
  refine j_iter2 (lf := fun x3 x4 => [(0, vr th), (1, vi p1), (2, vi p2), (3, vi x3), (4, vi x4)]) (fun k10 hk10 x3 x4 h => ?_)
  unfold la_lowestLaneFor_f10
  refine j_iload 4 dX3_lowestLaneFor_10 rfl ?_
  refine j_iload_n 2 dX3_lowestLaneFor_12 rfl ?_
  refine j_icmp_ge (tgt := 77) dX3_lowestLaneFor_13 (by decide) ?_ ?_
  · refine j_aload_n 0 dX3_lowestLaneFor_16 rfl ?_
    refine j_getR 14 12 11 dX3_lowestLaneFor_17 zc_3 rfl (sub_k hs 0 rfl rfl) (by decide) lk_X3_55 rfl (by decide) (rfl : th + 12 = (th + 12)) ?_
    refine j_iload 4 dX3_lowestLaneFor_20 rfl ?_
    refine j_iald dX3_lowestLaneFor_22 (sub_k hs 12 rfl rfl) rfl ?_
    refine j_istore (lv' := [(5, vi (h (th + 12) x4)), (0, vr th), (1, vi p1), (2, vi p2), (3, vi x3), (4, vi x4)]) dX3_lowestLaneFor_23 (by decide) rfl ?_
    refine j_aload_n 1 dX3_lowestLaneFor_25 rfl ?_
    refine j_getR 11 9 8 dX3_lowestLaneFor_26 zc_3 rfl (sub_k hs 0 rfl rfl) (by decide) lk_X3_46 rfl (by decide) (rfl : th + 9 = (th + 9)) ?_
    refine j_iload_n 2 dX3_lowestLaneFor_29 rfl ?_
    refine j_iald dX3_lowestLaneFor_30 (sub_k hs 9 rfl rfl) rfl ?_
    refine j_aload_n 1 dX3_lowestLaneFor_31 rfl ?_
    refine j_getR 11 9 8 dX3_lowestLaneFor_32 zc_3 rfl (sub_k hs 0 rfl rfl) (by decide) lk_X3_46 rfl (by decide) (rfl : th + 9 = (th + 9)) ?_
    refine j_iload 0 dX3_lowestLaneFor_35 rfl ?_
    refine j_iald dX3_lowestLaneFor_37 (sub_k hs 9 rfl rfl) rfl ?_
    refine j_icmp_gt (tgt := 71) dX3_lowestLaneFor_38 (by decide) ?_ ?_
    · refine j_sub [1, 2, 3, 4, 5] rfl ?_
      exact jb_la_lowestLaneFor_71 hs hk10 _ _ _
    · refine j_aload_n 1 dX3_lowestLaneFor_41 rfl ?_
      refine j_getR 12 10 9 dX3_lowestLaneFor_42 zc_3 rfl (sub_k hs 0 rfl rfl) (by decide) lk_X3_49 rfl (by decide) (rfl : th + 10 = (th + 10)) ?_
      refine j_iload 0 dX3_lowestLaneFor_45 rfl ?_
      refine j_iald dX3_lowestLaneFor_47 (sub_k hs 10 rfl rfl) rfl ?_
      refine j_aload_n 1 dX3_lowestLaneFor_48 rfl ?_
      refine j_getR 12 10 9 dX3_lowestLaneFor_49 zc_3 rfl (sub_k hs 0 rfl rfl) (by decide) lk_X3_49 rfl (by decide) (rfl : th + 10 = (th + 10)) ?_
      refine j_iload_n 2 dX3_lowestLaneFor_52 rfl ?_
      refine j_iald dX3_lowestLaneFor_53 (sub_k hs 10 rfl rfl) rfl ?_
      refine j_icmp_gt (tgt := 71) dX3_lowestLaneFor_54 (by decide) ?_ ?_
      · refine j_sub [1, 2, 3, 4, 5] rfl ?_
        exact jb_la_lowestLaneFor_71 hs hk10 _ _ _
      · refine j_iload_n 4 dX3_lowestLaneFor_57 rfl ?_
        refine j_aload_n 1 dX3_lowestLaneFor_58 rfl ?_
        refine j_getR 3 4 3 dX3_lowestLaneFor_59 zc_3 rfl (sub_k hs 0 rfl rfl) (by decide) lk_X3_21 rfl (by decide) (rfl : th + 4 = (th + 4)) ?_
        refine j_iload 0 dX3_lowestLaneFor_62 rfl ?_
        refine j_iald dX3_lowestLaneFor_64 (sub_k hs 4 rfl rfl) rfl ?_
        refine j_iconst (x := 1) dX3_lowestLaneFor_65 rfl (by decide) ?_
        refine j_iadd dX3_lowestLaneFor_66 ?_
        refine j_mmax dX3_lowestLaneFor_67 lm_X3_115 km_max1 km_2 km_max3 (Nat.le_of_ble_eq_true rfl) (Nat.le_of_ble_eq_true rfl) (Nat.le_of_ble_eq_true rfl) (Nat.le_of_ble_eq_true rfl) ?_
        refine j_istore_n (lv' := [(3, vi (max x3 ((h (th + 4) (h (th + 12) x4)) + 1))), (5, vi (h (th + 12) x4)), (0, vr th), (1, vi p1), (2, vi p2), (4, vi x4)]) dX3_lowestLaneFor_70 (by decide) rfl ?_
        refine j_sub [2, 3, 4, 0, 5] rfl ?_
        exact jb_la_lowestLaneFor_71 hs hk10 _ _ _
  · refine j_iconst (x := 0) dX3_lowestLaneFor_77 rfl (by decide) ?_
    refine j_istore (lv' := [(4, vi 0), (0, vr th), (1, vi p1), (2, vi p2), (3, vi x3)]) dX3_lowestLaneFor_78 (by decide) rfl ?_
    refine j_sub [1, 2, 3, 4, 0] rfl ?_
    exact jl_la_lowestLaneFor_80 hs fuel _ _ _

set_option maxRecDepth 100000 in
set_option maxHeartbeats 4000000 in
theorem ct_la_lowestLaneFor {lay : List LK} {th : Nat} {p1 : Int} {p2 : Int} (hs : sub lay th blkLanes) (h : Hp) : CT mi_la_lowestLaneFor encI (Same lay) lay [vr th, vi p1, vi p2] h (la_lowestLaneFor th p1 p2 h) := by
  refine CT.of (by decide) rfl (Nat.le_of_ble_eq_true rfl) ?_
  show J mi_la_lowestLaneFor encI (Same lay) lay 0 0 0 [(0, vr th), (1, vi p1), (2, vi p2)] [] h _
  unfold la_lowestLaneFor
  refine j_aload_n 0 dX3_lowestLaneFor_0 rfl ?_
  refine j_getR 13 11 10 dX3_lowestLaneFor_1 zc_3 rfl (sub_k hs 0 rfl rfl) (by decide) lk_X3_52 rfl (by decide) (rfl : th + 11 = (th + 11)) ?_
  refine j_iload_n 1 dX3_lowestLaneFor_4 rfl ?_
  refine j_iald dX3_lowestLaneFor_5 (sub_k hs 11 rfl rfl) rfl ?_
  refine j_istore_n (lv' := [(3, vi (h (th + 11) p1)), (0, vr th), (1, vi p1), (2, vi p2)]) dX3_lowestLaneFor_6 (by decide) rfl ?_
  refine j_iconst (x := 0) dX3_lowestLaneFor_7 rfl (by decide) ?_
  refine j_istore (lv' := [(4, vi 0), (3, vi (h (th + 11) p1)), (0, vr th), (1, vi p1), (2, vi p2)]) dX3_lowestLaneFor_8 (by decide) rfl ?_
  refine j_sub [2, 3, 4, 1, 0] rfl ?_
  exact jl_la_lowestLaneFor_10 hs fuel _ _ _

set_option maxRecDepth 100000 in
set_option maxHeartbeats 4000000 in
theorem jb_la_place_108 {lay : List LK} {th : Nat} {p1 : Int} {k80 : Int → Int → Int → Hp → O Unit} (hs : sub lay th blkLanes) (hk80 : ∀ (x2 x3 x4 : Int) (h : Hp), J mi_la_place encV (Same lay) lay 0 0 80 [(0, vr th), (2, vi x2), (3, vi x3), (4, vi x4)] [] h (k80 x2 x3 x4 h)) (x2 x3 x4 : Int) (h : Hp) : J mi_la_place encV (Same lay) lay 0 0 108 [(0, vr th), (2, vi x2), (3, vi x3), (4, vi x4)] [] h (la_place_b108 th p1 k80 x2 x3 x4 h) := by
  unfold la_place_b108
  refine j_iinc 3 (lv' := [(4, vi (x4 + 1)), (0, vr th), (2, vi x2), (3, vi x3)]) dX3_place_108 rfl (by decide) rfl ?_
  refine j_goto (tgt := 80) dX3_place_111 (by decide) ?_
  refine j_sub [1, 2, 3, 0] rfl ?_
  exact hk80 _ _ _ _

set_option maxRecDepth 100000 in
set_option maxHeartbeats 4000000 in
theorem jl_la_place_80 {lay : List LK} {th : Nat} {p1 : Int}  (hs : sub lay th blkLanes)  : ∀ (n : Nat) (x2 x3 x4 : Int) (h : Hp), J mi_la_place encV (Same lay) lay 0 0 80 [(0, vr th), (2, vi x2), (3, vi x3), (4, vi x4)] [] h (iter3 (la_place_f80 th p1) n x2 x3 x4 h) := by
  refine j_iter3 (lf := fun x2 x3 x4 => [(0, vr th), (2, vi x2), (3, vi x3), (4, vi x4)]) (fun k80 hk80 x2 x3 x4 h => ?_)
  unfold la_place_f80
  refine j_iload 3 dX3_place_80 rfl ?_
  refine j_aload_n 0 dX3_place_82 rfl ?_
  refine j_getI 15 15 dX3_place_83 zc_3 rfl (sub_k hs 0 rfl rfl) (by decide) lk_X3_58 rfl rfl ?_
  refine j_icmp_ge (tgt := 114) dX3_place_86 (by decide) ?_ ?_
  · refine j_aload_n 0 dX3_place_89 rfl ?_
    refine j_getR 10 8 7 dX3_place_90 zc_3 rfl (sub_k hs 0 rfl rfl) (by decide) lk_X3_43 rfl (by decide) (rfl : th + 8 = (th + 8)) ?_
    refine j_iload 3 dX3_place_93 rfl ?_
    refine j_iald dX3_place_95 (sub_k hs 8 rfl rfl) rfl ?_
    refine j_iload_n 1 dX3_place_96 rfl ?_
    refine j_icmp_ne (tgt := 108) dX3_place_97 (by decide) ?_ ?_
    · refine j_aload_n 0 dX3_place_100 rfl ?_
      refine j_getR 3 4 3 dX3_place_101 zc_3 rfl (sub_k hs 0 rfl rfl) (by decide) lk_X3_21 rfl (by decide) (rfl : th + 4 = (th + 4)) ?_
      refine j_iload 3 dX3_place_104 rfl ?_
      refine j_iload_n 2 dX3_place_106 rfl ?_
      refine j_iast dX3_place_107 (sub_k hs 4 rfl rfl) rfl (fun h1 _ => ?_)
      exact jb_la_place_108 hs hk80 _ _ _ _
    · exact jb_la_place_108 hs hk80 _ _ _ _
  · refine j_aload_n 0 dX3_place_114 rfl ?_
    refine j_aload_n 0 dX3_place_115 rfl ?_
    refine j_getI 7 7 dX3_place_116 zc_3 rfl (sub_k hs 0 rfl rfl) (by decide) lk_X3_34 rfl rfl ?_
    refine j_iload_n 2 dX3_place_119 rfl ?_
    refine j_iconst (x := 1) dX3_place_120 rfl (by decide) ?_
    refine j_iadd dX3_place_121 ?_
    refine j_mmax dX3_place_122 lm_X3_115 km_max1 km_2 km_max3 (Nat.le_of_ble_eq_true rfl) (Nat.le_of_ble_eq_true rfl) (Nat.le_of_ble_eq_true rfl) (Nat.le_of_ble_eq_true rfl) ?_
    refine j_putI 7 7 dX3_place_125 zc_3 rfl (sub_k hs 0 rfl rfl) (by decide) lk_X3_34 rfl rfl rfl rfl (fun h2 _ => ?_)
    exact j_retV rfl rfl rfl dX3_place_128 rfl ⟨Nat.le_refl _, Nat.le_refl _⟩ rfl

set_option maxRecDepth 100000 in
set_option maxHeartbeats 4000000 in
theorem jb_la_place_57 {lay : List LK} {th : Nat} {p1 : Int} {k4 : Int → Hp → O Unit} (hs : sub lay th blkLanes) (hk4 : ∀ (x2 : Int) (h : Hp), J mi_la_place encV (Same lay) lay 0 0 4 [(0, vr th), (1, vi p1), (2, vi x2)] [] h (k4 x2 h)) (x2 : Int) (h : Hp) : J mi_la_place encV (Same lay) lay 0 0 57 [(0, vr th), (1, vi p1), (2, vi x2)] [] h (la_place_b57 th p1 k4 x2 h) := by
  unfold la_place_b57
  refine j_iinc 2 (lv' := [(2, vi (x2 + 1)), (0, vr th), (1, vi p1)]) dX3_place_57 rfl (by decide) rfl ?_
  refine j_goto (tgt := 4) dX3_place_60 (by decide) ?_
  refine j_sub [1, 2, 0] rfl ?_
  exact hk4 _ _

set_option maxRecDepth 100000 in
set_option maxHeartbeats 4000000 in
theorem jl_la_place_4 {lay : List LK} {th : Nat} {p1 : Int}  (hs : sub lay th blkLanes)  : ∀ (n : Nat) (x2 : Int) (h : Hp), J mi_la_place encV (Same lay) lay 0 0 4 [(0, vr th), (1, vi p1), (2, vi x2)] [] h (iter1 (la_place_f4 th p1) n x2 h) := by
  refine j_iter1 (lf := fun x2 => [(0, vr th), (1, vi p1), (2, vi x2)]) (fun k4 hk4 x2 h => ?_)
  unfold la_place_f4
  refine j_iload_n 2 dX3_place_4 rfl ?_
  refine j_aload_n 0 dX3_place_5 rfl ?_
  refine j_getI 6 6 dX3_place_6 zc_3 rfl (sub_k hs 0 rfl rfl) (by decide) lk_X3_30 rfl rfl ?_
  refine j_icmp_ge (tgt := 63) dX3_place_9 (by decide) ?_ ?_
  · refine j_aload_n 0 dX3_place_12 rfl ?_
    refine j_aload_n 0 dX3_place_13 rfl ?_
    refine j_getR 14 12 11 dX3_place_14 zc_3 rfl (sub_k hs 0 rfl rfl) (by decide) lk_X3_55 rfl (by decide) (rfl : th + 12 = (th + 12)) ?_
    refine j_iload_n 2 dX3_place_17 rfl ?_
    refine j_iald dX3_place_18 (sub_k hs 12 rfl rfl) rfl ?_
    refine j_aload_n 0 dX3_place_19 rfl ?_
    refine j_getR 14 12 11 dX3_place_20 zc_3 rfl (sub_k hs 0 rfl rfl) (by decide) lk_X3_55 rfl (by decide) (rfl : th + 12 = (th + 12)) ?_
    refine j_iload_n 1 dX3_place_23 rfl ?_
    refine j_iald dX3_place_24 (sub_k hs 12 rfl rfl) rfl ?_
    refine j_cV (stk := []) [vi (h (th + 12) x2), vi (h (th + 12) p1)] th dX3_place_25 mv_la_comesBefore lm_X3_118 (sub_k hs 0 rfl rfl) zc_3 (ct_la_comesBefore hs h) rfl rfl ⟨⟨Nat.le_of_ble_eq_true rfl, Nat.le_of_ble_eq_true rfl⟩, Nat.le_of_ble_eq_true rfl, Nat.le_of_ble_eq_true rfl⟩ (Nat.le_of_ble_eq_true rfl) rfl rfl (fun r1 h1 _ => ?_)
    refine j_if_eq (tgt := 57) dX3_place_28 (by decide) ?_ ?_
    · exact jb_la_place_57 hs hk4 _ _
    · refine j_aload_n 0 dX3_place_31 rfl ?_
      refine j_getR 14 12 11 dX3_place_32 zc_3 rfl (sub_k hs 0 rfl rfl) (by decide) lk_X3_55 rfl (by decide) (rfl : th + 12 = (th + 12)) ?_
      refine j_iload_n 1 dX3_place_35 rfl ?_
      refine j_iald dX3_place_36 (sub_k hs 12 rfl rfl) rfl ?_
      refine j_istore_n (lv' := [(3, vi (h1 (th + 12) p1)), (0, vr th), (1, vi p1), (2, vi x2)]) dX3_place_37 (by decide) rfl ?_
      refine j_aload_n 1 dX3_place_38 rfl ?_
      refine j_getR 14 12 11 dX3_place_39 zc_3 rfl (sub_k hs 0 rfl rfl) (by decide) lk_X3_55 rfl (by decide) (rfl : th + 12 = (th + 12)) ?_
      refine j_iload_n 2 dX3_place_42 rfl ?_
      refine j_aload_n 1 dX3_place_43 rfl ?_
      refine j_getR 14 12 11 dX3_place_44 zc_3 rfl (sub_k hs 0 rfl rfl) (by decide) lk_X3_55 rfl (by decide) (rfl : th + 12 = (th + 12)) ?_
      refine j_iload_n 3 dX3_place_47 rfl ?_
      refine j_iald dX3_place_48 (sub_k hs 12 rfl rfl) rfl ?_
      refine j_iast dX3_place_49 (sub_k hs 12 rfl rfl) rfl (fun h2 _ => ?_)
      refine j_aload_n 1 dX3_place_50 rfl ?_
      refine j_getR 14 12 11 dX3_place_51 zc_3 rfl (sub_k hs 0 rfl rfl) (by decide) lk_X3_55 rfl (by decide) (rfl : th + 12 = (th + 12)) ?_
      refine j_iload_n 3 dX3_place_54 rfl ?_
      refine j_iload_n 0 dX3_place_55 rfl ?_
      refine j_iast dX3_place_56 (sub_k hs 12 rfl rfl) rfl (fun h3 _ => ?_)
      refine j_sub [1, 2, 3] rfl ?_
      exact jb_la_place_57 hs hk4 _ _
  · refine j_aload_n 0 dX3_place_63 rfl ?_
    refine j_getR 14 12 11 dX3_place_64 zc_3 rfl (sub_k hs 0 rfl rfl) (by decide) lk_X3_55 rfl (by decide) (rfl : th + 12 = (th + 12)) ?_
    refine j_iload_n 1 dX3_place_67 rfl ?_
    refine j_iald dX3_place_68 (sub_k hs 12 rfl rfl) rfl ?_
    refine j_istore_n (lv' := [(2, vi (h (th + 12) p1)), (0, vr th), (1, vi p1)]) dX3_place_69 (by decide) rfl ?_
    refine j_aload_n 1 dX3_place_70 rfl ?_
    refine j_iload_n 0 dX3_place_71 rfl ?_
    refine j_iload_n 2 dX3_place_72 rfl ?_
    refine j_cV (stk := []) [vi (h (th + 12) p1), vi p1] th dX3_place_73 mv_la_lowestLaneFor lm_X3_122 (sub_k hs 0 rfl rfl) zc_3 (ct_la_lowestLaneFor hs h) rfl rfl ⟨⟨Nat.le_of_ble_eq_true rfl, Nat.le_of_ble_eq_true rfl⟩, Nat.le_of_ble_eq_true rfl, Nat.le_of_ble_eq_true rfl⟩ (Nat.le_of_ble_eq_true rfl) rfl rfl (fun r4 h4 _ => ?_)
    refine j_istore_n (lv' := [(3, vi r4), (2, vi (h (th + 12) p1)), (0, vr th), (1, vi p1)]) dX3_place_76 (by decide) rfl ?_
    refine j_iconst (x := 0) dX3_place_77 rfl (by decide) ?_
    refine j_istore (lv' := [(4, vi 0), (3, vi r4), (2, vi (h (th + 12) p1)), (0, vr th), (1, vi p1)]) dX3_place_78 (by decide) rfl ?_
    refine j_sub [3, 2, 1, 0] rfl ?_
    exact jl_la_place_80 hs fuel _ _ _ _

set_option maxRecDepth 100000 in
set_option maxHeartbeats 4000000 in
theorem ct_la_place {lay : List LK} {th : Nat} {p1 : Int} (hs : sub lay th blkLanes) (h : Hp) : CT mi_la_place encV (Same lay) lay [vr th, vi p1] h (la_place th p1 h) := by
  refine CT.of (by decide) rfl (Nat.le_of_ble_eq_true rfl) ?_
  show J mi_la_place encV (Same lay) lay 0 0 0 [(0, vr th), (1, vi p1)] [] h _
  unfold la_place
  refine j_iload_n 1 dX3_place_0 rfl ?_
  refine j_iconst (x := 1) dX3_place_1 rfl (by decide) ?_
  refine j_iadd dX3_place_2 ?_
  refine j_istore_n (lv' := [(2, vi (p1 + 1)), (0, vr th), (1, vi p1)]) dX3_place_3 (by decide) rfl ?_
  refine j_sub [1, 2, 0] rfl ?_
  exact jl_la_place_4 hs fuel _ _

set_option maxRecDepth 100000 in
set_option maxHeartbeats 4000000 in
theorem jb_la_countCrossings_82 {lay : List LK} {th : Nat} {q1 : Nat} {p2 : Int} {k9 : Int → Hp → O Unit} (hs : sub lay th blkLanes) (hq1 : sub lay q1 blkDrawing) (hk9 : ∀ (x3 : Int) (h : Hp), J mi_la_countCrossings encV (Same lay) lay 0 0 9 [(0, vr th), (1, vr q1), (2, vi p2), (3, vi x3)] [] h (k9 x3 h)) (x3 : Int) (h : Hp) : J mi_la_countCrossings encV (Same lay) lay 0 0 82 [(0, vr th), (1, vr q1), (2, vi p2), (3, vi x3)] [] h (la_countCrossings_b82 th q1 p2 k9 x3 h) := by
  unfold la_countCrossings_b82
  refine j_iinc 3 (lv' := [(3, vi (x3 + 1)), (0, vr th), (1, vr q1), (2, vi p2)]) dX3_countCrossings_82 rfl (by decide) rfl ?_
  refine j_goto (tgt := 9) dX3_countCrossings_85 (by decide) ?_
  refine j_sub [1, 2, 3, 0] rfl ?_
  exact hk9 _ _

set_option maxRecDepth 100000 in
set_option maxHeartbeats 4000000 in
theorem jl_la_countCrossings_9 {lay : List LK} {th : Nat} {q1 : Nat} {p2 : Int}  (hs : sub lay th blkLanes) (hq1 : sub lay q1 blkDrawing)  : ∀ (n : Nat) (x3 : Int) (h : Hp), J mi_la_countCrossings encV (Same lay) lay 0 0 9 [(0, vr th), (1, vr q1), (2, vi p2), (3, vi x3)] [] h (iter1 (la_countCrossings_f9 th q1 p2) n x3 h) := by
  refine j_iter1 (lf := fun x3 => [(0, vr th), (1, vr q1), (2, vi p2), (3, vi x3)]) (fun k9 hk9 x3 h => ?_)
  unfold la_countCrossings_f9
  refine j_iload_n 3 dX3_countCrossings_9 rfl ?_
  refine j_aload_n 0 dX3_countCrossings_10 rfl ?_
  refine j_getI 15 15 dX3_countCrossings_11 zc_3 rfl (sub_k hs 0 rfl rfl) (by decide) lk_X3_58 rfl rfl ?_
  refine j_icmp_ge (tgt := 88) dX3_countCrossings_14 (by decide) ?_ ?_
  · refine j_aload_n 0 dX3_countCrossings_17 rfl ?_
    refine j_getR 3 4 3 dX3_countCrossings_18 zc_3 rfl (sub_k hs 0 rfl rfl) (by decide) lk_X3_21 rfl (by decide) (rfl : th + 4 = (th + 4)) ?_
    refine j_iload_n 3 dX3_countCrossings_21 rfl ?_
    refine j_iald dX3_countCrossings_22 (sub_k hs 4 rfl rfl) rfl ?_
    refine j_aload_n 0 dX3_countCrossings_23 rfl ?_
    refine j_getR 9 7 6 dX3_countCrossings_24 zc_3 rfl (sub_k hs 0 rfl rfl) (by decide) lk_X3_40 rfl (by decide) (rfl : th + 7 = (th + 7)) ?_
    refine j_iload_n 2 dX3_countCrossings_27 rfl ?_
    refine j_iald dX3_countCrossings_28 (sub_k hs 7 rfl rfl) rfl ?_
    refine j_icmp_ge (tgt := 82) dX3_countCrossings_29 (by decide) ?_ ?_
    · refine j_aload_n 1 dX3_countCrossings_32 rfl ?_
      refine j_getR 1 2 1 dX3_countCrossings_33 zc_1 rfl (sub_k hq1 0 rfl rfl) (by decide) lk_X3_96 rfl (by decide) (rfl : q1 + 2 = (q1 + 2)) ?_
      refine j_iload_n 3 dX3_countCrossings_36 rfl ?_
      refine j_iald dX3_countCrossings_37 (sub_k hq1 2 rfl rfl) rfl ?_
      refine j_iload_n 2 dX3_countCrossings_38 rfl ?_
      refine j_icmp_ge (tgt := 82) dX3_countCrossings_39 (by decide) ?_ ?_
      · refine j_iload_n 2 dX3_countCrossings_42 rfl ?_
        refine j_aload_n 1 dX3_countCrossings_43 rfl ?_
        refine j_getR 2 3 2 dX3_countCrossings_44 zc_1 rfl (sub_k hq1 0 rfl rfl) (by decide) lk_X3_99 rfl (by decide) (rfl : q1 + 3 = (q1 + 3)) ?_
        refine j_iload_n 3 dX3_countCrossings_47 rfl ?_
        refine j_iald dX3_countCrossings_48 (sub_k hq1 3 rfl rfl) rfl ?_
        refine j_icmp_ge (tgt := 82) dX3_countCrossings_49 (by decide) ?_ ?_
        · refine j_aload_n 0 dX3_countCrossings_52 rfl ?_
          refine j_getR 5 6 5 dX3_countCrossings_53 zc_3 rfl (sub_k hs 0 rfl rfl) (by decide) lk_X3_27 rfl (by decide) (rfl : th + 6 = (th + 6)) ?_
          refine j_iload_n 2 dX3_countCrossings_56 rfl ?_
          refine j_dup2 dX3_countCrossings_57 (fun _ _ => rfl) (fun _ _ => rfl) ?_
          refine j_iald dX3_countCrossings_58 (sub_k hs 6 rfl rfl) rfl ?_
          refine j_iconst (x := 1) dX3_countCrossings_59 rfl (by decide) ?_
          refine j_iadd dX3_countCrossings_60 ?_
          refine j_iast dX3_countCrossings_61 (sub_k hs 6 rfl rfl) rfl (fun h1 _ => ?_)
          refine j_aload_n 0 dX3_countCrossings_62 rfl ?_
          refine j_getR 4 5 4 dX3_countCrossings_63 zc_3 rfl (sub_k hs 0 rfl rfl) (by decide) lk_X3_24 rfl (by decide) (rfl : th + 5 = (th + 5)) ?_
          refine j_iload_n 3 dX3_countCrossings_66 rfl ?_
          refine j_dup2 dX3_countCrossings_67 (fun _ _ => rfl) (fun _ _ => rfl) ?_
          refine j_iald dX3_countCrossings_68 (sub_k hs 5 rfl rfl) rfl ?_
          refine j_iconst (x := 1) dX3_countCrossings_69 rfl (by decide) ?_
          refine j_iadd dX3_countCrossings_70 ?_
          refine j_iast dX3_countCrossings_71 (sub_k hs 5 rfl rfl) rfl (fun h2 _ => ?_)
          refine j_aload_n 0 dX3_countCrossings_72 rfl ?_
          refine j_dup dX3_countCrossings_73 (fun _ _ => rfl) ?_
          refine j_getI 8 8 dX3_countCrossings_74 zc_3 rfl (sub_k hs 0 rfl rfl) (by decide) lk_X3_37 rfl rfl ?_
          refine j_iconst (x := 1) dX3_countCrossings_77 rfl (by decide) ?_
          refine j_iadd dX3_countCrossings_78 ?_
          refine j_putI 8 8 dX3_countCrossings_79 zc_3 rfl (sub_k hs 0 rfl rfl) (by decide) lk_X3_37 rfl rfl rfl rfl (fun h3 _ => ?_)
          exact jb_la_countCrossings_82 hs hq1 hk9 _ _
        · exact jb_la_countCrossings_82 hs hq1 hk9 _ _
      · exact jb_la_countCrossings_82 hs hq1 hk9 _ _
    · exact jb_la_countCrossings_82 hs hq1 hk9 _ _
  · exact j_retV rfl rfl rfl dX3_countCrossings_88 rfl ⟨Nat.le_refl _, Nat.le_refl _⟩ rfl

set_option maxRecDepth 100000 in
set_option maxHeartbeats 4000000 in
theorem ct_la_countCrossings {lay : List LK} {th : Nat} {q1 : Nat} {p2 : Int} (hs : sub lay th blkLanes) (hq1 : sub lay q1 blkDrawing) (h : Hp) : CT mi_la_countCrossings encV (Same lay) lay [vr th, vr q1, vi p2] h (la_countCrossings th q1 p2 h) := by
  refine CT.of (by decide) rfl (Nat.le_of_ble_eq_true rfl) ?_
  show J mi_la_countCrossings encV (Same lay) lay 0 0 0 [(0, vr th), (1, vr q1), (2, vi p2)] [] h _
  unfold la_countCrossings
  refine j_aload_n 0 dX3_countCrossings_0 rfl ?_
  refine j_getR 5 6 5 dX3_countCrossings_1 zc_3 rfl (sub_k hs 0 rfl rfl) (by decide) lk_X3_27 rfl (by decide) (rfl : th + 6 = (th + 6)) ?_
  refine j_iload_n 2 dX3_countCrossings_4 rfl ?_
  refine j_iconst (x := 0) dX3_countCrossings_5 rfl (by decide) ?_
  refine j_iast dX3_countCrossings_6 (sub_k hs 6 rfl rfl) rfl (fun h1 _ => ?_)
  refine j_iconst (x := 0) dX3_countCrossings_7 rfl (by decide) ?_
  refine j_istore_n (lv' := [(3, vi 0), (0, vr th), (1, vr q1), (2, vi p2)]) dX3_countCrossings_8 (by decide) rfl ?_
  refine j_sub [1, 2, 3, 0] rfl ?_
  exact jl_la_countCrossings_9 hs hq1 fuel _ _

set_option maxRecDepth 100000 in
set_option maxHeartbeats 4000000 in
theorem jb_la_drawWitnessLines_70 {lay : List LK} {th : Nat} {q1 : Nat} {k32 : Int → Int → Hp → O Unit} (hs : sub lay th blkLanes) (hq1 : sub lay q1 blkDrawing) (hk32 : ∀ (x2 x3 : Int) (h : Hp), J mi_la_drawWitnessLines encV (Same lay) lay 0 0 32 [(0, vr th), (1, vr q1), (2, vi x2), (3, vi x3)] [] h (k32 x2 x3 h)) (x2 x3 : Int) (h : Hp) : J mi_la_drawWitnessLines encV (Same lay) lay 0 0 70 [(0, vr th), (1, vr q1), (2, vi x2), (3, vi x3)] [] h (la_drawWitnessLines_b70 th q1 k32 x2 x3 h) := by
  unfold la_drawWitnessLines_b70
  refine j_iinc 3 (lv' := [(3, vi (x3 + 1)), (0, vr th), (1, vr q1), (2, vi x2)]) dX3_drawWitnessLines_70 rfl (by decide) rfl ?_
  refine j_goto (tgt := 32) dX3_drawWitnessLines_73 (by decide) ?_
  refine j_sub [1, 2, 3, 0] rfl ?_
  exact hk32 _ _ _

set_option maxRecDepth 100000 in
set_option maxHeartbeats 4000000 in
theorem jl_la_drawWitnessLines_32 {lay : List LK} {th : Nat} {q1 : Nat} {k15 : Int → Hp → O Unit} (hs : sub lay th blkLanes) (hq1 : sub lay q1 blkDrawing) (hk15 : ∀ (x2 : Int) (h : Hp), J mi_la_drawWitnessLines encV (Same lay) lay 0 0 15 [(0, vr th), (1, vr q1), (2, vi x2)] [] h (k15 x2 h)) : ∀ (n : Nat) (x2 x3 : Int) (h : Hp), J mi_la_drawWitnessLines encV (Same lay) lay 0 0 32 [(0, vr th), (1, vr q1), (2, vi x2), (3, vi x3)] [] h (iter2 (la_drawWitnessLines_f32 th q1 k15) n x2 x3 h) := by
  refine j_iter2 (lf := fun x2 x3 => [(0, vr th), (1, vr q1), (2, vi x2), (3, vi x3)]) (fun k32 hk32 x2 x3 h => ?_)
  unfold la_drawWitnessLines_f32
  refine j_iload_n 3 dX3_drawWitnessLines_32 rfl ?_
  refine j_aload_n 0 dX3_drawWitnessLines_33 rfl ?_
  refine j_getI 15 15 dX3_drawWitnessLines_34 zc_3 rfl (sub_k hs 0 rfl rfl) (by decide) lk_X3_58 rfl rfl ?_
  refine j_icmp_ge (tgt := 76) dX3_drawWitnessLines_37 (by decide) ?_ ?_
  · refine j_aload_n 1 dX3_drawWitnessLines_40 rfl ?_
    refine j_iload_n 3 dX3_drawWitnessLines_41 rfl ?_
    refine j_iload_n 2 dX3_drawWitnessLines_42 rfl ?_
    refine j_cV (stk := []) [vi x3, vi x2] q1 dX3_drawWitnessLines_43 mv_dr_isEnd lm_X3_137 (sub_k hq1 0 rfl rfl) zc_1 (ct_dr_isEnd hq1 h) rfl rfl ⟨⟨Nat.le_of_ble_eq_true rfl, Nat.le_of_ble_eq_true rfl⟩, Nat.le_of_ble_eq_true rfl, Nat.le_of_ble_eq_true rfl⟩ (Nat.le_of_ble_eq_true rfl) rfl rfl (fun r1 h1 _ => ?_)
    refine j_if_eq (tgt := 70) dX3_drawWitnessLines_46 (by decide) ?_ ?_
    · exact jb_la_drawWitnessLines_70 hs hq1 hk32 _ _ _
    · refine j_aload_n 0 dX3_drawWitnessLines_49 rfl ?_
      refine j_getR 9 7 6 dX3_drawWitnessLines_50 zc_3 rfl (sub_k hs 0 rfl rfl) (by decide) lk_X3_40 rfl (by decide) (rfl : th + 7 = (th + 7)) ?_
      refine j_iload_n 2 dX3_drawWitnessLines_53 rfl ?_
      refine j_aload_n 0 dX3_drawWitnessLines_54 rfl ?_
      refine j_getR 9 7 6 dX3_drawWitnessLines_55 zc_3 rfl (sub_k hs 0 rfl rfl) (by decide) lk_X3_40 rfl (by decide) (rfl : th + 7 = (th + 7)) ?_
      refine j_iload_n 2 dX3_drawWitnessLines_58 rfl ?_
      refine j_iald dX3_drawWitnessLines_59 (sub_k hs 7 rfl rfl) rfl ?_
      refine j_aload_n 0 dX3_drawWitnessLines_60 rfl ?_
      refine j_getR 3 4 3 dX3_drawWitnessLines_61 zc_3 rfl (sub_k hs 0 rfl rfl) (by decide) lk_X3_21 rfl (by decide) (rfl : th + 4 = (th + 4)) ?_
      refine j_iload_n 3 dX3_drawWitnessLines_64 rfl ?_
      refine j_iald dX3_drawWitnessLines_65 (sub_k hs 4 rfl rfl) rfl ?_
      refine j_mmax dX3_drawWitnessLines_66 lm_X3_115 km_max1 km_2 km_max3 (Nat.le_of_ble_eq_true rfl) (Nat.le_of_ble_eq_true rfl) (Nat.le_of_ble_eq_true rfl) (Nat.le_of_ble_eq_true rfl) ?_
      refine j_iast dX3_drawWitnessLines_69 (sub_k hs 7 rfl rfl) rfl (fun h2 _ => ?_)
      exact jb_la_drawWitnessLines_70 hs hq1 hk32 _ _ _
  · refine j_aload_n 0 dX3_drawWitnessLines_76 rfl ?_
    refine j_aload_n 1 dX3_drawWitnessLines_77 rfl ?_
    refine j_iload_n 2 dX3_drawWitnessLines_78 rfl ?_
    refine j_cV (stk := []) [vr q1, vi x2] th dX3_drawWitnessLines_79 mv_la_countCrossings lm_X3_140 (sub_k hs 0 rfl rfl) zc_3 (ct_la_countCrossings hs hq1 h) rfl rfl ⟨⟨Nat.le_of_ble_eq_true rfl, Nat.le_of_ble_eq_true rfl⟩, Nat.le_of_ble_eq_true rfl, Nat.le_of_ble_eq_true rfl⟩ (Nat.le_of_ble_eq_true rfl) rfl rfl (fun _ h3 _ => ?_)
    refine j_iinc 2 (lv' := [(2, vi (x2 + 1)), (0, vr th), (1, vr q1), (3, vi x3)]) dX3_drawWitnessLines_82 rfl (by decide) rfl ?_
    refine j_goto (tgt := 15) dX3_drawWitnessLines_85 (by decide) ?_
    refine j_sub [1, 2, 0] rfl ?_
    exact hk15 _ _

set_option maxRecDepth 100000 in
set_option maxHeartbeats 4000000 in
theorem jl_la_drawWitnessLines_15 {lay : List LK} {th : Nat} {q1 : Nat}  (hs : sub lay th blkLanes) (hq1 : sub lay q1 blkDrawing)  : ∀ (n : Nat) (x2 : Int) (h : Hp), J mi_la_drawWitnessLines encV (Same lay) lay 0 0 15 [(0, vr th), (1, vr q1), (2, vi x2)] [] h (iter1 (la_drawWitnessLines_f15 th q1) n x2 h) := by
  refine j_iter1 (lf := fun x2 => [(0, vr th), (1, vr q1), (2, vi x2)]) (fun k15 hk15 x2 h => ?_)
  unfold la_drawWitnessLines_f15
  refine j_iload_n 2 dX3_drawWitnessLines_15 rfl ?_
  refine j_aload_n 1 dX3_drawWitnessLines_16 rfl ?_
  refine j_getI 7 7 dX3_drawWitnessLines_17 zc_1 rfl (sub_k hq1 0 rfl rfl) (by decide) lk_X3_134 rfl rfl ?_
  refine j_icmp_ge (tgt := 88) dX3_drawWitnessLines_20 (by decide) ?_ ?_
  · refine j_aload_n 0 dX3_drawWitnessLines_23 rfl ?_
    refine j_getR 9 7 6 dX3_drawWitnessLines_24 zc_3 rfl (sub_k hs 0 rfl rfl) (by decide) lk_X3_40 rfl (by decide) (rfl : th + 7 = (th + 7)) ?_
    refine j_iload_n 2 dX3_drawWitnessLines_27 rfl ?_
    refine j_iconst (x := (-1)) dX3_drawWitnessLines_28 rfl (by decide) ?_
    refine j_iast dX3_drawWitnessLines_29 (sub_k hs 7 rfl rfl) rfl (fun h1 _ => ?_)
    refine j_iconst (x := 0) dX3_drawWitnessLines_30 rfl (by decide) ?_
    refine j_istore_n (lv' := [(3, vi 0), (0, vr th), (1, vr q1), (2, vi x2)]) dX3_drawWitnessLines_31 (by decide) rfl ?_
    refine j_sub [1, 2, 3, 0] rfl ?_
    exact jl_la_drawWitnessLines_32 hs hq1 hk15 fuel _ _ _
  · exact j_retV rfl rfl rfl dX3_drawWitnessLines_88 rfl ⟨Nat.le_refl _, Nat.le_refl _⟩ rfl

set_option maxRecDepth 100000 in
set_option maxHeartbeats 4000000 in
theorem ct_la_drawWitnessLines {lay : List LK} {th : Nat} {q1 : Nat} (hs : sub lay th blkLanes) (hq1 : sub lay q1 blkDrawing) (h : Hp) : CT mi_la_drawWitnessLines encV (Same lay) lay [vr th, vr q1] h (la_drawWitnessLines th q1 h) := by
  refine CT.of (by decide) rfl (Nat.le_of_ble_eq_true rfl) ?_
  show J mi_la_drawWitnessLines encV (Same lay) lay 0 0 0 [(0, vr th), (1, vr q1)] [] h _
  unfold la_drawWitnessLines
  refine j_aload_n 0 dX3_drawWitnessLines_0 rfl ?_
  refine j_iconst (x := 0) dX3_drawWitnessLines_1 rfl (by decide) ?_
  refine j_putI 8 8 dX3_drawWitnessLines_2 zc_3 rfl (sub_k hs 0 rfl rfl) (by decide) lk_X3_37 rfl rfl rfl rfl (fun h1 _ => ?_)
  refine j_aload_n 0 dX3_drawWitnessLines_5 rfl ?_
  refine j_getR 4 5 4 dX3_drawWitnessLines_6 zc_3 rfl (sub_k hs 0 rfl rfl) (by decide) lk_X3_24 rfl (by decide) (rfl : th + 5 = (th + 5)) ?_
  refine j_iconst (x := 0) dX3_drawWitnessLines_9 rfl (by decide) ?_
  refine j_cS (stk := []) [vr (th + 5), vi 0] dX3_drawWitnessLines_10 mv_ja_fill lm_X3_128 (ct_ja_fill (sub_k hs 5 rfl rfl) (by decide) h1) rfl rfl ⟨⟨Nat.le_of_ble_eq_true rfl, Nat.le_of_ble_eq_true rfl⟩, Nat.le_of_ble_eq_true rfl, Nat.le_of_ble_eq_true rfl⟩ (Nat.le_of_ble_eq_true rfl) rfl rfl (fun _ h2 _ => ?_)
  refine j_iconst (x := 0) dX3_drawWitnessLines_13 rfl (by decide) ?_
  refine j_istore_n (lv' := [(2, vi 0), (0, vr th), (1, vr q1)]) dX3_drawWitnessLines_14 (by decide) rfl ?_
  refine j_sub [1, 2, 0] rfl ?_
  exact jl_la_drawWitnessLines_15 hs hq1 fuel _ _

set_option maxRecDepth 100000 in
set_option maxHeartbeats 4000000 in
theorem jl_la_layOut_56 {lay : List LK} {th : Nat} {q1 : Nat} {p2 : Int}  (hs : sub lay th blkLanes) (hq1 : sub lay q1 blkDrawing)  : ∀ (n : Nat) (x3 : Int) (h : Hp), J mi_la_layOut encV (Same lay) lay 0 0 56 [(0, vr th), (1, vr q1), (3, vi x3)] [] h (iter1 (la_layOut_f56 th q1 p2) n x3 h) := by
  refine j_iter1 (lf := fun x3 => [(0, vr th), (1, vr q1), (3, vi x3)]) (fun k56 hk56 x3 h => ?_)
  unfold la_layOut_f56
  refine j_iload_n 2 dX3_layOut_56 rfl ?_
  refine j_aload_n 0 dX3_layOut_57 rfl ?_
  refine j_getI 6 6 dX3_layOut_58 zc_3 rfl (sub_k hs 0 rfl rfl) (by decide) lk_X3_30 rfl rfl ?_
  refine j_icmp_ge (tgt := 75) dX3_layOut_61 (by decide) ?_ ?_
  · refine j_aload_n 0 dX3_layOut_64 rfl ?_
    refine j_iload_n 2 dX3_layOut_65 rfl ?_
    refine j_cV (stk := []) [vi x3] th dX3_layOut_66 mv_la_place lm_X3_72 (sub_k hs 0 rfl rfl) zc_3 (ct_la_place hs h) rfl rfl ⟨⟨Nat.le_of_ble_eq_true rfl, Nat.le_of_ble_eq_true rfl⟩, Nat.le_of_ble_eq_true rfl, Nat.le_of_ble_eq_true rfl⟩ (Nat.le_of_ble_eq_true rfl) rfl rfl (fun _ h1 _ => ?_)
    refine j_iinc 2 (lv' := [(3, vi (x3 + 1)), (0, vr th), (1, vr q1)]) dX3_layOut_69 rfl (by decide) rfl ?_
    refine j_goto (tgt := 56) dX3_layOut_72 (by decide) ?_
    refine j_sub [1, 2, 0] rfl ?_
    exact hk56 _ _
  · refine j_aload_n 0 dX3_layOut_75 rfl ?_
    refine j_aload_n 1 dX3_layOut_76 rfl ?_
    refine j_cV (stk := []) [vr q1] th dX3_layOut_77 mv_la_drawWitnessLines lm_X3_76 (sub_k hs 0 rfl rfl) zc_3 (ct_la_drawWitnessLines hs hq1 h) rfl rfl ⟨⟨Nat.le_of_ble_eq_true rfl, Nat.le_of_ble_eq_true rfl⟩, Nat.le_of_ble_eq_true rfl, Nat.le_of_ble_eq_true rfl⟩ (Nat.le_of_ble_eq_true rfl) rfl rfl (fun _ h2 _ => ?_)
    exact j_retV rfl rfl rfl dX3_layOut_80 rfl ⟨Nat.le_refl _, Nat.le_refl _⟩ rfl

set_option maxRecDepth 100000 in
set_option maxHeartbeats 4000000 in
theorem jl_la_layOut_20 {lay : List LK} {th : Nat} {q1 : Nat} {p2 : Int}  (hs : sub lay th blkLanes) (hq1 : sub lay q1 blkDrawing)  : ∀ (n : Nat) (x3 : Int) (h : Hp), J mi_la_layOut encV (Same lay) lay 0 0 20 [(0, vr th), (1, vr q1), (2, vi p2), (3, vi x3)] [] h (iter1 (la_layOut_f20 th q1 p2) n x3 h) := by
  refine j_iter1 (lf := fun x3 => [(0, vr th), (1, vr q1), (2, vi p2), (3, vi x3)]) (fun k20 hk20 x3 h => ?_)
  unfold la_layOut_f20
  refine j_iload_n 3 dX3_layOut_20 rfl ?_
  refine j_aload_n 0 dX3_layOut_21 rfl ?_
  refine j_getI 15 15 dX3_layOut_22 zc_3 rfl (sub_k hs 0 rfl rfl) (by decide) lk_X3_58 rfl rfl ?_
  refine j_icmp_ge (tgt := 54) dX3_layOut_25 (by decide) ?_ ?_
  · refine j_aload_n 0 dX3_layOut_28 rfl ?_
    refine j_aload_n 1 dX3_layOut_29 rfl ?_
    refine j_iload_n 3 dX3_layOut_30 rfl ?_
    refine j_iload_n 2 dX3_layOut_31 rfl ?_
    refine j_cV (stk := []) [vr q1, vi x3, vi p2] th dX3_layOut_32 mv_la_measure lm_X3_64 (sub_k hs 0 rfl rfl) zc_3 (ct_la_measure hs hq1 h) rfl rfl ⟨⟨Nat.le_of_ble_eq_true rfl, Nat.le_of_ble_eq_true rfl⟩, Nat.le_of_ble_eq_true rfl, Nat.le_of_ble_eq_true rfl⟩ (Nat.le_of_ble_eq_true rfl) rfl rfl (fun _ h1 _ => ?_)
    refine j_aload_n 0 dX3_layOut_35 rfl ?_
    refine j_getR 3 4 3 dX3_layOut_36 zc_3 rfl (sub_k hs 0 rfl rfl) (by decide) lk_X3_21 rfl (by decide) (rfl : th + 4 = (th + 4)) ?_
    refine j_iload_n 3 dX3_layOut_39 rfl ?_
    refine j_iconst (x := (-1)) dX3_layOut_40 rfl (by decide) ?_
    refine j_iast dX3_layOut_41 (sub_k hs 4 rfl rfl) rfl (fun h2 _ => ?_)
    refine j_aload_n 0 dX3_layOut_42 rfl ?_
    refine j_aload_n 1 dX3_layOut_43 rfl ?_
    refine j_iload_n 3 dX3_layOut_44 rfl ?_
    refine j_cV (stk := []) [vr q1, vi x3] th dX3_layOut_45 mv_la_joinUnit lm_X3_68 (sub_k hs 0 rfl rfl) zc_3 (ct_la_joinUnit hs hq1 h2) rfl rfl ⟨⟨Nat.le_of_ble_eq_true rfl, Nat.le_of_ble_eq_true rfl⟩, Nat.le_of_ble_eq_true rfl, Nat.le_of_ble_eq_true rfl⟩ (Nat.le_of_ble_eq_true rfl) rfl rfl (fun _ h3 _ => ?_)
    refine j_iinc 3 (lv' := [(3, vi (x3 + 1)), (0, vr th), (1, vr q1), (2, vi p2)]) dX3_layOut_48 rfl (by decide) rfl ?_
    refine j_goto (tgt := 20) dX3_layOut_51 (by decide) ?_
    refine j_sub [1, 2, 3, 0] rfl ?_
    exact hk20 _ _
  · refine j_iconst (x := 0) dX3_layOut_54 rfl (by decide) ?_
    refine j_istore_n (lv' := [(3, vi 0), (0, vr th), (1, vr q1), (2, vi p2)]) dX3_layOut_55 (by decide) rfl ?_
    refine j_sub [1, 2, 0] rfl ?_
    exact jl_la_layOut_56 hs hq1 fuel _ _

set_option maxRecDepth 100000 in
set_option maxHeartbeats 4000000 in
theorem ct_la_layOut {lay : List LK} {th : Nat} {q1 : Nat} {p2 : Int} (hs : sub lay th blkLanes) (hq1 : sub lay q1 blkDrawing) (h : Hp) : CT mi_la_layOut encV (Same lay) lay [vr th, vr q1, vi p2] h (la_layOut th q1 p2 h) := by
  refine CT.of (by decide) rfl (Nat.le_of_ble_eq_true rfl) ?_
  show J mi_la_layOut encV (Same lay) lay 0 0 0 [(0, vr th), (1, vr q1), (2, vi p2)] [] h _
  unfold la_layOut
  refine j_aload_n 0 dX3_layOut_0 rfl ?_
  refine j_aload_n 1 dX3_layOut_1 rfl ?_
  refine j_getI 8 8 dX3_layOut_2 zc_1 rfl (sub_k hq1 0 rfl rfl) (by decide) lk_X3_61 rfl rfl ?_
  refine j_putI 15 15 dX3_layOut_5 zc_3 rfl (sub_k hs 0 rfl rfl) (by decide) lk_X3_58 rfl rfl rfl rfl (fun h1 _ => ?_)
  refine j_aload_n 0 dX3_layOut_8 rfl ?_
  refine j_iconst (x := 0) dX3_layOut_9 rfl (by decide) ?_
  refine j_putI 6 6 dX3_layOut_10 zc_3 rfl (sub_k hs 0 rfl rfl) (by decide) lk_X3_30 rfl rfl rfl rfl (fun h2 _ => ?_)
  refine j_aload_n 0 dX3_layOut_13 rfl ?_
  refine j_iconst (x := 0) dX3_layOut_14 rfl (by decide) ?_
  refine j_putI 7 7 dX3_layOut_15 zc_3 rfl (sub_k hs 0 rfl rfl) (by decide) lk_X3_34 rfl rfl rfl rfl (fun h3 _ => ?_)
  refine j_iconst (x := 0) dX3_layOut_18 rfl (by decide) ?_
  refine j_istore_n (lv' := [(3, vi 0), (0, vr th), (1, vr q1), (2, vi p2)]) dX3_layOut_19 (by decide) rfl ?_
  refine j_sub [1, 2, 3, 0] rfl ?_
  exact jl_la_layOut_20 hs hq1 fuel _ _

set_option maxRecDepth 100000 in
set_option maxHeartbeats 4000000 in
theorem jb_la_topOf_22 {lay : List LK} {th : Nat} {p1 : Int}  (hs : sub lay th blkLanes)  (s0 : Int) (h : Hp) : J mi_la_topOf encI (Same lay) lay 0 0 22 [] [vi s0] h (la_topOf_b22 th p1 s0 h) := by
  unfold la_topOf_b22
  exact j_retI (h0 := h) (r := 0) rfl rfl rfl dX3_topOf_22 rfl ⟨Nat.le_refl _, Nat.le_refl _⟩ rfl

set_option maxRecDepth 100000 in
set_option maxHeartbeats 4000000 in
theorem ct_la_topOf {lay : List LK} {th : Nat} {p1 : Int} (hs : sub lay th blkLanes) (h : Hp) : CT mi_la_topOf encI (Same lay) lay [vr th, vi p1] h (la_topOf th p1 h) := by
  refine CT.of (by decide) rfl (Nat.le_of_ble_eq_true rfl) ?_
  show J mi_la_topOf encI (Same lay) lay 0 0 0 [(0, vr th), (1, vi p1)] [] h _
  unfold la_topOf
  refine j_aload_n 0 dX3_topOf_0 rfl ?_
  refine j_getR 9 7 6 dX3_topOf_1 zc_3 rfl (sub_k hs 0 rfl rfl) (by decide) lk_X3_40 rfl (by decide) (rfl : th + 7 = (th + 7)) ?_
  refine j_iload_n 1 dX3_topOf_4 rfl ?_
  refine j_iald dX3_topOf_5 (sub_k hs 7 rfl rfl) rfl ?_
  refine j_iconst (x := (-1)) dX3_topOf_6 rfl (by decide) ?_
  refine j_icmp_ne (tgt := 16) dX3_topOf_7 (by decide) ?_ ?_
  · refine j_sipush (x := (-999)) dX3_topOf_10 (by decide) (by decide) ?_
    refine j_goto (tgt := 22) dX3_topOf_13 (by decide) ?_
    refine j_sub [] rfl ?_
    exact jb_la_topOf_22 hs _ _
  · refine j_aload_n 0 dX3_topOf_16 rfl ?_
    refine j_getR 9 7 6 dX3_topOf_17 zc_3 rfl (sub_k hs 0 rfl rfl) (by decide) lk_X3_40 rfl (by decide) (rfl : th + 7 = (th + 7)) ?_
    refine j_iload_n 1 dX3_topOf_20 rfl ?_
    refine j_iald dX3_topOf_21 (sub_k hs 7 rfl rfl) rfl ?_
    refine j_sub [] rfl ?_
    exact jb_la_topOf_22 hs _ _


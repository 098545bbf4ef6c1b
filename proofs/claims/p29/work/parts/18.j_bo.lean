set_option maxRecDepth 100000 in
set_option maxHeartbeats 4000000 in
theorem jl_bo_listSteps_10 {lay : List LK} {th : Nat} {q1 : Nat}  (hs : sub lay th blkBounds) (hq1 : sub lay q1 blkDrawing)  : ∀ (n : Nat) (x2 : Int) (h : Hp), J mi_bo_listSteps encV (Same lay) lay 0 0 10 [(0, vr th), (1, vr q1), (2, vi x2)] [] h (iter1 (bo_listSteps_f10 th q1) n x2 h) := by
  refine j_iter1 (lf := fun x2 => [(0, vr th), (1, vr q1), (2, vi x2)]) (fun k10 hk10 x2 h => ?_)
  unfold bo_listSteps_f10
  refine j_iload_n 2 dX0_listSteps_10 rfl ?_
  refine j_aload_n 0 dX0_listSteps_11 rfl ?_
  refine j_getI 5 5 dX0_listSteps_12 zc_0 rfl (sub_k hs 0 rfl rfl) (by decide) lk_X0_31 rfl rfl ?_
  refine j_icmp_ge (tgt := 124) dX0_listSteps_15 (by decide) ?_ ?_
  · refine j_aload_n 1 dX0_listSteps_18 rfl ?_
    refine j_iload_n 2 dX0_listSteps_19 rfl ?_
    refine j_cV (stk := []) [vi x2] q1 dX0_listSteps_20 mv_dr_valueOf lm_X0_87 (sub_k hq1 0 rfl rfl) zc_1 (ct_dr_valueOf hq1 h) rfl rfl ⟨⟨Nat.le_of_ble_eq_true rfl, Nat.le_of_ble_eq_true rfl⟩, Nat.le_of_ble_eq_true rfl, Nat.le_of_ble_eq_true rfl⟩ (Nat.le_of_ble_eq_true rfl) rfl rfl (fun r1 h1 _ => ?_)
    refine j_istore_n (lv' := [(3, vi r1), (0, vr th), (1, vr q1), (2, vi x2)]) dX0_listSteps_23 (by decide) rfl ?_
    refine j_aload_n 1 dX0_listSteps_24 rfl ?_
    refine j_getR 8 18 5 dX0_listSteps_25 zc_0 rfl (sub_k hs 0 rfl rfl) (by decide) lk_X0_40 rfl (by decide) (rfl : th + 18 = (th + 18)) ?_
    refine j_iconst (x := 2) dX0_listSteps_28 rfl (by decide) ?_
    refine j_iload_n 3 dX0_listSteps_29 rfl ?_
    refine j_imul dX0_listSteps_30 ?_
    refine j_aload_n 2 dX0_listSteps_31 rfl ?_
    refine j_getR 1 2 1 dX0_listSteps_32 zc_1 rfl (sub_k hq1 0 rfl rfl) (by decide) lk_X0_81 rfl (by decide) (rfl : q1 + 2 = (q1 + 2)) ?_
    refine j_iload_n 3 dX0_listSteps_35 rfl ?_
    refine j_iald dX0_listSteps_36 (sub_k hq1 2 rfl rfl) rfl ?_
    refine j_iast dX0_listSteps_37 (sub_k hs 18 rfl rfl) rfl (fun h2 _ => ?_)
    refine j_aload_n 1 dX0_listSteps_38 rfl ?_
    refine j_getR 9 19 6 dX0_listSteps_39 zc_0 rfl (sub_k hs 0 rfl rfl) (by decide) lk_X0_43 rfl (by decide) (rfl : th + 19 = (th + 19)) ?_
    refine j_iconst (x := 2) dX0_listSteps_42 rfl (by decide) ?_
    refine j_iload_n 3 dX0_listSteps_43 rfl ?_
    refine j_imul dX0_listSteps_44 ?_
    refine j_aload_n 2 dX0_listSteps_45 rfl ?_
    refine j_getR 2 3 2 dX0_listSteps_46 zc_1 rfl (sub_k hq1 0 rfl rfl) (by decide) lk_X0_84 rfl (by decide) (rfl : q1 + 3 = (q1 + 3)) ?_
    refine j_iload_n 3 dX0_listSteps_49 rfl ?_
    refine j_iald dX0_listSteps_50 (sub_k hq1 3 rfl rfl) rfl ?_
    refine j_iast dX0_listSteps_51 (sub_k hs 19 rfl rfl) rfl (fun h3 _ => ?_)
    refine j_aload_n 1 dX0_listSteps_52 rfl ?_
    refine j_getR 10 20 7 dX0_listSteps_53 zc_0 rfl (sub_k hs 0 rfl rfl) (by decide) lk_X0_46 rfl (by decide) (rfl : th + 20 = (th + 20)) ?_
    refine j_iconst (x := 2) dX0_listSteps_56 rfl (by decide) ?_
    refine j_iload_n 3 dX0_listSteps_57 rfl ?_
    refine j_imul dX0_listSteps_58 ?_
    refine j_iload_n 0 dX0_listSteps_59 rfl ?_
    refine j_aload_n 2 dX0_listSteps_60 rfl ?_
    refine j_getR 4 5 4 dX0_listSteps_61 zc_1 rfl (sub_k hq1 0 rfl rfl) (by decide) lk_X0_98 rfl (by decide) (rfl : q1 + 5 = (q1 + 5)) ?_
    refine j_iload_n 3 dX0_listSteps_64 rfl ?_
    refine j_iald dX0_listSteps_65 (sub_k hq1 5 rfl rfl) rfl ?_
    refine j_iadd dX0_listSteps_66 ?_
    refine j_iast dX0_listSteps_67 (sub_k hs 20 rfl rfl) rfl (fun h4 _ => ?_)
    refine j_aload_n 1 dX0_listSteps_68 rfl ?_
    refine j_getR 8 18 5 dX0_listSteps_69 zc_0 rfl (sub_k hs 0 rfl rfl) (by decide) lk_X0_40 rfl (by decide) (rfl : th + 18 = (th + 18)) ?_
    refine j_iconst (x := 2) dX0_listSteps_72 rfl (by decide) ?_
    refine j_iload_n 3 dX0_listSteps_73 rfl ?_
    refine j_imul dX0_listSteps_74 ?_
    refine j_iconst (x := 1) dX0_listSteps_75 rfl (by decide) ?_
    refine j_iadd dX0_listSteps_76 ?_
    refine j_aload_n 2 dX0_listSteps_77 rfl ?_
    refine j_getR 2 3 2 dX0_listSteps_78 zc_1 rfl (sub_k hq1 0 rfl rfl) (by decide) lk_X0_84 rfl (by decide) (rfl : q1 + 3 = (q1 + 3)) ?_
    refine j_iload_n 3 dX0_listSteps_81 rfl ?_
    refine j_iald dX0_listSteps_82 (sub_k hq1 3 rfl rfl) rfl ?_
    refine j_iast dX0_listSteps_83 (sub_k hs 18 rfl rfl) rfl (fun h5 _ => ?_)
    refine j_aload_n 1 dX0_listSteps_84 rfl ?_
    refine j_getR 9 19 6 dX0_listSteps_85 zc_0 rfl (sub_k hs 0 rfl rfl) (by decide) lk_X0_43 rfl (by decide) (rfl : th + 19 = (th + 19)) ?_
    refine j_iconst (x := 2) dX0_listSteps_88 rfl (by decide) ?_
    refine j_iload_n 3 dX0_listSteps_89 rfl ?_
    refine j_imul dX0_listSteps_90 ?_
    refine j_iconst (x := 1) dX0_listSteps_91 rfl (by decide) ?_
    refine j_iadd dX0_listSteps_92 ?_
    refine j_aload_n 2 dX0_listSteps_93 rfl ?_
    refine j_getR 1 2 1 dX0_listSteps_94 zc_1 rfl (sub_k hq1 0 rfl rfl) (by decide) lk_X0_81 rfl (by decide) (rfl : q1 + 2 = (q1 + 2)) ?_
    refine j_iload_n 3 dX0_listSteps_97 rfl ?_
    refine j_iald dX0_listSteps_98 (sub_k hq1 2 rfl rfl) rfl ?_
    refine j_iast dX0_listSteps_99 (sub_k hs 19 rfl rfl) rfl (fun h6 _ => ?_)
    refine j_aload_n 1 dX0_listSteps_100 rfl ?_
    refine j_getR 10 20 7 dX0_listSteps_101 zc_0 rfl (sub_k hs 0 rfl rfl) (by decide) lk_X0_46 rfl (by decide) (rfl : th + 20 = (th + 20)) ?_
    refine j_iconst (x := 2) dX0_listSteps_104 rfl (by decide) ?_
    refine j_iload_n 3 dX0_listSteps_105 rfl ?_
    refine j_imul dX0_listSteps_106 ?_
    refine j_iconst (x := 1) dX0_listSteps_107 rfl (by decide) ?_
    refine j_iadd dX0_listSteps_108 ?_
    refine j_aload_n 2 dX0_listSteps_109 rfl ?_
    refine j_getR 3 4 3 dX0_listSteps_110 zc_1 rfl (sub_k hq1 0 rfl rfl) (by decide) lk_X0_101 rfl (by decide) (rfl : q1 + 4 = (q1 + 4)) ?_
    refine j_iload_n 3 dX0_listSteps_113 rfl ?_
    refine j_iald dX0_listSteps_114 (sub_k hq1 4 rfl rfl) rfl ?_
    refine j_iload_n 0 dX0_listSteps_115 rfl ?_
    refine j_isub dX0_listSteps_116 ?_
    refine j_iast dX0_listSteps_117 (sub_k hs 20 rfl rfl) rfl (fun h7 _ => ?_)
    refine j_iinc 3 (lv' := [(2, vi (x2 + 1)), (3, vi r1), (0, vr th), (1, vr q1)]) dX0_listSteps_118 rfl (by decide) rfl ?_
    refine j_goto (tgt := 10) dX0_listSteps_121 (by decide) ?_
    refine j_sub [2, 3, 0] rfl ?_
    exact hk10 _ _
  · exact j_retV rfl rfl rfl dX0_listSteps_124 rfl ⟨Nat.le_refl _, Nat.le_refl _⟩ rfl

set_option maxRecDepth 100000 in
set_option maxHeartbeats 4000000 in
theorem ct_bo_listSteps {lay : List LK} {th : Nat} {q1 : Nat} (hs : sub lay th blkBounds) (hq1 : sub lay q1 blkDrawing) (h : Hp) : CT mi_bo_listSteps encV (Same lay) lay [vr th, vr q1] h (bo_listSteps th q1 h) := by
  refine CT.of (by decide) rfl (Nat.le_of_ble_eq_true rfl) ?_
  show J mi_bo_listSteps encV (Same lay) lay 0 0 0 [(0, vr th), (1, vr q1)] [] h _
  unfold bo_listSteps
  refine j_aload_n 0 dX0_listSteps_0 rfl ?_
  refine j_aload_n 1 dX0_listSteps_1 rfl ?_
  refine j_getI 8 8 dX0_listSteps_2 zc_1 rfl (sub_k hq1 0 rfl rfl) (by decide) lk_X0_97 rfl rfl ?_
  refine j_putI 5 5 dX0_listSteps_5 zc_0 rfl (sub_k hs 0 rfl rfl) (by decide) lk_X0_31 rfl rfl rfl rfl (fun h1 _ => ?_)
  refine j_iconst (x := 0) dX0_listSteps_8 rfl (by decide) ?_
  refine j_istore_n (lv' := [(2, vi 0), (0, vr th), (1, vr q1)]) dX0_listSteps_9 (by decide) rfl ?_
  refine j_sub [1, 2, 0] rfl ?_
  exact jl_bo_listSteps_10 hs hq1 fuel _ _

set_option maxRecDepth 100000 in
set_option maxHeartbeats 4000000 in
theorem jl_bo_removeNone_2 {lay : List LK} {th : Nat}  (hs : sub lay th blkBounds)  : ∀ (n : Nat) (x1 : Int) (h : Hp), J mi_bo_removeNone encV (Same lay) lay 0 0 2 [(0, vr th), (1, vi x1)] [] h (iter1 (bo_removeNone_f2 th) n x1 h) := by
  refine j_iter1 (lf := fun x1 => [(0, vr th), (1, vi x1)]) (fun k2 hk2 x1 h => ?_)
  unfold bo_removeNone_f2
  refine j_iload_n 1 dX0_removeNone_2 rfl ?_
  refine j_bipush (x := 16) dX0_removeNone_3 (by decide) (by decide) ?_
  refine j_icmp_ge (tgt := 21) dX0_removeNone_5 (by decide) ?_ ?_
  · refine j_aload_n 0 dX0_removeNone_8 rfl ?_
    refine j_getR 6 16 3 dX0_removeNone_9 zc_0 rfl (sub_k hs 0 rfl rfl) (by decide) lk_X0_34 rfl (by decide) (rfl : th + 16 = (th + 16)) ?_
    refine j_iload_n 1 dX0_removeNone_12 rfl ?_
    refine j_iconst (x := 0) dX0_removeNone_13 rfl (by decide) ?_
    refine j_zast dX0_removeNone_14 (sub_k hs 16 rfl rfl) rfl (fun h1 _ => ?_)
    refine j_iinc 1 (lv' := [(1, vi (x1 + 1)), (0, vr th)]) dX0_removeNone_15 rfl (by decide) rfl ?_
    refine j_goto (tgt := 2) dX0_removeNone_18 (by decide) ?_
    refine j_sub [1, 0] rfl ?_
    exact hk2 _ _
  · exact j_retV rfl rfl rfl dX0_removeNone_21 rfl ⟨Nat.le_refl _, Nat.le_refl _⟩ rfl

set_option maxRecDepth 100000 in
set_option maxHeartbeats 4000000 in
theorem ct_bo_removeNone {lay : List LK} {th : Nat} (hs : sub lay th blkBounds) (h : Hp) : CT mi_bo_removeNone encV (Same lay) lay [vr th] h (bo_removeNone th h) := by
  refine CT.of (by decide) rfl (Nat.le_of_ble_eq_true rfl) ?_
  show J mi_bo_removeNone encV (Same lay) lay 0 0 0 [(0, vr th)] [] h _
  unfold bo_removeNone
  refine j_iconst (x := 0) dX0_removeNone_0 rfl (by decide) ?_
  refine j_istore_n (lv' := [(1, vi 0), (0, vr th)]) dX0_removeNone_1 (by decide) rfl ?_
  refine j_sub [1, 0] rfl ?_
  exact jl_bo_removeNone_2 hs fuel _ _

set_option maxRecDepth 100000 in
set_option maxHeartbeats 4000000 in
theorem jb_bo_findWays_123 {lay : List LK} {th : Nat} {p1 : Int} {q2 : Nat} {n2 : Nat}  (hs : sub lay th blkBounds) (hq2 : lay[q2]? = some (0, n2, 0, 0)) (hn2 : inR (n2 : Int))  (h : Hp) : J mi_bo_findWays encV (Same lay) lay 0 0 123 [] [] h (bo_findWays_b123 th p1 q2 n2 h) := by
  unfold bo_findWays_b123
  exact j_retV rfl rfl rfl dX0_findWays_123 rfl ⟨Nat.le_refl _, Nat.le_refl _⟩ rfl

set_option maxRecDepth 100000 in
set_option maxHeartbeats 4000000 in
theorem jb_bo_findWays_111 {lay : List LK} {th : Nat} {p1 : Int} {q2 : Nat} {n2 : Nat} {k31 : Int → Int → Int → Hp → O Unit} (hs : sub lay th blkBounds) (hq2 : lay[q2]? = some (0, n2, 0, 0)) (hn2 : inR (n2 : Int)) (hk31 : ∀ (x3 x4 x5 : Int) (h : Hp), J mi_bo_findWays encV (Same lay) lay 0 0 31 [(0, vr th), (2, vr q2), (3, vi x3), (4, vi x4), (5, vi x5)] [] h (k31 x3 x4 x5 h)) (x3 x4 x5 : Int) (h : Hp) : J mi_bo_findWays encV (Same lay) lay 0 0 111 [(0, vr th), (2, vr q2), (3, vi x3), (4, vi x4), (5, vi x5)] [] h (bo_findWays_b111 th p1 q2 n2 k31 x3 x4 x5 h) := by
  unfold bo_findWays_b111
  refine j_iinc 4 (lv' := [(5, vi (x5 + 1)), (0, vr th), (2, vr q2), (3, vi x3), (4, vi x4)]) dX0_findWays_111 rfl (by decide) rfl ?_
  refine j_goto (tgt := 31) dX0_findWays_114 (by decide) ?_
  refine j_sub [1, 2, 3, 4, 0] rfl ?_
  exact hk31 _ _ _ _

set_option maxRecDepth 100000 in
set_option maxHeartbeats 4000000 in
theorem jl_bo_findWays_31 {lay : List LK} {th : Nat} {p1 : Int} {q2 : Nat} {n2 : Nat} {k15 : Int → Int → Hp → O Unit} (hs : sub lay th blkBounds) (hq2 : lay[q2]? = some (0, n2, 0, 0)) (hn2 : inR (n2 : Int)) (hk15 : ∀ (x3 x4 : Int) (h : Hp), J mi_bo_findWays encV (Same lay) lay 0 0 15 [(0, vr th), (2, vr q2), (3, vi x3), (4, vi x4)] [] h (k15 x3 x4 h)) : ∀ (n : Nat) (x3 x4 x5 : Int) (h : Hp), J mi_bo_findWays encV (Same lay) lay 0 0 31 [(0, vr th), (2, vr q2), (3, vi x3), (4, vi x4), (5, vi x5)] [] h (iter3 (bo_findWays_f31 th p1 q2 n2 k15) n x3 x4 x5 h) := by
  refine j_iter3 (lf := fun x3 x4 x5 => [(0, vr th), (2, vr q2), (3, vi x3), (4, vi x4), (5, vi x5)]) (fun k31 hk31 x3 x4 x5 h => ?_)
  unfold bo_findWays_f31
  refine j_iload 4 dX0_findWays_31 rfl ?_
  refine j_iconst (x := 2) dX0_findWays_33 rfl (by decide) ?_
  refine j_aload_n 0 dX0_findWays_34 rfl ?_
  refine j_getI 5 5 dX0_findWays_35 zc_0 rfl (sub_k hs 0 rfl rfl) (by decide) lk_X0_31 rfl rfl ?_
  refine j_imul dX0_findWays_38 ?_
  refine j_icmp_ge (tgt := 117) dX0_findWays_39 (by decide) ?_ ?_
  · refine j_aload_n 1 dX0_findWays_42 rfl ?_
    refine j_aload_n 0 dX0_findWays_43 rfl ?_
    refine j_getR 8 18 5 dX0_findWays_44 zc_0 rfl (sub_k hs 0 rfl rfl) (by decide) lk_X0_40 rfl (by decide) (rfl : th + 18 = (th + 18)) ?_
    refine j_iload 4 dX0_findWays_47 rfl ?_
    refine j_iald dX0_findWays_49 (sub_k hs 18 rfl rfl) rfl ?_
    refine j_iald dX0_findWays_50 hq2 rfl ?_
    refine j_istore (lv' := [(6, vi (h q2 (h (th + 18) x5))), (0, vr th), (2, vr q2), (3, vi x3), (4, vi x4), (5, vi x5)]) dX0_findWays_51 (by decide) rfl ?_
    refine j_iload 0 dX0_findWays_53 rfl ?_
    refine j_aload_n 1 dX0_findWays_55 rfl ?_
    refine j_getR 10 20 7 dX0_findWays_56 zc_0 rfl (sub_k hs 0 rfl rfl) (by decide) lk_X0_46 rfl (by decide) (rfl : th + 20 = (th + 20)) ?_
    refine j_iload 5 dX0_findWays_59 rfl ?_
    refine j_iald dX0_findWays_61 (sub_k hs 20 rfl rfl) rfl ?_
    refine j_iadd dX0_findWays_62 ?_
    refine j_istore (lv' := [(7, vi ((h q2 (h (th + 18) x5)) + (h (th + 20) x5))), (6, vi (h q2 (h (th + 18) x5))), (0, vr th), (2, vr q2), (3, vi x3), (4, vi x4), (5, vi x5)]) dX0_findWays_63 (by decide) rfl ?_
    refine j_aload_n 2 dX0_findWays_65 rfl ?_
    refine j_getR 6 16 3 dX0_findWays_66 zc_0 rfl (sub_k hs 0 rfl rfl) (by decide) lk_X0_34 rfl (by decide) (rfl : th + 16 = (th + 16)) ?_
    refine j_iload 6 dX0_findWays_69 rfl ?_
    refine j_iconst (x := 2) dX0_findWays_71 rfl (by decide) ?_
    refine j_idiv dX0_findWays_72 ?_
    refine j_zald dX0_findWays_73 (sub_k hs 16 rfl rfl) rfl ?_
    refine j_if_ne (tgt := 111) dX0_findWays_74 (by decide) ?_ ?_
    · refine j_iload 1 dX0_findWays_77 rfl ?_
      refine j_ldc (x := 1000000) dX0_findWays_79 kc_X0_73 (by decide) ?_
      refine j_icmp_eq (tgt := 111) dX0_findWays_81 (by decide) ?_ ?_
      · refine j_sub [2, 3, 4, 5, 6] rfl ?_
        exact jb_bo_findWays_111 hs hq2 hn2 hk31 _ _ _ _
      · refine j_iload 0 dX0_findWays_84 rfl ?_
        refine j_aload_n 3 dX0_findWays_86 rfl ?_
        refine j_aload_n 2 dX0_findWays_87 rfl ?_
        refine j_getR 9 19 6 dX0_findWays_88 zc_0 rfl (sub_k hs 0 rfl rfl) (by decide) lk_X0_43 rfl (by decide) (rfl : th + 19 = (th + 19)) ?_
        refine j_iload 6 dX0_findWays_91 rfl ?_
        refine j_iald dX0_findWays_93 (sub_k hs 19 rfl rfl) rfl ?_
        refine j_iald dX0_findWays_94 hq2 rfl ?_
        refine j_icmp_ge (tgt := 111) dX0_findWays_95 (by decide) ?_ ?_
        · refine j_aload_n 3 dX0_findWays_98 rfl ?_
          refine j_aload_n 2 dX0_findWays_99 rfl ?_
          refine j_getR 9 19 6 dX0_findWays_100 zc_0 rfl (sub_k hs 0 rfl rfl) (by decide) lk_X0_43 rfl (by decide) (rfl : th + 19 = (th + 19)) ?_
          refine j_iload 6 dX0_findWays_103 rfl ?_
          refine j_iald dX0_findWays_105 (sub_k hs 19 rfl rfl) rfl ?_
          refine j_iload 0 dX0_findWays_106 rfl ?_
          refine j_iast dX0_findWays_108 hq2 rfl (fun h1 _ => ?_)
          refine j_iconst (x := 1) dX0_findWays_109 rfl (by decide) ?_
          refine j_istore_n (lv' := [(3, vi 1), (7, vi ((h q2 (h (th + 18) x5)) + (h (th + 20) x5))), (6, vi (h q2 (h (th + 18) x5))), (0, vr th), (2, vr q2), (4, vi x4), (5, vi x5)]) dX0_findWays_110 (by decide) rfl ?_
          refine j_sub [3, 4, 0, 5, 6] rfl ?_
          exact jb_bo_findWays_111 hs hq2 hn2 hk31 _ _ _ _
        · refine j_sub [2, 3, 4, 5, 6] rfl ?_
          exact jb_bo_findWays_111 hs hq2 hn2 hk31 _ _ _ _
    · refine j_sub [2, 3, 4, 5, 6] rfl ?_
      exact jb_bo_findWays_111 hs hq2 hn2 hk31 _ _ _ _
  · refine j_iinc 3 (lv' := [(4, vi (x4 + 1)), (0, vr th), (2, vr q2), (3, vi x3), (5, vi x5)]) dX0_findWays_117 rfl (by decide) rfl ?_
    refine j_goto (tgt := 15) dX0_findWays_120 (by decide) ?_
    refine j_sub [1, 2, 3, 0] rfl ?_
    exact hk15 _ _ _

set_option maxRecDepth 100000 in
set_option maxHeartbeats 4000000 in
theorem jl_bo_findWays_15 {lay : List LK} {th : Nat} {p1 : Int} {q2 : Nat} {n2 : Nat}  (hs : sub lay th blkBounds) (hq2 : lay[q2]? = some (0, n2, 0, 0)) (hn2 : inR (n2 : Int))  : ∀ (n : Nat) (x3 x4 : Int) (h : Hp), J mi_bo_findWays encV (Same lay) lay 0 0 15 [(0, vr th), (2, vr q2), (3, vi x3), (4, vi x4)] [] h (iter2 (bo_findWays_f15 th p1 q2 n2) n x3 x4 h) := by
  refine j_iter2 (lf := fun x3 x4 => [(0, vr th), (2, vr q2), (3, vi x3), (4, vi x4)]) (fun k15 hk15 x3 x4 h => ?_)
  unfold bo_findWays_f15
  refine j_iload_n 2 dX0_findWays_15 rfl ?_
  refine j_if_eq (tgt := 123) dX0_findWays_16 (by decide) ?_ ?_
  · refine j_sub [] rfl ?_
    exact jb_bo_findWays_123 hs hq2 hn2 _
  · refine j_iload 3 dX0_findWays_19 rfl ?_
    refine j_bipush (x := 12) dX0_findWays_21 (by decide) (by decide) ?_
    refine j_icmp_ge (tgt := 123) dX0_findWays_23 (by decide) ?_ ?_
    · refine j_iconst (x := 0) dX0_findWays_26 rfl (by decide) ?_
      refine j_istore_n (lv' := [(3, vi 0), (0, vr th), (2, vr q2), (4, vi x4)]) dX0_findWays_27 (by decide) rfl ?_
      refine j_iconst (x := 0) dX0_findWays_28 rfl (by decide) ?_
      refine j_istore (lv' := [(5, vi 0), (3, vi 0), (0, vr th), (2, vr q2), (4, vi x4)]) dX0_findWays_29 (by decide) rfl ?_
      refine j_sub [2, 3, 1, 4, 0] rfl ?_
      exact jl_bo_findWays_31 hs hq2 hn2 hk15 fuel _ _ _ _
    · refine j_sub [] rfl ?_
      exact jb_bo_findWays_123 hs hq2 hn2 _

set_option maxRecDepth 100000 in
set_option maxHeartbeats 4000000 in
theorem ct_bo_findWays {lay : List LK} {th : Nat} {p1 : Int} {q2 : Nat} {n2 : Nat} (hs : sub lay th blkBounds) (hq2 : lay[q2]? = some (0, n2, 0, 0)) (hn2 : inR (n2 : Int)) (h : Hp) : CT mi_bo_findWays encV (Same lay) lay [vr th, vi p1, vr q2] h (bo_findWays th p1 q2 n2 h) := by
  refine CT.of (by decide) rfl (Nat.le_of_ble_eq_true rfl) ?_
  show J mi_bo_findWays encV (Same lay) lay 0 0 0 [(0, vr th), (1, vi p1), (2, vr q2)] [] h _
  unfold bo_findWays
  refine j_aload_n 2 dX0_findWays_0 rfl ?_
  refine j_ldc (x := 1000000) dX0_findWays_1 kc_X0_73 (by decide) ?_
  refine j_cS (stk := []) [vr q2, vi 1000000] dX0_findWays_3 mv_ja_fill lm_X0_104 (ct_ja_fill hq2 hn2 h) rfl rfl ⟨⟨Nat.le_of_ble_eq_true rfl, Nat.le_of_ble_eq_true rfl⟩, Nat.le_of_ble_eq_true rfl, Nat.le_of_ble_eq_true rfl⟩ (Nat.le_of_ble_eq_true rfl) rfl rfl (fun _ h1 _ => ?_)
  refine j_aload_n 2 dX0_findWays_6 rfl ?_
  refine j_iload_n 1 dX0_findWays_7 rfl ?_
  refine j_iconst (x := 0) dX0_findWays_8 rfl (by decide) ?_
  refine j_iast dX0_findWays_9 hq2 rfl (fun h2 _ => ?_)
  refine j_iconst (x := 1) dX0_findWays_10 rfl (by decide) ?_
  refine j_istore_n (lv' := [(3, vi 1), (0, vr th), (1, vi p1), (2, vr q2)]) dX0_findWays_11 (by decide) rfl ?_
  refine j_iconst (x := 0) dX0_findWays_12 rfl (by decide) ?_
  refine j_istore (lv' := [(4, vi 0), (3, vi 1), (0, vr th), (1, vi p1), (2, vr q2)]) dX0_findWays_13 (by decide) rfl ?_
  refine j_sub [2, 4, 1, 0] rfl ?_
  exact jl_bo_findWays_15 hs hq2 hn2 fuel _ _ _

set_option maxRecDepth 100000 in
set_option maxHeartbeats 4000000 in
theorem jb_bo_areBound_18 {lay : List LK} {th : Nat} {p1 : Int} {p2 : Int}  (hs : sub lay th blkBounds)  (s0 : Int) (h : Hp) : J mi_bo_areBound encI (Same lay) lay 0 0 18 [] [vi s0] h (bo_areBound_b18 th p1 p2 s0 h) := by
  unfold bo_areBound_b18
  exact j_retZ rfl rfl rfl dX0_areBound_18 rfl ⟨Nat.le_refl _, Nat.le_refl _⟩ rfl

set_option maxRecDepth 100000 in
set_option maxHeartbeats 4000000 in
theorem ct_bo_areBound {lay : List LK} {th : Nat} {p1 : Int} {p2 : Int} (hs : sub lay th blkBounds) (h : Hp) : CT mi_bo_areBound encI (Same lay) lay [vr th, vi p1, vi p2] h (bo_areBound th p1 p2 h) := by
  refine CT.of (by decide) rfl (Nat.le_of_ble_eq_true rfl) ?_
  show J mi_bo_areBound encI (Same lay) lay 0 0 0 [(0, vr th), (1, vi p1), (2, vi p2)] [] h _
  unfold bo_areBound
  refine j_aload_n 0 dX0_areBound_0 rfl ?_
  refine j_getR 0 1 0 dX0_areBound_1 zc_0 rfl (sub_k hs 0 rfl rfl) (by decide) lk_X0_11 rfl (by decide) (rfl : th + 1 = (th + 1)) ?_
  refine j_iload_n 1 dX0_areBound_4 rfl ?_
  refine j_aaldI dX0_areBound_5 (sub_k hs 1 rfl rfl) rfl (a' := (th + 2 + p1.toNat)) rfl (fun hi1 hj1 => ?_)
  refine j_iload_n 2 dX0_areBound_6 rfl ?_
  refine j_iald dX0_areBound_7 (sub_row hs hi1 hj1 (a' := (th + 2 + p1.toNat)) rfl) rfl ?_
  refine j_ldc (x := 1000000) dX0_areBound_8 kc_X0_73 (by decide) ?_
  refine j_icmp_eq (tgt := 17) dX0_areBound_10 (by decide) ?_ ?_
  · refine j_iconst (x := 0) dX0_areBound_17 rfl (by decide) ?_
    refine j_sub [] rfl ?_
    exact jb_bo_areBound_18 hs _ _
  · refine j_iconst (x := 1) dX0_areBound_13 rfl (by decide) ?_
    refine j_goto (tgt := 18) dX0_areBound_14 (by decide) ?_
    refine j_sub [] rfl ?_
    exact jb_bo_areBound_18 hs _ _

set_option maxRecDepth 100000 in
set_option maxHeartbeats 4000000 in
theorem jb_bo_formGroups_74 {lay : List LK} {th : Nat} {p1 : Int} {k7 : Int → Hp → O Unit} (hs : sub lay th blkBounds) (hk7 : ∀ (x2 : Int) (h : Hp), J mi_bo_formGroups encV (Same lay) lay 0 0 7 [(0, vr th), (1, vi p1), (2, vi x2)] [] h (k7 x2 h)) (x2 : Int) (h : Hp) : J mi_bo_formGroups encV (Same lay) lay 0 0 74 [(0, vr th), (1, vi p1), (2, vi x2)] [] h (bo_formGroups_b74 th p1 k7 x2 h) := by
  unfold bo_formGroups_b74
  refine j_iinc 2 (lv' := [(2, vi (x2 + 1)), (0, vr th), (1, vi p1)]) dX0_formGroups_74 rfl (by decide) rfl ?_
  refine j_goto (tgt := 7) dX0_formGroups_77 (by decide) ?_
  refine j_sub [1, 2, 0] rfl ?_
  exact hk7 _ _

set_option maxRecDepth 100000 in
set_option maxHeartbeats 4000000 in
theorem jb_bo_formGroups_34 {lay : List LK} {th : Nat} {p1 : Int} {k7 : Int → Hp → O Unit} (hs : sub lay th blkBounds) (hk7 : ∀ (x2 : Int) (h : Hp), J mi_bo_formGroups encV (Same lay) lay 0 0 7 [(0, vr th), (1, vi p1), (2, vi x2)] [] h (k7 x2 h)) (x2 x3 : Int) (h : Hp) : J mi_bo_formGroups encV (Same lay) lay 0 0 34 [(0, vr th), (1, vi p1), (2, vi x2), (3, vi x3)] [] h (bo_formGroups_b34 th p1 k7 x2 x3 h) := by
  unfold bo_formGroups_b34
  refine j_iload_n 3 dX0_formGroups_34 rfl ?_
  refine j_iload_n 2 dX0_formGroups_35 rfl ?_
  refine j_icmp_ne (tgt := 62) dX0_formGroups_36 (by decide) ?_ ?_
  · refine j_aload_n 0 dX0_formGroups_39 rfl ?_
    refine j_getR 1 14 1 dX0_formGroups_40 zc_0 rfl (sub_k hs 0 rfl rfl) (by decide) lk_X0_16 rfl (by decide) (rfl : th + 14 = (th + 14)) ?_
    refine j_iload_n 2 dX0_formGroups_43 rfl ?_
    refine j_aload_n 0 dX0_formGroups_44 rfl ?_
    refine j_getI 3 3 dX0_formGroups_45 zc_0 rfl (sub_k hs 0 rfl rfl) (by decide) lk_X0_24 rfl rfl ?_
    refine j_iast dX0_formGroups_48 (sub_k hs 14 rfl rfl) rfl (fun h1 _ => ?_)
    refine j_aload_n 0 dX0_formGroups_49 rfl ?_
    refine j_dup dX0_formGroups_50 (fun _ _ => rfl) ?_
    refine j_getI 3 3 dX0_formGroups_51 zc_0 rfl (sub_k hs 0 rfl rfl) (by decide) lk_X0_24 rfl rfl ?_
    refine j_iconst (x := 1) dX0_formGroups_54 rfl (by decide) ?_
    refine j_iadd dX0_formGroups_55 ?_
    refine j_putI 3 3 dX0_formGroups_56 zc_0 rfl (sub_k hs 0 rfl rfl) (by decide) lk_X0_24 rfl rfl rfl rfl (fun h2 _ => ?_)
    refine j_goto (tgt := 74) dX0_formGroups_59 (by decide) ?_
    refine j_sub [0, 1, 2] rfl ?_
    exact jb_bo_formGroups_74 hs hk7 _ _
  · refine j_aload_n 0 dX0_formGroups_62 rfl ?_
    refine j_getR 1 14 1 dX0_formGroups_63 zc_0 rfl (sub_k hs 0 rfl rfl) (by decide) lk_X0_16 rfl (by decide) (rfl : th + 14 = (th + 14)) ?_
    refine j_iload_n 2 dX0_formGroups_66 rfl ?_
    refine j_aload_n 0 dX0_formGroups_67 rfl ?_
    refine j_getR 1 14 1 dX0_formGroups_68 zc_0 rfl (sub_k hs 0 rfl rfl) (by decide) lk_X0_16 rfl (by decide) (rfl : th + 14 = (th + 14)) ?_
    refine j_iload_n 3 dX0_formGroups_71 rfl ?_
    refine j_iald dX0_formGroups_72 (sub_k hs 14 rfl rfl) rfl ?_
    refine j_iast dX0_formGroups_73 (sub_k hs 14 rfl rfl) rfl (fun h3 _ => ?_)
    refine j_sub [0, 1, 2] rfl ?_
    exact jb_bo_formGroups_74 hs hk7 _ _

set_option maxRecDepth 100000 in
set_option maxHeartbeats 4000000 in
theorem jl_bo_formGroups_14 {lay : List LK} {th : Nat} {p1 : Int} {k7 : Int → Hp → O Unit} (hs : sub lay th blkBounds) (hk7 : ∀ (x2 : Int) (h : Hp), J mi_bo_formGroups encV (Same lay) lay 0 0 7 [(0, vr th), (1, vi p1), (2, vi x2)] [] h (k7 x2 h)) : ∀ (n : Nat) (x2 x3 : Int) (h : Hp), J mi_bo_formGroups encV (Same lay) lay 0 0 14 [(0, vr th), (1, vi p1), (2, vi x2), (3, vi x3)] [] h (iter2 (bo_formGroups_f14 th p1 k7) n x2 x3 h) := by
  refine j_iter2 (lf := fun x2 x3 => [(0, vr th), (1, vi p1), (2, vi x2), (3, vi x3)]) (fun k14 hk14 x2 x3 h => ?_)
  unfold bo_formGroups_f14
  refine j_iload_n 3 dX0_formGroups_14 rfl ?_
  refine j_iload_n 2 dX0_formGroups_15 rfl ?_
  refine j_icmp_ge (tgt := 34) dX0_formGroups_16 (by decide) ?_ ?_
  · refine j_aload_n 0 dX0_formGroups_19 rfl ?_
    refine j_iload_n 3 dX0_formGroups_20 rfl ?_
    refine j_iload_n 2 dX0_formGroups_21 rfl ?_
    refine j_cV (stk := []) [vi x3, vi x2] th dX0_formGroups_22 mv_bo_areBound lm_X0_110 (sub_k hs 0 rfl rfl) zc_0 (ct_bo_areBound hs h) rfl rfl ⟨⟨Nat.le_of_ble_eq_true rfl, Nat.le_of_ble_eq_true rfl⟩, Nat.le_of_ble_eq_true rfl, Nat.le_of_ble_eq_true rfl⟩ (Nat.le_of_ble_eq_true rfl) rfl rfl (fun r1 h1 _ => ?_)
    refine j_if_ne (tgt := 34) dX0_formGroups_25 (by decide) ?_ ?_
    · refine j_iinc 3 (lv' := [(3, vi (x3 + 1)), (0, vr th), (1, vi p1), (2, vi x2)]) dX0_formGroups_28 rfl (by decide) rfl ?_
      refine j_goto (tgt := 14) dX0_formGroups_31 (by decide) ?_
      refine j_sub [1, 2, 3, 0] rfl ?_
      exact hk14 _ _ _
    · exact jb_bo_formGroups_34 hs hk7 _ _ _
  · exact jb_bo_formGroups_34 hs hk7 _ _ _

set_option maxRecDepth 100000 in
set_option maxHeartbeats 4000000 in
theorem jl_bo_formGroups_7 {lay : List LK} {th : Nat} {p1 : Int}  (hs : sub lay th blkBounds)  : ∀ (n : Nat) (x2 : Int) (h : Hp), J mi_bo_formGroups encV (Same lay) lay 0 0 7 [(0, vr th), (1, vi p1), (2, vi x2)] [] h (iter1 (bo_formGroups_f7 th p1) n x2 h) := by
  refine j_iter1 (lf := fun x2 => [(0, vr th), (1, vi p1), (2, vi x2)]) (fun k7 hk7 x2 h => ?_)
  unfold bo_formGroups_f7
  refine j_iload_n 2 dX0_formGroups_7 rfl ?_
  refine j_iload_n 1 dX0_formGroups_8 rfl ?_
  refine j_icmp_ge (tgt := 80) dX0_formGroups_9 (by decide) ?_ ?_
  · refine j_iconst (x := 0) dX0_formGroups_12 rfl (by decide) ?_
    refine j_istore_n (lv' := [(3, vi 0), (0, vr th), (1, vi p1), (2, vi x2)]) dX0_formGroups_13 (by decide) rfl ?_
    refine j_sub [1, 2, 3, 0] rfl ?_
    exact jl_bo_formGroups_14 hs hk7 fuel _ _ _
  · exact j_retV rfl rfl rfl dX0_formGroups_80 rfl ⟨Nat.le_refl _, Nat.le_refl _⟩ rfl

set_option maxRecDepth 100000 in
set_option maxHeartbeats 4000000 in
theorem ct_bo_formGroups {lay : List LK} {th : Nat} {p1 : Int} (hs : sub lay th blkBounds) (h : Hp) : CT mi_bo_formGroups encV (Same lay) lay [vr th, vi p1] h (bo_formGroups th p1 h) := by
  refine CT.of (by decide) rfl (Nat.le_of_ble_eq_true rfl) ?_
  show J mi_bo_formGroups encV (Same lay) lay 0 0 0 [(0, vr th), (1, vi p1)] [] h _
  unfold bo_formGroups
  refine j_aload_n 0 dX0_formGroups_0 rfl ?_
  refine j_iconst (x := 0) dX0_formGroups_1 rfl (by decide) ?_
  refine j_putI 3 3 dX0_formGroups_2 zc_0 rfl (sub_k hs 0 rfl rfl) (by decide) lk_X0_24 rfl rfl rfl rfl (fun h1 _ => ?_)
  refine j_iconst (x := 0) dX0_formGroups_5 rfl (by decide) ?_
  refine j_istore_n (lv' := [(2, vi 0), (0, vr th), (1, vi p1)]) dX0_formGroups_6 (by decide) rfl ?_
  refine j_sub [1, 2, 0] rfl ?_
  exact jl_bo_formGroups_7 hs fuel _ _

set_option maxRecDepth 100000 in
set_option maxHeartbeats 4000000 in
theorem jb_bo_isSuperfluous_102 {lay : List LK} {th : Nat} {p1 : Int}  (hs : sub lay th blkBounds)  (s0 : Int) (h : Hp) : J mi_bo_isSuperfluous encI (Same lay) lay 0 0 102 [(0, vr th), (1, vi p1)] [vi s0] h (bo_isSuperfluous_b102 th p1 s0 h) := by
  unfold bo_isSuperfluous_b102
  refine j_istore (lv' := [(4, vi s0), (0, vr th), (1, vi p1)]) dX0_isSuperfluous_102 (by decide) rfl ?_
  refine j_aload_n 1 dX0_isSuperfluous_104 rfl ?_
  refine j_getR 6 16 3 dX0_isSuperfluous_105 zc_0 rfl (sub_k hs 0 rfl rfl) (by decide) lk_X0_34 rfl (by decide) (rfl : th + 16 = (th + 16)) ?_
  refine j_iload_n 2 dX0_isSuperfluous_108 rfl ?_
  refine j_iconst (x := 0) dX0_isSuperfluous_109 rfl (by decide) ?_
  refine j_zast dX0_isSuperfluous_110 (sub_k hs 16 rfl rfl) rfl (fun h1 _ => ?_)
  refine j_iload 0 dX0_isSuperfluous_111 rfl ?_
  exact j_retZ rfl rfl rfl dX0_isSuperfluous_113 rfl ⟨Nat.le_refl _, Nat.le_refl _⟩ rfl

set_option maxRecDepth 100000 in
set_option maxHeartbeats 4000000 in
theorem jb_bo_isSuperfluous_101 {lay : List LK} {th : Nat} {p1 : Int}  (hs : sub lay th blkBounds)  (h : Hp) : J mi_bo_isSuperfluous encI (Same lay) lay 0 0 101 [(0, vr th), (1, vi p1)] [] h (bo_isSuperfluous_b101 th p1 h) := by
  unfold bo_isSuperfluous_b101
  refine j_iconst (x := 0) dX0_isSuperfluous_101 rfl (by decide) ?_
  exact jb_bo_isSuperfluous_102 hs _ _

set_option maxRecDepth 100000 in
set_option maxHeartbeats 4000000 in
theorem jb_bo_isSuperfluous_56 {lay : List LK} {th : Nat} {p1 : Int}  (hs : sub lay th blkBounds)  (x3 s0 : Int) (h : Hp) : J mi_bo_isSuperfluous encI (Same lay) lay 0 0 56 [(0, vr th), (1, vi p1), (3, vi x3)] [vi s0] h (bo_isSuperfluous_b56 th p1 x3 s0 h) := by
  unfold bo_isSuperfluous_b56
  refine j_istore (lv' := [(4, vi s0), (0, vr th), (1, vi p1), (3, vi x3)]) dX0_isSuperfluous_56 (by decide) rfl ?_
  refine j_aload_n 1 dX0_isSuperfluous_58 rfl ?_
  refine j_aload_n 1 dX0_isSuperfluous_59 rfl ?_
  refine j_getR 8 18 5 dX0_isSuperfluous_60 zc_0 rfl (sub_k hs 0 rfl rfl) (by decide) lk_X0_40 rfl (by decide) (rfl : th + 18 = (th + 18)) ?_
  refine j_iload_n 3 dX0_isSuperfluous_63 rfl ?_
  refine j_iald dX0_isSuperfluous_64 (sub_k hs 18 rfl rfl) rfl ?_
  refine j_aload_n 1 dX0_isSuperfluous_65 rfl ?_
  refine j_getR 7 17 4 dX0_isSuperfluous_66 zc_0 rfl (sub_k hs 0 rfl rfl) (by decide) lk_X0_37 rfl (by decide) (rfl : th + 17 = (th + 17)) ?_
  refine j_cV (stk := []) [vi (h (th + 18) x3), vr (th + 17)] th dX0_isSuperfluous_69 mv_bo_findWays lm_X0_61 (sub_k hs 0 rfl rfl) zc_0 (ct_bo_findWays hs (sub_k hs 17 rfl rfl) (by decide) h) rfl rfl ⟨⟨Nat.le_of_ble_eq_true rfl, Nat.le_of_ble_eq_true rfl⟩, Nat.le_of_ble_eq_true rfl, Nat.le_of_ble_eq_true rfl⟩ (Nat.le_of_ble_eq_true rfl) rfl rfl (fun _ h1 _ => ?_)
  refine j_iload 0 dX0_isSuperfluous_72 rfl ?_
  refine j_if_eq (tgt := 101) dX0_isSuperfluous_74 (by decide) ?_ ?_
  · refine j_sub [1, 2] rfl ?_
    exact jb_bo_isSuperfluous_101 hs _
  · refine j_aload_n 1 dX0_isSuperfluous_77 rfl ?_
    refine j_getR 7 17 4 dX0_isSuperfluous_78 zc_0 rfl (sub_k hs 0 rfl rfl) (by decide) lk_X0_37 rfl (by decide) (rfl : th + 17 = (th + 17)) ?_
    refine j_aload_n 1 dX0_isSuperfluous_81 rfl ?_
    refine j_getR 9 19 6 dX0_isSuperfluous_82 zc_0 rfl (sub_k hs 0 rfl rfl) (by decide) lk_X0_43 rfl (by decide) (rfl : th + 19 = (th + 19)) ?_
    refine j_iload_n 3 dX0_isSuperfluous_85 rfl ?_
    refine j_iald dX0_isSuperfluous_86 (sub_k hs 19 rfl rfl) rfl ?_
    refine j_iald dX0_isSuperfluous_87 (sub_k hs 17 rfl rfl) rfl ?_
    refine j_aload_n 1 dX0_isSuperfluous_88 rfl ?_
    refine j_getR 10 20 7 dX0_isSuperfluous_89 zc_0 rfl (sub_k hs 0 rfl rfl) (by decide) lk_X0_46 rfl (by decide) (rfl : th + 20 = (th + 20)) ?_
    refine j_iload_n 3 dX0_isSuperfluous_92 rfl ?_
    refine j_iald dX0_isSuperfluous_93 (sub_k hs 20 rfl rfl) rfl ?_
    refine j_icmp_gt (tgt := 101) dX0_isSuperfluous_94 (by decide) ?_ ?_
    · refine j_sub [1, 2] rfl ?_
      exact jb_bo_isSuperfluous_101 hs _
    · refine j_iconst (x := 1) dX0_isSuperfluous_97 rfl (by decide) ?_
      refine j_goto (tgt := 102) dX0_isSuperfluous_98 (by decide) ?_
      refine j_sub [1, 2] rfl ?_
      exact jb_bo_isSuperfluous_102 hs _ _

set_option maxRecDepth 100000 in
set_option maxHeartbeats 4000000 in
theorem ct_bo_isSuperfluous {lay : List LK} {th : Nat} {p1 : Int} (hs : sub lay th blkBounds) (h : Hp) : CT mi_bo_isSuperfluous encI (Same lay) lay [vr th, vi p1] h (bo_isSuperfluous th p1 h) := by
  refine CT.of (by decide) rfl (Nat.le_of_ble_eq_true rfl) ?_
  show J mi_bo_isSuperfluous encI (Same lay) lay 0 0 0 [(0, vr th), (1, vi p1)] [] h _
  unfold bo_isSuperfluous
  refine j_iconst (x := 2) dX0_isSuperfluous_0 rfl (by decide) ?_
  refine j_iload_n 1 dX0_isSuperfluous_1 rfl ?_
  refine j_imul dX0_isSuperfluous_2 ?_
  refine j_istore_n (lv' := [(2, vi (2 * p1)), (0, vr th), (1, vi p1)]) dX0_isSuperfluous_3 (by decide) rfl ?_
  refine j_iconst (x := 2) dX0_isSuperfluous_4 rfl (by decide) ?_
  refine j_iload_n 2 dX0_isSuperfluous_5 rfl ?_
  refine j_imul dX0_isSuperfluous_6 ?_
  refine j_iconst (x := 1) dX0_isSuperfluous_7 rfl (by decide) ?_
  refine j_iadd dX0_isSuperfluous_8 ?_
  refine j_istore_n (lv' := [(3, vi ((2 * p1) + 1)), (2, vi (2 * p1)), (0, vr th), (1, vi p1)]) dX0_isSuperfluous_9 (by decide) rfl ?_
  refine j_aload_n 2 dX0_isSuperfluous_10 rfl ?_
  refine j_getR 6 16 3 dX0_isSuperfluous_11 zc_0 rfl (sub_k hs 0 rfl rfl) (by decide) lk_X0_34 rfl (by decide) (rfl : th + 16 = (th + 16)) ?_
  refine j_iload_n 3 dX0_isSuperfluous_14 rfl ?_
  refine j_iconst (x := 1) dX0_isSuperfluous_15 rfl (by decide) ?_
  refine j_zast dX0_isSuperfluous_16 (sub_k hs 16 rfl rfl) rfl (fun h1 _ => ?_)
  refine j_aload_n 2 dX0_isSuperfluous_17 rfl ?_
  refine j_aload_n 2 dX0_isSuperfluous_18 rfl ?_
  refine j_getR 8 18 5 dX0_isSuperfluous_19 zc_0 rfl (sub_k hs 0 rfl rfl) (by decide) lk_X0_40 rfl (by decide) (rfl : th + 18 = (th + 18)) ?_
  refine j_iload_n 1 dX0_isSuperfluous_22 rfl ?_
  refine j_iald dX0_isSuperfluous_23 (sub_k hs 18 rfl rfl) rfl ?_
  refine j_aload_n 2 dX0_isSuperfluous_24 rfl ?_
  refine j_getR 7 17 4 dX0_isSuperfluous_25 zc_0 rfl (sub_k hs 0 rfl rfl) (by decide) lk_X0_37 rfl (by decide) (rfl : th + 17 = (th + 17)) ?_
  refine j_cV (stk := []) [vi (h1 (th + 18) (2 * p1)), vr (th + 17)] th dX0_isSuperfluous_28 mv_bo_findWays lm_X0_61 (sub_k hs 0 rfl rfl) zc_0 (ct_bo_findWays hs (sub_k hs 17 rfl rfl) (by decide) h1) rfl rfl ⟨⟨Nat.le_of_ble_eq_true rfl, Nat.le_of_ble_eq_true rfl⟩, Nat.le_of_ble_eq_true rfl, Nat.le_of_ble_eq_true rfl⟩ (Nat.le_of_ble_eq_true rfl) rfl rfl (fun _ h2 _ => ?_)
  refine j_aload_n 2 dX0_isSuperfluous_31 rfl ?_
  refine j_getR 7 17 4 dX0_isSuperfluous_32 zc_0 rfl (sub_k hs 0 rfl rfl) (by decide) lk_X0_37 rfl (by decide) (rfl : th + 17 = (th + 17)) ?_
  refine j_aload_n 2 dX0_isSuperfluous_35 rfl ?_
  refine j_getR 9 19 6 dX0_isSuperfluous_36 zc_0 rfl (sub_k hs 0 rfl rfl) (by decide) lk_X0_43 rfl (by decide) (rfl : th + 19 = (th + 19)) ?_
  refine j_iload_n 1 dX0_isSuperfluous_39 rfl ?_
  refine j_iald dX0_isSuperfluous_40 (sub_k hs 19 rfl rfl) rfl ?_
  refine j_iald dX0_isSuperfluous_41 (sub_k hs 17 rfl rfl) rfl ?_
  refine j_aload_n 2 dX0_isSuperfluous_42 rfl ?_
  refine j_getR 10 20 7 dX0_isSuperfluous_43 zc_0 rfl (sub_k hs 0 rfl rfl) (by decide) lk_X0_46 rfl (by decide) (rfl : th + 20 = (th + 20)) ?_
  refine j_iload_n 1 dX0_isSuperfluous_46 rfl ?_
  refine j_iald dX0_isSuperfluous_47 (sub_k hs 20 rfl rfl) rfl ?_
  refine j_icmp_gt (tgt := 55) dX0_isSuperfluous_48 (by decide) ?_ ?_
  · refine j_iconst (x := 0) dX0_isSuperfluous_55 rfl (by decide) ?_
    refine j_sub [2, 3, 0] rfl ?_
    exact jb_bo_isSuperfluous_56 hs _ _ _
  · refine j_iconst (x := 1) dX0_isSuperfluous_51 rfl (by decide) ?_
    refine j_goto (tgt := 56) dX0_isSuperfluous_52 (by decide) ?_
    refine j_sub [2, 3, 0] rfl ?_
    exact jb_bo_isSuperfluous_56 hs _ _ _

set_option maxRecDepth 100000 in
set_option maxHeartbeats 4000000 in
theorem jb_bo_workOut_89 {lay : List LK} {th : Nat} {q1 : Nat} {k51 : Int → Hp → O Unit} (hs : sub lay th blkBounds) (hq1 : sub lay q1 blkDrawing) (hk51 : ∀ (x2 : Int) (h : Hp), J mi_bo_workOut encV (Same lay) lay 0 0 51 [(0, vr th), (2, vi x2)] [] h (k51 x2 h)) (x2 s0 s1 : Int) (h : Hp) : J mi_bo_workOut encV (Same lay) lay 0 0 89 [(0, vr th), (2, vi x2)] [vi s0, vi s1, vr th] h (bo_workOut_b89 th q1 k51 x2 s0 s1 h) := by
  unfold bo_workOut_b89
  refine j_iadd dX0_workOut_89 ?_
  refine j_putI 4 4 dX0_workOut_90 zc_0 rfl (sub_k hs 0 rfl rfl) (by decide) lk_X0_28 rfl rfl rfl rfl (fun h1 _ => ?_)
  refine j_iinc 1 (lv' := [(2, vi (x2 + 1)), (0, vr th)]) dX0_workOut_93 rfl (by decide) rfl ?_
  refine j_goto (tgt := 51) dX0_workOut_96 (by decide) ?_
  refine j_sub [1, 0] rfl ?_
  exact hk51 _ _

set_option maxRecDepth 100000 in
set_option maxHeartbeats 4000000 in
theorem jl_bo_workOut_51 {lay : List LK} {th : Nat} {q1 : Nat}  (hs : sub lay th blkBounds) (hq1 : sub lay q1 blkDrawing)  : ∀ (n : Nat) (x2 : Int) (h : Hp), J mi_bo_workOut encV (Same lay) lay 0 0 51 [(0, vr th), (2, vi x2)] [] h (iter1 (bo_workOut_f51 th q1) n x2 h) := by
  refine j_iter1 (lf := fun x2 => [(0, vr th), (2, vi x2)]) (fun k51 hk51 x2 h => ?_)
  unfold bo_workOut_f51
  refine j_iload_n 1 dX0_workOut_51 rfl ?_
  refine j_aload_n 0 dX0_workOut_52 rfl ?_
  refine j_getI 5 5 dX0_workOut_53 zc_0 rfl (sub_k hs 0 rfl rfl) (by decide) lk_X0_31 rfl rfl ?_
  refine j_icmp_ge (tgt := 99) dX0_workOut_56 (by decide) ?_ ?_
  · refine j_aload_n 0 dX0_workOut_59 rfl ?_
    refine j_getR 2 15 2 dX0_workOut_60 zc_0 rfl (sub_k hs 0 rfl rfl) (by decide) lk_X0_20 rfl (by decide) (rfl : th + 15 = (th + 15)) ?_
    refine j_iload_n 1 dX0_workOut_63 rfl ?_
    refine j_aload_n 0 dX0_workOut_64 rfl ?_
    refine j_iload_n 1 dX0_workOut_65 rfl ?_
    refine j_cV (stk := [vi x2, vr (th + 15)]) [vi x2] th dX0_workOut_66 mv_bo_isSuperfluous lm_X0_69 (sub_k hs 0 rfl rfl) zc_0 (ct_bo_isSuperfluous hs h) rfl rfl ⟨⟨Nat.le_of_ble_eq_true rfl, Nat.le_of_ble_eq_true rfl⟩, Nat.le_of_ble_eq_true rfl, Nat.le_of_ble_eq_true rfl⟩ (Nat.le_of_ble_eq_true rfl) rfl rfl (fun r1 h1 _ => ?_)
    refine j_zast dX0_workOut_69 (sub_k hs 15 rfl rfl) rfl (fun h2 _ => ?_)
    refine j_aload_n 0 dX0_workOut_70 rfl ?_
    refine j_dup dX0_workOut_71 (fun _ _ => rfl) ?_
    refine j_getI 4 4 dX0_workOut_72 zc_0 rfl (sub_k hs 0 rfl rfl) (by decide) lk_X0_28 rfl rfl ?_
    refine j_aload_n 0 dX0_workOut_75 rfl ?_
    refine j_getR 2 15 2 dX0_workOut_76 zc_0 rfl (sub_k hs 0 rfl rfl) (by decide) lk_X0_20 rfl (by decide) (rfl : th + 15 = (th + 15)) ?_
    refine j_iload_n 1 dX0_workOut_79 rfl ?_
    refine j_zald dX0_workOut_80 (sub_k hs 15 rfl rfl) rfl ?_
    refine j_if_eq (tgt := 88) dX0_workOut_81 (by decide) ?_ ?_
    · refine j_iconst (x := 0) dX0_workOut_88 rfl (by decide) ?_
      exact jb_bo_workOut_89 hs hq1 hk51 _ _ _ _
    · refine j_iconst (x := 1) dX0_workOut_84 rfl (by decide) ?_
      refine j_goto (tgt := 89) dX0_workOut_85 (by decide) ?_
      exact jb_bo_workOut_89 hs hq1 hk51 _ _ _ _
  · exact j_retV rfl rfl rfl dX0_workOut_99 rfl ⟨Nat.le_refl _, Nat.le_refl _⟩ rfl

set_option maxRecDepth 100000 in
set_option maxHeartbeats 4000000 in
theorem jl_bo_workOut_11 {lay : List LK} {th : Nat} {q1 : Nat}  (hs : sub lay th blkBounds) (hq1 : sub lay q1 blkDrawing)  : ∀ (n : Nat) (x2 : Int) (h : Hp), J mi_bo_workOut encV (Same lay) lay 0 0 11 [(0, vr th), (1, vr q1), (2, vi x2)] [] h (iter1 (bo_workOut_f11 th q1) n x2 h) := by
  refine j_iter1 (lf := fun x2 => [(0, vr th), (1, vr q1), (2, vi x2)]) (fun k11 hk11 x2 h => ?_)
  unfold bo_workOut_f11
  refine j_iload_n 2 dX0_workOut_11 rfl ?_
  refine j_aload_n 1 dX0_workOut_12 rfl ?_
  refine j_getI 7 7 dX0_workOut_13 zc_1 rfl (sub_k hq1 0 rfl rfl) (by decide) lk_X0_56 rfl rfl ?_
  refine j_icmp_ge (tgt := 36) dX0_workOut_16 (by decide) ?_ ?_
  · refine j_aload_n 0 dX0_workOut_19 rfl ?_
    refine j_iload_n 2 dX0_workOut_20 rfl ?_
    refine j_aload_n 0 dX0_workOut_21 rfl ?_
    refine j_getR 0 1 0 dX0_workOut_22 zc_0 rfl (sub_k hs 0 rfl rfl) (by decide) lk_X0_11 rfl (by decide) (rfl : th + 1 = (th + 1)) ?_
    refine j_iload_n 2 dX0_workOut_25 rfl ?_
    refine j_aaldI dX0_workOut_26 (sub_k hs 1 rfl rfl) rfl (a' := (th + 2 + x2.toNat)) rfl (fun hi1 hj1 => ?_)
    refine j_cV (stk := []) [vi x2, vr (th + 2 + x2.toNat)] th dX0_workOut_27 mv_bo_findWays lm_X0_61 (sub_k hs 0 rfl rfl) zc_0 (ct_bo_findWays hs (sub_row hs hi1 hj1 (a' := (th + 2 + x2.toNat)) rfl) (by decide) h) rfl rfl ⟨⟨Nat.le_of_ble_eq_true rfl, Nat.le_of_ble_eq_true rfl⟩, Nat.le_of_ble_eq_true rfl, Nat.le_of_ble_eq_true rfl⟩ (Nat.le_of_ble_eq_true rfl) rfl rfl (fun _ h2 _ => ?_)
    refine j_iinc 2 (lv' := [(2, vi (x2 + 1)), (0, vr th), (1, vr q1)]) dX0_workOut_30 rfl (by decide) rfl ?_
    refine j_goto (tgt := 11) dX0_workOut_33 (by decide) ?_
    refine j_sub [1, 2, 0] rfl ?_
    exact hk11 _ _
  · refine j_aload_n 0 dX0_workOut_36 rfl ?_
    refine j_aload_n 1 dX0_workOut_37 rfl ?_
    refine j_getI 7 7 dX0_workOut_38 zc_1 rfl (sub_k hq1 0 rfl rfl) (by decide) lk_X0_56 rfl rfl ?_
    refine j_cV (stk := []) [vi (h q1 7)] th dX0_workOut_41 mv_bo_formGroups lm_X0_65 (sub_k hs 0 rfl rfl) zc_0 (ct_bo_formGroups hs h) rfl rfl ⟨⟨Nat.le_of_ble_eq_true rfl, Nat.le_of_ble_eq_true rfl⟩, Nat.le_of_ble_eq_true rfl, Nat.le_of_ble_eq_true rfl⟩ (Nat.le_of_ble_eq_true rfl) rfl rfl (fun _ h3 _ => ?_)
    refine j_aload_n 0 dX0_workOut_44 rfl ?_
    refine j_iconst (x := 0) dX0_workOut_45 rfl (by decide) ?_
    refine j_putI 4 4 dX0_workOut_46 zc_0 rfl (sub_k hs 0 rfl rfl) (by decide) lk_X0_28 rfl rfl rfl rfl (fun h4 _ => ?_)
    refine j_iconst (x := 0) dX0_workOut_49 rfl (by decide) ?_
    refine j_istore_n (lv' := [(2, vi 0), (0, vr th), (1, vr q1)]) dX0_workOut_50 (by decide) rfl ?_
    refine j_sub [1, 0] rfl ?_
    exact jl_bo_workOut_51 hs hq1 fuel _ _

set_option maxRecDepth 100000 in
set_option maxHeartbeats 4000000 in
theorem ct_bo_workOut {lay : List LK} {th : Nat} {q1 : Nat} (hs : sub lay th blkBounds) (hq1 : sub lay q1 blkDrawing) (h : Hp) : CT mi_bo_workOut encV (Same lay) lay [vr th, vr q1] h (bo_workOut th q1 h) := by
  refine CT.of (by decide) rfl (Nat.le_of_ble_eq_true rfl) ?_
  show J mi_bo_workOut encV (Same lay) lay 0 0 0 [(0, vr th), (1, vr q1)] [] h _
  unfold bo_workOut
  refine j_aload_n 0 dX0_workOut_0 rfl ?_
  refine j_aload_n 1 dX0_workOut_1 rfl ?_
  refine j_cV (stk := []) [vr q1] th dX0_workOut_2 mv_bo_listSteps lm_X0_49 (sub_k hs 0 rfl rfl) zc_0 (ct_bo_listSteps hs hq1 h) rfl rfl ⟨⟨Nat.le_of_ble_eq_true rfl, Nat.le_of_ble_eq_true rfl⟩, Nat.le_of_ble_eq_true rfl, Nat.le_of_ble_eq_true rfl⟩ (Nat.le_of_ble_eq_true rfl) rfl rfl (fun _ h1 _ => ?_)
  refine j_aload_n 0 dX0_workOut_5 rfl ?_
  refine j_cV (stk := []) [] th dX0_workOut_6 mv_bo_removeNone lm_X0_53 (sub_k hs 0 rfl rfl) zc_0 (ct_bo_removeNone hs h1) rfl rfl ⟨⟨Nat.le_of_ble_eq_true rfl, Nat.le_of_ble_eq_true rfl⟩, Nat.le_of_ble_eq_true rfl, Nat.le_of_ble_eq_true rfl⟩ (Nat.le_of_ble_eq_true rfl) rfl rfl (fun _ h2 _ => ?_)
  refine j_iconst (x := 0) dX0_workOut_9 rfl (by decide) ?_
  refine j_istore_n (lv' := [(2, vi 0), (0, vr th), (1, vr q1)]) dX0_workOut_10 (by decide) rfl ?_
  refine j_sub [1, 2, 0] rfl ?_
  exact jl_bo_workOut_11 hs hq1 fuel _ _

set_option maxRecDepth 100000 in
set_option maxHeartbeats 4000000 in
theorem ct_bo_greatestIfExact {lay : List LK} {th : Nat} {q1 : Nat} {p2 : Int} {p3 : Int} {p4 : Int} (hs : sub lay th blkBounds) (hq1 : sub lay q1 blkDrawing) (h : Hp) : CT mi_bo_greatestIfExact encI (Same lay) lay [vr th, vr q1, vi p2, vi p3, vi p4] h (bo_greatestIfExact th q1 p2 p3 p4 h) := by
  refine CT.of (by decide) rfl (Nat.le_of_ble_eq_true rfl) ?_
  show J mi_bo_greatestIfExact encI (Same lay) lay 0 0 0 [(0, vr th), (1, vr q1), (2, vi p2), (3, vi p3), (4, vi p4)] [] h _
  unfold bo_greatestIfExact
  refine j_aload_n 1 dX0_greatestIfExact_0 rfl ?_
  refine j_getR 1 2 1 dX0_greatestIfExact_1 zc_1 rfl (sub_k hq1 0 rfl rfl) (by decide) lk_X0_81 rfl (by decide) (rfl : q1 + 2 = (q1 + 2)) ?_
  refine j_iload_n 2 dX0_greatestIfExact_4 rfl ?_
  refine j_iald dX0_greatestIfExact_5 (sub_k hq1 2 rfl rfl) rfl ?_
  refine j_istore (lv' := [(5, vi (h (q1 + 2) p2)), (0, vr th), (1, vr q1), (2, vi p2), (3, vi p3), (4, vi p4)]) dX0_greatestIfExact_6 (by decide) rfl ?_
  refine j_aload_n 2 dX0_greatestIfExact_8 rfl ?_
  refine j_getR 2 3 2 dX0_greatestIfExact_9 zc_1 rfl (sub_k hq1 0 rfl rfl) (by decide) lk_X0_84 rfl (by decide) (rfl : q1 + 3 = (q1 + 3)) ?_
  refine j_iload_n 3 dX0_greatestIfExact_12 rfl ?_
  refine j_iald dX0_greatestIfExact_13 (sub_k hq1 3 rfl rfl) rfl ?_
  refine j_istore (lv' := [(6, vi (h (q1 + 3) p2)), (5, vi (h (q1 + 2) p2)), (0, vr th), (1, vr q1), (2, vi p2), (3, vi p3), (4, vi p4)]) dX0_greatestIfExact_14 (by decide) rfl ?_
  refine j_aload_n 3 dX0_greatestIfExact_16 rfl ?_
  refine j_iload_n 4 dX0_greatestIfExact_17 rfl ?_
  refine j_cV (stk := []) [vi p2] q1 dX0_greatestIfExact_18 mv_dr_valueOf lm_X0_87 (sub_k hq1 0 rfl rfl) zc_1 (ct_dr_valueOf hq1 h) rfl rfl ⟨⟨Nat.le_of_ble_eq_true rfl, Nat.le_of_ble_eq_true rfl⟩, Nat.le_of_ble_eq_true rfl, Nat.le_of_ble_eq_true rfl⟩ (Nat.le_of_ble_eq_true rfl) rfl rfl (fun r1 h1 _ => ?_)
  refine j_istore (lv' := [(7, vi r1), (6, vi (h (q1 + 3) p2)), (5, vi (h (q1 + 2) p2)), (0, vr th), (1, vr q1), (2, vi p2), (3, vi p3), (4, vi p4)]) dX0_greatestIfExact_21 (by decide) rfl ?_
  refine j_aload_n 3 dX0_greatestIfExact_23 rfl ?_
  refine j_getR 0 1 0 dX0_greatestIfExact_24 zc_0 rfl (sub_k hs 0 rfl rfl) (by decide) lk_X0_11 rfl (by decide) (rfl : th + 1 = (th + 1)) ?_
  refine j_iload_n 6 dX0_greatestIfExact_27 rfl ?_
  refine j_aaldI dX0_greatestIfExact_28 (sub_k hs 1 rfl rfl) rfl (a' := (th + 2 + p3.toNat)) rfl (fun hi2 hj2 => ?_)
  refine j_iload 2 dX0_greatestIfExact_29 rfl ?_
  refine j_iald dX0_greatestIfExact_31 (sub_row hs hi2 hj2 (a' := (th + 2 + p3.toNat)) rfl) rfl ?_
  refine j_iload 0 dX0_greatestIfExact_32 rfl ?_
  refine j_iadd dX0_greatestIfExact_34 ?_
  refine j_aload_n 3 dX0_greatestIfExact_35 rfl ?_
  refine j_getR 0 1 0 dX0_greatestIfExact_36 zc_0 rfl (sub_k hs 0 rfl rfl) (by decide) lk_X0_11 rfl (by decide) (rfl : th + 1 = (th + 1)) ?_
  refine j_iload 1 dX0_greatestIfExact_39 rfl ?_
  refine j_aaldI dX0_greatestIfExact_41 (sub_k hs 1 rfl rfl) rfl (a' := (th + 2 + (h (q1 + 3) p2).toNat)) rfl (fun hi3 hj3 => ?_)
  refine j_iload 7 dX0_greatestIfExact_42 rfl ?_
  refine j_iald dX0_greatestIfExact_44 (sub_row hs hi3 hj3 (a' := (th + 2 + (h (q1 + 3) p2).toNat)) rfl) rfl ?_
  refine j_iadd dX0_greatestIfExact_45 ?_
  refine j_istore (lv' := [(8, vi (((h1 (th + 2 + p3.toNat) (h (q1 + 2) p2)) + r1) + (h1 (th + 2 + (h (q1 + 3) p2).toNat) p4))), (7, vi r1), (6, vi (h (q1 + 3) p2)), (5, vi (h (q1 + 2) p2)), (0, vr th), (1, vr q1), (2, vi p2), (3, vi p3), (4, vi p4)]) dX0_greatestIfExact_46 (by decide) rfl ?_
  refine j_aload_n 4 dX0_greatestIfExact_48 rfl ?_
  refine j_getR 0 1 0 dX0_greatestIfExact_49 zc_0 rfl (sub_k hs 0 rfl rfl) (by decide) lk_X0_11 rfl (by decide) (rfl : th + 1 = (th + 1)) ?_
  refine j_iload_n 7 dX0_greatestIfExact_52 rfl ?_
  refine j_aaldI dX0_greatestIfExact_53 (sub_k hs 1 rfl rfl) rfl (a' := (th + 2 + p3.toNat)) rfl (fun hi4 hj4 => ?_)
  refine j_iload 2 dX0_greatestIfExact_54 rfl ?_
  refine j_iald dX0_greatestIfExact_56 (sub_row hs hi4 hj4 (a' := (th + 2 + p3.toNat)) rfl) rfl ?_
  refine j_iload 1 dX0_greatestIfExact_57 rfl ?_
  refine j_isub dX0_greatestIfExact_59 ?_
  refine j_aload_n 4 dX0_greatestIfExact_60 rfl ?_
  refine j_getR 0 1 0 dX0_greatestIfExact_61 zc_0 rfl (sub_k hs 0 rfl rfl) (by decide) lk_X0_11 rfl (by decide) (rfl : th + 1 = (th + 1)) ?_
  refine j_iload 3 dX0_greatestIfExact_64 rfl ?_
  refine j_aaldI dX0_greatestIfExact_66 (sub_k hs 1 rfl rfl) rfl (a' := (th + 2 + (h (q1 + 2) p2).toNat)) rfl (fun hi5 hj5 => ?_)
  refine j_iload 8 dX0_greatestIfExact_67 rfl ?_
  refine j_iald dX0_greatestIfExact_69 (sub_row hs hi5 hj5 (a' := (th + 2 + (h (q1 + 2) p2).toNat)) rfl) rfl ?_
  refine j_iadd dX0_greatestIfExact_70 ?_
  refine j_istore (lv' := [(9, vi (((h1 (th + 2 + p3.toNat) (h (q1 + 3) p2)) - r1) + (h1 (th + 2 + (h (q1 + 2) p2).toNat) p4))), (8, vi (((h1 (th + 2 + p3.toNat) (h (q1 + 2) p2)) + r1) + (h1 (th + 2 + (h (q1 + 3) p2).toNat) p4))), (7, vi r1), (6, vi (h (q1 + 3) p2)), (5, vi (h (q1 + 2) p2)), (0, vr th), (1, vr q1), (2, vi p2), (3, vi p3), (4, vi p4)]) dX0_greatestIfExact_71 (by decide) rfl ?_
  refine j_aload_n 5 dX0_greatestIfExact_73 rfl ?_
  refine j_getR 0 1 0 dX0_greatestIfExact_74 zc_0 rfl (sub_k hs 0 rfl rfl) (by decide) lk_X0_11 rfl (by decide) (rfl : th + 1 = (th + 1)) ?_
  refine j_iload_n 8 dX0_greatestIfExact_77 rfl ?_
  refine j_aaldI dX0_greatestIfExact_78 (sub_k hs 1 rfl rfl) rfl (a' := (th + 2 + p3.toNat)) rfl (fun hi6 hj6 => ?_)
  refine j_iload 9 dX0_greatestIfExact_79 rfl ?_
  refine j_iald dX0_greatestIfExact_81 (sub_row hs hi6 hj6 (a' := (th + 2 + p3.toNat)) rfl) rfl ?_
  refine j_iload 1 dX0_greatestIfExact_82 rfl ?_
  refine j_iload 0 dX0_greatestIfExact_84 rfl ?_
  refine j_mmin dX0_greatestIfExact_86 lm_X0_91 km_min1 km_2 km_min3 (Nat.le_of_ble_eq_true rfl) (Nat.le_of_ble_eq_true rfl) (Nat.le_of_ble_eq_true rfl) (Nat.le_of_ble_eq_true rfl) ?_
  refine j_mmin dX0_greatestIfExact_89 lm_X0_91 km_min1 km_2 km_min3 (Nat.le_of_ble_eq_true rfl) (Nat.le_of_ble_eq_true rfl) (Nat.le_of_ble_eq_true rfl) (Nat.le_of_ble_eq_true rfl) ?_
  exact j_retI (h0 := h1) (r := 0) rfl rfl rfl dX0_greatestIfExact_92 rfl ⟨Nat.le_refl _, Nat.le_refl _⟩ rfl

set_option maxRecDepth 100000 in
set_option maxHeartbeats 4000000 in
theorem ct_bo_gain {lay : List LK} {th : Nat} {q1 : Nat} {p2 : Int} {p3 : Int} {p4 : Int} (hs : sub lay th blkBounds) (hq1 : sub lay q1 blkDrawing) (h : Hp) : CT mi_bo_gain encI (Same lay) lay [vr th, vr q1, vi p2, vi p3, vi p4] h (bo_gain th q1 p2 p3 p4 h) := by
  refine CT.of (by decide) rfl (Nat.le_of_ble_eq_true rfl) ?_
  show J mi_bo_gain encI (Same lay) lay 0 0 0 [(0, vr th), (1, vr q1), (2, vi p2), (3, vi p3), (4, vi p4)] [] h _
  unfold bo_gain
  refine j_aload_n 0 dX0_gain_0 rfl ?_
  refine j_getR 0 1 0 dX0_gain_1 zc_0 rfl (sub_k hs 0 rfl rfl) (by decide) lk_X0_11 rfl (by decide) (rfl : th + 1 = (th + 1)) ?_
  refine j_iload_n 3 dX0_gain_4 rfl ?_
  refine j_aaldI dX0_gain_5 (sub_k hs 1 rfl rfl) rfl (a' := (th + 2 + p3.toNat)) rfl (fun hi1 hj1 => ?_)
  refine j_iload 4 dX0_gain_6 rfl ?_
  refine j_iald dX0_gain_8 (sub_row hs hi1 hj1 (a' := (th + 2 + p3.toNat)) rfl) rfl ?_
  refine j_aload_n 0 dX0_gain_9 rfl ?_
  refine j_aload_n 1 dX0_gain_10 rfl ?_
  refine j_iload_n 2 dX0_gain_11 rfl ?_
  refine j_iload_n 3 dX0_gain_12 rfl ?_
  refine j_iload 4 dX0_gain_13 rfl ?_
  refine j_cV (stk := [vi (h (th + 2 + p3.toNat) p4)]) [vr q1, vi p2, vi p3, vi p4] th dX0_gain_15 mv_bo_greatestIfExact lm_X0_74 (sub_k hs 0 rfl rfl) zc_0 (ct_bo_greatestIfExact hs hq1 h) rfl rfl ⟨⟨Nat.le_of_ble_eq_true rfl, Nat.le_of_ble_eq_true rfl⟩, Nat.le_of_ble_eq_true rfl, Nat.le_of_ble_eq_true rfl⟩ (Nat.le_of_ble_eq_true rfl) rfl rfl (fun r2 h2 _ => ?_)
  refine j_isub dX0_gain_18 ?_
  refine j_aload_n 0 dX0_gain_19 rfl ?_
  refine j_getR 0 1 0 dX0_gain_20 zc_0 rfl (sub_k hs 0 rfl rfl) (by decide) lk_X0_11 rfl (by decide) (rfl : th + 1 = (th + 1)) ?_
  refine j_iload 4 dX0_gain_23 rfl ?_
  refine j_aaldI dX0_gain_25 (sub_k hs 1 rfl rfl) rfl (a' := (th + 2 + p4.toNat)) rfl (fun hi3 hj3 => ?_)
  refine j_iload_n 3 dX0_gain_26 rfl ?_
  refine j_iald dX0_gain_27 (sub_row hs hi3 hj3 (a' := (th + 2 + p4.toNat)) rfl) rfl ?_
  refine j_iadd dX0_gain_28 ?_
  refine j_aload_n 0 dX0_gain_29 rfl ?_
  refine j_aload_n 1 dX0_gain_30 rfl ?_
  refine j_iload_n 2 dX0_gain_31 rfl ?_
  refine j_iload 4 dX0_gain_32 rfl ?_
  refine j_iload_n 3 dX0_gain_34 rfl ?_
  refine j_cV (stk := [vi (((h (th + 2 + p3.toNat) p4) - r2) + (h2 (th + 2 + p4.toNat) p3))]) [vr q1, vi p2, vi p4, vi p3] th dX0_gain_35 mv_bo_greatestIfExact lm_X0_74 (sub_k hs 0 rfl rfl) zc_0 (ct_bo_greatestIfExact hs hq1 h2) rfl rfl ⟨⟨Nat.le_of_ble_eq_true rfl, Nat.le_of_ble_eq_true rfl⟩, Nat.le_of_ble_eq_true rfl, Nat.le_of_ble_eq_true rfl⟩ (Nat.le_of_ble_eq_true rfl) rfl rfl (fun r4 h4 _ => ?_)
  refine j_isub dX0_gain_38 ?_
  exact j_retI (h0 := h4) (r := 0) rfl rfl rfl dX0_gain_39 rfl ⟨Nat.le_refl _, Nat.le_refl _⟩ rfl

set_option maxRecDepth 100000 in
set_option maxHeartbeats 4000000 in
theorem jb_bo_bestToMakeExact_40 {lay : List LK} {th : Nat} {q1 : Nat} {p2 : Int} {p3 : Int} {k6 : Int → Int → Hp → O Int} (hs : sub lay th blkBounds) (hq1 : sub lay q1 blkDrawing) (hk6 : ∀ (x4 x5 : Int) (h : Hp), J mi_bo_bestToMakeExact encI (Same lay) lay 0 0 6 [(0, vr th), (1, vr q1), (2, vi p2), (3, vi p3), (4, vi x4), (5, vi x5)] [] h (k6 x4 x5 h)) (x4 x5 : Int) (h : Hp) : J mi_bo_bestToMakeExact encI (Same lay) lay 0 0 40 [(0, vr th), (1, vr q1), (2, vi p2), (3, vi p3), (4, vi x4), (5, vi x5)] [] h (bo_bestToMakeExact_b40 th q1 p2 p3 k6 x4 x5 h) := by
  unfold bo_bestToMakeExact_b40
  refine j_iinc 5 (lv' := [(5, vi (x5 + 1)), (0, vr th), (1, vr q1), (2, vi p2), (3, vi p3), (4, vi x4)]) dX0_bestToMakeExact_40 rfl (by decide) rfl ?_
  refine j_goto (tgt := 6) dX0_bestToMakeExact_43 (by decide) ?_
  refine j_sub [1, 2, 3, 4, 5, 0] rfl ?_
  exact hk6 _ _ _

set_option maxRecDepth 100000 in
set_option maxHeartbeats 4000000 in
theorem jl_bo_bestToMakeExact_6 {lay : List LK} {th : Nat} {q1 : Nat} {p2 : Int} {p3 : Int}  (hs : sub lay th blkBounds) (hq1 : sub lay q1 blkDrawing)  : ∀ (n : Nat) (x4 x5 : Int) (h : Hp), J mi_bo_bestToMakeExact encI (Same lay) lay 0 0 6 [(0, vr th), (1, vr q1), (2, vi p2), (3, vi p3), (4, vi x4), (5, vi x5)] [] h (iter2 (bo_bestToMakeExact_f6 th q1 p2 p3) n x4 x5 h) := by
  refine j_iter2 (lf := fun x4 x5 => [(0, vr th), (1, vr q1), (2, vi p2), (3, vi p3), (4, vi x4), (5, vi x5)]) (fun k6 hk6 x4 x5 h => ?_)
  unfold bo_bestToMakeExact_f6
  refine j_iload 5 dX0_bestToMakeExact_6 rfl ?_
  refine j_aload_n 0 dX0_bestToMakeExact_8 rfl ?_
  refine j_getI 5 5 dX0_bestToMakeExact_9 zc_0 rfl (sub_k hs 0 rfl rfl) (by decide) lk_X0_31 rfl rfl ?_
  refine j_icmp_ge (tgt := 46) dX0_bestToMakeExact_12 (by decide) ?_ ?_
  · refine j_aload_n 0 dX0_bestToMakeExact_15 rfl ?_
    refine j_aload_n 1 dX0_bestToMakeExact_16 rfl ?_
    refine j_iload 5 dX0_bestToMakeExact_17 rfl ?_
    refine j_iload_n 2 dX0_bestToMakeExact_19 rfl ?_
    refine j_iload_n 3 dX0_bestToMakeExact_20 rfl ?_
    refine j_cV (stk := []) [vr q1, vi x5, vi p2, vi p3] th dX0_bestToMakeExact_21 mv_bo_gain lm_X0_78 (sub_k hs 0 rfl rfl) zc_0 (ct_bo_gain hs hq1 h) rfl rfl ⟨⟨Nat.le_of_ble_eq_true rfl, Nat.le_of_ble_eq_true rfl⟩, Nat.le_of_ble_eq_true rfl, Nat.le_of_ble_eq_true rfl⟩ (Nat.le_of_ble_eq_true rfl) rfl rfl (fun r1 h1 _ => ?_)
    refine j_aload_n 0 dX0_bestToMakeExact_24 rfl ?_
    refine j_aload_n 1 dX0_bestToMakeExact_25 rfl ?_
    refine j_iload 4 dX0_bestToMakeExact_26 rfl ?_
    refine j_iload_n 2 dX0_bestToMakeExact_28 rfl ?_
    refine j_iload_n 3 dX0_bestToMakeExact_29 rfl ?_
    refine j_cV (stk := [vi r1]) [vr q1, vi x4, vi p2, vi p3] th dX0_bestToMakeExact_30 mv_bo_gain lm_X0_78 (sub_k hs 0 rfl rfl) zc_0 (ct_bo_gain hs hq1 h1) rfl rfl ⟨⟨Nat.le_of_ble_eq_true rfl, Nat.le_of_ble_eq_true rfl⟩, Nat.le_of_ble_eq_true rfl, Nat.le_of_ble_eq_true rfl⟩ (Nat.le_of_ble_eq_true rfl) rfl rfl (fun r2 h2 _ => ?_)
    refine j_icmp_le (tgt := 40) dX0_bestToMakeExact_33 (by decide) ?_ ?_
    · refine j_iload 5 dX0_bestToMakeExact_36 rfl ?_
      refine j_istore (lv' := [(4, vi x5), (0, vr th), (1, vr q1), (2, vi p2), (3, vi p3), (5, vi x5)]) dX0_bestToMakeExact_38 (by decide) rfl ?_
      refine j_sub [1, 2, 3, 4, 0, 5] rfl ?_
      exact jb_bo_bestToMakeExact_40 hs hq1 hk6 _ _ _
    · exact jb_bo_bestToMakeExact_40 hs hq1 hk6 _ _ _
  · refine j_iload 4 dX0_bestToMakeExact_46 rfl ?_
    exact j_retI (h0 := h) (r := 0) rfl rfl rfl dX0_bestToMakeExact_48 rfl ⟨Nat.le_refl _, Nat.le_refl _⟩ rfl

set_option maxRecDepth 100000 in
set_option maxHeartbeats 4000000 in
theorem ct_bo_bestToMakeExact {lay : List LK} {th : Nat} {q1 : Nat} {p2 : Int} {p3 : Int} (hs : sub lay th blkBounds) (hq1 : sub lay q1 blkDrawing) (h : Hp) : CT mi_bo_bestToMakeExact encI (Same lay) lay [vr th, vr q1, vi p2, vi p3] h (bo_bestToMakeExact th q1 p2 p3 h) := by
  refine CT.of (by decide) rfl (Nat.le_of_ble_eq_true rfl) ?_
  show J mi_bo_bestToMakeExact encI (Same lay) lay 0 0 0 [(0, vr th), (1, vr q1), (2, vi p2), (3, vi p3)] [] h _
  unfold bo_bestToMakeExact
  refine j_iconst (x := 0) dX0_bestToMakeExact_0 rfl (by decide) ?_
  refine j_istore (lv' := [(4, vi 0), (0, vr th), (1, vr q1), (2, vi p2), (3, vi p3)]) dX0_bestToMakeExact_1 (by decide) rfl ?_
  refine j_iconst (x := 1) dX0_bestToMakeExact_3 rfl (by decide) ?_
  refine j_istore (lv' := [(5, vi 1), (4, vi 0), (0, vr th), (1, vr q1), (2, vi p2), (3, vi p3)]) dX0_bestToMakeExact_4 (by decide) rfl ?_
  refine j_sub [2, 3, 4, 5, 1, 0] rfl ?_
  exact jl_bo_bestToMakeExact_6 hs hq1 fuel _ _ _

set_option maxRecDepth 100000 in
set_option maxHeartbeats 4000000 in
theorem jb_bo_countLeft_38 {lay : List LK} {th : Nat} {k16 : Int → Int → Hp → O Int} (hs : sub lay th blkBounds) (hk16 : ∀ (x1 x2 : Int) (h : Hp), J mi_bo_countLeft encI (Same lay) lay 0 0 16 [(0, vr th), (1, vi x1), (2, vi x2)] [] h (k16 x1 x2 h)) (x1 x2 : Int) (h : Hp) : J mi_bo_countLeft encI (Same lay) lay 0 0 38 [(0, vr th), (1, vi x1), (2, vi x2)] [] h (bo_countLeft_b38 th k16 x1 x2 h) := by
  unfold bo_countLeft_b38
  refine j_iinc 2 (lv' := [(2, vi (x2 + (-1))), (0, vr th), (1, vi x1)]) dX0_countLeft_38 rfl (by decide) rfl ?_
  refine j_goto (tgt := 16) dX0_countLeft_41 (by decide) ?_
  refine j_sub [1, 2, 0] rfl ?_
  exact hk16 _ _ _

set_option maxRecDepth 100000 in
set_option maxHeartbeats 4000000 in
theorem jl_bo_countLeft_16 {lay : List LK} {th : Nat}  (hs : sub lay th blkBounds)  : ∀ (n : Nat) (x1 x2 : Int) (h : Hp), J mi_bo_countLeft encI (Same lay) lay 0 0 16 [(0, vr th), (1, vi x1), (2, vi x2)] [] h (iter2 (bo_countLeft_f16 th) n x1 x2 h) := by
  refine j_iter2 (lf := fun x1 x2 => [(0, vr th), (1, vi x1), (2, vi x2)]) (fun k16 hk16 x1 x2 h => ?_)
  unfold bo_countLeft_f16
  refine j_iload_n 2 dX0_countLeft_16 rfl ?_
  refine j_if_lt (tgt := 44) dX0_countLeft_17 (by decide) ?_ ?_
  · refine j_iload_n 1 dX0_countLeft_44 rfl ?_
    exact j_retI (h0 := h) (r := 0) rfl rfl rfl dX0_countLeft_45 rfl ⟨Nat.le_refl _, Nat.le_refl _⟩ rfl
  · refine j_aload_n 0 dX0_countLeft_20 rfl ?_
    refine j_iload_n 2 dX0_countLeft_21 rfl ?_
    refine j_cV (stk := []) [vi x2] th dX0_countLeft_22 mv_bo_isSuperfluous lm_X0_69 (sub_k hs 0 rfl rfl) zc_0 (ct_bo_isSuperfluous hs h) rfl rfl ⟨⟨Nat.le_of_ble_eq_true rfl, Nat.le_of_ble_eq_true rfl⟩, Nat.le_of_ble_eq_true rfl, Nat.le_of_ble_eq_true rfl⟩ (Nat.le_of_ble_eq_true rfl) rfl rfl (fun r1 h1 _ => ?_)
    refine j_if_eq (tgt := 38) dX0_countLeft_25 (by decide) ?_ ?_
    · exact jb_bo_countLeft_38 hs hk16 _ _ _
    · refine j_aload_n 0 dX0_countLeft_28 rfl ?_
      refine j_getR 6 16 3 dX0_countLeft_29 zc_0 rfl (sub_k hs 0 rfl rfl) (by decide) lk_X0_34 rfl (by decide) (rfl : th + 16 = (th + 16)) ?_
      refine j_iload_n 2 dX0_countLeft_32 rfl ?_
      refine j_iconst (x := 1) dX0_countLeft_33 rfl (by decide) ?_
      refine j_zast dX0_countLeft_34 (sub_k hs 16 rfl rfl) rfl (fun h2 _ => ?_)
      refine j_iinc 1 (lv' := [(1, vi (x1 + (-1))), (0, vr th), (2, vi x2)]) dX0_countLeft_35 rfl (by decide) rfl ?_
      refine j_sub [1, 0, 2] rfl ?_
      exact jb_bo_countLeft_38 hs hk16 _ _ _

set_option maxRecDepth 100000 in
set_option maxHeartbeats 4000000 in
theorem ct_bo_countLeft {lay : List LK} {th : Nat} (hs : sub lay th blkBounds) (h : Hp) : CT mi_bo_countLeft encI (Same lay) lay [vr th] h (bo_countLeft th h) := by
  refine CT.of (by decide) rfl (Nat.le_of_ble_eq_true rfl) ?_
  show J mi_bo_countLeft encI (Same lay) lay 0 0 0 [(0, vr th)] [] h _
  unfold bo_countLeft
  refine j_aload_n 0 dX0_countLeft_0 rfl ?_
  refine j_cV (stk := []) [] th dX0_countLeft_1 mv_bo_removeNone lm_X0_53 (sub_k hs 0 rfl rfl) zc_0 (ct_bo_removeNone hs h) rfl rfl ⟨⟨Nat.le_of_ble_eq_true rfl, Nat.le_of_ble_eq_true rfl⟩, Nat.le_of_ble_eq_true rfl, Nat.le_of_ble_eq_true rfl⟩ (Nat.le_of_ble_eq_true rfl) rfl rfl (fun _ h1 _ => ?_)
  refine j_aload_n 0 dX0_countLeft_4 rfl ?_
  refine j_getI 5 5 dX0_countLeft_5 zc_0 rfl (sub_k hs 0 rfl rfl) (by decide) lk_X0_31 rfl rfl ?_
  refine j_istore_n (lv' := [(1, vi (h1 th 5)), (0, vr th)]) dX0_countLeft_8 (by decide) rfl ?_
  refine j_aload_n 1 dX0_countLeft_9 rfl ?_
  refine j_getI 5 5 dX0_countLeft_10 zc_0 rfl (sub_k hs 0 rfl rfl) (by decide) lk_X0_31 rfl rfl ?_
  refine j_iconst (x := 1) dX0_countLeft_13 rfl (by decide) ?_
  refine j_isub dX0_countLeft_14 ?_
  refine j_istore_n (lv' := [(2, vi ((h1 th 5) - 1)), (1, vi (h1 th 5)), (0, vr th)]) dX0_countLeft_15 (by decide) rfl ?_
  refine j_sub [2, 1, 0] rfl ?_
  exact jl_bo_countLeft_16 hs fuel _ _ _


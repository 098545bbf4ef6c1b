set_option maxRecDepth 100000 in
set_option maxHeartbeats 4000000 in
theorem jl_ja_fill_5 {lay : List LK} {q0 : Nat} {n0 : Nat} {p1 : Int}  (hq0 : lay[q0]? = some (0, n0, 0, 0)) (hn0 : inR (n0 : Int))  : ∀ (n : Nat) (x2 x3 : Int) (h : Hp), J mi_ja_fill encV (Same lay) lay 0 0 5 [(0, vr q0), (1, vi p1), (2, vi x2), (3, vi x3)] [] h (iter2 (ja_fill_f5 q0 n0 p1) n x2 x3 h) := by
  refine j_iter2 (lf := fun x2 x3 => [(0, vr q0), (1, vi p1), (2, vi x2), (3, vi x3)]) (fun k5 hk5 x2 x3 h => ?_)
  unfold ja_fill_f5
  refine j_iload_n 2 dJ7_fill_53178_5 rfl ?_
  refine j_iload_n 3 dJ7_fill_53178_6 rfl ?_
  refine j_icmp_ge (tgt := 20) dJ7_fill_53178_7 (by decide) ?_ ?_
  · refine j_aload_n 0 dJ7_fill_53178_10 rfl ?_
    refine j_iload_n 2 dJ7_fill_53178_11 rfl ?_
    refine j_iload_n 1 dJ7_fill_53178_12 rfl ?_
    refine j_iast dJ7_fill_53178_13 hq0 rfl (fun h1 _ => ?_)
    refine j_iinc 2 (lv' := [(2, vi (x2 + 1)), (0, vr q0), (1, vi p1), (3, vi x3)]) dJ7_fill_53178_14 rfl (by decide) rfl ?_
    refine j_goto (tgt := 5) dJ7_fill_53178_17 (by decide) ?_
    refine j_sub [1, 2, 0, 3] rfl ?_
    exact hk5 _ _ _
  · exact j_retV rfl rfl rfl dJ7_fill_53178_20 rfl ⟨Nat.le_refl _, Nat.le_refl _⟩ rfl

set_option maxRecDepth 100000 in
set_option maxHeartbeats 4000000 in
theorem ct_ja_fill {lay : List LK} {q0 : Nat} {n0 : Nat} {p1 : Int} (hq0 : lay[q0]? = some (0, n0, 0, 0)) (hn0 : inR (n0 : Int)) (h : Hp) : CT mi_ja_fill encV (Same lay) lay [vr q0, vi p1] h (ja_fill q0 n0 p1 h) := by
  refine CT.of (by decide) rfl (Nat.le_of_ble_eq_true rfl) ?_
  show J mi_ja_fill encV (Same lay) lay 0 0 0 [(0, vr q0), (1, vi p1)] [] h _
  unfold ja_fill
  refine j_iconst (x := 0) dJ7_fill_53178_0 rfl (by decide) ?_
  refine j_istore_n (lv' := [(2, vi 0), (0, vr q0), (1, vi p1)]) dJ7_fill_53178_1 (by decide) rfl ?_
  refine j_aload_n 1 dJ7_fill_53178_2 rfl ?_
  refine j_alen (nI := (n0 : Int)) dJ7_fill_53178_3 hq0 rfl hn0 ?_
  refine j_istore_n (lv' := [(3, vi (n0 : Int)), (2, vi 0), (0, vr q0), (1, vi p1)]) dJ7_fill_53178_4 (by decide) rfl ?_
  refine j_sub [2, 3, 1, 0] rfl ?_
  exact jl_ja_fill_5 hq0 hn0 fuel _ _ _

set_option maxRecDepth 100000 in
set_option maxHeartbeats 4000000 in
theorem jb_dl_isWithin_15 {lay : List LK} {p0 : Int} {p1 : Int} {p2 : Int}    (s0 : Int) (h : Hp) : J mi_dl_isWithin encI (Same lay) lay 0 0 15 [] [vi s0] h (dl_isWithin_b15 p0 p1 p2 s0 h) := by
  unfold dl_isWithin_b15
  exact j_retZ rfl rfl rfl dX5_isWithin_15 rfl ⟨Nat.le_refl _, Nat.le_refl _⟩ rfl

set_option maxRecDepth 100000 in
set_option maxHeartbeats 4000000 in
theorem jb_dl_isWithin_14 {lay : List LK} {p0 : Int} {p1 : Int} {p2 : Int}    (h : Hp) : J mi_dl_isWithin encI (Same lay) lay 0 0 14 [] [] h (dl_isWithin_b14 p0 p1 p2 h) := by
  unfold dl_isWithin_b14
  refine j_iconst (x := 0) dX5_isWithin_14 rfl (by decide) ?_
  exact jb_dl_isWithin_15  _ _

set_option maxRecDepth 100000 in
set_option maxHeartbeats 4000000 in
theorem ct_dl_isWithin {lay : List LK} {p0 : Int} {p1 : Int} {p2 : Int}  (h : Hp) : CT mi_dl_isWithin encI (Same lay) lay [vi p0, vi p1, vi p2] h (dl_isWithin p0 p1 p2 h) := by
  refine CT.of (by decide) rfl (Nat.le_of_ble_eq_true rfl) ?_
  show J mi_dl_isWithin encI (Same lay) lay 0 0 0 [(0, vi p0), (1, vi p1), (2, vi p2)] [] h _
  unfold dl_isWithin
  refine j_iload_n 1 dX5_isWithin_0 rfl ?_
  refine j_iload_n 0 dX5_isWithin_1 rfl ?_
  refine j_icmp_gt (tgt := 14) dX5_isWithin_2 (by decide) ?_ ?_
  · refine j_sub [] rfl ?_
    exact jb_dl_isWithin_14  _
  · refine j_iload_n 0 dX5_isWithin_5 rfl ?_
    refine j_iload_n 2 dX5_isWithin_6 rfl ?_
    refine j_icmp_gt (tgt := 14) dX5_isWithin_7 (by decide) ?_ ?_
    · refine j_sub [] rfl ?_
      exact jb_dl_isWithin_14  _
    · refine j_iconst (x := 1) dX5_isWithin_10 rfl (by decide) ?_
      refine j_goto (tgt := 15) dX5_isWithin_11 (by decide) ?_
      refine j_sub [] rfl ?_
      exact jb_dl_isWithin_15  _ _


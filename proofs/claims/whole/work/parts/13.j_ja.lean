set_option maxRecDepth 100000 in
set_option maxHeartbeats 4000000 in
theorem jl_ja_fill_5 {lay : List LK} {q0 : Nat} {n0 : Nat} {p1 : Int}  (hq0 : lay[q0]? = some (0, n0, 0, 0)) (hn0 : inR (n0 : Int))  : ∀ (n : Nat) (x2 x3 : Int) (h : Hp), J mi_ja_fill encV (Same lay) lay 0 0 5 [(0, vr q0), (1, vi p1), (2, vi x2), (3, vi x3)] [] h (iter2 (ja_fill_f5 q0 n0 p1) n x2 x3 h) := by
  refine j_iter2 (lf := fun x2 x3 => [(0, vr q0), (1, vi p1), (2, vi x2), (3, vi x3)]) (fun k5 hk5 x2 x3 h => ?_)
  unfold ja_fill_f5
  refine j_iload_n 2 dJ7_fill_53178_5 rfl ?_
  refine j_iload_n 3 dJ7_fill_53178_6 rfl ?_
  refine j_icmp_ge (tgt := 20) dJ7_fill_53178_7 (by decide) ?_ ?_
  · refine j_aload_n 0 dJ7_fill_53178_10 rfl ?_
    refine j_iload_n 2 dJ7_fill_53178_11 rfl ?_
    refine j_iload_n 1 dJ7_fill_53178_12 rfl ?_
    refine j_iast dJ7_fill_53178_13 hq0 rfl (fun h1 _ => ?_)
    refine j_iinc 2 (lv' := [(2, vi (x2 + 1)), (0, vr q0), (1, vi p1), (3, vi x3)]) dJ7_fill_53178_14 rfl (by decide) rfl ?_
    refine j_goto (tgt := 5) dJ7_fill_53178_17 (by decide) ?_
    refine j_sub [1, 2, 0, 3] rfl ?_
    exact hk5 _ _ _
  · exact j_retV rfl rfl rfl dJ7_fill_53178_20 rfl ⟨Nat.le_refl _, Nat.le_refl _⟩ rfl

set_option maxRecDepth 100000 in
set_option maxHeartbeats 4000000 in
theorem ct_ja_fill {lay : List LK} {q0 : Nat} {n0 : Nat} {p1 : Int} (hq0 : lay[q0]? = some (0, n0, 0, 0)) (hn0 : inR (n0 : Int)) (h : Hp) : CT mi_ja_fill encV (Same lay) lay [vr q0, vi p1] h (ja_fill q0 n0 p1 h) := by
  refine CT.of (by decide) rfl (Nat.le_of_ble_eq_true rfl) ?_
  show J mi_ja_fill encV (Same lay) lay 0 0 0 [(0, vr q0), (1, vi p1)] [] h _
  unfold ja_fill
  refine j_iconst (x := 0) dJ7_fill_53178_0 rfl (by decide) ?_
  refine j_istore_n (lv' := [(2, vi 0), (0, vr q0), (1, vi p1)]) dJ7_fill_53178_1 (by decide) rfl ?_
  refine j_aload_n 1 dJ7_fill_53178_2 rfl ?_
  refine j_alen (nI := (n0 : Int)) dJ7_fill_53178_3 hq0 rfl hn0 ?_
  refine j_istore_n (lv' := [(3, vi (n0 : Int)), (2, vi 0), (0, vr q0), (1, vi p1)]) dJ7_fill_53178_4 (by decide) rfl ?_
  refine j_sub [2, 3, 1, 0] rfl ?_
  exact jl_ja_fill_5 hq0 hn0 fuel _ _ _


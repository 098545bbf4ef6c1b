theorem new_at {lay : List LK} {k : LK} {a : Nat} (ha : lay.length = a) : (lay ++ [k])[a]? = some k := by
  subst ha
  simp
set_option maxRecDepth 100000 in
set_option maxHeartbeats 4000000 in
theorem ct_lw_lanes {lay : List LK} {q0 a : Nat} (hq0 : sub lay q0 blkLines) (ha : lay.length = a) (h : Hp) : CT mi_lw_lanes encI (fun l => l = lay ++ [(0, 16, 0, 0)]) lay [vr q0] h (lw_lanes q0 a h) := by
  refine CT.of (by decide) rfl (Nat.le_of_ble_eq_true rfl) ?_
  show J mi_lw_lanes encI _ lay 0 0 0 [(0, vr q0)] [] h _
  unfold lw_lanes
  refine j_aload_n 0 dL_lanes_0 rfl ?_
  refine j_iconst (x := 1) dL_lanes_1 rfl (by decide) ?_
  refine j_cV (stk := []) [vi 1] q0 dL_lanes_2 mv_dl_count lm_L_42 (sub_k hq0 0 rfl rfl) zc_5 (ct_dl_count hq0 h) rfl rfl ⟨⟨Nat.le_of_ble_eq_true rfl, Nat.le_of_ble_eq_true rfl⟩, Nat.le_of_ble_eq_true rfl, Nat.le_of_ble_eq_true rfl⟩ (Nat.le_of_ble_eq_true rfl) rfl rfl (fun r1 h1 _ => ?_)
  refine j_istore_n (lv' := [(1, vi r1), (0, vr q0)]) dL_lanes_5 (by decide) rfl ?_
  refine j_bipush (x := 16) dL_lanes_6 (by decide) (by decide) ?_
  refine j_lay (lay' := lay ++ []) (List.append_nil lay) ?_
  refine j_newI (n := 16) (a' := a) dL_lanes_8 kac_int rfl (Nat.le_of_ble_eq_true rfl) (Nat.le_of_ble_eq_true rfl) (Nat.le_of_ble_eq_true rfl) ha (fun h2 _ => ?_)
  refine j_lay (lay' := lay ++ [(0, 16, 0, 0)]) rfl ?_
  refine j_astore_n (lv' := [(2, vr a), (1, vi r1), (0, vr q0)]) dL_lanes_10 (by decide) rfl ?_
  refine j_sub [2, 1, 0] rfl ?_
  exact jb_lw_lanes_11 (sub_app hq0) (new_at ha) h2
set_option maxRecDepth 100000 in
set_option maxHeartbeats 4000000 in
theorem ct_lw_witnesses {lay : List LK} {q0 a : Nat} (hq0 : sub lay q0 blkLines) (ha : lay.length = a) (h : Hp) : CT mi_lw_witnesses encI (fun l => l = lay ++ [(0, 16, 0, 0)]) lay [vr q0] h (lw_witnesses q0 a h) := by
  refine CT.of (by decide) rfl (Nat.le_of_ble_eq_true rfl) ?_
  show J mi_lw_witnesses encI _ lay 0 0 0 [(0, vr q0)] [] h _
  unfold lw_witnesses
  refine j_iconst (x := 0) dL_witnesses_0 rfl (by decide) ?_
  refine j_istore_n (lv' := [(1, vi 0), (0, vr q0)]) dL_witnesses_1 (by decide) rfl ?_
  refine j_bipush (x := 16) dL_witnesses_2 (by decide) (by decide) ?_
  refine j_lay (lay' := lay ++ []) (List.append_nil lay) ?_
  refine j_newI (n := 16) (a' := a) dL_witnesses_4 kac_int rfl (Nat.le_of_ble_eq_true rfl) (Nat.le_of_ble_eq_true rfl) (Nat.le_of_ble_eq_true rfl) ha (fun h1 _ => ?_)
  refine j_lay (lay' := lay ++ [(0, 16, 0, 0)]) rfl ?_
  refine j_astore_n (lv' := [(2, vr a), (1, vi 0), (0, vr q0)]) dL_witnesses_6 (by decide) rfl ?_
  refine j_sub [2, 1, 0] rfl ?_
  exact jb_lw_witnesses_7 0 (sub_app hq0) (new_at ha) h1
set_option maxRecDepth 100000 in
set_option maxHeartbeats 4000000 in
theorem ct_lw_isSuperfluous {lay : List LK} {q0 a : Nat} {p1 : Int} (hq0 : sub lay q0 blkLines) (ha : lay.length = a) (h : Hp) : CT mi_lw_isSuperfluous encI (fun l => l = lay ++ [(0, 12, 0, 0)]) lay [vr q0, vi p1] h (lw_isSuperfluous q0 p1 a h) := by
  refine CT.of (by decide) rfl (Nat.le_of_ble_eq_true rfl) ?_
  show J mi_lw_isSuperfluous encI _ lay 0 0 0 [(0, vr q0), (1, vi p1)] [] h _
  unfold lw_isSuperfluous
  refine j_bipush (x := 12) dL_isSuperfluous_0 (by decide) (by decide) ?_
  refine j_lay (lay' := lay ++ []) (List.append_nil lay) ?_
  refine j_newI (n := 12) (a' := a) dL_isSuperfluous_2 kac_int rfl (Nat.le_of_ble_eq_true rfl) (Nat.le_of_ble_eq_true rfl) (Nat.le_of_ble_eq_true rfl) ha (fun h1 _ => ?_)
  refine j_lay (lay' := lay ++ [(0, 12, 0, 0)]) rfl ?_
  refine j_astore_n (lv' := [(2, vr a), (0, vr q0), (1, vi p1)]) dL_isSuperfluous_4 (by decide) rfl ?_
  refine j_sub [1, 2, 0] rfl ?_
  exact jb_lw_isSuperfluous_5 (sub_app hq0) (new_at ha) h1
abbrev lay3 (lay : List LK) (k : Nat) : List LK := lay ++ ([(0, 12, 0, 0), (0, 12, 0, 0), (0, 12, 0, 0)] ++ List.replicate k (0, 12, 0, 0))
theorem lay3_at {lay : List LK} {a k : Nat} (ha : lay.length = a) (i : Nat) (hi : i < 3) : (lay3 lay k)[a + i]? = some (0, 12, 0, 0) := by
  subst ha
  rw [List.getElem?_append_right (Nat.le_add_right _ _), Nat.add_sub_cancel_left, List.getElem?_append_left (by simpa using hi)]
  match i, hi with
  | 0, _ => rfl
  | 1, _ => rfl
  | 2, _ => rfl
theorem lay3_len {lay : List LK} {a k : Nat} (ha : lay.length = a) : (lay3 lay k).length = a + 3 + k := by
  subst ha
  simp only [List.length_append, List.length_cons, List.length_nil, List.length_replicate]
  omega
theorem lay3_succ {lay : List LK} {k : Nat} : lay3 lay (k + 1) = lay3 lay k ++ [(0, 12, 0, 0)] := by
  unfold lay3
  rw [List.replicate_succ', List.append_assoc, List.append_assoc]
set_option maxRecDepth 100000 in
set_option maxHeartbeats 4000000 in
theorem jl_lw_tol1 {lay : List LK} {q0 : Nat} {x1 x2 : Int} {a : Nat} (hq0 : sub lay q0 blkLines) (ha : lay.length = a) : ∀ (n : Nat) (x6 x7 : Int) (h : Hp), J mi_lw_tolerances encI (fun l => ∃ e, l = lay ++ e) (lay3 lay x7.toNat) (3 + x7.toNat) (36 + 12 * x7.toNat) 29 [(0, vr q0), (1, vi x1), (2, vi x2), (3, vr a), (4, vr (a + 1)), (5, vr (a + 2)), (6, vi x6), (7, vi x7)] [] h (iter2 (lw_tol1 q0 x1 x2 a) n x6 x7 h)
  | 0, x6, x7, h => fun _ _ _ _ _ _ _ _ _ _ _ _ _ _ _ _ _ _ _ _ hE => by cases hE
  | n + 1, x6, x7, h => by
    show J _ _ _ _ _ _ _ _ _ h (lw_tol1 q0 x1 x2 a (iter2 (lw_tol1 q0 x1 x2 a) n) x6 x7 h)
    unfold lw_tol1
    refine j_ix (fun hx => ?_)
    have hsq : sub (lay3 lay x7.toNat) q0 blkLines := sub_app hq0
    have h3 := lay3_at (k := x7.toNat) ha 0 (by decide)
    have h4 := lay3_at (k := x7.toNat) ha 1 (by decide)
    have h5 := lay3_at (k := x7.toNat) ha 2 (by decide)
    rw [Nat.add_zero] at h3
    refine j_iload 7 dL_tolerances_29 rfl ?_
    refine j_aload_n 0 dL_tolerances_31 rfl ?_
    refine j_iconst (x := 1) dL_tolerances_32 rfl (by decide) ?_
    refine j_cV (stk := [vi x7]) [vi 1] q0 dL_tolerances_33 mv_dl_count lm_L_42 (sub_k hsq 0 rfl rfl) zc_5 (ct_dl_count hsq h) rfl rfl ⟨⟨Nat.le_of_ble_eq_true rfl, Nat.le_of_ble_eq_true rfl⟩, by show 3 + x7.toNat + 0 ≤ 20; omega, by show 36 + 12 * x7.toNat + 0 ≤ 240; omega⟩ (Nat.le_of_ble_eq_true rfl) rfl rfl (fun r1 h1 _ => ?_)
    refine j_icmp_ge (tgt := 91) dL_tolerances_36 (by decide) ?_ ?_
    · refine j_aload_n 0 dL_tolerances_39 rfl ?_
      refine j_iload 7 dL_tolerances_40 rfl ?_
      refine j_callS (mi2 := mi_lw_isSuperfluous) (enc2 := encI) (FL2 := fun l => l = lay3 lay x7.toNat ++ [(0, 12, 0, 0)]) (stk := []) [vr q0, vi x7] dL_tolerances_42 mv_lw_isSuperfluous.1 mv_lw_isSuperfluous.2 lm_L_68 (ct_lw_isSuperfluous hsq (lay3_len ha) h1) rfl rfl ⟨⟨Nat.le_of_ble_eq_true rfl, Nat.le_of_ble_eq_true rfl⟩, by show 3 + x7.toNat + 1 ≤ 20; omega, by show 36 + 12 * x7.toNat + 12 ≤ 240; omega⟩ (Nat.le_of_ble_eq_true rfl) (fun r2 h2 lay' hL _ => ?_)
      subst hL
      refine jb_lw_tol2_45 x6 x7 r2 (sub_app hsq) (at_app h3) (at_app h4) (at_app h5) ⟨_, List.append_assoc _ _ _⟩ (by show 3 + x7.toNat + 1 ≤ 20; omega) (by show 36 + 12 * x7.toNat + 12 ≤ 240; omega) (fun y6 y7 hh => ?_) h2
      by_cases hy : y7 = x7 + 1
      · have e7 : y7.toNat = x7.toNat + 1 := by omega
        have hJ := jl_lw_tol1 (x1 := x1) (x2 := x2) hq0 ha n y6 y7 hh
        rw [e7, lay3_succ] at hJ
        show J _ _ _ _ _ _ _ _ _ _ (if y7 = x7 + 1 then iter2 (lw_tol1 q0 x1 x2 a) n y6 y7 hh else none)
        rw [if_pos hy]
        exact j_cnt (by show 3 + x7.toNat + 1 = _; omega) (by show 36 + 12 * x7.toNat + 12 = _; omega) hJ
      · show J _ _ _ _ _ _ _ _ _ _ (if y7 = x7 + 1 then iter2 (lw_tol1 q0 x1 x2 a) n y6 y7 hh else none)
        rw [if_neg hy]
        exact fun _ _ _ _ _ _ _ _ _ _ _ _ _ _ _ _ _ _ _ _ hE => by cases hE
    · refine j_widen (nc' := 20) (ns' := 240) (by show 3 + x7.toNat ≤ 20; omega) (by show 36 + 12 * x7.toNat ≤ 240; omega) ?_
      refine j_sub [0, 1, 2, 3, 4, 5, 6] rfl ?_
      exact jb_lw_tolerances_91 hsq h3 h4 h5 ⟨_, rfl⟩ _
set_option maxRecDepth 100000 in
set_option maxHeartbeats 4000000 in
theorem ct_lw_tolerances {lay : List LK} {q0 a : Nat} {p1 : Int} (hq0 : sub lay q0 blkLines) (ha : lay.length = a) (h : Hp) : CT mi_lw_tolerances encI (fun l => ∃ e, l = lay ++ e) lay [vr q0, vi p1] h (lw_tolerances q0 p1 a h) := by
  refine CT.of (by decide) rfl (Nat.le_of_ble_eq_true rfl) ?_
  show J mi_lw_tolerances encI _ lay 0 0 0 [(0, vr q0), (1, vi p1)] [] h _
  unfold lw_tolerances
  refine j_aload_n 0 dL_tolerances_0 rfl ?_
  refine j_iconst (x := 0) dL_tolerances_1 rfl (by decide) ?_
  refine j_cV (stk := []) [vi 0] q0 dL_tolerances_2 mv_dl_count lm_L_42 (sub_k hq0 0 rfl rfl) zc_5 (ct_dl_count hq0 h) rfl rfl ⟨⟨Nat.le_of_ble_eq_true rfl, Nat.le_of_ble_eq_true rfl⟩, Nat.le_of_ble_eq_true rfl, Nat.le_of_ble_eq_true rfl⟩ (Nat.le_of_ble_eq_true rfl) rfl rfl (fun r1 h1 _ => ?_)
  refine j_istore_n (lv' := [(2, vi r1), (0, vr q0), (1, vi p1)]) dL_tolerances_5 (by decide) rfl ?_
  refine j_bipush (x := 12) dL_tolerances_6 (by decide) (by decide) ?_
  refine j_lay (lay' := lay ++ []) (List.append_nil lay) ?_
  refine j_newI (n := 12) (a' := a) dL_tolerances_8 kac_int rfl (Nat.le_of_ble_eq_true rfl) (Nat.le_of_ble_eq_true rfl) (Nat.le_of_ble_eq_true rfl) ha (fun h2 _ => ?_)
  refine j_astore_n (lv' := [(3, vr a), (2, vi r1), (0, vr q0), (1, vi p1)]) dL_tolerances_10 (by decide) rfl ?_
  refine j_bipush (x := 12) dL_tolerances_11 (by decide) (by decide) ?_
  refine j_newI (n := 12) (a' := a + 1) dL_tolerances_13 kac_int rfl (Nat.le_of_ble_eq_true rfl) (Nat.le_of_ble_eq_true rfl) (Nat.le_of_ble_eq_true rfl) (by rw [ha]; rfl) (fun h3 _ => ?_)
  refine j_astore (lv' := [(4, vr (a + 1)), (3, vr a), (2, vi r1), (0, vr q0), (1, vi p1)]) dL_tolerances_15 (by decide) rfl ?_
  refine j_bipush (x := 12) dL_tolerances_17 (by decide) (by decide) ?_
  refine j_newI (n := 12) (a' := a + 2) dL_tolerances_19 kac_int rfl (Nat.le_of_ble_eq_true rfl) (Nat.le_of_ble_eq_true rfl) (Nat.le_of_ble_eq_true rfl) (by rw [ha]; rfl) (fun h4 _ => ?_)
  refine j_astore (lv' := [(5, vr (a + 2)), (4, vr (a + 1)), (3, vr a), (2, vi r1), (0, vr q0), (1, vi p1)]) dL_tolerances_21 (by decide) rfl ?_
  refine j_iconst (x := 0) dL_tolerances_23 rfl (by decide) ?_
  refine j_istore (lv' := [(6, vi 0), (5, vr (a + 2)), (4, vr (a + 1)), (3, vr a), (2, vi r1), (0, vr q0), (1, vi p1)]) dL_tolerances_24 (by decide) rfl ?_
  refine j_iconst (x := 0) dL_tolerances_26 rfl (by decide) ?_
  refine j_istore (lv' := [(7, vi 0), (6, vi 0), (5, vr (a + 2)), (4, vr (a + 1)), (3, vr a), (2, vi r1), (0, vr q0), (1, vi p1)]) dL_tolerances_27 (by decide) rfl ?_
  refine j_sub [6, 7, 5, 4, 3, 2, 1, 0] rfl ?_
  exact jl_lw_tol1 hq0 ha fuel 0 0 h4
set_option maxRecDepth 100000 in
theorem blkLines_len : blkLines.length = 132 := rfl
set_option maxRecDepth 100000 in
set_option maxHeartbeats 4000000 in
theorem j_law_mid {L : Nat} {xs : Nat → Int32} (hL : inR (L : Int)) (h : Hp) : J (mi_lw L xs) encI (fun _ => True) blkLines 132 2015 136 [(0, vsc), (1, vr 0)] [] h (lw_mid L xs h) := by
  have hs0 : sub blkLines 0 blkLines := fun i k hk => by rw [Nat.zero_add]; exact hk
  unfold lw_mid
  refine j_aload_n 1 dL_law_136 rfl ?_
  refine j_callS (mi2 := mi_lw_lanes) (enc2 := encI) (FL2 := fun l => l = blkLines ++ [(0, 16, 0, 0)]) (stk := []) [vr 0] dL_law_137 mv_lw_lanes.1 mv_lw_lanes.2 lm_L_100 (ct_lw_lanes hs0 blkLines_len h) rfl rfl ⟨⟨Nat.le_of_ble_eq_true rfl, Nat.le_of_ble_eq_true rfl⟩, Nat.le_of_ble_eq_true rfl, Nat.le_of_ble_eq_true rfl⟩ (Nat.le_of_ble_eq_true rfl) (fun r1 h1 lay1 hL1 _ => ?_)
  have hs1 : sub lay1 0 blkLines := by rw [hL1]; exact sub_app hs0
  have hl1 : lay1.length = 133 := by rw [hL1, List.length_append, blkLines_len]; rfl
  refine j_if_eq (tgt := 163) dL_law_140 (by decide) ?_ ?_
  · refine j_iconst (x := 0) dL_law_163 rfl (by decide) ?_
    exact j_retLaw rfl rfl rfl dL_law_164 ⟨Nat.le_of_ble_eq_true rfl, Nat.le_of_ble_eq_true rfl⟩
  refine j_aload_n 1 dL_law_143 rfl ?_
  refine j_callS (mi2 := mi_lw_witnesses) (enc2 := encI) (FL2 := fun l => l = lay1 ++ [(0, 16, 0, 0)]) (stk := []) [vr 0] dL_law_144 mv_lw_witnesses.1 mv_lw_witnesses.2 lm_L_104 (ct_lw_witnesses hs1 hl1 h1) rfl rfl ⟨⟨Nat.le_of_ble_eq_true rfl, Nat.le_of_ble_eq_true rfl⟩, Nat.le_of_ble_eq_true rfl, Nat.le_of_ble_eq_true rfl⟩ (Nat.le_of_ble_eq_true rfl) (fun r2 h2 lay2 hL2 _ => ?_)
  have hs2 : sub lay2 0 blkLines := by rw [hL2]; exact sub_app hs1
  have hl2 : lay2.length = 134 := by rw [hL2, List.length_append, hl1]; rfl
  refine j_if_eq (tgt := 163) dL_law_147 (by decide) ?_ ?_
  · refine j_iconst (x := 0) dL_law_163 rfl (by decide) ?_
    exact j_retLaw rfl rfl rfl dL_law_164 ⟨Nat.le_of_ble_eq_true rfl, Nat.le_of_ble_eq_true rfl⟩
  refine j_aload_n 1 dL_law_150 rfl ?_
  refine j_sload_n 0 dL_law_151 rfl ?_
  refine j_bipush (x := 31) dL_law_152 (by decide) (by decide) ?_
  refine j_cSs rfl (stk := [vr 0]) [vsc, vi 31] dL_law_154 mv_lw_cell lm_L_10 (ct_lw_cell hL h2) rfl rfl ⟨⟨Nat.le_of_ble_eq_true rfl, Nat.le_of_ble_eq_true rfl⟩, Nat.le_of_ble_eq_true rfl, Nat.le_of_ble_eq_true rfl⟩ (Nat.le_of_ble_eq_true rfl) rfl rfl (fun r3 h3 _ => ?_)
  refine j_callS (mi2 := mi_lw_tolerances) (enc2 := encI) (FL2 := fun l => ∃ e, l = lay2 ++ e) (stk := []) [vr 0, vi r3] dL_law_157 mv_lw_tolerances.1 mv_lw_tolerances.2 lm_L_107 (ct_lw_tolerances hs2 hl2 h3) rfl rfl ⟨⟨Nat.le_of_ble_eq_true rfl, Nat.le_of_ble_eq_true rfl⟩, Nat.le_of_ble_eq_true rfl, Nat.le_of_ble_eq_true rfl⟩ (Nat.le_of_ble_eq_true rfl) (fun r4 h4 lay3 hL3 _ => ?_)
  have hs3 : sub lay3 0 blkLines := by
    obtain ⟨e, rfl⟩ := hL3
    exact sub_app hs2
  refine j_if_ne (tgt := 165) dL_law_160 (by decide) ?_ ?_
  · refine j_iconst (x := 0) dL_law_163 rfl (by decide) ?_
    exact j_retLaw rfl rfl rfl dL_law_164 ⟨Nat.le_of_ble_eq_true rfl, Nat.le_of_ble_eq_true rfl⟩
  refine j_sub [1] rfl ?_
  exact jb_lw_law_165 hs3 _
set_option maxRecDepth 100000 in
set_option maxHeartbeats 4000000 in
theorem j_law_all {L : Nat} {xs : Nat → Int32} (hL : inR (L : Int)) (h : Hp) : J (mi_lw L xs) encI (fun _ => True) ([] ++ []) 0 0 0 [(0, vsc)] [] h (lw_all L xs h) := by
  unfold lw_all
  refine j_new (A := []) (l := []) (t := 5) (a' := 0) dL_law_0 zc_5 rfl kcl_L_21 kin_X5 kii_X5 zdef_5 (Nat.le_of_ble_eq_true rfl) (Nat.le_of_ble_eq_true rfl) rfl (fun h1 _ => ?_)
  refine j_dup dL_law_3 (fun _ _ => rfl) ?_
  refine j_callI (mi2 := mi_dl_init) (enc2 := encV) (FL2 := fun l' => l' = [] ++ ([] ++ blkLines)) (stk := [vr 0]) [] 0 dL_law_4 mv_dl_init.1 rfl mv_dl_init.2 rfl lm_L_86 (ct_dl_initA [] [] rfl h1) rfl rfl ⟨⟨Nat.le_of_ble_eq_true rfl, Nat.le_of_ble_eq_true rfl⟩, Nat.le_of_ble_eq_true rfl, Nat.le_of_ble_eq_true rfl⟩ (Nat.le_of_ble_eq_true rfl) (fun _ h2 lay' hL2 _ => ?_)
  subst hL2
  refine j_astore_n (lv' := [(1, vr 0), (0, vsc)]) dL_law_7 (Nat.le_of_ble_eq_true rfl) rfl ?_
  refine j_lay (lay' := blkLines) rfl ?_
  refine j_cnt (nc' := 132) (ns' := 2015) rfl rfl ?_
  refine j_sub [1, 0] rfl ?_
  exact jb_lw_law_8 (fun i k hk => by rw [Nat.zero_add]; exact hk) hL (fun h => j_law_mid hL h) h2

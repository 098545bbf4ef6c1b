section ASKQ
noncomputable def aChain (D : Dr) (c x : Int) : Int := if 1 ≤ c ∧ c ≤ 5 then (if 0 ≤ x ∧ x ≤ 8 then (if x = 0 then sc D c (fun _ => 1) else if 4 ≤ x ∧ x ≤ 6 then sc D c (gw D x) else if sc D c (fun _ => 1) = 0 then -999 else if x = 1 then D 0 (bg D c) else if x = 2 then D 0 (en D c) else if x = 3 then tb (clo D c) else if x = 7 then ov D c else lnD D (D 7 3) (fc D c)) else -1) else -1
variable {D : Dr} {h : Hp} {c x : Int}
theorem dl_chain_wp (w : WF D) (hA : AtC D h 1) (hF : FR D h) : wp (dl_chain 0 c x h) (fun r h1 => r = aChain D c x ∧ CFr h h1 ∧ FR D h1) := by
  have w0 := w.1
  have w1 := w.2.1
  have no : ∀ r, r = aChain D c x → wp (some (r, h)) (fun r h1 => r = aChain D c x ∧ CFr h h1 ∧ FR D h1) := fun r e => wp_ret ⟨e, CFr.rfl h, hF⟩
  unfold dl_chain dl_chain_b19 dl_chain_b48 dl_chain_b55
  rw [bd_eq (dl_isWithin_eq c 1 5)]
  by_cases q1 : 1 ≤ c ∧ c ≤ 5
  · rw [yn_t q1, if_neg (by decide), bd_eq (dl_isWithin_eq x 0 8)]
    by_cases q2 : 0 ≤ x ∧ x ≤ 8
    · have ea : aChain D c x = (if x = 0 then sc D c (fun _ => 1) else if 4 ≤ x ∧ x ≤ 6 then sc D c (gw D x) else if sc D c (fun _ => 1) = 0 then -999 else if x = 1 then D 0 (bg D c) else if x = 2 then D 0 (en D c) else if x = 3 then tb (clo D c) else if x = 7 then ov D c else lnD D (D 7 3) (fc D c)) := by
        unfold aChain
        rw [if_pos q1, if_pos q2]
      rw [yn_t q2, if_neg (by decide), bd_eq (dr_countOfChain_eq hA w)]
      by_cases hc : sc D c (fun _ => 1) = 0
      · rw [if_pos hc]
        by_cases x0 : x = 0
        · rw [if_pos x0]
          exact no _ (by rw [ea, if_pos x0, hc])
        · rw [if_neg x0, bd_eq (dl_isWithin_eq x 4 6)]
          by_cases x4 : 4 ≤ x ∧ x ≤ 6
          · rw [yn_t x4, if_neg (by decide)]
            exact no _ (by rw [ea, if_neg x0, if_pos x4, sc0 w1.1 hc])
          · rw [yn_f x4, if_pos rfl]
            exact no _ (by rw [ea, if_neg x0, if_neg x4, if_pos hc])
      · have bb := bgN_b (c := c) w (D 7 1).toNat (by omega)
        have bb2 := bb.2.2 hc
        have eb := enN_b (c := c) w (D 7 1).toNat (by omega)
        have eb2 := eb.2.2 hc
        have hb : 0 ≤ bg D c ∧ bg D c < D 7 0 := by unfold bg; omega
        have he : 0 ≤ en D c ∧ en D c < D 7 0 := by unfold en; omega
        rw [if_neg hc]
        rcases (by omega : x = 0 ∨ x = 1 ∨ x = 2 ∨ x = 3 ∨ x = 4 ∨ x = 5 ∨ x = 6 ∨ x = 7 ∨ x = 8) with e | e | e | e | e | e | e | e | e
        · subst e
          exact no _ (by rw [ea, if_pos rfl])
        · subst e
          show wp (bd (dr_beginOfChain 1 c h) fun r5 h5 => ix r5 12 (some (h5 2 r5, h5))) _
          rw [bd_eq (dr_beginOfChain_eq hA w), ix_in hb.1 (by omega)]
          refine no _ ?_
          rw [ea, if_neg (by decide), if_neg (by decide), if_neg hc, if_pos rfl]
          exact (hA.2.1 _ hb.1 hb.2).symm
        · subst e
          show wp (bd (dr_endOfChain 1 c h) fun r5 h5 => ix r5 12 (some (h5 2 r5, h5))) _
          rw [bd_eq (dr_endOfChain_eq hA w), ix_in he.1 (by omega)]
          refine no _ ?_
          rw [ea, if_neg (by decide), if_neg (by decide), if_neg hc, if_neg (by decide), if_pos rfl]
          exact (hA.2.1 _ he.1 he.2).symm
        · subst e
          have ea' : aChain D c 3 = tb (clo D c) := by
            rw [ea, if_neg (by decide), if_neg (by decide), if_neg hc, if_neg (by decide), if_neg (by decide), if_pos rfl]
          show wp (bd (dr_isClosed 1 c h) fun r7 h7 => if r7 = 0 then dl_chain_b156 0 c 3 0 h7 else dl_chain_b156 0 c 3 1 h7) _
          unfold dl_chain_b156
          rw [bd_eq (dr_isClosed_eq hA w)]
          by_cases z : clo D c
          · rw [tb_t z, if_neg (by decide)]
            exact no _ (by rw [ea', tb_t z])
          · rw [tb_f z, if_pos rfl]
            exact no _ (by rw [ea', tb_f z])
        · subst e
          show wp (bd (dr_sumOfValues 1 c h) fun r5 h5 => some (r5, h5)) _
          rw [bd_eq (dr_sumOfValues_eq hA w)]
          exact no _ (by rw [ea, if_neg (by decide), if_pos (by decide)]; rfl)
        · subst e
          show wp (bd (dr_sumOfChain 1 c 5 16 h) fun r5 h5 => some (r5, h5)) _
          rw [bd_eq (dr_sumOfChain_eq (r := 3) hA w (fun d d0 d1 => ⟨(hA.rows d0 d1).2.2.1, (w.2.2.2.2.2.2 d d0 d1).2.1⟩))]
          exact no _ (by rw [ea, if_neg (by decide), if_pos (by decide)]; rfl)
        · subst e
          show wp (bd (dr_sumOfChain 1 c 6 16 h) fun r5 h5 => some (r5, h5)) _
          rw [bd_eq (dr_sumOfChain_eq (r := 4) hA w (fun d d0 d1 => ⟨(hA.rows d0 d1).2.2.2.1, (w.2.2.2.2.2.2 d d0 d1).2.2.1⟩))]
          exact no _ (by rw [ea, if_neg (by decide), if_pos (by decide)]; rfl)
        · subst e
          show wp (bd (dr_smallestOver 1 c h) fun r5 h5 => some (r5, h5)) _
          rw [bd_eq (dr_smallestOver_eq hA w)]
          exact no _ (by rw [ea, if_neg (by decide), if_neg (by decide), if_neg hc, if_neg (by decide), if_neg (by decide), if_neg (by decide), if_pos rfl])
        · subst e
          show wp (bd (dl_laidLanes 0 h) fun _ h12 => bd (la_laneOfChain 85 1 c h12) fun r13 h13 => some (r13, h13)) _
          refine wp_bd (dl_laidLanes_wp hA w hF) (fun _ h3 hq => ?_)
          obtain ⟨l, f1, f2⟩ := hq
          rw [bd_eq (la_laneOfChain_eq (f1.atc hA) w l hc)]
          exact wp_ret ⟨by rw [ea, if_neg (by decide), if_neg (by decide), if_neg hc, if_neg (by decide), if_neg (by decide), if_neg (by decide), if_neg (by decide)], f1, f2⟩
    · rw [yn_f q2, if_pos rfl]
      exact no _ (by unfold aChain; rw [if_pos q1, if_neg q2])
  · rw [yn_f q1, if_pos rfl]
    exact no _ (by unfold aChain; rw [if_neg q1])
theorem mo_chain_wp (w : WF D) (hM : AtM D h 0) : wp (mo_chain 132 c x h) (fun r h1 => r = aChain D c x ∧ RFr h h1) := by
  have w0 := w.1
  have w1 := w.2.1
  have no : ∀ r, r = aChain D c x → wp (some (r, h)) (fun r h1 => r = aChain D c x ∧ RFr h h1) := fun r e => wp_ret ⟨e, RFr.rfl h⟩
  unfold mo_chain mo_chain_b19 mo_chain_b35
  rw [bd_eq (mo_in_eq c 1 5)]
  by_cases q1 : 1 ≤ c ∧ c ≤ 5
  · rw [yn_t q1, if_neg (by decide), bd_eq (mo_in_eq x 0 8)]
    by_cases q2 : 0 ≤ x ∧ x ≤ 8
    · have ea : aChain D c x = (if x = 0 then sc D c (fun _ => 1) else if 4 ≤ x ∧ x ≤ 6 then sc D c (gw D x) else if sc D c (fun _ => 1) = 0 then -999 else if x = 1 then D 0 (bg D c) else if x = 2 then D 0 (en D c) else if x = 3 then tb (clo D c) else if x = 7 then ov D c else lnD D (D 7 3) (fc D c)) := by
        unfold aChain
        rw [if_pos q1, if_pos q2]
      rw [yn_t q2, if_neg (by decide)]
      by_cases x0 : x = 0
      · subst x0
        rw [if_pos rfl, bd_eq (mo_sumOf_eq hM w)]
        exact no _ (by rw [ea, if_pos rfl]; rfl)
      · rw [if_neg x0, bd_eq (mo_in_eq x 4 6)]
        by_cases x4 : 4 ≤ x ∧ x ≤ 6
        · rw [yn_t x4, if_neg (by decide), bd_eq (mo_sumOf_eq hM w)]
          exact no _ (by rw [ea, if_neg x0, if_pos x4])
        · rw [yn_f x4, if_pos rfl, bd_eq (mo_sumOf_eq hM w)]
          have eg : sc D c (gw D 0) = sc D c (fun _ => 1) := rfl
          rw [eg]
          by_cases hc : sc D c (fun _ => 1) = 0
          · rw [if_pos hc]
            exact no _ (by rw [ea, if_neg x0, if_neg x4, if_pos hc])
          · have bb := bgN_b (c := c) w (D 7 1).toNat (by omega)
            have bb2 := bb.2.2 hc
            have eb := enN_b (c := c) w (D 7 1).toNat (by omega)
            have eb2 := eb.2.2 hc
            have hb : 0 ≤ bg D c ∧ bg D c < D 7 0 := by unfold bg; omega
            have he : 0 ≤ en D c ∧ en D c < D 7 0 := by unfold en; omega
            rw [if_neg hc]
            rcases (by omega : x = 1 ∨ x = 2 ∨ x = 3 ∨ x = 7 ∨ x = 8) with e | e | e | e | e
            · subst e
              show wp (bd (mo_endOf 132 c 0 h) fun r5 h5 => bd (mo_position 132 r5 h5) fun r6 h6 => some (r6, h6)) _
              rw [bd_eq (mo_begin_eq hM w hc), bd_eq (mo_position_raw (by omega)), hM.pos hb.1 hb.2]
              exact no _ (by rw [ea, if_neg (by decide), if_neg (by decide), if_neg hc, if_pos rfl])
            · subst e
              show wp (bd (mo_endOf 132 c 1 h) fun r5 h5 => bd (mo_position 132 r5 h5) fun r6 h6 => some (r6, h6)) _
              rw [bd_eq (mo_end_eq hM w hc), bd_eq (mo_position_raw (by omega)), hM.pos he.1 he.2]
              exact no _ (by rw [ea, if_neg (by decide), if_neg (by decide), if_neg hc, if_neg (by decide), if_pos rfl])
            · subst e
              have ea' : aChain D c 3 = tb (clo D c) := by
                rw [ea, if_neg (by decide), if_neg (by decide), if_neg hc, if_neg (by decide), if_neg (by decide), if_pos rfl]
              show wp (bd (mo_isClosed 132 c h) fun r9 h9 => if r9 = 0 then mo_chain_b135 132 c 3 0 h9 else mo_chain_b135 132 c 3 1 h9) _
              unfold mo_chain_b135
              rw [bd_eq (mo_isClosed_eq hM w hc)]
              by_cases z : clo D c
              · rw [tb_t z, if_neg (by decide)]
                exact no _ (by rw [ea', tb_t z])
              · rw [tb_f z, if_pos rfl]
                exact no _ (by rw [ea', tb_f z])
            · subst e
              show wp (bd (mo_over 132 c h) fun r5 h5 => some (r5, h5)) _
              rw [bd_eq (mo_over_eq hM w hc)]
              exact no _ (by rw [ea, if_neg (by decide), if_neg (by decide), if_neg hc, if_neg (by decide), if_neg (by decide), if_neg (by decide), if_pos rfl])
            · subst e
              show wp (mo_chain_b142 132 c 8 h) _
              unfold mo_chain_b142
              refine wp_bd (mo_laneOfChain_wp hM w hc) (fun r h3 hq => ?_)
              exact wp_ret ⟨by rw [hq.1, ea, if_neg (by decide), if_neg (by decide), if_neg hc, if_neg (by decide), if_neg (by decide), if_neg (by decide), if_neg (by decide)], hq.2⟩
    · rw [yn_f q2, if_pos rfl]
      exact no _ (by unfold aChain; rw [if_pos q1, if_neg q2])
  · rw [yn_f q1, if_pos rfl]
    exact no _ (by unfold aChain; rw [if_neg q1])
theorem ask_chain : ASK (fun D _ _ => aChain D c x) (fun h => dl_chain 0 c x h) (fun h => mo_chain 132 c x h) := ask_of (fun _ _ _ _ w hC _ _ hF => dl_chain_wp w hC.1 hF) (fun _ _ _ _ w _ hM _ _ => mo_chain_wp w hM.1)
noncomputable def aCount (D : Dr) (K t x : Int) : Int := if x = 0 then D 7 0 else if x = 1 then D 7 1 else if x = 2 then uc D (D 7 1).toNat else if x = 3 then mlN D (D 7 3) (D 7 1).toNat else if x = 4 then cAn D (D 7 3) (D 7 0).toNat else if x = 5 then cntF D (D 7 0).toNat else if x = 6 then cSup D (D 7 1).toNat else if x = 7 then D 7 2 else if x = 8 then D 7 3 else if x = 9 then t else if x = 10 then K else -1
theorem dl_count_wp {K : Int} {B : Int → Dr} (w : WF D) (hA : AtC D h 1) (hH : HistC K B h) (hF : FR D h) : wp (dl_count 0 x h) (fun r h1 => r = aCount D K (h 75 2) x ∧ CFr h h1 ∧ FR D h1) := by
  have no : ∀ r, r = aCount D K (h 75 2) x → wp (some (r, h)) (fun r h1 => r = aCount D K (h 75 2) x ∧ CFr h h1 ∧ FR D h1) := fun r e => wp_ret ⟨e, CFr.rfl h, hF⟩
  unfold dl_count
  rcases (by omega : x = 0 ∨ x = 1 ∨ x = 2 ∨ x = 3 ∨ x = 4 ∨ x = 5 ∨ x = 6 ∨ x = 7 ∨ x = 8 ∨ x = 9 ∨ x = 10 ∨ ¬ (0 ≤ x ∧ x < 11)) with e | e | e | e | e | e | e | e | e | e | e | e
  · subst e
    exact no _ hA.1.1.symm
  · subst e
    exact no _ hA.1.2.1.symm
  · subst e
    show wp (bd (dl_laidLanes 0 h) fun _ h1 => some (h1 85 6, h1)) _
    refine wp_bd (dl_laidLanes_wp hA w hF) (fun _ h3 hq => ?_)
    exact wp_ret ⟨hq.1.1.1, hq.2⟩
  · subst e
    show wp (bd (dl_laidLanes 0 h) fun _ h1 => some (h1 85 7, h1)) _
    refine wp_bd (dl_laidLanes_wp hA w hF) (fun _ h3 hq => ?_)
    exact wp_ret ⟨hq.1.1.2.1.trans (lcn_end w), hq.2⟩
  · subst e
    show wp (bd (dl_laidLanes 0 h) fun _ h1 => some (h1 85 8, h1)) _
    refine wp_bd (dl_laidLanes_wp hA w hF) (fun _ h3 hq => ?_)
    exact wp_ret ⟨hq.1.1.2.2.1, hq.2⟩
  · subst e
    show wp (bd (dl_knownBounds 0 h) fun _ h1 => some (h1 111 3, h1)) _
    refine wp_bd (dl_knownBounds_wp hA w hF) (fun _ h3 hq => ?_)
    exact wp_ret ⟨hq.1.2.2.2.1, hq.2⟩
  · subst e
    show wp (bd (dl_knownBounds 0 h) fun _ h1 => some (h1 111 4, h1)) _
    refine wp_bd (dl_knownBounds_wp hA w hF) (fun _ h3 hq => ?_)
    exact wp_ret ⟨hq.1.2.2.2.2.2, hq.2⟩
  · subst e
    exact no _ hA.1.2.2.1.symm
  · subst e
    exact no _ hA.1.2.2.2.symm
  · subst e
    exact no _ rfl
  · subst e
    exact no _ hH.1
  · rw [swt_d (by simp only [List.length]; omega)]
    refine no _ ?_
    unfold aCount
    rw [if_neg (by omega), if_neg (by omega), if_neg (by omega), if_neg (by omega), if_neg (by omega), if_neg (by omega), if_neg (by omega), if_neg (by omega), if_neg (by omega), if_neg (by omega), if_neg (by omega)]
set_option maxRecDepth 10000 in
theorem mo_count_wp {K : Int} {B : Int → Dr} (w : WF D) (hM : AtM D h 0) (hH : HistM K B h) (hT : h 132 3 = h 75 2) : wp (mo_count 132 x h) (fun r h1 => r = aCount D K (h 75 2) x ∧ RFr h h1) := by
  unfold mo_count
  refine wp_bd (mo_laysLanes_wp hM w) (fun _ h1 hq => ?_)
  obtain ⟨l, f⟩ := hq
  have hM1 := l.1
  have no : ∀ r, r = aCount D K (h 75 2) x → wp (some (r, h1)) (fun r h1 => r = aCount D K (h 75 2) x ∧ RFr h h1) := fun r e => wp_ret ⟨e, f⟩
  rcases (by omega : x = 0 ∨ x = 1 ∨ x = 2 ∨ x = 3 ∨ x = 4 ∨ x = 5 ∨ x = 6 ∨ x = 7 ∨ x = 8 ∨ x = 9 ∨ x = 10 ∨ ¬ (0 ≤ x ∧ x < 11)) with e | e | e | e | e | e | e | e | e | e | e | e
  · subst e
    exact no _ hM1.n
  · subst e
    exact no _ hM1.m
  · subst e
    show wp (bd (mo_units 132 h1) fun r2 h2 => some (r2, h2)) _
    rw [bd_eq (mo_units_eq w hM1)]
    exact no _ rfl
  · subst e
    show wp (bd (mo_lanes 132 h1) fun r2 h2 => some (r2, h2)) _
    rw [bd_eq (mo_lanes_eq w hM1 l.2)]
    exact no _ rfl
  · subst e
    show wp (bd (mo_crossings 132 (-999) (-999) h1) fun r2 h2 => some (r2, h2)) _
    rw [bd_eq (mo_crossings_eq w l), cXX_all]
    exact no _ rfl
  · subst e
    show wp (bd (mo_groups 132 h1) fun r2 h2 => some (r2, h2)) _
    refine wp_bd (mo_groups_wp hM1 w) (fun r h2 hq => ?_)
    exact wp_ret ⟨hq.1, f.trans (RFr.o hq.2)⟩
  · subst e
    show wp (bd (mo_superfluous 132 h1) fun r2 h2 => some (r2, h2)) _
    refine wp_bd (mo_superfluous_wp hM1 w) (fun r h2 hq => ?_)
    exact wp_ret ⟨hq.1, f.trans (RFr.o hq.2)⟩
  · subst e
    exact no _ hM1.1.2.2.1.symm
  · subst e
    exact no _ hM1.1.2.2.2.symm
  · subst e
    exact no _ (f.2.2.2.2.1.trans hT)
  · subst e
    exact no _ (f.2.2.2.1.trans hH.1)
  · rw [swt_d (by simp only [List.length]; omega)]
    refine no _ ?_
    unfold aCount
    rw [if_neg (by omega), if_neg (by omega), if_neg (by omega), if_neg (by omega), if_neg (by omega), if_neg (by omega), if_neg (by omega), if_neg (by omega), if_neg (by omega), if_neg (by omega), if_neg (by omega)]
theorem ask_count : ASK (fun D K t => aCount D K t x) (fun h => dl_count 0 x h) (fun h => mo_count 132 x h) := ask_of (fun _ _ _ _ w hC _ _ hF => dl_count_wp w hC.1 hC.2 hF) (fun _ _ _ _ w _ hM hT _ => mo_count_wp w hM.1 hM.2 hT.2.1)
end ASKQ

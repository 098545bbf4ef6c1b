section ASKD
noncomputable def aDim (D : Dr) (d x : Int) : Int := if 0 ≤ d ∧ d < D 7 1 then (if 0 ≤ x ∧ x ≤ 6 then dimS D d x else if x = 7 then fD D (D 7 3) d else if x = 8 then bD D (D 7 3) d else if x = 9 then eD D (D 7 3) d else if x = 10 then lnD D (D 7 3) d else if x = 11 then tb (sup0 D d) else if x = 12 then cDn D (D 7 3) d (D 7 0).toNat else -1) else -1
theorem dl_dimension_wp {D : Dr} {h : Hp} {d x : Int} (w : WF D) (hA : AtC D h 1) (hM : AtM D h 0) (hF : FR D h) : wp (dl_dimension 0 d x h) (fun r h1 => r = aDim D d x ∧ CFr h h1 ∧ FR D h1) := by
  have w1 := w.2.1
  unfold aDim
  by_cases q : 0 ≤ d ∧ d < D 7 1
  · rw [if_pos q]
    have em : h 1 8 = D 7 1 := hA.1.2.1.symm
    by_cases x0 : 0 ≤ x ∧ x ≤ 6
    · rw [if_pos x0]
      exact wp_of (dl_dim_simple hA w q x0) ⟨rfl, CFr.rfl h, hF⟩
    · rw [if_neg x0]
      simp only [dl_dimension, Nat.reduceAdd]
      rw [bd_eq (dr_hasDimension_eq d), em, yn_t q, if_neg (by decide)]
      by_cases x7 : x = 7
      · rw [if_pos x7, x7]
        show wp (bd (dl_laidLanes 0 h) fun _ h5 => ix d 16 (some (h5 86 d, h5))) _
        refine wp_bd (dl_laidLanes_wp hA w hF) (fun _ h3 hq => ?_)
        obtain ⟨l, f1, f2⟩ := hq
        rw [ix_in q.1 (by omega)]
        exact wp_ret ⟨(l.2.1 d q.1 q.2).1, f1, f2⟩
      · rw [if_neg x7]
        by_cases x8 : x = 8
        · rw [if_pos x8, x8]
          show wp (bd (dl_laidLanes 0 h) fun _ h5 => ix d 16 (some (h5 87 d, h5))) _
          refine wp_bd (dl_laidLanes_wp hA w hF) (fun _ h3 hq => ?_)
          obtain ⟨l, f1, f2⟩ := hq
          rw [ix_in q.1 (by omega)]
          exact wp_ret ⟨(l.2.1 d q.1 q.2).2.1, f1, f2⟩
        · rw [if_neg x8]
          by_cases x9 : x = 9
          · rw [if_pos x9, x9]
            show wp (bd (dl_laidLanes 0 h) fun _ h5 => ix d 16 (some (h5 88 d, h5))) _
            refine wp_bd (dl_laidLanes_wp hA w hF) (fun _ h3 hq => ?_)
            obtain ⟨l, f1, f2⟩ := hq
            rw [ix_in q.1 (by omega)]
            exact wp_ret ⟨(l.2.1 d q.1 q.2).2.2.1, f1, f2⟩
          · rw [if_neg x9]
            by_cases x10 : x = 10
            · rw [if_pos x10, x10]
              show wp (bd (dl_laidLanes 0 h) fun _ h5 => ix d 16 (some (h5 89 d, h5))) _
              refine wp_bd (dl_laidLanes_wp hA w hF) (fun _ h3 hq => ?_)
              obtain ⟨l, f1, f2⟩ := hq
              rw [ix_in q.1 (by omega)]
              exact wp_ret ⟨(l.2.1 d q.1 q.2).2.2.2.1, f1, f2⟩
            · rw [if_neg x10]
              by_cases x11 : x = 11
              · rw [if_pos x11, x11]
                show wp (bd (dl_knownBounds 0 h) fun _ h7 => ix d 16 (if h7 126 d = 0 then dl_dimension_b206 0 d 11 0 h7 else dl_dimension_b206 0 d 11 1 h7)) _
                refine wp_bd (dl_knownBounds_wp hA w hF) (fun _ h3 hq => ?_)
                obtain ⟨l, f1, f2⟩ := hq
                rw [ix_in q.1 (by omega), l.2.2.2.2.1 d q.1 q.2]
                unfold dl_dimension_b206
                by_cases c : sup0 D d
                · rw [tb_t c, if_neg (by decide)]
                  exact wp_ret ⟨rfl, f1, f2⟩
                · rw [tb_f c, if_pos rfl]
                  exact wp_ret ⟨rfl, f1, f2⟩
              · rw [if_neg x11]
                by_cases x12 : x = 12
                · rw [if_pos x12, x12]
                  show wp (bd (dl_laidLanes 0 h) fun _ h5 => ix d 16 (some (h5 90 d, h5))) _
                  refine wp_bd (dl_laidLanes_wp hA w hF) (fun _ h3 hq => ?_)
                  obtain ⟨l, f1, f2⟩ := hq
                  rw [ix_in q.1 (by omega)]
                  exact wp_ret ⟨(l.2.1 d q.1 q.2).2.2.2.2, f1, f2⟩
                · rw [if_neg x12, swt_d (by simp only [List.length]; omega)]
                  exact wp_ret ⟨rfl, CFr.rfl h, hF⟩
  · rw [if_neg q]
    exact wp_of (ask_dim_no hA hM w q).1 ⟨rfl, CFr.rfl h, hF⟩
theorem mo_dimension_wp {D : Dr} {h : Hp} {d x : Int} (w : WF D) (hA : AtC D h 1) (hM : AtM D h 0) : wp (mo_dimension 132 d x h) (fun r h1 => r = aDim D d x ∧ RFr h h1) := by
  have w0 := w.1
  have w1 := w.2.1
  unfold aDim
  by_cases q : 0 ≤ d ∧ d < D 7 1
  · rw [if_pos q]
    obtain ⟨u, h3, e3, l3, r3⟩ := mo_laysLanes_wp hM w
    have e3 : mo_laysLanes 132 h = some ((), h3) := e3
    by_cases x0 : 0 ≤ x ∧ x ≤ 6
    · rw [if_pos x0]
      exact wp_of (mo_dim_simple hM w e3 r3.2.1 q x0) ⟨rfl, r3⟩
    · rw [if_neg x0]
      unfold mo_dimension mo_dimension_b18
      rw [bd_eq (mo_isDimension_eq hM w d), yn_t q, if_neg (by decide), bd_eq (mo_in_eq x 0 12)]
      by_cases xr : 0 ≤ x ∧ x ≤ 12
      · rw [yn_t xr, if_neg (by decide), bd_eq e3]
        have hA3 := l3.1
        by_cases x7 : x = 7
        · rw [if_pos x7, x7]
          show wp (bd (mo_form 132 d h3) fun r5 h5 => some (r5, h5)) _
          rw [bd_eq (mo_form_eq hA3 w q.1 q.2)]
          exact wp_ret ⟨rfl, r3⟩
        · rw [if_neg x7]
          by_cases x8 : x = 8
          · rw [if_pos x8, x8]
            show wp (bd (mo_begins 132 d h3) fun r5 h5 => some (r5, h5)) _
            rw [bd_eq (mo_begins_eq hA3 w q.1 q.2)]
            exact wp_ret ⟨rfl, r3⟩
          · rw [if_neg x8]
            by_cases x9 : x = 9
            · rw [if_pos x9, x9]
              show wp (bd (mo_reaches 132 d h3) fun r5 h5 => some (r5, h5)) _
              rw [bd_eq (mo_reaches_eq hA3 w q.1 q.2)]
              exact wp_ret ⟨rfl, r3⟩
            · rw [if_neg x9]
              by_cases x10 : x = 10
              · rw [if_pos x10, x10]
                show wp (bd (mo_laneOf 132 d h3) fun r5 h5 => some (r5, h5)) _
                rw [bd_eq (l3.2 d q.1 q.2)]
                exact wp_ret ⟨rfl, r3⟩
              · rw [if_neg x10]
                by_cases x11 : x = 11
                · rw [if_pos x11, x11]
                  show wp (bd (mo_isSuperfluous 132 d 0 h3) fun r9 h9 => if r9 = 0 then mo_dimension_b143 132 d 11 0 h9 else mo_dimension_b143 132 d 11 1 h9) _
                  refine wp_bd (mo_isSuperfluous_wp hA3 w (gone := 0) (by omega) q) (fun r h4 hq => ?_)
                  obtain ⟨er, f⟩ := hq
                  have rf : RFr h h4 := r3.trans (RFr.o f)
                  unfold mo_dimension_b143
                  rw [er, tb_congr sup_bt0]
                  by_cases c : sup0 D d
                  · rw [tb_t c, if_neg (by decide)]
                    exact wp_ret ⟨rfl, rf⟩
                  · rw [tb_f c, if_pos rfl]
                    exact wp_ret ⟨rfl, rf⟩
                · rw [if_neg x11]
                  have x12 : x = 12 := by omega
                  rw [if_pos x12, x12]
                  show wp (bd (mo_crossings 132 (-999) d h3) fun r5 h5 => some (r5, h5)) _
                  rw [bd_eq (mo_crossings_eq w l3), cXX_dim w1.1 q]
                  exact wp_ret ⟨rfl, r3⟩
      · rw [yn_f xr, if_pos rfl, if_neg (by omega), if_neg (by omega), if_neg (by omega), if_neg (by omega), if_neg (by omega), if_neg (by omega)]
        exact wp_ret ⟨rfl, RFr.rfl h⟩
  · rw [if_neg q]
    exact wp_of (ask_dim_no hA hM w q).2 ⟨rfl, RFr.rfl h⟩
theorem ask_dimension {d x : Int} : ASK (fun D _ _ => aDim D d x) (fun h => dl_dimension 0 d x h) (fun h => mo_dimension 132 d x h) := ask_of (fun _ _ _ _ w hC hM _ hF => dl_dimension_wp w hC.1 hM.1 hF) (fun _ _ _ _ w hC hM _ _ => mo_dimension_wp w hC.1 hM.1)
end ASKD

section ASKD
noncomputable def aDim (D : Dr) (d x : Int) : Int := if 0 ≤ d ∧ d < D 7 1 then (if 0 ≤ x ∧ x ≤ 6 then dimS D d x else if x = 7 then fD D (D 7 3) d else if x = 8 then bD D (D 7 3) d else if x = 9 then eD D (D 7 3) d else if x = 10 then lnD D (D 7 3) d else if x = 11 then tb (sup0 D d) else if x = 12 then cDn D (D 7 3) d (D 7 0).toNat else -1) else -1
theorem dl_dimension_wp {D : Dr} {h : Hp} {d x : Int} (w : WF D) (hA : AtC D h 1) (hF : FR D h) : wp (dl_dimension 0 d x h) (fun r h1 => r = aDim D d x ∧ CFr h h1 ∧ FR D h1) := by
  have w1 := w.2.1
  unfold aDim
  by_cases q : 0 ≤ d ∧ d < D 7 1
  · rw [if_pos q]
    have em : h 1 8 = D 7 1 := hA.1.2.1.symm
    by_cases x0 : 0 ≤ x ∧ x ≤ 6
    · rw [if_pos x0]
      exact wp_of (dl_dim_simple hA w q x0) ⟨rfl, CFr.rfl h, hF⟩
    · rw [if_neg x0]
      simp only [dl_dimension, Nat.reduceAdd]
      rw [bd_eq (dr_hasDimension_eq d), em, yn_t q, if_neg (by decide)]
      by_cases x7 : x = 7
      · rw [if_pos x7, x7]
        show wp (bd (dl_laidLanes 0 h) fun _ h5 => ix d 16 (some (h5 86 d, h5))) _
        refine wp_bd (dl_laidLanes_wp hA w hF) (fun _ h3 hq => ?_)
        obtain ⟨l, f1, f2⟩ := hq
        rw [ix_in q.1 (by omega)]
        exact wp_ret ⟨(l.2.1 d q.1 q.2).1, f1, f2⟩
      · rw [if_neg x7]
        by_cases x8 : x = 8
        · rw [if_pos x8, x8]
          show wp (bd (dl_laidLanes 0 h) fun _ h5 => ix d 16 (some (h5 87 d, h5))) _
          refine wp_bd (dl_laidLanes_wp hA w hF) (fun _ h3 hq => ?_)
          obtain ⟨l, f1, f2⟩ := hq
          rw [ix_in q.1 (by omega)]
          exact wp_ret ⟨(l.2.1 d q.1 q.2).2.1, f1, f2⟩
        · rw [if_neg x8]
          by_cases x9 : x = 9
          · rw [if_pos x9, x9]
            show wp (bd (dl_laidLanes 0 h) fun _ h5 => ix d 16 (some (h5 88 d, h5))) _
            refine wp_bd (dl_laidLanes_wp hA w hF) (fun _ h3 hq => ?_)
            obtain ⟨l, f1, f2⟩ := hq
            rw [ix_in q.1 (by omega)]
            exact wp_ret ⟨(l.2.1 d q.1 q.2).2.2.1, f1, f2⟩
          · rw [if_neg x9]
            by_cases x10 : x = 10
            · rw [if_pos x10, x10]
              show wp (bd (dl_laidLanes 0 h) fun _ h5 => ix d 16 (some (h5 89 d, h5))) _
              refine wp_bd (dl_laidLanes_wp hA w hF) (fun _ h3 hq => ?_)
              obtain ⟨l, f1, f2⟩ := hq
              rw [ix_in q.1 (by omega)]
              exact wp_ret ⟨(l.2.1 d q.1 q.2).2.2.2.1, f1, f2⟩
            · rw [if_neg x10]
              by_cases x11 : x = 11
              · rw [if_pos x11, x11]
                show wp (bd (dl_knownBounds 0 h) fun _ h7 => ix d 16 (if h7 126 d = 0 then dl_dimension_b206 0 d 11 0 h7 else dl_dimension_b206 0 d 11 1 h7)) _
                refine wp_bd (dl_knownBounds_wp hA w hF) (fun _ h3 hq => ?_)
                obtain ⟨l, f1, f2⟩ := hq
                rw [ix_in q.1 (by omega), l.2.2.2.2.1 d q.1 q.2]
                unfold dl_dimension_b206
                by_cases c : sup0 D d
                · rw [tb_t c, if_neg (by decide)]
                  exact wp_ret ⟨rfl, f1, f2⟩
                · rw [tb_f c, if_pos rfl]
                  exact wp_ret ⟨rfl, f1, f2⟩
              · rw [if_neg x11]
                by_cases x12 : x = 12
                · rw [if_pos x12, x12]
                  show wp (bd (dl_laidLanes 0 h) fun _ h5 => ix d 16 (some (h5 90 d, h5))) _
                  refine wp_bd (dl_laidLanes_wp hA w hF) (fun _ h3 hq => ?_)
                  obtain ⟨l, f1, f2⟩ := hq
                  rw [ix_in q.1 (by omega)]
                  exact wp_ret ⟨(l.2.1 d q.1 q.2).2.2.2.2, f1, f2⟩
                · rw [if_neg x12, swt_d (by simp only [List.length]; omega)]
                  exact wp_ret ⟨rfl, CFr.rfl h, hF⟩
  · rw [if_neg q]
    exact wp_of (ask_dim_no hA q) ⟨rfl, CFr.rfl h, hF⟩
end ASKD

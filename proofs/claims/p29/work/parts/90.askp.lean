section ASKP
theorem swt_d {β : Type} {x lo : Int} {Es : List (Option β)} {d : Option β} (h : ¬ (lo ≤ x ∧ x < lo + (Es.length : Int))) : swt x lo Es d = d := if_neg h
noncomputable def aPoint (D : Dr) (p x : Int) : Int := if 0 ≤ p ∧ p < D 7 0 then (if x = 0 then D 0 p else if x = 1 then cntE (D 1) (D 2) p (D 7 1).toNat else if x = 2 then wtA D p else if x = 3 then cPn D (D 7 3) p (D 7 1).toNat else if x = 4 then grp D p else -1) else -1
theorem dl_point_wp {D : Dr} {h : Hp} {p x : Int} (w : WF D) (hA : AtC D h 1) (hF : FR D h) : wp (dl_point 0 p x h) (fun r h1 => r = aPoint D p x ∧ CFr h h1 ∧ FR D h1) := by
  have w0 := w.1
  unfold aPoint
  by_cases q : 0 ≤ p ∧ p < D 7 0
  · rw [if_pos q]
    have en : h 1 7 = D 7 0 := hA.1.1.symm
    by_cases x0 : x = 0
    · rw [if_pos x0, x0]
      exact wp_of (ask_point0 hA w q) ⟨rfl, CFr.rfl h, hF⟩
    · rw [if_neg x0]
      by_cases x1 : x = 1
      · rw [if_pos x1, x1]
        exact wp_of (ask_point1 hA w q) ⟨rfl, CFr.rfl h, hF⟩
      · rw [if_neg x1]
        simp only [dl_point, Nat.reduceAdd]
        rw [bd_eq (dr_hasPoint_eq p), en, yn_t q, if_neg (by decide)]
        by_cases x2 : x = 2
        · rw [if_pos x2, x2]
          show wp (bd (dl_laidLanes 0 h) fun _ h3 => bd (la_topOf 85 p h3) fun r4 h4 => some (r4, h4)) _
          refine wp_bd (dl_laidLanes_wp hA w hF) (fun _ h3 hq => ?_)
          obtain ⟨l, f1, f2⟩ := hq
          have e : la_topOf 85 p h3 = some (wtA D p, h3) := by
            have e7 : h3 (85 + 7) p = wt D (D 7 3) p := (l.2.2 p q.1 q.2).2
            unfold la_topOf la_topOf_b22 wtA
            rw [ix_in q.1 (by omega), e7]
            by_cases c : wt D (D 7 3) p = -1
            · rw [if_pos c, if_pos c]
            · rw [if_neg c, if_neg c, ix_in q.1 (by omega)]
          rw [bd_eq e]
          exact wp_ret ⟨rfl, f1, f2⟩
        · rw [if_neg x2]
          by_cases x3 : x = 3
          · rw [if_pos x3, x3]
            show wp (bd (dl_laidLanes 0 h) fun _ h5 => ix p 12 (some (h5 91 p, h5))) _
            refine wp_bd (dl_laidLanes_wp hA w hF) (fun _ h3 hq => ?_)
            obtain ⟨l, f1, f2⟩ := hq
            rw [ix_in q.1 (by omega)]
            exact wp_ret ⟨(l.2.2 p q.1 q.2).1, f1, f2⟩
          · rw [if_neg x3]
            by_cases x4 : x = 4
            · rw [if_pos x4, x4]
              show wp (bd (dl_knownBounds 0 h) fun _ h6 => ix p 12 (some (h6 125 p, h6))) _
              refine wp_bd (dl_knownBounds_wp hA w hF) (fun _ h3 hq => ?_)
              obtain ⟨l, f1, f2⟩ := hq
              rw [ix_in q.1 (by omega)]
              exact wp_ret ⟨l.2.2.1 p q.1 q.2, f1, f2⟩
            · rw [if_neg x4, swt_d (by simp only [List.length]; omega)]
              exact wp_ret ⟨rfl, CFr.rfl h, hF⟩
  · rw [if_neg q]
    exact wp_of (ask_point_no hA q) ⟨rfl, CFr.rfl h, hF⟩
end ASKP

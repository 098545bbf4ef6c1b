section ASKQ
noncomputable def aChain (D : Dr) (c x : Int) : Int := if 1 ≤ c ∧ c ≤ 5 then (if 0 ≤ x ∧ x ≤ 8 then (if x = 0 then sc D c (fun _ => 1) else if 4 ≤ x ∧ x ≤ 6 then sc D c (gw D x) else if sc D c (fun _ => 1) = 0 then -999 else if x = 1 then D 0 (bg D c) else if x = 2 then D 0 (en D c) else if x = 3 then tb (clo D c) else if x = 7 then ov D c else lnD D (D 7 3) (fc D c)) else -1) else -1
variable {D : Dr} {h : Hp} {c x : Int}
noncomputable def aCount (D : Dr) (K t x : Int) : Int := if x = 0 then D 7 0 else if x = 1 then D 7 1 else if x = 2 then uc D (D 7 1).toNat else if x = 3 then mlN D (D 7 3) (D 7 1).toNat else if x = 4 then cAn D (D 7 3) (D 7 0).toNat else if x = 5 then cntF D (D 7 0).toNat else if x = 6 then cSup D (D 7 1).toNat else if x = 7 then D 7 2 else if x = 8 then D 7 3 else if x = 9 then t else if x = 10 then K else -1
theorem dl_count_wp {K : Int} {B : Int → Dr} (w : WF D) (hA : AtC D h 1) (hH : HistC K B h) (hF : FR D h) : wp (dl_count 0 x h) (fun r h1 => r = aCount D K (h 75 2) x ∧ CFr h h1 ∧ FR D h1) := by
  have no : ∀ r, r = aCount D K (h 75 2) x → wp (some (r, h)) (fun r h1 => r = aCount D K (h 75 2) x ∧ CFr h h1 ∧ FR D h1) := fun r e => wp_ret ⟨e, CFr.rfl h, hF⟩
  unfold dl_count
  rcases (by omega : x = 0 ∨ x = 1 ∨ x = 2 ∨ x = 3 ∨ x = 4 ∨ x = 5 ∨ x = 6 ∨ x = 7 ∨ x = 8 ∨ x = 9 ∨ x = 10 ∨ ¬ (0 ≤ x ∧ x < 11)) with e | e | e | e | e | e | e | e | e | e | e | e
  · subst e
    exact no _ hA.1.1.symm
  · subst e
    exact no _ hA.1.2.1.symm
  · subst e
    show wp (bd (dl_laidLanes 0 h) fun _ h1 => some (h1 85 6, h1)) _
    refine wp_bd (dl_laidLanes_wp hA w hF) (fun _ h3 hq => ?_)
    exact wp_ret ⟨hq.1.1.1, hq.2⟩
  · subst e
    show wp (bd (dl_laidLanes 0 h) fun _ h1 => some (h1 85 7, h1)) _
    refine wp_bd (dl_laidLanes_wp hA w hF) (fun _ h3 hq => ?_)
    exact wp_ret ⟨hq.1.1.2.1.trans (lcn_end w), hq.2⟩
  · subst e
    show wp (bd (dl_laidLanes 0 h) fun _ h1 => some (h1 85 8, h1)) _
    refine wp_bd (dl_laidLanes_wp hA w hF) (fun _ h3 hq => ?_)
    exact wp_ret ⟨hq.1.1.2.2.1, hq.2⟩
  · subst e
    show wp (bd (dl_knownBounds 0 h) fun _ h1 => some (h1 111 3, h1)) _
    refine wp_bd (dl_knownBounds_wp hA w hF) (fun _ h3 hq => ?_)
    exact wp_ret ⟨hq.1.2.2.2.1, hq.2⟩
  · subst e
    show wp (bd (dl_knownBounds 0 h) fun _ h1 => some (h1 111 4, h1)) _
    refine wp_bd (dl_knownBounds_wp hA w hF) (fun _ h3 hq => ?_)
    exact wp_ret ⟨hq.1.2.2.2.2.2, hq.2⟩
  · subst e
    exact no _ hA.1.2.2.1.symm
  · subst e
    exact no _ hA.1.2.2.2.symm
  · subst e
    exact no _ rfl
  · subst e
    exact no _ hH.1
  · rw [swt_d (by simp only [List.length]; omega)]
    refine no _ ?_
    unfold aCount
    rw [if_neg (by omega), if_neg (by omega), if_neg (by omega), if_neg (by omega), if_neg (by omega), if_neg (by omega), if_neg (by omega), if_neg (by omega), if_neg (by omega), if_neg (by omega), if_neg (by omega)]
end ASKQ

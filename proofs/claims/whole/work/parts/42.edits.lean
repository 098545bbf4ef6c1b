section EDITS
variable {FR : Dr → Hp → Prop}
theorem st_addPoint (hF : FRK FR) (x : Int) : STEP FR (dl_addPoint 0 x) (mo_addPoint 132 x) := by
  intro h hI
  obtain ⟨D, K, B, hO, hC, hM, hT, hR⟩ := id hI
  have c := dl_addPoint_eq hC hO x
  have m := mo_addPoint_eq hM hO x
  by_cases q1 : 0 ≤ x ∧ x ≤ 300
  · by_cases q2 : hasX D x
    · exact step_no hI ((c.2 q1).1 q2) ((m.2 q1).1 q2)
    · by_cases q3 : D 7 0 = 12
      · exact step_no hI (((c.2 q1).2 q2).1 q3) (((m.2 q1).2 q2).1 q3)
      · exact step_chg hF hO hM hT (((c.2 q1).2 q2).2 q3) (fun h1 hM1 => (((mo_addPoint_eq hM1 hO x).2 q1).2 q2).2 q3) (hO.1.ins q3 q1 q2)
  · exact step_no hI (c.1 q1) (m.1 q1)
theorem st_movePoint (hF : FRK FR) (p x : Int) : STEP FR (dl_movePoint 0 p x) (mo_movePoint 132 p x) := by
  intro h hI
  obtain ⟨D, K, B, hO, hC, hM, hT, hR⟩ := id hI
  have c := dl_movePoint_eq hC hO p x
  have m := mo_movePoint_eq hM hO p x
  by_cases q0 : 0 ≤ p ∧ p < D 7 0
  · by_cases q1 : 0 ≤ x ∧ x ≤ 300
    · by_cases q2 : hasX D x ∧ D 0 p ≠ x
      · exact step_no hI ((c.2 q0 q1).1 q2) ((m.2 q0 q1).1 q2)
      · exact step_chg hF hO hM hT ((c.2 q0 q1).2 q2) (fun h1 hM1 => ((mo_movePoint_eq hM1 hO p x).2 q0 q1).2 q2) (hO.1.mv q0.1 q0.2 q1 q2)
    · exact step_no hI (c.1 (Or.inr q1)) (m.1 (Or.inr q1))
  · exact step_no hI (c.1 (Or.inl q0)) (m.1 (Or.inl q0))
theorem st_dropPoint (hF : FRK FR) (p : Int) : STEP FR (dl_dropPoint 0 p) (mo_dropPoint 132 p) := by
  intro h hI
  obtain ⟨D, K, B, hO, hC, hM, hT, hR⟩ := id hI
  have c := dl_dropPoint_eq hC hO p
  have m := mo_dropPoint_eq hM hO p
  by_cases q0 : 0 ≤ p ∧ p < D 7 0
  · by_cases q1 : 0 < cntE (D 1) (D 2) p (D 7 1).toNat
    · exact step_no hI ((c.2 q0).1 q1) ((m.2 q0).1 q1)
    · have w1 := hO.1.2.1
      exact step_chg hF hO hM hT ((c.2 q0).2 q1) (fun h1 hM1 => ((mo_dropPoint_eq hM1 hO p).2 q0).2 q1) (hO.1.go q0.1 q0.2 (fun d a b => cntE_0 q1 d a (by omega)))
  · exact step_no hI (c.1 q0) (m.1 q0)
theorem st_add (hF : FRK FR) (a b : Int) : STEP FR (dl_add 0 a b) (mo_add 132 a b) := by
  intro h hI
  obtain ⟨D, K, B, hO, hC, hM, hT, hR⟩ := id hI
  have c := dl_add_eq hC hO a b
  have m := mo_add_eq hM hO a b
  by_cases q0 : (0 ≤ a ∧ a < D 7 0) ∧ (0 ≤ b ∧ b < D 7 0) ∧ a ≠ b
  · by_cases q1 : D 7 1 = 16
    · exact step_no hI ((c.2 q0).1 q1) ((m.2 q0).1 q1)
    · exact step_chg hF hO hM hT ((c.2 q0).2 q1) (fun h1 hM1 => ((mo_add_eq hM1 hO a b).2 q0).2 q1) (hO.1.lay q1 (by omega) (by omega) (by omega) (by omega))
  · exact step_no hI (c.1 q0) (m.1 q0)
theorem st_drop (hF : FRK FR) (d : Int) : STEP FR (dl_drop 0 d) (mo_drop 132 d) := by
  intro h hI
  obtain ⟨D, K, B, hO, hC, hM, hT, hR⟩ := id hI
  have c := dl_drop_eq hC hO d
  have m := mo_drop_eq hM hO d
  by_cases q0 : 0 ≤ d ∧ d < D 7 1
  · exact step_chg hF hO hM hT (c.2 q0) (fun h1 hM1 => (mo_drop_eq hM1 hO d).2 q0) (hO.1.del q0.1 q0.2)
  · exact step_no hI (c.1 q0) (m.1 q0)
theorem WF.set {D : Dr} (w : WF D) {r : Nat} {d v : Int} (hr : (3 ≤ r ∧ r ≤ 4 ∧ 0 ≤ v ∧ v ≤ 20) ∨ (r = 5 ∧ 0 ≤ v ∧ v ≤ 5) ∨ (r = 6 ∧ 0 ≤ v ∧ v ≤ 9)) : WF (dSet D r d v) := by
  obtain ⟨w1, w2, w3, w4, w5, w6, w7⟩ := w
  have e7 : ∀ i, dSet D r d v 7 i = D 7 i := fun i => by unfold dSet; grind
  have e0 : ∀ i, dSet D r d v 0 i = D 0 i := fun i => by unfold dSet; grind
  refine ⟨by rw [e7]; exact w1, by rw [e7]; exact w2, by rw [e7]; exact w3, by rw [e7]; exact w4, fun i g0 g1 => ?_, fun i j g0 g1 g2 => ?_, fun k g0 g1 => ?_⟩
  · rw [e0]; rw [e7] at g1; exact w5 i g0 g1
  · rw [e0, e0]; rw [e7] at g2; exact w6 i j g0 g1 g2
  · rw [e7] at g1
    rw [e7]
    have a := w7 k g0 g1
    unfold dSet
    grind
theorem WF.setS {D : Dr} (w : WF D) {q v : Int} (hq : q = 2 ∨ q = 3) (hv : 1 ≤ v ∧ v ≤ 9) : WF (dSet D 7 q v) := by
  obtain ⟨w1, w2, w3, w4, w5, w6, w7⟩ := w
  have e70 : dSet D 7 q v 7 0 = D 7 0 := by unfold dSet; grind
  have e71 : dSet D 7 q v 7 1 = D 7 1 := by unfold dSet; grind
  have e72 : dSet D 7 q v 7 2 = if q = 2 then v else D 7 2 := by unfold dSet; grind
  have e73 : dSet D 7 q v 7 3 = if q = 3 then v else D 7 3 := by unfold dSet; grind
  refine ⟨by rw [e70]; exact w1, by rw [e71]; exact w2, by rw [e72]; grind, by rw [e73]; grind, fun i g0 g1 => ?_, fun i j g0 g1 g2 => ?_, fun k g0 g1 => ?_⟩
  · rw [e70] at g1; exact w5 i g0 g1
  · rw [e70] at g2; exact w6 i j g0 g1 g2
  · rw [e71] at g1
    rw [e70]
    exact w7 k g0 g1
theorem st_setTolerance (hF : FRK FR) (d u v : Int) : STEP FR (dl_setTolerance 0 d u v) (mo_setTolerance 132 d u v) := by
  intro h hI
  obtain ⟨D, K, B, hO, hC, hM, hT, hR⟩ := id hI
  have c := dl_setTolerance_eq hC hO d u v
  have m := mo_setTolerance_eq hM hO d u v
  by_cases q0 : (0 ≤ d ∧ d < D 7 1) ∧ (0 ≤ u ∧ u ≤ 20) ∧ (0 ≤ v ∧ v ≤ 20)
  · exact step_chg hF hO hM hT (c.2 q0) (fun h1 hM1 => (mo_setTolerance_eq hM1 hO d u v).2 q0) ((hO.1.set (by omega)).set (by omega))
  · exact step_no hI (c.1 q0) (m.1 q0)
theorem st_setChain (hF : FRK FR) (d v : Int) : STEP FR (dl_setChain 0 d v) (mo_setChain 132 d v) := by
  intro h hI
  obtain ⟨D, K, B, hO, hC, hM, hT, hR⟩ := id hI
  have c := dl_setChain_eq hC hO d v
  have m := mo_setChain_eq hM hO d v
  by_cases q0 : (0 ≤ d ∧ d < D 7 1) ∧ (0 ≤ v ∧ v ≤ 5)
  · exact step_chg hF hO hM hT (c.2 q0) (fun h1 hM1 => (mo_setChain_eq hM1 hO d v).2 q0) (hO.1.set (by omega))
  · exact step_no hI (c.1 q0) (m.1 q0)
theorem st_setLeast (hF : FRK FR) (d v : Int) : STEP FR (dl_setLeast 0 d v) (mo_setLeast 132 d v) := by
  intro h hI
  obtain ⟨D, K, B, hO, hC, hM, hT, hR⟩ := id hI
  have c := dl_setLeast_eq hC hO d v
  have m := mo_setLeast_eq hM hO d v
  by_cases q0 : (0 ≤ d ∧ d < D 7 1) ∧ (0 ≤ v ∧ v ≤ 9)
  · exact step_chg hF hO hM hT (c.2 q0) (fun h1 hM1 => (mo_setLeast_eq hM1 hO d v).2 q0) (hO.1.set (by omega))
  · exact step_no hI (c.1 q0) (m.1 q0)
theorem bd_idn {o : O Int} : (bd o fun r h => some (r, h)) = o := by
  rcases o with _ | ⟨r, h⟩ <;> rfl
theorem st_setLetter (hF : FRK FR) (v : Int) : STEP FR (dl_setLetter 0 v) (mo_setLetter 132 v) := by
  intro h hI
  obtain ⟨D, K, B, hO, hC, hM, hT, hR⟩ := id hI
  have c := dl_setLetter_eq hC hO v
  have e : ∀ h, mo_setLetter 132 v h = mo_setting 132 110 v h := fun h => bd_idn
  have m := mo_setting_eq hM hO v 2 110 (Or.inl ⟨rfl, rfl⟩)
  by_cases q0 : 1 ≤ v ∧ v ≤ 9
  · exact step_chg hF hO hM hT (c.2 q0) (fun h1 hM1 => by rw [e]; exact (mo_setting_eq hM1 hO v 2 110 (Or.inl ⟨rfl, rfl⟩)).2 q0) (hO.1.setS (Or.inl rfl) q0)
  · exact step_no hI (c.1 q0) (by rw [e]; exact m.1 q0)
theorem st_setArrow (hF : FRK FR) (v : Int) : STEP FR (dl_setArrow 0 v) (mo_setArrow 132 v) := by
  intro h hI
  obtain ⟨D, K, B, hO, hC, hM, hT, hR⟩ := id hI
  have c := dl_setArrow_eq hC hO v
  have e : ∀ h, mo_setArrow 132 v h = mo_setting 132 111 v h := fun h => bd_idn
  have m := mo_setting_eq hM hO v 3 111 (Or.inr ⟨rfl, rfl⟩)
  by_cases q0 : 1 ≤ v ∧ v ≤ 9
  · exact step_chg hF hO hM hT (c.2 q0) (fun h1 hM1 => by rw [e]; exact (mo_setting_eq hM1 hO v 3 111 (Or.inr ⟨rfl, rfl⟩)).2 q0) (hO.1.setS (Or.inr rfl) q0)
  · exact step_no hI (c.1 q0) (by rw [e]; exact m.1 q0)
theorem st_undo (hF : FRK FR) : STEP FR (dl_undo 0) (mo_undo 132) := by
  intro h hI
  obtain ⟨D, K, B, hO, hC, hM, hT, hR⟩ := id hI
  have k1 : h 9 2 = K := hC.2.1
  have k2 : h 132 1 = K := hM.2.1
  by_cases q : K = 0
  · refine step_no hI (r := -2) ?_ ?_
    · simp only [dl_undo, Nat.reduceAdd]
      rw [k1, if_pos q]
    · simp only [mo_undo]
      rw [k2, if_pos q]
  · have hK := hO.2.1
    obtain ⟨h1, e1, e2, e3, e4⟩ := hi_restore_eq hC.2 (by omega)
    have f0 : ∀ c, c ≠ 0 → hu (hu h1 0 6 0) 0 7 0 c = h1 c := fun c g => funext fun j => by rw [hu_o (by omega), hu_o (by omega)]
    have eC : dl_undo 0 h = some (K - 1, hu (hu h1 0 6 0) 0 7 0) := by
      simp only [dl_undo, Nat.reduceAdd]
      rw [k1, if_neg q, bd_eq e1]
      have : dl_forgetWhatWasWorkedOut 0 h1 = some ((), hu (hu h1 0 6 0) 0 7 0) := rfl
      rw [bd_eq this, f0 9 (by decide), e2.1]
    have hS1 : SM D K B (hu (hu h1 0 6 0) 0 7 0) := hM.keep (fun i => by rw [f0 133 (by decide), e4 133 (by omega)]) (by rw [f0 132 (by decide), e4 132 (by omega)])
    obtain ⟨h2, m1, m2, m3, m4, m5⟩ := mo_undo_eq hS1.2 hO.2.2 (by omega)
    refine ⟨K - 1, _, h2, eC, m1, B 0, K - 1, fun k => B (k + 1), ⟨hO.2.2 0 (by omega) (by omega), by omega, fun k a b => hO.2.2 (k + 1) (by omega) (by omega)⟩, CS.keep (h := h1) ⟨e3, e2⟩ (fun c a b => by rw [m4 c (by omega) (by omega), f0 c (by omega)]), ⟨m3, m2⟩, hT.keep ?_ ?_ ?_ ?_ ?_, hF.1 _ _ ?_ ?_⟩
    · rw [m4 75 (by decide) (by decide), f0 75 (by decide), e4 75 (by omega)]
    · rw [m4 76 (by decide) (by decide), f0 76 (by decide), e4 76 (by omega)]
    · rw [m4 134 (by decide) (by decide), f0 134 (by decide), e4 134 (by omega)]
    · rw [m5 3 (by decide), f0 132 (by decide), e4 132 (by omega)]
    · rw [m5 4 (by decide), f0 132 (by decide), e4 132 (by omega)]
    · rw [m4 0 (by decide) (by decide), hu_j 0 (by decide), hu_s]
    · rw [m4 0 (by decide) (by decide), hu_s]
/-- what only words of a text change -/
theorem INV.text {h h' : Hp} (hF : FRK FR) (hI : INV FR h) (e : ∀ c, c ≠ 75 → c ≠ 76 → c ≠ 132 → c ≠ 134 → h' c = h c) (e1 : h' 132 1 = h 132 1) (hT : TX h') : INV FR h' := by
  obtain ⟨D, K, B, hO, hC, hM, -, hR⟩ := hI
  exact ⟨D, K, B, hO, hC.keep (fun c a b => e c (by omega) (by omega) (by omega) (by omega)), hM.keep (fun i => by rw [e 133 (by decide) (by decide) (by decide) (by decide)]) e1, hT, hF.2 _ _ _ (fun c g => e c (by omega) (by omega) (by omega) (by omega)) hR⟩
theorem st_type (hF : FRK FR) (x : Int) : STEP FR (dl_type 0 x) (mo_type 132 x) := by
  intro h hI
  obtain ⟨D, K, B, hO, hC, hM, hT, hR⟩ := id hI
  obtain ⟨t1, t2, t3, t4⟩ := hT
  by_cases q : 32 ≤ x ∧ x ≤ 126
  · by_cases q2 : h 75 2 = 80
    · refine step_no hI (r := -3) ?_ ?_
      · simp only [dl_type, Nat.reduceAdd]
        rw [bd_eq (dl_isWithin_eq x 32 126), yn_t q, if_neg (by decide), if_pos q2]
      · simp only [mo_type, Nat.reduceAdd]
        rw [bd_eq (mo_in_eq x 32 126), yn_t q, if_neg (by decide), t2, if_pos q2]
    · have a1 : hu h 76 (h 75 2) x 75 2 = h 75 2 := by rw [hu_o (by decide)]
      have c1 : dl_type 0 x h = some (h 75 2 + 1, hu (hu h 76 (h 75 2) x) 75 2 (h 75 2 + 1)) := by
        simp only [dl_type, tr_append, Nat.reduceAdd]
        rw [bd_eq (dl_isWithin_eq x 32 126), yn_t q, if_neg (by decide), if_neg q2, ix_in (by omega) (by omega), lt_eq, a1, ck_in ⟨by omega, by omega⟩, lt_eq, hu_s]
        rfl
      generalize hh1 : hu (hu h 76 (h 75 2) x) 75 2 (h 75 2 + 1) = h1 at c1
      have o1 : ∀ c, c ≠ 75 → c ≠ 76 → h1 c = h c := fun c g0 g1 => by subst hh1; exact funext fun j => by rw [hu_o (by omega), hu_o (by omega)]
      have a2 : hu h1 134 (h 75 2) x 132 3 = h 75 2 := by rw [hu_o (by decide), o1 132 (by decide) (by decide), t2]
      have a3 : h1 132 3 = h 75 2 := by rw [o1 132 (by decide) (by decide), t2]
      have m1 : mo_type 132 x h1 = some (h 75 2 + 1, hu (hu h1 134 (h 75 2) x) 132 3 (h 75 2 + 1)) := by
        simp only [mo_type, Nat.reduceAdd]
        rw [bd_eq (mo_in_eq x 32 126), yn_t q, if_neg (by decide), a3, if_neg q2, ix_in (by omega) (by omega), lt_eq, a2, ck_in ⟨by omega, by omega⟩, lt_eq, hu_s]
      refine ⟨_, h1, _, c1, m1, INV.text hF hI (fun c g0 g1 g2 g3 => ?_) ?_ ⟨?_, ?_, ?_, ?_⟩⟩
      · rw [← o1 c g0 g1]; exact funext fun j => by rw [hu_o (by omega), hu_o (by omega)]
      · rw [hu_j 132 (by decide), hu_o (by decide), o1 132 (by decide) (by decide)]
      · rw [hu_o (by decide), hu_o (by decide), ← hh1, hu_s]; omega
      · rw [hu_s, hu_o (by decide), hu_o (by decide), ← hh1, hu_s]
      · funext i
        subst hh1
        have e := congrFun t3 i
        unfold hu
        simp
        split <;> simp_all
      · rw [hu_j 132 (by decide), hu_o (by decide), hu_o (by decide), hu_o (by decide), o1 132 (by decide) (by decide), ← hh1, hu_j 75 (by decide), hu_o (by decide)]
        exact t4
  · refine step_no hI (r := -1) ?_ ?_
    · simp only [dl_type, Nat.reduceAdd]
      rw [bd_eq (dl_isWithin_eq x 32 126), yn_f q, if_pos rfl]
    · simp only [mo_type, Nat.reduceAdd]
      rw [bd_eq (mo_in_eq x 32 126), yn_f q, if_pos rfl]
theorem st_clearText (hF : FRK FR) : STEP FR (dl_clearText 0) (mo_clearText 132) := by
  intro h hI
  obtain ⟨D, K, B, hO, hC, hM, hT, hR⟩ := id hI
  obtain ⟨t1, t2, t3, t4⟩ := hT
  have c1 : dl_clearText 0 h = some (h 75 2, hu h 75 2 0) := rfl
  have m1 : mo_clearText 132 (hu h 75 2 0) = some (h 75 2, hu (hu h 75 2 0) 132 3 0) := by
    simp only [mo_clearText]
    rw [lt_eq, hu_o (by decide), t2]
  refine ⟨_, _, _, c1, m1, INV.text hF hI (fun c g0 g1 g2 g3 => funext fun j => by rw [hu_o (by omega), hu_o (by omega)]) ?_ ⟨?_, ?_, ?_, ?_⟩⟩
  · rw [hu_j 132 (by decide), hu_o (by decide)]
  · rw [hu_o (by decide), hu_s]; omega
  · rw [hu_s, hu_o (by decide), hu_s]
  · funext i
    rw [hu_o (by decide), hu_o (by decide), hu_o (by decide), hu_o (by decide), t3]
  · rw [hu_j 132 (by decide), hu_o (by decide), hu_o (by decide), hu_j 75 (by decide)]; exact t4
theorem st_faultKind (hF : FRK FR) : STEP FR (dl_faultKind 0) (mo_faultKind 132) := by
  intro h hI
  obtain ⟨D, K, B, hO, hC, hM, hT, hR⟩ := id hI
  refine step_no hI (r := h 75 3) rfl ?_
  rw [← hT.2.2.2]; rfl
end EDITS

section EDITS
variable {FR : Dr → Hp → Prop}
theorem WF.set {D : Dr} (w : WF D) {r : Nat} {d v : Int} (hr : (3 ≤ r ∧ r ≤ 4 ∧ 0 ≤ v ∧ v ≤ 20) ∨ (r = 5 ∧ 0 ≤ v ∧ v ≤ 5) ∨ (r = 6 ∧ 0 ≤ v ∧ v ≤ 9)) : WF (dSet D r d v) := by
  obtain ⟨w1, w2, w3, w4, w5, w6, w7⟩ := w
  have e7 : ∀ i, dSet D r d v 7 i = D 7 i := fun i => by unfold dSet; grind
  have e0 : ∀ i, dSet D r d v 0 i = D 0 i := fun i => by unfold dSet; grind
  refine ⟨by rw [e7]; exact w1, by rw [e7]; exact w2, by rw [e7]; exact w3, by rw [e7]; exact w4, fun i g0 g1 => ?_, fun i j g0 g1 g2 => ?_, fun k g0 g1 => ?_⟩
  · rw [e0]; rw [e7] at g1; exact w5 i g0 g1
  · rw [e0, e0]; rw [e7] at g2; exact w6 i j g0 g1 g2
  · rw [e7] at g1
    rw [e7]
    have a := w7 k g0 g1
    unfold dSet
    grind
theorem WF.setS {D : Dr} (w : WF D) {q v : Int} (hq : q = 2 ∨ q = 3) (hv : 1 ≤ v ∧ v ≤ 9) : WF (dSet D 7 q v) := by
  obtain ⟨w1, w2, w3, w4, w5, w6, w7⟩ := w
  have e70 : dSet D 7 q v 7 0 = D 7 0 := by unfold dSet; grind
  have e71 : dSet D 7 q v 7 1 = D 7 1 := by unfold dSet; grind
  have e72 : dSet D 7 q v 7 2 = if q = 2 then v else D 7 2 := by unfold dSet; grind
  have e73 : dSet D 7 q v 7 3 = if q = 3 then v else D 7 3 := by unfold dSet; grind
  refine ⟨by rw [e70]; exact w1, by rw [e71]; exact w2, by rw [e72]; grind, by rw [e73]; grind, fun i g0 g1 => ?_, fun i j g0 g1 g2 => ?_, fun k g0 g1 => ?_⟩
  · rw [e70] at g1; exact w5 i g0 g1
  · rw [e70] at g2; exact w6 i j g0 g1 g2
  · rw [e71] at g1
    rw [e70]
    exact w7 k g0 g1
end EDITS

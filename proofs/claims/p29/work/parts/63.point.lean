section POINT
variable {D : Dr} {h : Hp}
theorem ask_point_no (hA : AtC D h 1) {p x : Int} (q : ¬ (0 ≤ p ∧ p < D 7 0)) : dl_point 0 p x h = some (-1, h) := by
  have en : h 1 7 = D 7 0 := hA.1.1.symm
  simp only [dl_point, Nat.reduceAdd]
  rw [bd_eq (dr_hasPoint_eq p), en, yn_f q, if_pos rfl]
theorem ask_point0 (hA : AtC D h 1) (w : WF D) {p : Int} (q : 0 ≤ p ∧ p < D 7 0) : dl_point 0 p 0 h = some (D 0 p, h) := by
  have en : h 1 7 = D 7 0 := hA.1.1.symm
  have w0 := w.1
  simp only [dl_point, Nat.reduceAdd]
  rw [bd_eq (dr_hasPoint_eq p), en, yn_t q, if_neg (by decide)]
  show ix p 12 (some (h 2 p, h)) = _
  rw [ix_in q.1 (by omega), hA.2.1 p q.1 q.2]
theorem ask_point1 (hA : AtC D h 1) (w : WF D) {p : Int} (q : 0 ≤ p ∧ p < D 7 0) : dl_point 0 p 1 h = some (cntE (D 1) (D 2) p (D 7 1).toNat, h) := by
  have en : h 1 7 = D 7 0 := hA.1.1.symm
  have em : h 1 8 = D 7 1 := hA.1.2.1.symm
  have w0 := w.1
  have w1 := w.2.1
  simp only [dl_point, Nat.reduceAdd]
  rw [bd_eq (dr_hasPoint_eq p), en, yn_t q, if_neg (by decide)]
  show (bd (dr_countDimensionsAt 1 p h) fun r2 h2 => some (r2, h2)) = _
  rw [bd_eq (dr_countDimensionsAt_eq (by omega) p)]
  exact congrArg (fun z => some (z, h)) (hA.ends p)
end POINT

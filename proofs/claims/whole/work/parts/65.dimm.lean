section DIMM
variable {D : Dr} {h h3 : Hp}
theorem mo_dim_simple (hM : AtM D h 0) (w : WF D) (hL : mo_laysLanes 132 h = some ((), h3)) (h33 : h3 133 = h 133) {d x : Int} (q : 0 ≤ d ∧ d < D 7 1) (hx : 0 ≤ x ∧ x ≤ 6) : mo_dimension 132 d x h = some (dimS D d x, h3) := by
  have w1 := w.2.1
  have hM3 := hM.any h33
  have rw6 : ∀ z : Int, 0 ≤ z → z < 6 → mo_of 132 d z h3 = some (h3 133 (14 + 6 * d + z), h3) := fun z a b => mo_of_raw (by omega) ⟨a, b⟩
  obtain ⟨r1, r2, r3, r4, r5, r6⟩ := hM3.2.2 d q.1 q.2
  simp only [mo_dimension, mo_dimension_b18, Nat.reduceAdd]
  rw [bd_eq (mo_isDimension_eq hM w d), yn_t q, if_neg (by decide), bd_eq (mo_in_eq x 0 12), yn_t (by omega), if_neg (by decide), bd_eq hL]
  rcases (by omega : x = 0 ∨ x = 1 ∨ x = 2 ∨ x = 3 ∨ x = 4 ∨ x = 5 ∨ x = 6) with e | e | e | e | e | e | e
  · subst e
    show mo_dimension_b92 132 d 0 h3 = _
    unfold mo_dimension_b92
    rw [bd_eq (rw6 0 (by decide) (by decide)), show (14 : Int) + 6 * d + 0 = 112 * 0 + 14 + 6 * d by omega, ← r1]; rfl
  · subst e
    show mo_dimension_b92 132 d 1 h3 = _
    unfold mo_dimension_b92
    rw [bd_eq (rw6 1 (by decide) (by decide)), show (14 : Int) + 6 * d + 1 = 112 * 0 + 15 + 6 * d by omega, ← r2]; rfl
  · subst e
    show (bd (mo_value 132 d h3) fun r4 h4 => some (r4, h4)) = _
    rw [bd_eq (mo_value_eq hM3 w q.1 q.2)]; rfl
  · subst e
    show mo_dimension_b153 132 d 3 h3 = _
    unfold mo_dimension_b153
    rw [bd_eq (show mo_placeOf 3 h3 = some (2, h3) from rfl), bd_eq (rw6 2 (by decide) (by decide)), show (14 : Int) + 6 * d + 2 = 112 * 0 + 16 + 6 * d by omega, ← r3]; rfl
  · subst e
    show mo_dimension_b153 132 d 4 h3 = _
    unfold mo_dimension_b153
    rw [bd_eq (show mo_placeOf 4 h3 = some (3, h3) from rfl), bd_eq (rw6 3 (by decide) (by decide)), show (14 : Int) + 6 * d + 3 = 112 * 0 + 17 + 6 * d by omega, ← r4]; rfl
  · subst e
    show mo_dimension_b153 132 d 5 h3 = _
    unfold mo_dimension_b153
    rw [bd_eq (show mo_placeOf 5 h3 = some (4, h3) from rfl), bd_eq (rw6 4 (by decide) (by decide)), show (14 : Int) + 6 * d + 4 = 112 * 0 + 18 + 6 * d by omega, ← r5]; rfl
  · subst e
    show mo_dimension_b153 132 d 6 h3 = _
    unfold mo_dimension_b153
    rw [bd_eq (show mo_placeOf 6 h3 = some (5, h3) from rfl), bd_eq (rw6 5 (by decide) (by decide)), show (14 : Int) + 6 * d + 5 = 112 * 0 + 19 + 6 * d by omega, ← r6]; rfl
end DIMM

section DIMC
variable {D : Dr} {h : Hp}
/-- what the class tells of a dimension without lanes or bounds -/
def dimS (D : Dr) (d x : Int) : Int := if x = 0 then D 1 d else if x = 1 then D 2 d else if x = 2 then vD D d else if x = 3 then D 3 d else if x = 4 then D 4 d else if x = 5 then D 5 d else D 6 d
theorem ask_dim_no (hA : AtC D h 1) {d x : Int} (q : ¬ (0 ≤ d ∧ d < D 7 1)) : dl_dimension 0 d x h = some (-1, h) := by
  have em : h 1 8 = D 7 1 := hA.1.2.1.symm
  simp only [dl_dimension, Nat.reduceAdd]
  rw [bd_eq (dr_hasDimension_eq d), em, yn_f q, if_pos rfl]
theorem dl_dim_simple (hA : AtC D h 1) (w : WF D) {d x : Int} (q : 0 ≤ d ∧ d < D 7 1) (hx : 0 ≤ x ∧ x ≤ 6) : dl_dimension 0 d x h = some (dimS D d x, h) := by
  have em : h 1 8 = D 7 1 := hA.1.2.1.symm
  have w1 := w.2.1
  have wd := w.dim q.1 q.2
  have wc := hA.wf w
  obtain ⟨r1, r2, r3, r4, r5, r6⟩ := hA.2.2 d q.1 q.2
  have r1 : h 3 d = D 1 d := r1.symm
  have r2 : h 4 d = D 2 d := r2.symm
  have r3 : h 5 d = D 3 d := r3.symm
  have r4 : h 6 d = D 4 d := r4.symm
  have r5 : h 7 d = D 5 d := r5.symm
  have r6 : h 8 d = D 6 d := r6.symm
  have p1 : h 2 (D 1 d) = D 0 (D 1 d) := (hA.2.1 _ wd.1.1 (by omega)).symm
  have p2 : h 2 (D 2 d) = D 0 (D 2 d) := (hA.2.1 _ (by omega) wd.1.2.2).symm
  have ev : dr_valueOf 1 d h = some (vD D d, h) := by
    have := dr_valueOf_eq wc (d := d) q.1 (by omega)
    rw [show (1 + 3 : Nat) = 4 from rfl, show (1 + 2 : Nat) = 3 from rfl, show (1 + 1 : Nat) = 2 from rfl, r1, r2, p1, p2] at this
    exact this
  simp only [dl_dimension, Nat.reduceAdd]
  rw [bd_eq (dr_hasDimension_eq d), em, yn_t q, if_neg (by decide)]
  rcases (by omega : x = 0 ∨ x = 1 ∨ x = 2 ∨ x = 3 ∨ x = 4 ∨ x = 5 ∨ x = 6) with e | e | e | e | e | e | e
  · subst e
    show ix d 16 (some (h 3 d, h)) = _
    rw [ix_in q.1 (by omega), r1]; rfl
  · subst e
    show ix d 16 (some (h 4 d, h)) = _
    rw [ix_in q.1 (by omega), r2]; rfl
  · subst e
    show (bd (dr_valueOf 1 d h) fun r2 h2 => some (r2, h2)) = _
    rw [bd_eq ev]; rfl
  · subst e
    show ix d 16 (some (h 5 d, h)) = _
    rw [ix_in q.1 (by omega), r3]; rfl
  · subst e
    show ix d 16 (some (h 6 d, h)) = _
    rw [ix_in q.1 (by omega), r4]; rfl
  · subst e
    show ix d 16 (some (h 7 d, h)) = _
    rw [ix_in q.1 (by omega), r5]; rfl
  · subst e
    show ix d 16 (some (h 8 d, h)) = _
    rw [ix_in q.1 (by omega), r6]; rfl
end DIMC

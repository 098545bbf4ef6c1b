section COVER
variable {h : Hp}
theorem mo_covers_eq {u v : Int} (hu : 0 ≤ u ∧ u < 16) (hv : 0 ≤ v ∧ v < 16) : mo_covers 132 u v h = some (yn (h 136 u ≤ h 136 v ∧ h 137 v ≤ h 137 u), h) := by
  simp only [mo_covers, mo_covers_b34, mo_covers_b35, Nat.reduceAdd]
  rw [ix_in hu.1 hu.2, ix_in hv.1 hv.2]
  by_cases q : h 136 v < h 136 u
  · rw [if_pos q, yn_f (by omega)]; rfl
  · rw [if_neg q, ix_in hv.1 hv.2, ix_in hu.1 hu.2]
    by_cases q2 : h 137 u < h 137 v
    · rw [if_pos q2, yn_f (by omega)]; rfl
    · rw [if_neg q2, yn_t (by omega)]; rfl
end COVER

section MML
/-- 1 for yes, 0 for no -/
noncomputable def tb (P : Prop) : Int := @ite _ P (Classical.propDecidable _) 1 0
theorem tb_t {P : Prop} (h : P) : tb P = 1 := if_pos h
theorem tb_f {P : Prop} (h : ¬ P) : tb P = 0 := if_neg h
theorem tb_congr {P Q : Prop} (h : P ↔ Q) : tb P = tb Q := by rw [propext h]
theorem tb_bz {P : Prop} : tb P = 0 ∨ tb P = 1 := by
  by_cases q : P
  · exact Or.inr (tb_t q)
  · exact Or.inl (tb_f q)
variable {D : Dr} {h : Hp}
end MML

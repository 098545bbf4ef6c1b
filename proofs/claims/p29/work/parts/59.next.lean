section NEXT
variable {D : Dr} {h : Hp}
/-- the least unit not yet laid, among the first k -/
def nu (D : Dr) (pl S T : Int → Int) : Nat → Int
  | 0 => -999
  | k + 1 => if ld D k = k ∧ pl k = 0 ∧ (nu D pl S T k = -999 ∨ bf S T k (nu D pl S T k)) then (k : Int) else nu D pl S T k
theorem nu_is {pl S T : Int → Int} : ∀ k : Nat, (nu D pl S T k = -999 ∧ ∀ u : Int, 0 ≤ u → u < k → ld D u = u → pl u ≠ 0) ∨ ((0 ≤ nu D pl S T k ∧ nu D pl S T k < k) ∧ ld D (nu D pl S T k) = nu D pl S T k ∧ pl (nu D pl S T k) = 0 ∧ ∀ u : Int, 0 ≤ u → u < k → ld D u = u → pl u = 0 → u ≠ nu D pl S T k → bf S T (nu D pl S T k) u)
  | 0 => Or.inl ⟨rfl, fun u a b => by omega⟩
  | k + 1 => by
    have i := nu_is (pl := pl) (S := S) (T := T) k
    by_cases q : ld D (k : Int) = k ∧ pl k = 0 ∧ (nu D pl S T k = -999 ∨ bf S T k (nu D pl S T k))
    · have e : nu D pl S T (k + 1) = (k : Int) := if_pos q
      rw [e]
      refine Or.inr ⟨by omega, q.1, q.2.1, fun u a b c d f => ?_⟩
      rcases i with ⟨i1, i2⟩ | ⟨i1, i2, i3, i4⟩
      · exact absurd d (i2 u a (by omega) c)
      · have z : bf S T k (nu D pl S T k) := by
          rcases q.2.2 with y | y
          · omega
          · exact y
        by_cases y : u = nu D pl S T k
        · rw [y]; exact z
        · exact bf_trans z (i4 u a (by omega) c d y)
    · have e : nu D pl S T (k + 1) = nu D pl S T k := if_neg q
      rw [e]
      rcases i with ⟨i1, i2⟩ | ⟨i1, i2, i3, i4⟩
      · refine Or.inl ⟨i1, fun u a b c d => ?_⟩
        by_cases y : u = k
        · subst y; exact q ⟨c, d, Or.inl i1⟩
        · exact i2 u a (by omega) c d
      · refine Or.inr ⟨by omega, i2, i3, fun u a b c d f => ?_⟩
        by_cases y : u = k
        · subst y
          rcases bf_tri (S := S) (T := T) f with z | z
          · exact absurd ⟨c, d, Or.inr z⟩ q
          · exact z
        · exact i4 u a (by omega) c d f
end NEXT

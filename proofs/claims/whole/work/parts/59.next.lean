section NEXT
variable {D : Dr} {h : Hp}
/-- the least unit not yet laid, among the first k -/
def nu (D : Dr) (pl S T : Int → Int) : Nat → Int
  | 0 => -999
  | k + 1 => if ld D k = k ∧ pl k = 0 ∧ (nu D pl S T k = -999 ∨ bf S T k (nu D pl S T k)) then (k : Int) else nu D pl S T k
theorem nu_is {pl S T : Int → Int} : ∀ k : Nat, (nu D pl S T k = -999 ∧ ∀ u : Int, 0 ≤ u → u < k → ld D u = u → pl u ≠ 0) ∨ ((0 ≤ nu D pl S T k ∧ nu D pl S T k < k) ∧ ld D (nu D pl S T k) = nu D pl S T k ∧ pl (nu D pl S T k) = 0 ∧ ∀ u : Int, 0 ≤ u → u < k → ld D u = u → pl u = 0 → u ≠ nu D pl S T k → bf S T (nu D pl S T k) u)
  | 0 => Or.inl ⟨rfl, fun u a b => by omega⟩
  | k + 1 => by
    have i := nu_is (pl := pl) (S := S) (T := T) k
    by_cases q : ld D (k : Int) = k ∧ pl k = 0 ∧ (nu D pl S T k = -999 ∨ bf S T k (nu D pl S T k))
    · have e : nu D pl S T (k + 1) = (k : Int) := if_pos q
      rw [e]
      refine Or.inr ⟨by omega, q.1, q.2.1, fun u a b c d f => ?_⟩
      rcases i with ⟨i1, i2⟩ | ⟨i1, i2, i3, i4⟩
      · exact absurd d (i2 u a (by omega) c)
      · have z : bf S T k (nu D pl S T k) := by
          rcases q.2.2 with y | y
          · omega
          · exact y
        by_cases y : u = nu D pl S T k
        · rw [y]; exact z
        · exact bf_trans z (i4 u a (by omega) c d y)
    · have e : nu D pl S T (k + 1) = nu D pl S T k := if_neg q
      rw [e]
      rcases i with ⟨i1, i2⟩ | ⟨i1, i2, i3, i4⟩
      · refine Or.inl ⟨i1, fun u a b c d => ?_⟩
        by_cases y : u = k
        · subst y; exact q ⟨c, d, Or.inl i1⟩
        · exact i2 u a (by omega) c d
      · refine Or.inr ⟨by omega, i2, i3, fun u a b c d f => ?_⟩
        by_cases y : u = k
        · subst y
          rcases bf_tri (S := S) (T := T) f with z | z
          · exact absurd ⟨c, d, Or.inr z⟩ q
          · exact z
        · exact i4 u a (by omega) c d f
theorem mo_isUnit_eq {u : Int} (hu : 0 ≤ u ∧ u < 16) (e : h 135 u = ld D u) : mo_isUnit 132 u h = some (yn (ld D u = u), h) := by
  simp only [mo_isUnit, mo_isUnit_b15, Nat.reduceAdd]
  rw [ix_in hu.1 hu.2, e]
  by_cases q : ld D u = u
  · rw [if_pos q, yn_t q]; rfl
  · rw [if_neg q, yn_f q]; rfl
theorem mo_nextUnit_eq (ha : AtM D h 0) (w : WF D) (hU : ∀ u : Int, 0 ≤ u → u < D 7 1 → h 135 u = ld D u) (hb : ∀ u : Int, 0 ≤ u → u < D 7 1 → ld D u = u → (0 ≤ h 136 u ∧ h 136 u ≤ 300) ∧ (0 ≤ h 137 u ∧ h 137 u ≤ 300)) : mo_nextUnit 132 h = some (nu D (h 140) (h 136) (h 137) (D 7 1).toNat, h) := by
  have w1 := w.2.1
  unfold mo_nextUnit
  refine it2_seq (fun k => nu D (h 140) (h 136) (h 137) k) (fun k => (k : Int)) (fun _ => h) (D 7 1).toNat (fun k x hx => ?_) (fun k => ?_) fuel 0 (Nat.zero_le _) (by unfold fuel; omega)
  · have hx0 : 0 ≤ (x : Int) ∧ (x : Int) < 16 := by omega
    have ni := nu_is (D := D) (pl := h 140) (S := h 136) (T := h 137) x
    have e : nu D (h 140) (h 136) (h 137) (x + 1) = if ld D (x : Int) = x ∧ h 140 x = 0 ∧ (nu D (h 140) (h 136) (h 137) x = -999 ∨ bf (h 136) (h 137) x (nu D (h 140) (h 136) (h 137) x)) then (x : Int) else nu D (h 140) (h 136) (h 137) x := rfl
    generalize nu D (h 140) (h 136) (h 137) x = b at *
    rw [e]
    simp only [mo_nextUnit_f6, mo_nextUnit_b50, mo_nextUnit_b54, mo_nextUnit_b55, Nat.reduceAdd]
    rw [ix_in (by omega) (by omega), ha.m, if_pos (by omega), bd_eq (mo_isUnit_eq hx0 (hU x (by omega) (by omega)))]
    by_cases q1 : ld D (x : Int) = x
    · rw [yn_t q1, if_neg (by decide), ix_in hx0.1 hx0.2]
      by_cases q2 : h 140 x = 0
      · rw [if_pos q2]
        by_cases q3 : b = -999
        · rw [if_pos q3, ck_in ⟨by omega, by omega⟩, if_pos ⟨q1, q2, Or.inl q3⟩]; rfl
        · have nb : (0 ≤ b ∧ b < x) ∧ ld D b = b := by
            rcases ni with z | z
            · exact absurd z.1 q3
            · exact ⟨z.1, z.2.1⟩
          rw [if_neg q3, bd_eq (mo_isSooner_eq hx0 (by omega) (hb x (by omega) (by omega) q1) (hb b nb.1.1 (by omega) nb.2))]
          by_cases q4 : bf (h 136) (h 137) x b
          · rw [yn_t q4, if_neg (by decide), ck_in ⟨by omega, by omega⟩, if_pos ⟨q1, q2, Or.inr q4⟩]; rfl
          · rw [yn_f q4, if_pos rfl, ck_in ⟨by omega, by omega⟩, if_neg (fun z => z.2.2.elim q3 q4)]; rfl
      · rw [if_neg q2, ck_in ⟨by omega, by omega⟩, if_neg (fun z => q2 z.2.1)]; rfl
    · rw [yn_f q1, if_pos rfl, ck_in ⟨by omega, by omega⟩, if_neg (fun z => q1 z.1)]; rfl
  · simp only [mo_nextUnit_f6, Nat.reduceAdd]
    rw [ix_in (by omega) (by omega), ha.m, if_neg (by omega)]
end NEXT

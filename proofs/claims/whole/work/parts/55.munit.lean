section MUNIT
variable {D : Dr} {h : Hp}
/-- the same in the reference -/
def hmu (D : Dr) (h : Hp) (d : Int) : Hp := fun c j =>
  if c = 135 ∧ j = d then ld D d
  else if c = 140 ∧ j = d then 0
  else if c = 136 ∧ j = ld D d then (if ld D d = d then v0 D d else min (h 136 (ld D d)) (v0 D d))
  else if c = 137 ∧ j = ld D d then (if ld D d = d then v1 D d else max (h 137 (ld D d)) (v1 D d))
  else if c = 138 ∧ j = ld D d then (if ld D d = d then D 6 d else max (h 138 (ld D d)) (D 6 d))
  else h c j
theorem AtM.any (ha : AtM D h 0) {h' : Hp} (e : h' 133 = h 133) : AtM D h' 0 := by
  unfold AtM at *
  rw [e]
  exact ha
theorem mo_laysUnits_f2_eq (ha : AtM D h 0) (w : WF D) {d : Int} (h0 : 0 ≤ d) (h1 : d < D 7 1) (k : Int → Hp → O Unit) : mo_laysUnits_f2 132 k d h = k (d + 1) (hmu D h d) := by
  have w1 := w.2.1
  have lb := (ld_is (D := D) h0).1
  have wd := w.dim h0 h1
  have hA : ∀ h' : Hp, h' 133 = h 133 → AtM D h' 0 := fun h' e => ha.any e
  generalize hH : hu (hu h 135 d (ld D d)) 140 d 0 = H
  have H133 : H 133 = h 133 := by rw [← hH]; exact funext fun j => by rw [hu_o (by decide), hu_o (by decide)]
  have hH6 : ∀ c j, (c = 136 ∨ c = 137 ∨ c = 138) → H c j = h c j := fun c j z => by rw [← hH, hu_o (by omega), hu_o (by omega)]
  have b151 : ∀ (G : Hp) (s : Int), mo_laysUnits_b151 132 k d s (ld D d) G = k (d + 1) (hu G 138 (ld D d) s) := fun G s => by
    unfold mo_laysUnits_b151
    rw [ix_in lb.1 (by omega), lt_eq, ck_in ⟨by omega, by omega⟩]
  have b110 : ∀ (G : Hp) (s : Int), G 133 = h 133 → (∀ j, G 138 j = h 138 j) → mo_laysUnits_b110 132 k d (ld D d) s (ld D d) G = k (d + 1) (hu (hu G 137 (ld D d) s) 138 (ld D d) (if ld D d = d then D 6 d else max (h 138 (ld D d)) (D 6 d))) := fun G s e e8 => by
    have a6 := mo_leastOf (hA (hu G 137 (ld D d) s) (by rw [← e]; exact funext fun j => hu_o (by decide) j)) w h0 h1
    have e8' : hu G 137 (ld D d) s 138 (ld D d) = h 138 (ld D d) := by rw [hu_o (by decide), e8]
    simp only [mo_laysUnits_b110, mo_laysUnits_b136, Nat.reduceAdd]
    rw [ix_in lb.1 (by omega), lt_eq]
    by_cases q : ld D d = d
    · simp only [if_pos q]
      rw [bd_eq a6, b151]
    · simp only [if_neg q]
      rw [bd_eq a6, ix_in lb.1 (by omega), e8']
      by_cases q2 : h 138 (ld D d) < D 6 d
      · rw [if_pos q2, bd_eq a6, b151, Int.max_eq_right (show h 138 (ld D d) ≤ D 6 d by omega)]
      · rw [if_neg q2, ix_in lb.1 (by omega), b151, Int.max_eq_left (show D 6 d ≤ h 138 (ld D d) by omega)]
  have b71 : ∀ (G : Hp) (s : Int), G 133 = h 133 → (∀ j, G 138 j = h 138 j) → (∀ j, G 137 j = h 137 j) → mo_laysUnits_b71 132 k d (ld D d) s (ld D d) G = k (d + 1) (hu (hu (hu G 136 (ld D d) s) 137 (ld D d) (if ld D d = d then v1 D d else max (h 137 (ld D d)) (v1 D d))) 138 (ld D d) (if ld D d = d then D 6 d else max (h 138 (ld D d)) (D 6 d))) := fun G s e e8 e7 => by
    have e' : hu G 136 (ld D d) s 133 = h 133 := by rw [← e]; exact funext fun j => hu_o (by decide) j
    have a2 := mo_to_eq (hA (hu G 136 (ld D d) s) e') w h0 h1
    have e7' : hu G 136 (ld D d) s 137 (ld D d) = h 137 (ld D d) := by rw [hu_o (by decide), e7]
    have c110 := fun s' => b110 (hu G 136 (ld D d) s) s' e' (fun j => by rw [hu_o (by decide), e8])
    simp only [mo_laysUnits_b71, mo_laysUnits_b96, Nat.reduceAdd]
    rw [ix_in lb.1 (by omega), lt_eq]
    unfold v1
    by_cases q : ld D d = d
    · simp only [if_pos q]
      rw [bd_eq a2, c110]
      simp only [if_pos q]
    · simp only [if_neg q]
      rw [bd_eq a2, ix_in lb.1 (by omega), e7']
      by_cases q2 : h 137 (ld D d) < D 0 (D 2 d)
      · rw [if_pos q2, bd_eq a2, c110, Int.max_eq_right (show h 137 (ld D d) ≤ D 0 (D 2 d) by omega)]
        simp only [if_neg q]
      · rw [if_neg q2, ix_in lb.1 (by omega), c110, Int.max_eq_left (show D 0 (D 2 d) ≤ h 137 (ld D d) by omega)]
        simp only [if_neg q]
  have a1 := mo_from_eq (hA H H133) w h0 h1
  have u1 := mo_unitOf_eq ha w h0 h1
  have c71 := fun s => b71 H s H133 (fun j => hH6 138 j (by omega)) (fun j => hH6 137 j (by omega))
  have fin : hu (hu (hu H 136 (ld D d) (if ld D d = d then v0 D d else min (h 136 (ld D d)) (v0 D d))) 137 (ld D d) (if ld D d = d then v1 D d else max (h 137 (ld D d)) (v1 D d))) 138 (ld D d) (if ld D d = d then D 6 d else max (h 138 (ld D d)) (D 6 d)) = hmu D h d := by
    rw [← hH]
    funext c j
    unfold hmu hu
    by_cases c8 : c = 135
    · subst c8; simp
    · by_cases c9 : c = 140
      · subst c9; simp
      · by_cases c10 : c = 136
        · subst c10; simp
        · by_cases c11 : c = 137
          · subst c11; simp
          · by_cases c12 : c = 138
            · subst c12; simp
            · simp [c8, c9, c10, c11, c12]
  rw [← fin]
  simp only [mo_laysUnits_f2, mo_laysUnits_b57, Nat.reduceAdd]
  rw [ix_in (by omega) (by omega), ha.m, if_pos h1, bd_eq u1, ix_in h0 (by omega), lt_eq, ix_in h0 (by omega), show bz 0 = (fun (E : O Unit) => E) from funext fun E => if_pos (Or.inl rfl)]
  simp only [lt_eq]
  rw [hH]
  unfold v0
  by_cases q : ld D d = d
  · simp only [if_pos q]
    rw [bd_eq a1, c71]
    simp only [if_pos q]
  · simp only [if_neg q]
    rw [bd_eq a1, ix_in lb.1 (by omega), hH6 136 _ (by omega)]
    by_cases q2 : D 0 (D 1 d) < h 136 (ld D d)
    · rw [if_pos q2, bd_eq a1, c71, Int.min_eq_right (show D 0 (D 1 d) ≤ h 136 (ld D d) by omega)]
      simp only [if_neg q]
    · rw [if_neg q2, ix_in lb.1 (by omega), c71, Int.min_eq_left (show h 136 (ld D d) ≤ D 0 (D 1 d) by omega)]
      simp only [if_neg q]
end MUNIT

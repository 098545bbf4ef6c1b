section INV
theorem WF.lay {D : Dr} (w : WF D) {a b mi pl ch : Int} (h16 : D 7 1 ≠ 16) (h0 : 0 ≤ a ∧ a < b ∧ b < D 7 0) (h1 : 0 ≤ mi ∧ mi ≤ 20) (h2 : 0 ≤ pl ∧ pl ≤ 20) (h3 : 0 ≤ ch ∧ ch ≤ 5) : WF (dLay D a b mi pl ch) := by
  obtain ⟨w1, w2, w3, w4, w5, w6, w7⟩ := w
  have e0 : dLay D a b mi pl ch 7 0 = D 7 0 := by unfold dLay; grind
  have e1 : dLay D a b mi pl ch 7 1 = D 7 1 + 1 := by unfold dLay; grind
  have e2 : dLay D a b mi pl ch 7 2 = D 7 2 := by unfold dLay; grind
  have e3 : dLay D a b mi pl ch 7 3 = D 7 3 := by unfold dLay; grind
  have ep : ∀ i, dLay D a b mi pl ch 0 i = D 0 i := fun i => by unfold dLay; grind
  refine ⟨by rw [e0]; exact w1, by rw [e1]; omega, by rw [e2]; exact w3, by rw [e3]; exact w4, fun i g0 g1 => ?_, fun i j g0 g1 g2 => ?_, fun d g0 g1 => ?_⟩
  · rw [ep]; rw [e0] at g1; exact w5 i g0 g1
  · rw [ep, ep]; rw [e0] at g2; exact w6 i j g0 g1 g2
  · rw [e1] at g1
    rw [e0]
    by_cases q : d = D 7 1
    · unfold dLay
      simp only [q, true_and, if_true]
      simp
      omega
    · have := w7 d g0 (by omega)
      unfold dLay
      simp [q]
      omega
theorem WF.del {D : Dr} (w : WF D) {k : Int} (h0 : 0 ≤ k) (h1 : k < D 7 1) : WF (dDel D k) := by
  obtain ⟨w1, w2, w3, w4, w5, w6, w7⟩ := w
  have e0 : dDel D k 7 0 = D 7 0 := by unfold dDel; grind
  have e1 : dDel D k 7 1 = D 7 1 - 1 := by unfold dDel; grind
  have e2 : dDel D k 7 2 = D 7 2 := by unfold dDel; grind
  have e3 : dDel D k 7 3 = D 7 3 := by unfold dDel; grind
  have ep : ∀ i, dDel D k 0 i = D 0 i := fun i => by unfold dDel; grind
  refine ⟨by rw [e0]; exact w1, by rw [e1]; omega, by rw [e2]; exact w3, by rw [e3]; exact w4, fun i g0 g1 => ?_, fun i j g0 g1 g2 => ?_, fun d g0 g1 => ?_⟩
  · rw [ep]; rw [e0] at g1; exact w5 i g0 g1
  · rw [ep, ep]; rw [e0] at g2; exact w6 i j g0 g1 g2
  · rw [e1] at g1
    rw [e0]
    have a1 := w7 d g0 (by omega)
    have a2 := w7 (d + 1) (by omega) (by omega)
    by_cases q : d < k
    · unfold dDel
      simp [q]
      omega
    · unfold dDel
      simp [q]
      omega
theorem WF.ins {D : Dr} (w : WF D) {x : Int} (h12 : D 7 0 ≠ 12) (hx : 0 ≤ x ∧ x ≤ 300) (hn : ¬ hasX D x) : WF (dIns D x (cntB (D 0) x (D 7 0).toNat)) := by
  have hb := cntB_b (D 0) x (D 7 0).toNat
  have hs : ∀ i : Int, 0 ≤ i → i < D 7 0 → (D 0 i < x ↔ i < cntB (D 0) x (D 7 0).toNat) := fun i g0 g1 => cntB_lt (n := (D 7 0).toNat) (fun i j a b c => w.2.2.2.2.2.1 i j a b (by omega)) i g0 (by omega)
  have hne : ∀ i : Int, 0 ≤ i → i < D 7 0 → D 0 i ≠ x := fun i g0 g1 e => hn (hasX_uniq w g0 g1 e).1
  obtain ⟨w1, w2, w3, w4, w5, w6, w7⟩ := w
  generalize cntB (D 0) x (D 7 0).toNat = c at *
  have e0 : dIns D x c 7 0 = D 7 0 + 1 := by unfold dIns; grind
  have e1 : dIns D x c 7 1 = D 7 1 := by unfold dIns; grind
  have e2 : dIns D x c 7 2 = D 7 2 := by unfold dIns; grind
  have e3 : dIns D x c 7 3 = D 7 3 := by unfold dIns; grind
  have ep : ∀ i, dIns D x c 0 i = if i < c then D 0 i else if i = c then x else D 0 (i - 1) := fun i => by unfold dIns; grind
  refine ⟨by rw [e0]; omega, by rw [e1]; omega, by rw [e2]; exact w3, by rw [e3]; exact w4, fun i g0 g1 => ?_, fun i j g0 g1 g2 => ?_, fun d g0 g1 => ?_⟩
  · rw [ep]; rw [e0] at g1
    by_cases q1 : i < c
    · rw [if_pos q1]; exact w5 i g0 (by omega)
    · rw [if_neg q1]
      by_cases q2 : i = c
      · rw [if_pos q2]; exact hx
      · rw [if_neg q2]; exact w5 _ (by omega) (by omega)
  · rw [ep, ep]; rw [e0] at g2
    by_cases q1 : i < c
    · rw [if_pos q1]
      by_cases q3 : j < c
      · rw [if_pos q3]; exact w6 i j g0 g1 (by omega)
      · rw [if_neg q3]
        have := (hs i g0 (by omega)).mpr q1
        by_cases q4 : j = c
        · rw [if_pos q4]; exact this
        · rw [if_neg q4]
          by_cases q5 : i = j - 1
          · omega
          · exact w6 i (j - 1) g0 (by omega) (by omega)
    · rw [if_neg q1]
      rw [if_neg (show ¬ j < c by omega), if_neg (show ¬ j = c by omega)]
      have a := hs (j - 1) (by omega) (by omega)
      have b := hne (j - 1) (by omega) (by omega)
      by_cases q2 : i = c
      · rw [if_pos q2]; omega
      · rw [if_neg q2]; exact w6 _ _ (by omega) (by omega) (by omega)
  · rw [e1] at g1
    rw [e0]
    have a1 := w7 d g0 g1
    have f1 : dIns D x c 1 d = if c ≤ D 1 d then D 1 d + 1 else D 1 d := by unfold dIns; grind
    have f2 : dIns D x c 2 d = if c ≤ D 2 d then D 2 d + 1 else D 2 d := by unfold dIns; grind
    have f3 : dIns D x c 3 d = D 3 d := by unfold dIns; grind
    have f4 : dIns D x c 4 d = D 4 d := by unfold dIns; grind
    have f5 : dIns D x c 5 d = D 5 d := by unfold dIns; grind
    have f6 : dIns D x c 6 d = D 6 d := by unfold dIns; grind
    rw [f1, f2, f3, f4, f5, f6]
    by_cases q1 : c ≤ D 1 d
    · rw [if_pos q1, if_pos (by omega)]; omega
    · rw [if_neg q1]
      by_cases q2 : c ≤ D 2 d
      · rw [if_pos q2]; omega
      · rw [if_neg q2]; omega
end INV

section LAWF
variable {D : Dr} {h : Hp}
theorem vD_b (w : WF D) {d : Int} (hd : 0 ≤ d ∧ d < D 7 1) : 1 ≤ vD D d ∧ vD D d ≤ 300 := by
  have dw := w.dim hd.1 hd.2
  unfold vD
  omega
theorem q_7 (g : QS D h) : ∃ h1, dl_count 0 7 h = some (D 7 2, h1) ∧ QL D h h1 := q_count g (by decide)
theorem q_8 (g : QS D h) : ∃ h1, dl_count 0 8 h = some (D 7 3, h1) ∧ QL D h h1 := q_count g (by decide)
theorem fit_end (g : QS D h) {h0 : Hp} (l0 : QL D h0 h) {d : Int} (hd : 0 ≤ d ∧ d < D 7 1) {s : Int} (hs : s = if fD D (D 7 3) d = 0 then 0 else D 7 3) : wp (lw_fitted_b107 0 d (v0 D d) (v1 D d) (vD D d) (wD D d) (fD D (D 7 3) d) s h) (fun r h1 => r = 1 ∧ QL D h0 h1) := by
  have w := g.wf
  have vb := vD_b w hd
  have wb := w.wD d
  have ab := w.2.2.2.1
  have p0 := w.dim hd.1 hd.2
  have pv0 : 0 ≤ v0 D d ∧ v0 D d ≤ 300 := by unfold v0; omega
  have pv1 : 0 ≤ v1 D d ∧ v1 D d ≤ 300 := by unfold v1; omega
  have sb : 0 ≤ s ∧ s ≤ 9 := by
    rw [hs]
    split <;> omega
  obtain ⟨h1, e1, l1⟩ := q_d2 g hd
  obtain ⟨h2, e2, l2⟩ := q_d7 l1.1 hd
  obtain ⟨h3, e3, l3⟩ := q_d8 l2.1 hd
  obtain ⟨h4, e4, l4⟩ := q_d9 l3.1 hd
  have eb : bD D (D 7 3) d = v0 D d - s := by rw [hs]; rfl
  unfold lw_fitted_b107
  rw [if_pos (by omega), bd_eq e1, if_pos rfl, bd_eq e2, if_pos rfl, bd_eq e3, ck_in ⟨by omega, by omega⟩, if_pos eb, bd_eq e4, ck_in ⟨by omega, by omega⟩]
  unfold lw_fitted_b174
  simp only [lw_fitted_b183, lw_fitted_b182]
  have lz : QL D h0 h4 := (((l0.trans l1).trans l2).trans l3).trans l4
  by_cases c : fD D (D 7 3) d = 2
  · have ee : eD D (D 7 3) d = v1 D d + s + wD D d := by
      rw [hs]
      unfold eD v1
      rw [if_pos c]
    rw [if_pos c, ck_in ⟨by omega, by omega⟩, if_pos ee]
    exact wp_ret ⟨rfl, lz⟩
  · have ee : eD D (D 7 3) d = v1 D d + s + 0 := by
      rw [hs]
      unfold eD v1
      rw [if_neg c]
    rw [if_neg c, ck_in ⟨by omega, by omega⟩, if_pos ee]
    exact wp_ret ⟨rfl, lz⟩
theorem lw_fitted_eq (g : QS D h) {d : Int} (hd : 0 ≤ d ∧ d < D 7 1) : ∃ h1, lw_fitted 0 d h = some (1, h1) ∧ QL D h h1 := by
  have w := g.wf
  have vb := vD_b w hd
  have wb := w.wD d
  have lb := w.2.2.1
  have ab := w.2.2.2.1
  obtain ⟨h1, e1, l1⟩ := lp_0 g hd
  obtain ⟨h2, e2, l2⟩ := lp_1 l1.1 hd
  have ev : v1 D d - v0 D d = vD D d := rfl
  unfold lw_fitted
  rw [bd_eq e1, bd_eq e2, ev, ck_in ⟨by omega, by omega⟩, dv_in (by omega) (by omega)]
  refine exq (wp_it2 (fun x5 x6 h' => (0 ≤ x6 ∧ x6 ≤ 30) ∧ (1 ≤ x5 ∧ x5 ≤ 3) ∧ x5 + (if x6 = 0 then 0 else if 9 < x6 then 2 else 1) = dgs (vD D d) ∧ QL D h h') (fun _ x6 _ => x6.toNat) (fun x5 x6 h' hI k hk => ?_) fuel _ _ _ ⟨by omega, by omega, ?_, l1.trans l2⟩ (by unfold fuel; omega))
  · obtain ⟨b6, b5, es, lx⟩ := hI
    unfold lw_fitted_f29
    by_cases c : 0 < x6
    · rw [if_pos c, ck_in ⟨by omega, by omega⟩, dv_in (by omega) (by omega)]
      have db := dgs_b (vD D d)
      refine hk _ _ _ ⟨by omega, ?_, ?_, lx⟩ (by omega)
      · rw [if_neg (by omega)] at es
        split at es <;> omega
      · rw [if_neg (by omega)] at es
        by_cases c2 : 9 < x6
        · rw [if_pos c2] at es
          rw [if_neg (by omega), if_neg (by omega)]
          omega
        · rw [if_neg c2] at es
          rw [if_pos (by omega)]
          omega
    · rw [if_neg c]
      have e5 : x5 = dgs (vD D d) := by
        rw [if_pos (show x6 = 0 by omega)] at es
        omega
      obtain ⟨h3, e3, l3⟩ := q_7 lx.1
      obtain ⟨h4, e4, l4⟩ := q_8 l3.1
      have ew : x5 * D 7 2 = wD D d := by
        rw [e5, Int.mul_comm]
        rfl
      rw [bd_eq e3, ew, ck_in ⟨by omega, by omega⟩, bd_eq e4, ck_in ⟨by omega, by omega⟩, ck_in ⟨by omega, by omega⟩]
      have lz := (lx.trans l3).trans l4
      have ef : fD D (D 7 3) d = if vD D d < wD D d + 2 * D 7 3 then (if vD D d < wD D d then 2 else 1) else 0 := rfl
      have fin := fit_end l4.1 lz hd (s := if fD D (D 7 3) d = 0 then 0 else D 7 3) rfl
      unfold lw_fitted_b94
      by_cases c1 : vD D d < wD D d + 2 * D 7 3
      · rw [if_pos c1] at ef ⊢
        by_cases c2 : vD D d < wD D d
        · rw [if_pos c2] at ef ⊢
          rw [ef, if_neg (by decide)] at fin
          rw [if_neg (by decide)]
          exact fin
        · rw [if_neg c2] at ef ⊢
          rw [ef, if_neg (by decide)] at fin
          rw [if_neg (by decide)]
          exact fin
      · rw [if_neg c1] at ef ⊢
        rw [ef, if_pos rfl] at fin
        rw [if_pos rfl]
        exact fin
  · unfold dgs
    by_cases c1 : 99 < vD D d
    · rw [if_pos c1, if_neg (by omega), if_pos (by omega)]
      rfl
    · rw [if_neg c1]
      by_cases c2 : 9 < vD D d
      · rw [if_pos c2, if_neg (by omega), if_neg (by omega)]
        rfl
      · rw [if_neg c2, if_pos (by omega)]
        rfl
end LAWF

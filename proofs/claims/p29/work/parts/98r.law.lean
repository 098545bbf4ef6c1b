section LAWA
variable {D : Dr} {h : Hp}
theorem DB.start {h2 : Hp} (q2 : h2 1 7 = 0 ∧ h2 1 8 = 0 ∧ h2 1 9 = 4 ∧ h2 1 10 = 3) (q3 : h2 9 1 = 0 ∧ h2 9 2 = 0) (q5 : h2 0 6 = 0) (q6 : h2 0 7 = 0) : DB D0 0 0 h2 := by
  refine ⟨⟨⟨0, fun _ => D0, ⟨D0_wf, by omega, fun k a b => by omega⟩, ⟨⟨⟨?_, ?_, ?_, ?_⟩, fun i a b => by exact absurd b (by show ¬ i < (0 : Int); omega), fun d a b => by exact absurd b (by show ¬ d < (0 : Int); omega)⟩, ?_, by omega, ?_, fun k a b => by omega⟩⟩, FR_k.1 D0 h2 q5 q6⟩, rfl, rfl, rfl, rfl⟩
  · rw [q2.1]; rfl
  · rw [q2.2.1]; rfl
  · rw [q2.2.2.1]; rfl
  · rw [q2.2.2.2]; rfl
  · exact q3.2
  · rw [q3.1]; decide
/-- forms and extents of all -/
theorem law_fit {Q : Int → Hp → Prop} (g : QS D h) {L : Nat} {xs : Nat → Int32} {k136 : Hp → O Int} (hk : ∀ h', QS D h' → wp (k136 h') Q) : wp (lw_law_b109 0 L xs k136 h) Q := by
  have w1 := g.wf.2.1
  unfold lw_law_b109
  refine wp_it1 (fun x3 h' => (0 ≤ x3 ∧ x3 ≤ D 7 1) ∧ QS D h') (fun x3 _ => (D 7 1 - x3).toNat) (fun x3 h' hI k hk2 => ?_) fuel _ _ ⟨by omega, g⟩ (by unfold fuel; omega)
  obtain ⟨hx, gx⟩ := hI
  unfold lw_law_f111
  obtain ⟨h1, e1, l1⟩ := q_m gx
  rw [bd_eq e1]
  by_cases c : x3 < D 7 1
  · obtain ⟨h2, e2, l2⟩ := lw_fitted_eq l1.1 (d := x3) ⟨hx.1, c⟩
    rw [if_pos c, bd_eq e2, if_neg (by decide), ck_in ⟨by omega, by omega⟩]
    exact hk2 _ _ ⟨by omega, l2.1⟩ (by omega)
  · rw [if_neg c]
    exact hk h1 l1.1
theorem law_mid (g : QS D h) (hn : 1 ≤ D 7 0) {L : Nat} {xs : Nat → Int32} : wp (lw_mid L xs h) (fun r _ => r = 1) := by
  unfold lw_mid
  refine wp_bd (lw_lanes_wp g (q := 132) (by decide)) (fun r1 h1 q1 => ?_)
  obtain ⟨e1, m1⟩ := q1
  rw [e1, if_neg (by decide)]
  refine wp_bd (lw_witnesses_wp m1.1 (q := 133) (by decide)) (fun r2 h2 q2 => ?_)
  obtain ⟨e2, m2⟩ := q2
  obtain ⟨v, ev, vr⟩ := lw_cell_eq (h := h2) (L := L) (xs := xs) (k := 31) (by omega)
  rw [e2, if_neg (by decide), bd_eq ev]
  refine wp_bd (lw_tolerances_wp m2.1 (a := 134) (by decide) hn) (fun r3 h3 q3 => ?_)
  obtain ⟨e3, g3⟩ := q3
  rw [e3, if_neg (by decide)]
  exact lw_end_wp g3 hn
theorem law_letter {L : Nat} {xs : Nat → Int32} {x2 : Int} (g : QS D h) (e2 : D 7 2 = 4) (hn : 1 ≤ D 7 0) : wp (lw_law_b77 0 L xs (lw_mid L xs) x2 h) (fun r _ => r = 1) := by
  unfold lw_law_b77
  rw [bd_eq (lw_low_eq (by omega))]
  by_cases c : x2 / 64 % 2147483648 % 3 = 0
  · have b2 := low_b (v := x2 / 256) (n := 9) (by omega)
    rw [if_pos c, bd_eq (lw_low_eq (by omega)), ck_in ⟨by omega, by omega⟩]
    generalize x2 / 256 % 2147483648 % 9 = y at *
    obtain ⟨h1, e1, g1⟩ := ed_letter g (v := 1 + y) (by omega)
    rw [bd_eq e1, if_pos e2]
    have en : dSet D 7 2 (1 + y) 7 0 = D 7 0 := by
      unfold dSet
      rw [if_neg (fun z => absurd z.2 (by decide))]
    exact law_fit g1 (fun h' g' => law_mid g' (by rw [en]; exact hn))
  · rw [if_neg c]
    exact law_fit g (fun h' g' => law_mid g' hn)
theorem law_all (B : DB D 0 0 h) {L : Nat} {xs : Nat → Int32} : wp (lw_law_b8 0 L xs (lw_mid L xs) h) (fun r _ => r = 1) := by
  unfold lw_law_b8
  obtain ⟨v, ev, vr⟩ := lw_cell_eq (h := h) (L := L) (xs := xs) (k := 0) (by omega)
  have b1 := low_b (v := v) (n := 5) (by omega)
  have b2 := low_b (v := v / 16) (n := 8) (by omega)
  rw [bd_eq ev, bd_eq (lw_low_eq (by omega)), ck_in ⟨by omega, by omega⟩, bd_eq ev, bd_eq (lw_low_eq (by omega)), ck_in ⟨by omega, by omega⟩]
  refine wp_bd (lw_drawing_wp B (L := L) (xs := xs) (by omega) (by omega)) (fun r1 h1 q1 => ?_)
  obtain ⟨e1, D1, n, m, hn, g1, en, em, el, ea⟩ := q1
  obtain ⟨y, ey, yr⟩ := lw_cell_eq (h := h1) (L := L) (xs := xs) (k := 30) (by omega)
  rw [e1, if_neg (by decide), bd_eq ey, bd_eq (lw_low_eq (by omega))]
  by_cases c : y % 2147483648 % 3 = 0
  · have b3 := low_b (v := y / 4) (n := 9) (by omega)
    rw [if_pos c, bd_eq (lw_low_eq (by omega)), ck_in ⟨by omega, by omega⟩]
    generalize y / 4 % 2147483648 % 9 = t at *
    obtain ⟨h2, e2, g2⟩ := ed_arrow g1 (v := 1 + t) (by omega)
    rw [bd_eq e2, if_pos ea]
    have e7 : ∀ i, i ≠ 3 → dSet D1 7 3 (1 + t) 7 i = D1 7 i := fun i hi => by
      unfold dSet
      rw [if_neg (fun z => hi z.2)]
    exact law_letter g2 (by rw [e7 2 (by decide)]; exact el) (by rw [e7 0 (by decide)]; omega)
  · rw [if_neg c]
    exact law_letter g1 el (by omega)
theorem lw_true (L : Nat) (xs : Nat → Int32) : ∃ h', lw_all L xs (fun _ _ => 0) = some (1, h') := by
  have key : wp (lw_all L xs (fun _ _ => 0)) (fun r _ => r = 1) := by
    unfold lw_all
    rw [lt_eq]
    refine wp_bd dl_init_wp (fun _ h2 q => ?_)
    obtain ⟨-, q2, q3, -, q5, q6⟩ := q
    exact law_all (DB.start q2 q3 q5 q6)
  obtain ⟨r, h', e, rfl⟩ := key
  exact ⟨h', e⟩
end LAWA

section MWIT
variable {D : Dr} {h : Hp}
/-- how high, or none -/
noncomputable def wtA (D : Dr) (p : Int) : Int := if wt D (D 7 3) p = -1 then -999 else wt D (D 7 3) p
theorem mo_witness_eq (w : WF D) (hL : ML D h) {p : Int} : mo_witness 132 p h = some (wtA D p, h) := by
  have w1 := w.2.1
  have ha := hL.1
  unfold mo_witness
  have key := it2_seq (F := mo_witness_f6 132 p) (fun k => if wtN D (D 7 3) p k = -1 then -999 else wtN D (D 7 3) p k) (fun k => (k : Int)) (fun _ => h) (D 7 1).toNat (R := some (wtA D p, h)) (fun k x hx => ?_) (fun k => ?_) fuel 0 (Nat.zero_le _) (by unfold fuel; omega)
  · exact key
  · have hx' : 0 ≤ (x : Int) ∧ (x : Int) < D 7 1 := by omega
    have lb := lnD_b (a := D 7 3) w hx'.1 hx'.2
    have wb := wtN_b (a := D 7 3) (p := p) w x (by omega)
    obtain ⟨r1, r2, -⟩ := ha.dim hx'.1 hx'.2
    have e : wtN D (D 7 3) p (x + 1) = if D 1 x = p ∨ D 2 x = p then max (wtN D (D 7 3) p x) (lnD D (D 7 3) x) else wtN D (D 7 3) p x := rfl
    have b67 : ∀ s, mo_witness_b67 132 p k x s h = k s ((x : Int) + 1) h := fun s => by
      unfold mo_witness_b67
      rw [ck_in ⟨by omega, by omega⟩]
    rw [e]
    generalize wtN D (D 7 3) p x = y at *
    have b37 : (D 1 x = p ∨ D 2 x = p) → mo_witness_b37 132 p k (if y = -1 then -999 else y) x h = k (if (if D 1 x = p ∨ D 2 x = p then max y (lnD D (D 7 3) x) else y) = -1 then -999 else (if D 1 x = p ∨ D 2 x = p then max y (lnD D (D 7 3) x) else y)) ((x : Int) + 1) h := fun q => by
      unfold mo_witness_b37 mo_witness_b42 mo_witness_b66
      rw [if_neg (show ¬ (1 : Int) = 0 by decide), bd_eq (hL.2 x hx'.1 hx'.2), if_pos q]
      by_cases c : y = -1
      · rw [if_pos c, if_pos (by omega), bd_eq (hL.2 x hx'.1 hx'.2), b67, c, Int.max_eq_right (by omega), if_neg (by omega)]
      · rw [if_neg c]
        by_cases c2 : y < lnD D (D 7 3) x
        · rw [if_pos c2, bd_eq (hL.2 x hx'.1 hx'.2), b67, Int.max_eq_right (by omega), if_neg (by omega)]
        · rw [if_neg c2, b67, Int.max_eq_left (by omega), if_neg c]
    unfold mo_witness_f6
    rw [ix_in (by omega) (by omega), show h (132 + 1) 13 = D 7 1 from ha.m, if_pos hx'.2, bd_eq (mo_of_raw (by omega) (by omega)), r1]
    by_cases q1 : D 1 x = p
    · rw [if_pos q1, b37 (Or.inl q1)]
      rfl
    · rw [if_neg q1, bd_eq (mo_of_raw (by omega) (by omega)), r2]
      by_cases q2 : D 2 x = p
      · rw [if_pos q2, b37 (Or.inr q2)]
        rfl
      · unfold mo_witness_b42 mo_witness_b66
        have q3 : ¬ (D 1 (x : Int) = p ∨ D 2 (x : Int) = p) := by omega
        rw [if_neg q2, if_pos rfl, b67]
        simp only [if_neg q3]
        rfl
  · unfold mo_witness_f6
    rw [ix_in (by omega) (by omega), show h (132 + 1) 13 = D 7 1 from ha.m, if_neg (by omega)]
    rfl
theorem wtA_lt (w : WF D) {p x : Int} (hx : 0 ≤ x) : x < wtA D p ↔ x < wt D (D 7 3) p := by
  unfold wtA
  by_cases c : wt D (D 7 3) p = -1
  · rw [if_pos c, c]
    omega
  · rw [if_neg c]
theorem mo_crosses_eq (w : WF D) (hL : ML D h) {p d : Int} (hp : 0 ≤ p ∧ p < D 7 0) (hd : 0 ≤ d ∧ d < D 7 1) : mo_crosses 132 p d h = some (yn (crs D (D 7 3) p d), h) := by
  have w0 := w.1
  have ha := hL.1
  have dw := (w.dim hd.1 hd.2).1
  have lb := lnD_b (a := D 7 3) w hd.1 hd.2
  have wl := wtA_lt w (p := p) lb.1
  have ep : mo_position 132 p h = some (D 0 p, h) := by
    rw [mo_position_raw (by omega), ha.pos hp.1 hp.2]
  have mono : ∀ i j, 0 ≤ i → i < D 7 0 → 0 ≤ j → j < D 7 0 → (D 0 i < D 0 j ↔ i < j) := fun i j i0 i1 j0 j1 => by
    have a := w.2.2.2.2.2.1 i j i0
    have b := w.2.2.2.2.2.1 j i j0
    rcases Int.lt_trichotomy i j with z | z | z
    · have := a z j1
      omega
    · rw [z]
      omega
    · have := b z i1
      omega
  have m1 := mono (D 1 d) p dw.1 (by omega) hp.1 hp.2
  have m2 := mono p (D 2 d) hp.1 hp.2 (by omega) dw.2.2
  have bz1 : bz 1 = (fun (E : O Int) => E) := funext fun E => if_pos (Or.inr rfl)
  have bz0 : bz 0 = (fun (E : O Int) => E) := funext fun E => if_pos (Or.inl rfl)
  unfold mo_crosses mo_crosses_b43 mo_crosses_b44
  rw [bd_eq (hL.2 d hd.1 hd.2), bd_eq (mo_witness_eq w hL), bz0, bz1]
  by_cases q1 : lnD D (D 7 3) d < wtA D p
  · rw [if_pos q1, bd_eq ep, bd_eq (mo_from_eq ha w hd.1 hd.2)]
    by_cases q2 : D 0 (D 1 d) < D 0 p
    · rw [if_pos q2, bd_eq ep, bd_eq (mo_to_eq ha w hd.1 hd.2)]
      by_cases q3 : D 0 p < D 0 (D 2 d)
      · rw [if_pos q3, yn_t ⟨wl.mp q1, m1.mp q2, m2.mp q3⟩]
      · rw [if_neg q3, yn_f (fun z => q3 (m2.mpr z.2.2))]
    · rw [if_neg q2, yn_f (fun z => q2 (m1.mpr z.2.1))]
  · rw [if_neg q1, yn_f (fun z => q1 (wl.mpr z.1))]
/-- crossings of what is asked for -/
abbrev asked (pt di p d : Int) : Prop := (pt = -999 ∨ pt = p) ∧ (di = -999 ∨ di = d)
noncomputable def cX (D : Dr) (pt di p : Int) (n : Nat) : Int := sumI (fun d => yn (asked pt di p d ∧ crs D (D 7 3) p d)) n
noncomputable def cXX (D : Dr) (pt di : Int) (n : Nat) : Int := sumI (fun p => cX D pt di p (D 7 1).toNat) n
theorem cX_b {pt di p : Int} (n : Nat) : 0 ≤ cX D pt di p n ∧ cX D pt di p n ≤ n := sum_yn n
theorem cXX_b (hm : 0 ≤ D 7 1 ∧ D 7 1 ≤ 16) {pt di : Int} (n : Nat) : 0 ≤ cXX D pt di n ∧ cXX D pt di n ≤ 16 * n := sumI_le (fun i _ _ => by
  have := cX_b (D := D) (pt := pt) (di := di) (p := i) (D 7 1).toNat
  omega)
theorem mo_crossings_eq (w : WF D) (hL : ML D h) {pt di : Int} : mo_crossings 132 pt di h = some (cXX D pt di (D 7 0).toNat, h) := by
  have w0 := w.1
  have w1 := w.2.1
  have ha := hL.1
  unfold mo_crossings
  refine it2_seq (F := mo_crossings_f5 132 pt di) (fun k => cXX D pt di k) (fun k => (k : Int)) (fun _ => h) (D 7 0).toNat (fun k p hp => ?_) (fun k => ?_) fuel 0 (Nat.zero_le _) (by unfold fuel; omega)
  · have hp' : 0 ≤ (p : Int) ∧ (p : Int) < D 7 0 := by omega
    have xb := cXX_b (D := D) w1 (pt := pt) (di := di) p
    unfold mo_crossings_f5
    rw [ix_in (by omega) (by omega), show h (132 + 1) 0 = D 7 0 from ha.n, if_pos hp'.2]
    have key := it3_seq (F := mo_crossings_f19 132 pt di k) (fun n => cXX D pt di p + cX D pt di p n) (fun _ => (p : Int)) (fun n => (n : Int)) (fun _ => h) (D 7 1).toNat (R := k (cXX D pt di (p + 1)) ((p + 1 : Nat) : Int) h) (fun k3 x hx => ?_) (fun k3 => ?_) fuel 0 (Nat.zero_le _) (by unfold fuel; omega)
    · have z : cX D pt di p 0 = 0 := rfl
      rw [z, Int.add_zero] at key
      exact key
    · have hx' : 0 ≤ (x : Int) ∧ (x : Int) < D 7 1 := by omega
      have cb := cX_b (D := D) (pt := pt) (di := di) (p := (p : Int)) x
      have e : cX D pt di p (x + 1) = cX D pt di p x + yn (asked pt di p x ∧ crs D (D 7 3) p x) := rfl
      have yb := yn_b (c := (asked pt di p x ∧ crs D (D 7 3) p x))
      have b86 : ∀ s, s = yn (asked pt di p x ∧ crs D (D 7 3) p x) → mo_crossings_b86 132 pt di k3 p x s (cXX D pt di p + cX D pt di p x) h = k3 (cXX D pt di p + cX D pt di p (x + 1)) p ((x + 1 : Nat) : Int) h := fun s es => by
        unfold mo_crossings_b86
        rw [es, ck_in ⟨by omega, by omega⟩, ck_in ⟨by omega, by omega⟩, e, Int.add_assoc]
        rfl
      have b61 : ¬ asked pt di p x → mo_crossings_b61 132 pt di k3 (cXX D pt di p + cX D pt di p x) p x h = k3 (cXX D pt di p + cX D pt di p (x + 1)) p ((x + 1 : Nat) : Int) h := fun q => by
        unfold mo_crossings_b61 mo_crossings_b62 mo_crossings_b85
        rw [if_pos rfl, b86 0 (yn_f (fun z => q z.1)).symm]
      have b57 : asked pt di p x → mo_crossings_b57 132 pt di k3 (cXX D pt di p + cX D pt di p x) p x h = k3 (cXX D pt di p + cX D pt di p (x + 1)) p ((x + 1 : Nat) : Int) h := fun q => by
        unfold mo_crossings_b57 mo_crossings_b62 mo_crossings_b85
        rw [if_neg (show ¬ (1 : Int) = 0 by decide), bd_eq (mo_crosses_eq w hL hp' hx')]
        by_cases c : crs D (D 7 3) p x
        · rw [yn_t c, if_neg (show ¬ (1 : Int) = 0 by decide), b86 1 (yn_t ⟨q, c⟩).symm]
        · rw [yn_f c, if_pos rfl, b86 0 (yn_f (fun z => c z.2)).symm]
      have b44 : (pt = -999 ∨ pt = p) → mo_crossings_b44 132 pt di k3 (cXX D pt di p + cX D pt di p x) p x h = k3 (cXX D pt di p + cX D pt di p (x + 1)) p ((x + 1 : Nat) : Int) h := fun q => by
        unfold mo_crossings_b44
        by_cases c1 : di = -999
        · rw [if_pos c1, b57 ⟨q, Or.inl c1⟩]
        · rw [if_neg c1]
          by_cases c2 : di = x
          · rw [if_pos c2, b57 ⟨q, Or.inr c2⟩]
          · rw [if_neg c2, b61 (fun z => z.2.elim c1 c2)]
      unfold mo_crossings_f19
      rw [ix_in (by omega) (by omega), show h (132 + 1) 13 = D 7 1 from ha.m, if_pos hx'.2]
      by_cases c1 : pt = -999
      · rw [if_pos c1, b44 (Or.inl c1)]
      · rw [if_neg c1]
        by_cases c2 : pt = p
        · rw [if_pos c2, b44 (Or.inr c2)]
        · rw [if_neg c2, b61 (fun z => z.1.elim c1 c2)]
    · unfold mo_crossings_f19
      rw [ix_in (by omega) (by omega), show h (132 + 1) 13 = D 7 1 from ha.m, if_neg (by omega), ck_in ⟨by omega, by omega⟩]
      rfl
  · unfold mo_crossings_f5
    rw [ix_in (by omega) (by omega), show h (132 + 1) 0 = D 7 0 from ha.n, if_neg (by omega)]
theorem sumI_zero {g : Int → Int} : ∀ {n : Nat}, (∀ i : Int, 0 ≤ i → i < n → g i = 0) → sumI g n = 0
  | 0, _ => rfl
  | n + 1, he => by
    show sumI g n + g n = 0
    rw [sumI_zero (fun i a b => he i a (by omega)), he n (by omega) (by omega)]
    rfl
theorem sumI_only {g : Int → Int} {v : Int} : ∀ {n : Nat}, 0 ≤ v → v < n → (∀ i : Int, 0 ≤ i → i < n → i ≠ v → g i = 0) → sumI g n = g v
  | 0, a, b, _ => by omega
  | n + 1, a, b, he => by
    show sumI g n + g n = g v
    by_cases c : v = n
    · rw [sumI_zero (fun i a b => he i a (by omega) (by omega)), c, Int.zero_add]
    · rw [sumI_only a (by omega) (fun i a b => he i a (by omega)), he n (by omega) (by omega) (by omega), Int.add_zero]
theorem cXX_point (hn : 0 ≤ D 7 0) {p : Int} (hp : 0 ≤ p ∧ p < D 7 0) : cXX D p (-999) (D 7 0).toNat = cPn D (D 7 3) p (D 7 1).toNat := by
  unfold cXX
  rw [sumI_only (v := p) hp.1 (by omega) (fun i i0 i1 n => ?_)]
  · unfold cX cPn
    refine sumI_congr (fun d _ _ => yn_congr ⟨fun z => z.2, fun z => ⟨⟨Or.inr rfl, Or.inl rfl⟩, z⟩⟩)
  · unfold cX
    refine sumI_zero (fun d _ _ => yn_f (fun z => ?_))
    rcases z.1.1 with y | y <;> omega
theorem cXX_dim (hm : 0 ≤ D 7 1) {d : Int} (hd : 0 ≤ d ∧ d < D 7 1) : cXX D (-999) d (D 7 0).toNat = cDn D (D 7 3) d (D 7 0).toNat := by
  unfold cXX cDn
  refine sumI_congr (fun p _ _ => ?_)
  unfold cX
  rw [sumI_only (v := d) hd.1 (by omega) (fun i i0 i1 n => yn_f (fun z => by
    rcases z.1.2 with y | y <;> omega))]
  exact yn_congr ⟨fun z => z.2, fun z => ⟨⟨Or.inl rfl, Or.inr rfl⟩, z⟩⟩
theorem cXX_all : cXX D (-999) (-999) (D 7 0).toNat = cAn D (D 7 3) (D 7 0).toNat := by
  unfold cXX cAn
  refine sumI_congr (fun p _ _ => ?_)
  unfold cX cPn
  exact sumI_congr (fun d _ _ => yn_congr ⟨fun z => z.2, fun z => ⟨⟨Or.inl rfl, Or.inl rfl⟩, z⟩⟩)
end MWIT

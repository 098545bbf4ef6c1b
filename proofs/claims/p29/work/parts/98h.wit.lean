section LAWW
variable {D : Dr} {h : Hp}
/-- the top of a witness line as the law counts it -/
noncomputable def tpN (D : Dr) (p : Int) (k : Nat) : Int := if wtN D (D 7 3) p k = -1 then -999 else wtN D (D 7 3) p k
theorem tpN_b (w : WF D) {p : Int} {k : Nat} (hk : (k : Int) ≤ D 7 1) : -999 ≤ tpN D p k ∧ tpN D p k ≤ 300 := by
  have := wtN_b (a := D 7 3) (p := p) w k hk
  unfold tpN
  split <;> omega
theorem tpN_all {p : Int} : tpN D p (D 7 1).toNat = wtA D p := rfl
theorem tpN_lt (w : WF D) {p d : Int} (hd : 0 ≤ d ∧ d < D 7 1) : lnD D (D 7 3) d < wtA D p ↔ lnD D (D 7 3) d < wt D (D 7 3) p := by
  have lb := lnD_b (a := D 7 3) w hd.1 hd.2
  unfold wtA
  split <;> omega
/-- uses and tops of a point -/
theorem wit_top {Q : Int → Hp → Prop} (g : QS D h) {q : Nat} {p x1 : Int} (hp : 0 ≤ p ∧ p < D 7 0) {k9 : Int → Int → Hp → O Int} (hk : ∀ h', QL D h h' → wp (iter2 (lw_witnesses_f128 0 q k9 x1 p (cntE (D 1) (D 2) p (D 7 1).toNat) (wtA D p)) fuel 0 0 h') Q) : wp (iter3 (lw_witnesses_f29 0 q k9 x1 p) fuel 0 (-999) 0 h) Q := by
  have w := g.wf
  have w1 := w.2.1
  refine wp_it3 (fun x4 x5 x6 h' => ∃ k : Nat, x6 = k ∧ (k : Int) ≤ D 7 1 ∧ x4 = cntE (D 1) (D 2) p k ∧ x5 = tpN D p k ∧ QL D h h') (fun _ _ x6 _ => (D 7 1 - x6).toNat) (fun x4 x5 x6 h' hI k2 hk2 => ?_) fuel _ _ _ _ ⟨0, rfl, by omega, rfl, rfl, QL.rfl g⟩ (by unfold fuel; omega)
  obtain ⟨k, rfl, hkm, rfl, rfl, lx⟩ := hI
  unfold lw_witnesses_f29
  obtain ⟨h1, e1, l1⟩ := q_m lx.1
  rw [bd_eq e1]
  have lx1 := lx.trans l1
  by_cases c : (k : Int) < D 7 1
  · rw [if_pos c]
    obtain ⟨h2, e2, l2⟩ := q_d0 l1.1 (d := (k : Int)) (by omega)
    obtain ⟨h3, e3, l3⟩ := q_d1 l2.1 (d := (k : Int)) (by omega)
    have ckk : inR ((k : Int) + 1) := ⟨by omega, by omega⟩
    have cb := cntE_b (D 1) (D 2) p k
    have lb := lnD_b (a := D 7 3) w (d := (k : Int)) (by omega) (by omega)
    have ec : cntE (D 1) (D 2) p (k + 1) = cntE (D 1) (D 2) p k + yn (D 1 k = p ∨ D 2 k = p) := rfl
    have ew : wtN D (D 7 3) p (k + 1) = if D 1 k = p ∨ D 2 k = p then max (wtN D (D 7 3) p k) (lnD D (D 7 3) k) else wtN D (D 7 3) p k := rfl
    have wb := wtN_b (a := D 7 3) (p := p) w k (by omega)
    have is : ∀ h4, QL D h h4 → (D 1 k = p ∨ D 2 k = p) → wp (lw_witnesses_b61 0 q k2 x1 p (cntE (D 1) (D 2) p k) (tpN D p k) k h4) Q := fun h4 l4 hc => by
      rw [yn_t hc] at ec
      rw [if_pos hc] at ew
      obtain ⟨h5, e5, l5⟩ := q_d10 l4.1 (d := (k : Int)) (by omega)
      obtain ⟨h6, e6, l6⟩ := q_d10 l5.1 (d := (k : Int)) (by omega)
      unfold lw_witnesses_b61 lw_witnesses_b66 lw_witnesses_b80 lw_witnesses_b112
      simp only [lw_witnesses_b114, ck_in ckk]
      rw [if_neg (by decide), ck_in ⟨by omega, by omega⟩, if_neg (by decide), bd_eq e5, bd_eq e6, ← ec]
      by_cases c2 : tpN D p k < lnD D (D 7 3) k
      · rw [if_pos c2]
        refine hk2 _ _ _ _ ⟨k + 1, rfl, by omega, rfl, ?_, (l4.trans l5).trans l6⟩ (by omega)
        unfold tpN at c2 ⊢
        rw [ew]
        split at c2 <;> (rw [if_neg (by omega)]; omega)
      · rw [if_neg c2]
        refine hk2 _ _ _ _ ⟨k + 1, rfl, by omega, rfl, ?_, l4.trans l5⟩ (by omega)
        unfold tpN at c2 ⊢
        rw [ew]
        by_cases c3 : wtN D (D 7 3) p k = -1
        · rw [if_pos c3] at c2
          omega
        · rw [if_neg c3] at c2 ⊢
          rw [if_neg (by omega)]
          omega
    rw [bd_eq e2]
    by_cases c1 : D 1 (k : Int) = p
    · rw [if_pos c1]
      exact is h2 (lx1.trans l2) (Or.inl c1)
    · rw [if_neg c1, bd_eq e3]
      by_cases c2 : D 2 (k : Int) = p
      · rw [if_pos c2]
        exact is h3 ((lx1.trans l2).trans l3) (Or.inr c2)
      · rw [if_neg c2]
        have hc : ¬ (D 1 k = p ∨ D 2 k = p) := fun z => z.elim c1 c2
        rw [yn_f hc] at ec
        rw [if_neg hc] at ew
        unfold lw_witnesses_b66 lw_witnesses_b80 lw_witnesses_b112
        simp only [lw_witnesses_b114, ck_in ckk]
        rw [if_pos True.intro, ck_in ⟨by omega, by omega⟩, if_pos True.intro, ← ec]
        refine hk2 _ _ _ _ ⟨k + 1, rfl, by omega, rfl, ?_, (lx1.trans l2).trans l3⟩ (by omega)
        unfold tpN
        rw [ew]
  · rw [if_neg c]
    have ek : k = (D 7 1).toNat := by omega
    subst ek
    exact hk h1 lx1
/-- what a point's witness line crosses -/
theorem wit_cross {Q : Int → Hp → Prop} (g : QS D h) {q : Nat} (hq : 132 ≤ q) {x1 : Int} {p : Nat} (hp : (p : Int) < D 7 0) (b1 : 0 ≤ x1 ∧ x1 ≤ 1000) {k9 : Int → Int → Hp → O Int} (hA : ∀ d, 0 ≤ d → d < D 7 1 → h q d = cDn D (D 7 3) d p) (hk : ∀ h', QM D q h h' → (∀ d, 0 ≤ d → d < D 7 1 → h' q d = cDn D (D 7 3) d (p + 1)) → wp (k9 (x1 + cPn D (D 7 3) p (D 7 1).toNat) ((p : Int) + 1) h') Q) : wp (iter2 (lw_witnesses_f128 0 q k9 x1 p (cntE (D 1) (D 2) p (D 7 1).toNat) (wtA D p)) fuel 0 0 h) Q := by
  have w := g.wf
  have w1 := w.2.1
  have w0 := w.1
  refine wp_it2 (fun x6 x7 h' => ∃ k : Nat, x7 = k ∧ (k : Int) ≤ D 7 1 ∧ x6 = cPn D (D 7 3) p k ∧ QM D q h h' ∧ ∀ d, 0 ≤ d → d < D 7 1 → h' q d = cDn D (D 7 3) d (if d < k then p + 1 else p)) (fun _ x7 _ => (D 7 1 - x7).toNat) (fun x6 x7 h' hI k2 hk2 => ?_) fuel _ _ _ ⟨0, rfl, by omega, rfl, ⟨g, fun _ _ _ => rfl⟩, fun d a b => by rw [if_neg (by omega)]; exact hA d a b⟩ (by unfold fuel; omega)
  obtain ⟨k, rfl, hkm, rfl, lx, hR⟩ := hI
  unfold lw_witnesses_f128
  obtain ⟨h1, e1, l1⟩ := q_m lx.1
  rw [bd_eq e1]
  have cb := cPn_b (D := D) (a := D 7 3) (p := (p : Int)) k
  by_cases c : (k : Int) < D 7 1
  · rw [if_pos c]
    obtain ⟨h2, e2, l2⟩ := q_d10 l1.1 (d := (k : Int)) (by omega)
    obtain ⟨h3, e3, l3⟩ := q_d0 l2.1 (d := (k : Int)) (by omega)
    obtain ⟨h4, e4, l4⟩ := q_d1 l3.1 (d := (k : Int)) (by omega)
    have ckk : inR ((k : Int) + 1) := ⟨by omega, by omega⟩
    have ec : cPn D (D 7 3) p (k + 1) = cPn D (D 7 3) p k + yn (crs D (D 7 3) p k) := rfl
    have ed : ∀ d, cDn D (D 7 3) d (p + 1) = cDn D (D 7 3) d p + yn (crs D (D 7 3) p d) := fun d => rfl
    have tl := tpN_lt w (p := (p : Int)) (d := (k : Int)) (by omega)
    have db := cDn_b (D := D) (a := D 7 3) (d := (k : Int)) p
    have eq0 : h' q k = cDn D (D 7 3) k p := by rw [hR k (by omega) (by omega), if_neg (by omega)]
    have upd : ∀ h5, QL D h' h5 → ∀ y, (y = yn (crs D (D 7 3) p k)) → QM D q h (hu h5 q k (cDn D (D 7 3) k p + y)) ∧ ∀ d, 0 ≤ d → d < D 7 1 → hu h5 q k (cDn D (D 7 3) k p + y) q d = cDn D (D 7 3) d (if d < ((k + 1 : Nat) : Int) then p + 1 else p) := fun h5 l5 y ey => by
      refine ⟨⟨l5.1.hu hq _ _, fun c' a b => ?_⟩, fun d a b => ?_⟩
      · rw [← lx.2 c' a b, ← l5.2 c' a]
        exact funext fun j => hu_o b j
      · by_cases z : d = k
        · rw [z, hu_s, if_pos (by omega), ed, ey]
        · rw [hu_j _ z, l5.2 q hq, hR d a b]
          by_cases z2 : d < (k : Int)
          · rw [if_pos z2, if_pos (by omega)]
          · rw [if_neg z2, if_neg (by omega)]
    have yes : ∀ h5, QL D h' h5 → crs D (D 7 3) p k → wp (lw_witnesses_b178 0 q k2 x1 p (cntE (D 1) (D 2) p (D 7 1).toNat) (wtA D p) (cPn D (D 7 3) p k) k 1 h5) Q := fun h5 l5 hc => by
      have u := upd h5 l5 1 (by rw [yn_t hc])
      unfold lw_witnesses_b178 lw_witnesses_b192
      simp only [lw_witnesses_b210, ck_in ckk]
      rw [if_neg (by decide), ck_in ⟨by omega, by omega⟩, ix_in (by omega) (by omega), if_neg (by decide), l5.2 q hq, eq0, ck_in ⟨by omega, by omega⟩, ix_in (by omega) (by omega), lt_eq]
      exact hk2 _ _ _ ⟨k + 1, rfl, by omega, by rw [ec, yn_t hc], u.1, u.2⟩ (by omega)
    have no : ∀ h5, QL D h' h5 → ¬ crs D (D 7 3) p k → wp (lw_witnesses_b177 0 q k2 x1 p (cntE (D 1) (D 2) p (D 7 1).toNat) (wtA D p) (cPn D (D 7 3) p k) k h5) Q := fun h5 l5 hc => by
      have u := upd h5 l5 0 (by rw [yn_f hc])
      unfold lw_witnesses_b177 lw_witnesses_b178 lw_witnesses_b192
      simp only [lw_witnesses_b210, ck_in ckk]
      rw [if_pos True.intro, ck_in ⟨by omega, by omega⟩, ix_in (by omega) (by omega), if_pos True.intro, l5.2 q hq, eq0, ck_in ⟨by omega, by omega⟩, ix_in (by omega) (by omega), lt_eq]
      exact hk2 _ _ _ ⟨k + 1, rfl, by omega, by rw [ec, yn_f hc], u.1, u.2⟩ (by omega)
    rw [bd_eq e2]
    by_cases c1 : lnD D (D 7 3) k < wtA D p
    · rw [if_pos c1, bd_eq e3]
      by_cases c2 : D 1 (k : Int) < p
      · rw [if_pos c2, bd_eq e4]
        by_cases c3 : (p : Int) < D 2 k
        · rw [if_pos c3]
          exact yes h4 (((l1.trans l2).trans l3).trans l4) ⟨tl.mp c1, c2, c3⟩
        · rw [if_neg c3]
          exact no h4 (((l1.trans l2).trans l3).trans l4) (fun z => c3 z.2.2)
      · rw [if_neg c2]
        exact no h3 ((l1.trans l2).trans l3) (fun z => c2 z.2.1)
    · rw [if_neg c1]
      exact no h2 (l1.trans l2) (fun z => c1 (tl.mpr z.1))
  · rw [if_neg c]
    have ek : k = (D 7 1).toNat := by omega
    subst ek
    obtain ⟨h2, e2, l2⟩ := q_p1 l1.1 (p := (p : Int)) (by omega)
    obtain ⟨h3, e3, l3⟩ := q_p2 l2.1 (p := (p : Int)) (by omega)
    obtain ⟨h4, e4, l4⟩ := q_p3 l3.1 (p := (p : Int)) (by omega)
    have lz := ((l1.trans l2).trans l3).trans l4
    rw [ck_in ⟨by omega, by omega⟩, bd_eq e2, if_pos rfl, bd_eq e3, if_pos rfl, bd_eq e4, if_pos rfl, ck_in ⟨by omega, by omega⟩]
    refine hk h4 ⟨lz.1, fun c' a b => by rw [lz.2 c' a, lx.2 c' a b]⟩ (fun d a b => ?_)
    rw [lz.2 q hq, hR d a b, if_pos (by omega)]
theorem lw_witnesses_wp (g : QS D h) {q : Nat} (hq : 132 ≤ q) : wp (lw_witnesses 0 q h) (fun r h1 => r = 1 ∧ QM D q h h1) := by
  have w := g.wf
  have w1 := w.2.1
  have w0 := w.1
  unfold lw_witnesses
  rw [lt_eq]
  have g2 : QS D (hz h q) := g.hz hq
  have f2 : ∀ c, 132 ≤ c → c ≠ q → hz h q c = h c := fun c a b => hz_o b
  have z2 : ∀ d, hz h q q d = 0 := fun d => hz_s d
  unfold lw_witnesses_b7
  refine wp_mono (Q := fun r h3 => r = 1 ∧ QM D q (hz h q) h3) ?_ (fun r h3 z => ⟨z.1, z.2.1, fun c a b => by rw [z.2.2 c a b, f2 c a b]⟩)
  generalize hz h q = h2 at *
  refine wp_it2 (fun x1 x3 h' => ∃ p : Nat, x3 = p ∧ (p : Int) ≤ D 7 0 ∧ x1 = cAn D (D 7 3) p ∧ QM D q h2 h' ∧ ∀ d, 0 ≤ d → d < D 7 1 → h' q d = cDn D (D 7 3) d p) (fun _ x3 _ => (D 7 0 - x3).toNat) (fun x1 x3 h' hI k9 hk9 => ?_) fuel _ _ _ ⟨0, rfl, by omega, rfl, ⟨g2, fun _ _ _ => rfl⟩, fun d a b => z2 d⟩ (by unfold fuel; omega)
  obtain ⟨p, rfl, hpn, rfl, lx, hR⟩ := hI
  have ab := cAn_b (D := D) (a := D 7 3) w1 p
  unfold lw_witnesses_f9
  obtain ⟨h3, e3, l3⟩ := q_n lx.1
  rw [bd_eq e3]
  by_cases c : (p : Int) < D 7 0
  · rw [if_pos c]
    refine wit_top l3.1 (p := (p : Int)) (by omega) (fun h4 l4 => ?_)
    have l34 := l3.trans l4
    refine wit_cross l4.1 hq c (by omega) (fun d a b => by rw [l34.2 q hq, hR d a b]) (fun h5 l5 hR5 => ?_)
    refine hk9 _ _ _ ⟨p + 1, rfl, by omega, rfl, ⟨l5.1, fun c' a b => by rw [l5.2 c' a b, l34.2 c' a, lx.2 c' a b]⟩, hR5⟩ (by omega)
  · rw [if_neg c]
    have ep : p = (D 7 0).toNat := by omega
    subst ep
    refine wp_it1 (fun x3 h' => (0 ≤ x3 ∧ x3 ≤ D 7 1) ∧ QL D h3 h') (fun x3 _ => (D 7 1 - x3).toNat) (fun x3 h' hI k hk => ?_) fuel _ _ ⟨by omega, QL.rfl l3.1⟩ (by unfold fuel; omega)
    obtain ⟨hx, ly⟩ := hI
    have l3y := l3.trans ly
    unfold lw_witnesses_f266
    simp only [lw_witnesses_b310]
    obtain ⟨h4, e4, l4⟩ := q_m ly.1
    rw [bd_eq e4]
    by_cases c2 : x3 < D 7 1
    · rw [if_pos c2]
      obtain ⟨h5, e5, l5⟩ := q_d12 l4.1 (d := x3) (by omega)
      have l45 := (ly.trans l4).trans l5
      rw [bd_eq e5, ix_in hx.1 (by omega), (l3.trans l45).2 q hq, hR x3 hx.1 c2, if_pos rfl, ck_in ⟨by omega, by omega⟩]
      exact hk _ _ ⟨by omega, l45⟩ (by omega)
    · rw [if_neg c2]
      obtain ⟨h5, e5, l5⟩ := q_4 l4.1
      rw [bd_eq e5, if_pos rfl, bz_in (Or.inr rfl)]
      have lz := (l3y.trans l4).trans l5
      exact wp_ret ⟨rfl, lz.1, fun c' a b => by rw [lz.2 c' a, lx.2 c' a b]⟩
end LAWW

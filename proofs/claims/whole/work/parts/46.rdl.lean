section RDL
def contM (k : Int → Int → Hp → O Int) (v : Int) (h : Hp) : O Int := bd (mo_here 132 h) fun r4 h4 => if r4 = 44 then ix 0 1120 (if h4 133 0 < 12 then mo_readsPositions_b86 132 k v 1 h4 else mo_readsPositions_b85 132 k v h4) else mo_readsPositions_b85 132 k v h4
theorem f9_go {k : Int → Int → Hp → O Int} {x1 x2 v n : Int} {hm hm' : Hp} (h2 : x2 ≠ 0) (hx : -1 ≤ x1 ∧ x1 ≤ 300) (e : mo_readsNumber 132 3 (x1 + 1) 300 hm = some (1, hm')) (e7 : hm' 132 7 = v) (en : hm' 133 0 = n) (hn : 0 ≤ n ∧ n < 12) : mo_readsPositions_f9 132 k x1 x2 hm = contM k v (hu (hu hm' 133 (1 + n) v) 133 0 (n + 1)) := by
  simp only [mo_readsPositions_f9, Nat.reduceAdd]
  rw [if_neg h2, ck_in ⟨by omega, by omega⟩, bd_eq e, if_neg (by decide), ix_in (by omega) (by omega), en, ck_in ⟨by omega, by omega⟩, ix_in (by omega) (by omega), lt_eq, ix_in (by omega) (by omega), hu_j 133 (by omega), en, ck_in ⟨by omega, by omega⟩, ix_in (by omega) (by omega), lt_eq, e7]
  rfl
theorem b85_end {fu : Nat} {v : Int} {hm : Hp} (h4 : hm 132 4 = 0) (h6 : 0 ≤ hm 132 6 ∧ hm 132 6 ≤ 80) : mo_readsPositions_b85 132 (iter2 (mo_readsPositions_f9 132) (fu + 1)) v hm = some (1, hm) := by
  unfold mo_readsPositions_b85 mo_readsPositions_b86 mo_readsPositions_b101
  rw [if_pos rfl, ck_in ⟨by omega, by omega⟩, lt_eq, Int.add_zero, hu_id]
  show mo_readsPositions_f9 132 _ v 0 hm = _
  unfold mo_readsPositions_f9 mo_readsPositions_b120
  rw [if_pos rfl, if_pos h4]
  rfl
theorem f38_no {fu : Nat} {x : Int} {h : Hp} (hf : h 75 3 ≠ 0) : iter1 (tr_read_f38 75) (fu + 1) x h = tr_read_b63 75 h := by
  show tr_read_f38 75 _ x h = _
  unfold tr_read_f38
  by_cases q : x < 12
  · rw [if_pos q, bd_eq (tr_accept_no hf 44), if_pos rfl]
  · rw [if_neg q]
def lets (D D' : Dr) : Prop := D' 7 2 = D 7 2 ∧ D' 7 3 = D 7 3
theorem GR.adv {D : Dr} {c : Int} {hc hm : Hp} (g : GR D c hc hm) (h : c < hc 75 2) : GR D (c + 1) (hu hc 75 5 (c + 1)) (hu hm 132 6 (c + 1)) := by
  obtain ⟨⟨g1, g2, g3, g4, g5⟩, m1, m2, m3, m4, m5⟩ := g
  have a := g3.1
  have b := g3.2
  refine ⟨⟨by rw [hu_j 75 (by decide)]; exact g1, hu_s, ?_, ?_, g5⟩, by rw [hu_j 132 (by decide)]; exact m1, hu_s, by rw [hu_j 132 (by decide), hu_j 75 (by decide)]; exact m3, funext fun j => by rw [hu_o (by decide), hu_o (by decide), m4], ?_⟩
  · unfold CR
    rw [hu_s, hu_j 75 (by decide)]
    omega
  · exact g4
  · exact m5
theorem pos_loop : ∀ (r : Nat) (D : Dr) (c : Int) (hc hm : Hp) (fu1 fu2 : Nat), r < fu1 → r < fu2 → D 7 0 + r = 12 → 1 ≤ D 7 0 → D 7 1 = 0 → GR D c hc hm →
    ∃ hc1, iter1 (tr_read_f38 75) fu1 (D 7 0) hc = tr_read_b63 75 hc1 ∧ FRM hc hc1 ∧ ∃ s hm1, contM (iter2 (mo_readsPositions_f9 132) fu2) (D 0 (D 7 0 - 1)) hm = some (s, hm1) ∧ MFR hm hm1 ∧ ((s = 0 ∧ FE hc1 hm1) ∨ (s = 1 ∧ ∃ D' c', GR D' c' hc1 hm1 ∧ D' 7 1 = 0 ∧ lets D D' ∧ 1 ≤ D' 7 0)) := by
  intro r
  induction r with
  | zero =>
    intro D c hc hm fu1 fu2 f1 f2 e12 n1 hd g
    obtain ⟨fu1, rfl⟩ : ∃ f, fu1 = f + 1 := ⟨fu1 - 1, by omega⟩
    obtain ⟨fu2, rfl⟩ : ∃ f, fu2 = f + 1 := ⟨fu2 - 1, by omega⟩
    obtain ⟨⟨g1, g2, g3, g4, g5⟩, m1, m2, m3, m4, m5⟩ := id g
    have a := g3.1
    have b := g3.2
    refine ⟨hc, ?_, FRM.rfl hc, 1, hm, ?_, MFR.rfl hm, Or.inr ⟨rfl, D, c, g, hd, ⟨rfl, rfl⟩, n1⟩⟩
    · show tr_read_f38 75 _ _ hc = _
      unfold tr_read_f38
      rw [if_neg (by omega)]
    · unfold contM
      rw [bd_eq (mo_here_eq (by omega) (by omega)), m2, ix_in (by omega) (by omega), m5.n, if_neg (show ¬ D 7 0 < 12 by omega), b85_end m1 (by omega), ite_self]
  | succ r ih =>
    intro D c hc hm fu1 fu2 f1 f2 e12 n1 hd g
    obtain ⟨fu1, rfl⟩ : ∃ f, fu1 = f + 1 := ⟨fu1 - 1, by omega⟩
    obtain ⟨fu2, rfl⟩ : ∃ f, fu2 = f + 1 := ⟨fu2 - 1, by omega⟩
    obtain ⟨⟨g1, g2, g3, g4, g5⟩, m1, m2, m3, m4, m5⟩ := id g
    have a := g3.1
    have b := g3.2
    have ac := tr_accept_eq g3 (x := 44) (by decide)
    have hh := mo_here_eq (h := hm) (by omega) (by omega)
    rw [m2, m3, m4] at hh
    by_cases q : c < hc 75 2 ∧ hc 76 c = 44
    · rw [g2, if_pos ⟨g1, q⟩] at ac
      rw [if_pos q.1, q.2] at hh
      have g' := g.adv q.1
      have lb := g5.2.2.2.2.1 (D 7 0 - 1) (by omega) (by omega)
      obtain ⟨hc', p1, p2, p3⟩ := pos_both g' (by omega) hd (x1 := D 0 (D 7 0 - 1)) (by omega) (fun _ => rfl)
      have eC : iter1 (tr_read_f38 75) (fu1 + 1) (D 7 0) hc = iter1 (tr_read_f38 75) fu1 (D 7 0 + 1) hc' := by
        show tr_read_f38 75 _ _ hc = _
        unfold tr_read_f38
        rw [if_pos (by omega), bd_eq ac, if_neg (by decide), bd_eq p1, ck_in ⟨by omega, by omega⟩]
      have eM : contM (iter2 (mo_readsPositions_f9 132) (fu2 + 1)) (D 0 (D 7 0 - 1)) hm = mo_readsPositions_f9 132 (iter2 (mo_readsPositions_f9 132) fu2) (D 0 (D 7 0 - 1)) 1 (hu hm 132 6 (c + 1)) := by
        unfold contM
        rw [bd_eq hh, if_pos rfl, ix_in (by omega) (by omega), m5.n, if_pos (by omega)]
        unfold mo_readsPositions_b86 mo_readsPositions_b101
        rw [if_neg (by decide), m2, ck_in ⟨by omega, by omega⟩, lt_eq]
        rfl
      have fr0 : FRM hc (hu hc 75 5 (c + 1)) := ⟨fun c' z => funext fun j => hu_o (by omega) j, funext fun j => hu_o (by decide) j, hu_j 75 (by decide)⟩
      have mf0 : MFR hm (hu hm 132 6 (c + 1)) := mfr_m (Or.inr (Or.inr (Or.inl rfl)))
      rcases p3 with ⟨hm', a1, a2, a3⟩ | ⟨v, e, v0, v1, a1, a2⟩
      · refine ⟨hc', ?_, fr0.trans p2, 0, hm', ?_, mf0.trans a2, Or.inl ⟨rfl, a3⟩⟩
        · obtain ⟨fu1, rfl⟩ : ∃ f, fu1 = f + 1 := ⟨fu1 - 1, by omega⟩
          rw [eC, f38_no a3.2.1]
        · rw [eM]
          unfold mo_readsPositions_f9
          rw [if_neg (by decide), ck_in ⟨by omega, by omega⟩, bd_eq a1, if_pos rfl]
      · have en : (hmn (hu hm 132 6 (c + 1)) e v) 133 0 = D 7 0 := by unfold hmn; rw [hu_o (by decide), hu_o (by decide), hu_o (by decide), m5.n]
        have e7 : (hmn (hu hm 132 6 (c + 1)) e v) 132 7 = v := by unfold hmn; rw [hu_j 132 (by decide), hu_s]
        have eM2 := f9_go (k := iter2 (mo_readsPositions_f9 132) fu2) (x2 := 1) (by decide) (by omega) a1 e7 en (by omega)
        have d0 : dPos D v 7 0 = D 7 0 + 1 := by unfold dPos; grind
        have d1 : dPos D v 7 1 = 0 := by unfold dPos; grind
        have dv : dPos D v 0 (dPos D v 7 0 - 1) = v := by rw [d0]; unfold dPos; grind
        obtain ⟨hc1, i1, i2, s, hm1, i3, i4, i5⟩ := ih (dPos D v) e hc' _ fu1 fu2 (by omega) (by omega) (by omega) (by omega) d1 a2
        rw [d0] at i1
        rw [dv] at i3
        refine ⟨hc1, by rw [eC, i1], (fr0.trans p2).trans i2, s, hm1, by rw [eM, eM2, i3], ((mf0.trans mfr_hmn).trans ((mfr_p (by omega)).trans (mfr_p (by omega)))).trans i4, ?_⟩
        rcases i5 with i5 | ⟨i5, D', c', j1, j2, j3, j4⟩
        · exact Or.inl i5
        · refine Or.inr ⟨i5, D', c', j1, j2, ⟨j3.1.trans ?_, j3.2.trans ?_⟩, j4⟩
          · unfold dPos; grind
          · unfold dPos; grind
    · rw [g2, if_neg (fun z => q z.2)] at ac
      refine ⟨hc, ?_, FRM.rfl hc, 1, hm, ?_, MFR.rfl hm, Or.inr ⟨rfl, D, c, g, hd, ⟨rfl, rfl⟩, n1⟩⟩
      · show tr_read_f38 75 _ _ hc = _
        unfold tr_read_f38
        rw [if_pos (by omega), bd_eq ac, if_pos rfl]
      · unfold contM
        rw [bd_eq hh]
        have : (if c < hc 75 2 then hc 76 c else -999) ≠ 44 := by
          by_cases q1 : c < hc 75 2
          · rw [if_pos q1]; exact fun z => q ⟨q1, z⟩
          · rw [if_neg q1]; decide
        rw [if_neg this, b85_end m1 (by omega)]
theorem pos_fault {h : Hp} (hc : CR h) (hf : h 75 3 ≠ 0) (hp : 0 ≤ h 77 7 ∧ h 77 7 < 12) : ∃ h', tr_readPosition 75 h = some ((), h') ∧ FT h h' := by
  refine ⟨_, tr_readPosition_eq hc hp, ?_⟩
  have k := hrd_ft hc hf (k := 3)
  have hf' : hrd h 3 75 3 ≠ 0 := by rw [k.2.1]; exact hf
  unfold hps
  rw [hfl_no hf']
  refine k.trans ⟨?_, ?_, ?_, fun c g => funext fun j => ?_, funext fun j => ?_, ?_⟩
  · unfold CR
    rw [hu_o (by decide), hu_o (by decide), hu_o (by decide), hu_o (by decide)]
    exact k.1
  · rw [hu_o (by decide), hu_o (by decide)]
  · rw [hu_o (by decide), hu_o (by decide)]
  · rw [hu_o (by omega), hu_o (by omega)]
  · rw [hu_o (by omega), hu_o (by omega)]
  · rw [hu_o (by omega), hu_o (by omega)]
/-- all positions -/
theorem pos_all {D : Dr} {hc hm : Hp} (g : GR D 0 hc hm) (h0 : D 7 0 = 0) (hd : D 7 1 = 0) :
    ∃ hc1, (bd (tr_expect 75 112 hc) fun _ h5 => bd (tr_readPosition 75 h5) fun _ h6 => iter1 (tr_read_f38 75) fuel 1 h6) = tr_read_b63 75 hc1 ∧ FRM hc hc1 ∧ ∃ s hm1, mo_readsPositions 132 hm = some (s, hm1) ∧ MFR hm hm1 ∧ ((s = 0 ∧ FE hc1 hm1) ∨ (s = 1 ∧ ∃ D' c', GR D' c' hc1 hm1 ∧ D' 7 1 = 0 ∧ lets D D' ∧ 1 ≤ D' 7 0)) := by
  obtain ⟨⟨g1, g2, g3, g4, g5⟩, m1, m2, m3, m4, m5⟩ := id g
  have a := g3.1
  have b := g3.2
  have ex := tr_expect_eq g3 g1 (x := 112) (by decide)
  have hh := mo_here_eq (h := hm) (by omega) (by omega)
  rw [m2, m3, m4] at hh
  rw [g2] at ex
  obtain ⟨fu, hfu⟩ : ∃ f, fuel = f + 1 := ⟨2999, rfl⟩
  by_cases q : 0 < hc 75 2 ∧ hc 76 0 = 112
  · rw [if_pos q] at ex
    rw [if_pos q.1, q.2] at hh
    have g' := g.adv q.1
    obtain ⟨hc', p1, p2, p3⟩ := pos_both g' (by omega) hd (x1 := -1) (fun _ => rfl) (fun z => by omega)
    have eC : (bd (tr_expect 75 112 hc) fun _ h5 => bd (tr_readPosition 75 h5) fun _ h6 => iter1 (tr_read_f38 75) fuel 1 h6) = iter1 (tr_read_f38 75) fuel 1 hc' := by
      rw [bd_eq ex, bd_eq p1]
    have rd : mo_reads 132 112 hm = some (1, hu hm 132 6 (0 + 1)) := by
      unfold mo_reads
      rw [bd_eq hh, if_pos rfl, m2, ck_in ⟨by omega, by omega⟩, lt_eq]
    have eM : mo_readsPositions 132 hm = mo_readsPositions_f9 132 (iter2 (mo_readsPositions_f9 132) fu) (-1) 1 (hu hm 132 6 (0 + 1)) := by
      unfold mo_readsPositions
      rw [bd_eq rd, hfu]
      rfl
    have fr0 : FRM hc (hu hc 75 5 (0 + 1)) := ⟨fun c' z => funext fun j => hu_o (by omega) j, funext fun j => hu_o (by decide) j, hu_j 75 (by decide)⟩
    have mf0 : MFR hm (hu hm 132 6 (0 + 1)) := mfr_m (Or.inr (Or.inr (Or.inl rfl)))
    have hfu1 : 2999 = fu := by unfold fuel at hfu; omega
    rcases p3 with ⟨hm', a1, a2, a3⟩ | ⟨v, e, v0, v1, a1, a2⟩
    · refine ⟨hc', ?_, fr0.trans p2, 0, hm', ?_, mf0.trans a2, Or.inl ⟨rfl, a3⟩⟩
      · rw [eC, hfu, f38_no a3.2.1]
      · rw [eM]
        unfold mo_readsPositions_f9
        rw [if_neg (by decide), ck_in ⟨by omega, by omega⟩, bd_eq a1, if_pos rfl]
    · have en : (hmn (hu hm 132 6 (0 + 1)) e v) 133 0 = D 7 0 := by unfold hmn; rw [hu_o (by decide), hu_o (by decide), hu_o (by decide), m5.n]
      have e7 : (hmn (hu hm 132 6 (0 + 1)) e v) 132 7 = v := by unfold hmn; rw [hu_j 132 (by decide), hu_s]
      have eM2 := f9_go (k := iter2 (mo_readsPositions_f9 132) fu) (x2 := 1) (by decide) (by omega) a1 e7 en (by omega)
      have d0 : dPos D v 7 0 = D 7 0 + 1 := by unfold dPos; grind
      have d1 : dPos D v 7 1 = 0 := by unfold dPos; grind
      have dv : dPos D v 0 (dPos D v 7 0 - 1) = v := by rw [d0]; unfold dPos; grind
      obtain ⟨hc1, i1, i2, s, hm1, i3, i4, i5⟩ := pos_loop 11 (dPos D v) e hc' _ fuel fu (by unfold fuel; omega) (by omega) (by omega) (by omega) d1 a2
      rw [d0, h0] at i1
      rw [dv] at i3
      refine ⟨hc1, by rw [eC]; exact i1, (fr0.trans p2).trans i2, s, hm1, by rw [eM, eM2, i3], ((mf0.trans mfr_hmn).trans ((mfr_p (by omega)).trans (mfr_p (by omega)))).trans i4, ?_⟩
      rcases i5 with i5 | ⟨i5, D', c', j1, j2, j3, j4⟩
      · exact Or.inl i5
      · refine Or.inr ⟨i5, D', c', j1, j2, ⟨j3.1.trans ?_, j3.2.trans ?_⟩, j4⟩
        · unfold dPos; grind
        · unfold dPos; grind
  · rw [if_neg q] at ex
    have f3 : hfl 1 1 0 hc 75 3 = 1 := by rw [hfl_3 (by decide), if_pos ⟨by decide, g1⟩]
    have f4 : hfl 1 1 0 hc 75 4 = 0 := by rw [hfl_4, if_pos ⟨by decide, g1⟩]
    have crF : CR (hfl 1 1 0 hc) := by
      unfold CR
      rw [hfl_o (by omega), hfl_o (by omega)]
      exact g3
    have k7 : hfl 1 1 0 hc 77 7 = D 7 0 := by rw [hfl_o (by omega)]; exact g4.1.1.symm
    obtain ⟨hc', p1, p2⟩ := pos_fault crF (by rw [f3]; decide) (by omega)
    have hf' : hc' 75 3 = 1 := by rw [p2.2.1, f3]
    have frF : FRM hc (hfl 1 1 0 hc) := ⟨fun c g => funext fun j => hfl_o (by omega), funext fun j => hfl_o (by omega), hfl_o (by omega)⟩
    have hne : (if 0 < hc 75 2 then hc 76 0 else -999) ≠ 112 := by
      by_cases q1 : 0 < hc 75 2
      · rw [if_pos q1]; exact fun z => q ⟨q1, z⟩
      · rw [if_neg q1]; decide
    have rd : mo_reads 132 112 hm = some (0, hmf hm 1 0) := by
      unfold mo_reads
      rw [bd_eq hh, if_neg hne, m2, bd_eq (mo_fails_eq 1 0)]
      rfl
    refine ⟨hc', ?_, frF.trans p2.2.2.2, 0, hmf hm 1 0, ?_, mfr_hmf, Or.inl ⟨rfl, ?_, ?_, ?_, ?_, p2.1⟩⟩
    · rw [bd_eq ex, bd_eq p1, hfu, f38_no (by rw [hf']; decide)]
    · unfold mo_readsPositions
      rw [bd_eq rd, hfu]
      show mo_readsPositions_f9 132 _ (-1) 0 _ = _
      unfold mo_readsPositions_f9 mo_readsPositions_b120
      rw [if_pos rfl, if_neg (by unfold hmf hu; simp)]
      rfl
    · rw [hf']; unfold hmf hu; simp
    · rw [hf']; decide
    · rw [p2.2.2.1, f4]; unfold hmf hu; simp
    · rw [p2.2.2.1, f4]; omega
end RDL

section RDG
theorem rb90_no {h : Hp} (hf : h 75 3 ≠ 0) : tr_read_b90 75 h = some ((), h) := by
  unfold tr_read_b90 tr_read_b110
  rw [bd_eq (tr_fail_eq 1 _), hfl_no hf, ite_self]
theorem f65_no {fu : Nat} {x : Int} {h : Hp} (hf : h 75 3 ≠ 0) : iter1 (tr_read_f65 75) (fu + 1) x h = some ((), h) := by
  show tr_read_f65 75 _ x h = _
  unfold tr_read_f65
  by_cases q : x < 16
  · rw [if_pos q, bd_eq (tr_accept_no hf 59), if_pos rfl, rb90_no hf]
  · rw [if_neg q, rb90_no hf]
theorem f15_0 {fu : Nat} {h : Hp} : iter1 (mo_readsAll_f15 132) (fu + 1) 0 h = some ((), h) := by
  show mo_readsAll_f15 132 _ 0 h = _
  unfold mo_readsAll_f15 mo_readsAll_b107
  rw [if_pos rfl]
/-- both stop before the end of the text -/
theorem stop_both {c : Int} {hc hm : Hp} (g : GN c hc hm) (q : c < hc 75 2) : ∃ hc' hm', tr_read_b90 75 hc = some ((), hc') ∧ FRM hc hc' ∧ (∀ fu, mo_readsAll_b51 132 (iter1 (mo_readsAll_f15 132) (fu + 1)) hm = some ((), hm')) ∧ MFR hm hm' ∧ FE hc' hm' := by
  obtain ⟨⟨g1, g2, g3⟩, m1, m2, m3, m4⟩ := g
  have a := g3.1
  have b := g3.2
  have f3 : hfl 1 1 c hc 75 3 = 1 := by rw [hfl_3 (by decide), if_pos ⟨by decide, g1⟩]
  have f4 : hfl 1 1 c hc 75 4 = c := by rw [hfl_4, if_pos ⟨by decide, g1⟩]
  have crF : CR (hfl 1 1 c hc) := by
    unfold CR
    rw [hfl_o (by omega), hfl_o (by omega)]
    exact g3
  refine ⟨hfl 1 1 c hc, hmf hm 1 c, ?_, ⟨fun c' z => funext fun j => hfl_o (by omega), funext fun j => hfl_o (by omega), hfl_o (by omega)⟩, fun fu => ?_, mfr_hmf, by rw [f3]; unfold hmf hu; simp, by rw [f3]; decide, by rw [f4]; unfold hmf hu; simp, by rw [f4]; omega, crF⟩
  · unfold tr_read_b90 tr_read_b110
    rw [g2, if_pos q, bd_eq (tr_fail_eq 1 _)]
  · have e6 : hmf hm 1 c 132 6 = c := by unfold hmf hu; simp [m2]
    unfold mo_readsAll_b51 mo_readsAll_b68 mo_readsAll_b83 mo_readsAll_b102 mo_readsAll_b103
    rw [m2, bd_eq (mo_fails_eq 1 c), if_pos rfl, if_pos rfl, e6, ck_in ⟨by omega, by omega⟩, lt_eq, if_pos rfl]
    have : hu (hmf hm 1 c) 132 6 (c + 0) = hmf hm 1 c := by
      have z := hu_id (h := hmf hm 1 c) (a := 132) (i := 6)
      rw [e6] at z
      rw [Int.add_zero]
      exact z
    rw [this]
    exact f15_0
theorem dim_loop : ∀ (r : Nat) (D : Dr) (c : Int) (hc hm : Hp) (fu1 fu2 : Nat), r < fu1 → r + 1 < fu2 → D 7 1 + r = 16 → GR D c hc hm →
    ∃ hc', iter1 (tr_read_f65 75) fu1 (D 7 1) hc = some ((), hc') ∧ FRM hc hc' ∧ ∃ hm', iter1 (mo_readsAll_f15 132) fu2 1 hm = some ((), hm') ∧ MFR hm hm' ∧ (FE hc' hm' ∨ ∃ D' c', GR D' c' hc' hm' ∧ lets D D') := by
  intro r
  induction r with
  | zero =>
    intro D c hc hm fu1 fu2 f1 f2 e16 g
    obtain ⟨fu1, rfl⟩ : ∃ f, fu1 = f + 1 := ⟨fu1 - 1, by omega⟩
    obtain ⟨fu2, rfl⟩ : ∃ f, fu2 = f + 1 + 1 := ⟨fu2 - 2, by omega⟩
    obtain ⟨⟨g1, g2, g3, g4, g5⟩, m1, m2, m3, m4, m5⟩ := id g
    have a := g3.1
    have b := g3.2
    have eC : iter1 (tr_read_f65 75) (fu1 + 1) (D 7 1) hc = tr_read_b90 75 hc := by
      show tr_read_f65 75 _ _ hc = _
      unfold tr_read_f65
      rw [if_neg (by omega)]
    have hh := mo_here_eq (h := hm) (by omega) (by omega)
    rw [eC]
    by_cases q : c < hc 75 2
    · obtain ⟨hc', hm', s1, s2, s3, s4, s5⟩ := stop_both g.gn q
      refine ⟨hc', s1, s2, hm', ?_, s4, Or.inl s5⟩
      show mo_readsAll_f15 132 _ 1 hm = _
      simp only [mo_readsAll_f15, Nat.reduceAdd]
      rw [if_neg (by decide), m2, m3, if_pos q, bd_eq hh]
      rw [ix_in (by omega) (by omega), m5.m, if_neg (show ¬ D 7 1 < 16 by omega), s3 fu2, ite_self]
    · refine ⟨hc, ?_, FRM.rfl hc, hm, ?_, MFR.rfl hm, Or.inr ⟨D, c, g, rfl, rfl⟩⟩
      · unfold tr_read_b90 tr_read_b110
        rw [g2, if_neg q]
      · show mo_readsAll_f15 132 _ 1 hm = _
        unfold mo_readsAll_f15 mo_readsAll_b107
        rw [if_neg (by decide), m2, m3, if_neg q]
  | succ r ih =>
    intro D c hc hm fu1 fu2 f1 f2 e16 g
    obtain ⟨fu1, rfl⟩ : ∃ f, fu1 = f + 1 := ⟨fu1 - 1, by omega⟩
    obtain ⟨fu2, rfl⟩ : ∃ f, fu2 = f + 1 + 1 := ⟨fu2 - 2, by omega⟩
    obtain ⟨⟨g1, g2, g3, g4, g5⟩, m1, m2, m3, m4, m5⟩ := id g
    have a := g3.1
    have b := g3.2
    have w1 := g5.2.1
    have ac := tr_accept_eq g3 (x := 59) (by decide)
    rw [g2] at ac
    have hh := mo_here_eq (h := hm) (by omega) (by omega)
    rw [m2, m3, m4] at hh
    by_cases q : c < hc 75 2
    case neg =>
      rw [if_neg (fun z => q z.2.1)] at ac
      refine ⟨hc, ?_, FRM.rfl hc, hm, ?_, MFR.rfl hm, Or.inr ⟨D, c, g, rfl, rfl⟩⟩
      · show tr_read_f65 75 _ _ hc = _
        unfold tr_read_f65 tr_read_b90 tr_read_b110
        rw [if_pos (by omega), bd_eq ac, if_pos rfl, g2, if_neg q]
      · show mo_readsAll_f15 132 _ 1 hm = _
        unfold mo_readsAll_f15 mo_readsAll_b107
        rw [if_neg (by decide), m2, m3, if_neg q]
    rw [if_pos q] at hh
    by_cases q2 : hc 76 c = 59
    case neg =>
      rw [if_neg (fun z => q2 z.2.2)] at ac
      obtain ⟨hc', hm', s1, s2, s3, s4, s5⟩ := stop_both g.gn q
      refine ⟨hc', ?_, s2, hm', ?_, s4, Or.inl s5⟩
      · show tr_read_f65 75 _ _ hc = _
        unfold tr_read_f65
        rw [if_pos (by omega), bd_eq ac, if_pos rfl, s1]
      · show mo_readsAll_f15 132 (iter1 (mo_readsAll_f15 132) (fu2 + 1)) 1 hm = _
        have s3' := s3 fu2
        generalize iter1 (mo_readsAll_f15 132) (fu2 + 1) = k at s3' ⊢
        unfold mo_readsAll_f15
        rw [if_neg (by decide), m2, m3, if_pos q, bd_eq hh, if_neg q2, s3']
    rw [if_pos ⟨g1, q, q2⟩] at ac
    have g' := g.adv q
    obtain ⟨hc1, p1, p2, s, hm1, p3, p4, p5⟩ := dim_both g' (by omega)
    have eC : iter1 (tr_read_f65 75) (fu1 + 1) (D 7 1) hc = iter1 (tr_read_f65 75) fu1 (D 7 1 + 1) hc1 := by
      show tr_read_f65 75 _ _ hc = _
      unfold tr_read_f65
      rw [if_pos (by omega), bd_eq ac, if_neg (by decide), bd_eq p1, ck_in ⟨by omega, by omega⟩]
    have eM : iter1 (mo_readsAll_f15 132) (fu2 + 1 + 1) 1 hm = if s = 0 then iter1 (mo_readsAll_f15 132) (fu2 + 1) 0 hm1 else iter1 (mo_readsAll_f15 132) (fu2 + 1) 1 hm1 := by
      show mo_readsAll_f15 132 (iter1 (mo_readsAll_f15 132) (fu2 + 1)) 1 hm = _
      simp only [mo_readsAll_f15, Nat.reduceAdd]
      rw [if_neg (by decide), m2, m3, if_pos q, bd_eq hh, if_pos q2, ix_in (by omega) (by omega), m5.m, if_pos (by omega)]
      unfold mo_readsAll_b63 mo_readsAll_b68 mo_readsAll_b83 mo_readsAll_b102 mo_readsAll_b103
      rw [if_neg (by decide), m2, ck_in ⟨by omega, by omega⟩, lt_eq, if_neg (by decide), bd_eq p3]
    have fr0 : FRM hc (hu hc 75 5 (c + 1)) := ⟨fun c' z => funext fun j => hu_o (by omega) j, funext fun j => hu_o (by decide) j, hu_j 75 (by decide)⟩
    have mf0 : MFR hm (hu hm 132 6 (c + 1)) := mfr_m (Or.inr (Or.inr (Or.inl rfl)))
    rcases p5 with ⟨rfl, fe⟩ | ⟨rfl, D', c', j1, j2, j3⟩
    · obtain ⟨fu1, rfl⟩ : ∃ f, fu1 = f + 1 := ⟨fu1 - 1, by omega⟩
      exact ⟨hc1, by rw [eC, f65_no fe.2.1], fr0.trans p2, hm1, by rw [eM, if_pos rfl, f15_0], mf0.trans p4, Or.inl fe⟩
    · obtain ⟨hc', i1, i2, hm', i3, i4, i5⟩ := ih D' c' hc1 hm1 fu1 (fu2 + 1) (by omega) (by omega) (by omega) j1
      rw [j2] at i1
      refine ⟨hc', by rw [eC, i1], (fr0.trans p2).trans i2, hm', by rw [eM, if_neg (by decide), i3], (mf0.trans p4).trans i4, ?_⟩
      rcases i5 with i5 | ⟨D2, c2, k1, k2⟩
      · exact Or.inl i5
      · exact Or.inr ⟨D2, c2, k1, k2.1.trans j3.1, k2.2.trans j3.2⟩
/-- all the text, by both -/
theorem read_both {D : Dr} {hc hm : Hp} (hn : 0 ≤ hc 75 2 ∧ hc 75 2 ≤ 80) (m3 : hm 132 3 = hc 75 2) (m4 : hm 134 = hc 76) (hw : WF D) (hA : D 7 2 = hm 133 110 ∧ D 7 3 = hm 133 111) (z0 : hm 133 0 = 0) (z1 : hm 133 13 = 0) :
    ∃ hc', tr_read 75 hc = some ((), hc') ∧ FRM hc hc' ∧ ∃ hm', mo_readsAll 132 hm = some ((), hm') ∧ MFR hm hm' ∧ (FE hc' hm' ∨ ∃ D' c', GR D' c' hc' hm' ∧ lets D D') := by
  obtain ⟨w1, w2, w3, w4, w5, w6, w7⟩ := hw
  have wz : WF (fun r i => if r = 7 ∧ (i = 0 ∨ i = 1) then 0 else D r i) := ⟨by simp, by simp, by simpa using w3, by simpa using w4, fun i g0 g1 => by simp at g1; omega, fun i j g0 g1 g2 => by simp at g2; omega, fun d g0 g1 => by simp at g1; omega⟩
  have fr0 : FRM hc (hu (hu (hu (hu hc 75 3 0) 75 5 0) 77 7 0) 77 8 0) := ⟨fun c g => funext fun j => by rw [hu_o (by omega), hu_o (by omega), hu_o (by omega), hu_o (by omega)], funext fun j => by rw [hu_o (by decide), hu_o (by decide), hu_o (by decide), hu_o (by decide)], by rw [hu_o (by decide), hu_o (by decide), hu_j 75 (by decide), hu_j 75 (by decide)]⟩
  have mf0 : MFR hm (hu (hu hm 132 4 0) 132 6 0) := (mfr_m (Or.inl rfl)).trans (mfr_m (Or.inr (Or.inr (Or.inl rfl))))
  have g : GR (fun r i => if r = 7 ∧ (i = 0 ∨ i = 1) then 0 else D r i) 0 (hu (hu (hu (hu hc 75 3 0) 75 5 0) 77 7 0) 77 8 0) (hu (hu hm 132 4 0) 132 6 0) := by
    refine ⟨⟨by unfold hu; simp, by unfold hu; simp, ⟨by unfold hu; simp; omega, by unfold hu; simp; omega⟩, ⟨⟨by unfold hu; simp, by unfold hu; simp⟩, fun i a b => by simp at b; omega, fun i a b => by simp at b; omega⟩, wz⟩, by unfold hu; simp, by unfold hu; simp, by unfold hu; simp [m3], funext fun j => ?_, ⟨?_, ?_, ?_, ?_⟩, fun i a b => by simp at b; omega, fun i a b => by simp at b; omega⟩
    · rw [hu_o (by decide), hu_o (by decide), hu_o (by decide), hu_o (by decide), hu_o (by decide), hu_o (by decide), m4]
    · rw [hu_o (by decide), hu_o (by decide)]; simpa using z0.symm
    · rw [hu_o (by decide), hu_o (by decide)]; simpa using z1.symm
    · rw [hu_o (by decide), hu_o (by decide)]; simpa using hA.1
    · rw [hu_o (by decide), hu_o (by decide)]; simpa using hA.2
  obtain ⟨hc1, e1, e2, s, hm1, e3, e4, e5⟩ := pos_all g (by simp) (by simp)
  have eC : tr_read 75 hc = tr_read_b63 75 hc1 := by
    rw [← e1]
    rfl
  have eM : mo_readsAll 132 hm = iter1 (mo_readsAll_f15 132) fuel s hm1 := by
    unfold mo_readsAll
    rw [lt_eq, lt_eq, bd_eq e3]
  obtain ⟨fu, hfu⟩ : ∃ f, fuel = f + 1 := ⟨2999, rfl⟩
  rcases e5 with ⟨rfl, fe⟩ | ⟨rfl, D', c', j1, j2, j3, -⟩
  · refine ⟨hc1, ?_, fr0.trans e2, hm1, ?_, mf0.trans e4, Or.inl fe⟩
    · rw [eC]; unfold tr_read_b63; rw [hfu, f65_no fe.2.1]
    · rw [eM, hfu, f15_0]
  · obtain ⟨hc', i1, i2, hm', i3, i4, i5⟩ := dim_loop 16 D' c' hc1 hm1 fuel fuel (by unfold fuel; omega) (by unfold fuel; omega) (by omega) j1
    rw [j2] at i1
    refine ⟨hc', by rw [eC]; exact i1, (fr0.trans e2).trans i2, hm', by rw [eM, i3], (mf0.trans e4).trans i4, ?_⟩
    rcases i5 with i5 | ⟨D2, c2, k1, k2⟩
    · exact Or.inl i5
    · refine Or.inr ⟨D2, c2, k1, (k2.1.trans j3.1).trans ?_, (k2.2.trans j3.2).trans ?_⟩
      · simp
      · simp
end RDG

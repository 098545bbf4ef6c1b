section RDD
variable {h : Hp}
theorem b115_no (hf : h 75 3 ≠ 0) (x : Int) : tr_readDimension_b115 75 x h = some ((), h) := by
  unfold tr_readDimension_b115 tr_readDimension_b139
  rw [bd_eq (tr_accept_no hf 99), if_pos rfl]
theorem b90_no (hf : h 75 3 ≠ 0) (x : Int) : tr_readDimension_b90 75 x h = some ((), h) := by
  unfold tr_readDimension_b90
  rw [bd_eq (tr_accept_no hf 45), if_pos rfl, b115_no hf]
theorem hadd_ft (hc : CR h) (a b : Int) : FT h (hadd h 77 a b) := by
  have e : ∀ c, (c < 77 ∨ 85 ≤ c) → hadd h 77 a b c = h c := fun c g => funext fun j => by unfold hadd; rw [if_neg (by omega), if_neg (by omega)]
  refine ⟨?_, by rw [e 75 (by decide)], by rw [e 75 (by decide)], fun c g => e c (by omega), e 76 (by decide), by rw [e 75 (by decide)]⟩
  unfold CR
  rw [e 75 (by decide)]
  exact hc
theorem b52_no (hc : CR h) (hf : h 75 3 ≠ 0) (hm : 0 ≤ h 77 8 ∧ h 77 8 < 16) (a b s : Int) : ∃ h', tr_readDimension_b52 75 a b s h = some ((), h') ∧ FT h h' := by
  have k := hadd_ft hc a b
  refine ⟨hadd h 77 a b, ?_, k⟩
  have f : hadd h 77 a b 75 3 ≠ 0 := by rw [k.2.1]; exact hf
  unfold tr_readDimension_b52
  rw [bd_eq (tr_demand_eq s), hfl_no hf, bd_eq (dr_append_eq hm a b), bd_eq (tr_accept_no f 43), if_pos rfl, b90_no f]
def tail3 (a : Int) (h : Hp) : O Unit := bd (tr_readNumber 75 1 h) fun r5 h5 => bd (dr_hasPoint 77 r5 h5) fun r6 h6 => if r6 = 0 then tr_readDimension_b51 75 a r5 h6 else if a < r5 then tr_readDimension_b52 75 a r5 1 h6 else tr_readDimension_b51 75 a r5 h6
def tail2 (a : Int) (h : Hp) : O Unit := bd (tr_expect 75 45 h) fun _ h4 => tail3 a h4
theorem tail3_no (hc : CR h) (hf : h 75 3 ≠ 0) (hm : 0 ≤ h 77 8 ∧ h 77 8 < 16) (a : Int) : ∃ h', tail3 a h = some ((), h') ∧ FT h h' := by
  have k := hrd_ft hc hf (k := 1)
  have e8 : hrd h 1 77 8 = h 77 8 := hrd_o (by omega)
  have r := tr_rd_eq hc (k := 1) (by decide)
  generalize va (h 76) (h 75 2) 1 (h 75 5) 0 = v at r
  have b := fun s => b52_no k.1 (by rw [k.2.1]; exact hf) (by rw [e8]; exact hm) a v s
  unfold tail3 tr_readDimension_b51
  obtain ⟨h0, b1, b2⟩ := b 0
  obtain ⟨h1, c1, c2⟩ := b 1
  rw [show ((1 : Nat) : Int) = 1 from rfl] at r
  rw [bd_eq r, bd_eq (dr_hasPoint_eq v)]
  by_cases q : 0 ≤ v ∧ v < hrd h 1 77 7
  · rw [yn_t q, if_neg (by decide)]
    by_cases q2 : a < v
    · rw [if_pos q2]; exact ⟨h1, c1, k.trans c2⟩
    · rw [if_neg q2]; exact ⟨h0, b1, k.trans b2⟩
  · rw [yn_f q, if_pos rfl]; exact ⟨h0, b1, k.trans b2⟩
theorem tail2_no (hc : CR h) (hf : h 75 3 ≠ 0) (hm : 0 ≤ h 77 8 ∧ h 77 8 < 16) (a : Int) : ∃ h', tail2 a h = some ((), h') ∧ FT h h' := by
  unfold tail2
  rw [bd_eq (tr_expect_no hf 45)]
  exact tail3_no hc hf hm a
theorem GN.adv {c : Int} {hc hm : Hp} (g : GN c hc hm) (h : c < hc 75 2) : GN (c + 1) (hu hc 75 5 (c + 1)) (hu hm 132 6 (c + 1)) := by
  obtain ⟨⟨g1, g2, g3⟩, m1, m2, m3, m4⟩ := g
  have a := g3.1
  have b := g3.2
  refine ⟨⟨by rw [hu_j 75 (by decide)]; exact g1, hu_s, ?_⟩, by rw [hu_j 132 (by decide)]; exact m1, hu_s, by rw [hu_j 132 (by decide), hu_j 75 (by decide)]; exact m3, funext fun j => by rw [hu_o (by decide), hu_o (by decide), m4]⟩
  unfold CR
  rw [hu_s, hu_j 75 (by decide)]
  omega
/-- what the number leaves, both having read it well -/
theorem GN.rd {c v e : Int} {hc hm : Hp} {k : Nat} (g : GN c hc hm) (h3 : hrd hc k 75 3 = 0) (h5 : hrd hc k 75 5 = e) : GN e (hrd hc k) (hmn hm e v) := by
  obtain ⟨⟨g1, g2, g3⟩, m1, m2, m3, m4⟩ := g
  refine ⟨⟨h3, h5, hrd_cr g3⟩, ?_, ?_, ?_, ?_⟩
  · unfold hmn; rw [hu_j 132 (by decide), hu_j 132 (by decide)]; exact m1
  · exact hu_s
  · unfold hmn; rw [hu_j 132 (by decide), hu_j 132 (by decide), m3]; exact (hrd_o (by omega)).symm
  · funext j; unfold hmn; rw [hu_o (by decide), hu_o (by decide), m4]; exact (hrd_o (by omega)).symm
/-- a fault of a value -/
theorem fe_val {c v e : Int} {hc hm : Hp} {k : Nat} (g : GN c hc hm) (h3 : hrd hc k 75 3 = 0) : FE (hfl 1 2 c (hrd hc k)) (hmf (hmn hm e v) 2 c) := by
  have a := g.1.2.2.1
  have b := g.1.2.2.2
  have ec := g.1.2.1
  refine ⟨?_, ?_, ?_, ?_, ?_⟩
  · rw [hfl_3 (by decide), if_pos ⟨by decide, h3⟩]; unfold hmf; rw [hu_j 132 (by decide), hu_s]
  · rw [hfl_3 (by decide), if_pos ⟨by decide, h3⟩]; decide
  · rw [hfl_4, if_pos ⟨by decide, h3⟩]; unfold hmf; rw [hu_s]
  · rw [hfl_4, if_pos ⟨by decide, h3⟩]; omega
  · have := hrd_cr g.1.2.2 (k := k)
    unfold CR at *
    rw [hfl_o (by omega), hfl_o (by omega)]
    exact this
theorem readUpTo_eq (hc : CR h) {k : Nat} (hk : k ≤ 3) (hi v : Int) (e : tr_readNumber 75 k h = some (v, hrd h k)) : tr_readUpTo 75 hi k h = some (v, if hi < v then hfl 1 2 (h 75 5) (hrd h k) else hrd h k) := by
  unfold tr_readUpTo tr_readUpTo_b17
  rw [bd_eq e]
  by_cases q : hi < v
  · rw [if_pos q, if_pos q, bd_eq (tr_demand_eq 0), hrd_6]; rfl
  · rw [if_neg q, if_neg q, bd_eq (tr_demand_eq 1), show ng 1 = 0 from rfl, hfl_0]
/-- what may stand behind a dimension's ends -/
theorem beh_both {c x hi m : Int} {hc hm : Hp} {w k : Nat} (g : GN c hc hm) (hk : k ≤ 2) (hx : 0 ≤ x) (hw : 81 ≤ w ∧ w ≤ 83) (hmm : 0 ≤ m ∧ m < 16) (hz : hc w m = 0) (hhi : 0 ≤ hi) (K : Hp → O Unit) :
    ∃ hc' v s hm', (bd (tr_accept 75 x hc) fun r1 h1 => if r1 = 0 then K h1 else bd (tr_readUpTo 75 hi k h1) fun r2 h2 => ix m 16 (lt (hu h2 w m r2) K)) = K hc' ∧ mo_readsBehind 132 x k 0 hi hm = some (s, hm') ∧ MFR hm hm' ∧ hm' 133 = hm 133 ∧ (∀ c, c ≠ 75 → hc' c = hu hc w m v c) ∧ hc' 75 2 = hc 75 2 ∧ ((s = 0 ∧ FE hc' hm') ∨ (s = 1 ∧ (0 ≤ v ∧ v ≤ hi) ∧ hm' 132 7 = v ∧ ∃ e, GN e hc' hm')) := by
  obtain ⟨⟨g1, g2, g3⟩, m1, m2, m3, m4⟩ := id g
  have a := g3.1
  have b := g3.2
  have ac := tr_accept_eq g3 hx
  have hh := mo_here_eq (h := hu hm 132 7 0) (by rw [hu_j 132 (by decide)]; omega) (by rw [hu_j 132 (by decide)]; omega)
  have e6 : hu hm 132 7 0 132 6 = c := by rw [hu_j 132 (by decide)]; exact m2
  have e3 : hu hm 132 7 0 132 3 = hc 75 2 := by rw [hu_j 132 (by decide)]; exact m3
  have e4 : hu hm 132 7 0 134 = hc 76 := by rw [← m4]; exact funext fun j => hu_o (by decide) j
  rw [e6, e3, e4] at hh
  have g0 : GN c hc (hu hm 132 7 0) := ⟨⟨g1, g2, g3⟩, by rw [hu_j 132 (by decide)]; exact m1, e6, e3, e4⟩
  have mf0 : MFR hm (hu hm 132 7 0) := mfr_m (Or.inr (Or.inr (Or.inr rfl)))
  have s0 : hu hm 132 7 0 133 = hm 133 := funext fun j => hu_o (by decide) j
  rw [g2] at ac
  by_cases q : c < hc 75 2 ∧ hc 76 c = x
  · rw [if_pos ⟨g1, q⟩] at ac
    rw [if_pos q.1, q.2] at hh
    have g' := g0.adv q.1
    generalize hhc1 : hu hc 75 5 (c + 1) = hc1 at *
    generalize hhm1 : hu (hu hm 132 7 0) 132 6 (c + 1) = hm1 at *
    have oc : ∀ c, c ≠ 75 → hc1 c = hc c := fun c z => by rw [← hhc1]; exact funext fun j => hu_o z j
    have oc2 : hc1 75 2 = hc 75 2 := by rw [← hhc1]; exact hu_j 75 (by decide)
    have s1 : hm1 133 = hm 133 := by rw [← hhm1, ← s0]; exact funext fun j => hu_o (by decide) j
    have mf1 : MFR hm hm1 := by rw [← hhm1]; exact mf0.trans (mfr_m (Or.inr (Or.inr (Or.inl rfl))))
    obtain ⟨v, e, vb, r1, r2⟩ := num_both g' (k := k) (by omega) 0 hi
    have ru := readUpTo_eq g'.1.2.2 (k := k) (by omega) hi v r1
    rw [g'.1.2.1] at ru
    have eM : mo_readsBehind 132 x k 0 hi hm = bd (mo_readsNumber 132 k 0 hi hm1) fun r4 h4 => bz r4 (some (r4, h4)) := by
      unfold mo_readsBehind
      rw [lt_eq, bd_eq hh, if_pos rfl, e6, ck_in ⟨by omega, by omega⟩, lt_eq, hhm1]
    have eC : ∀ H, tr_readUpTo 75 hi k hc1 = some (v, H) → (bd (tr_accept 75 x hc) fun r1 h1 => if r1 = 0 then K h1 else bd (tr_readUpTo 75 hi k h1) fun r2 h2 => ix m 16 (lt (hu h2 w m r2) K)) = K (hu H w m v) := fun H eH => by
      rw [bd_eq ac, if_neg (by decide), bd_eq eH, ix_in hmm.1 hmm.2, lt_eq]
    have hfo : ∀ p i, ∀ c, c ≠ 75 → hu (hfl p 2 i (hrd hc1 k)) w m v c = hu hc w m v c := fun p i c z => funext fun j => by
      have : hfl p 2 i (hrd hc1 k) c j = hc c j := by rw [hfl_o (Or.inl z), hrd_o (Or.inl z), oc c z]
      unfold hu at *
      by_cases q : c = w ∧ j = m
      · rw [if_pos q, if_pos q]
      · rw [if_neg q, if_neg q]; exact this
    have h75 : ∀ H j, hu H w m v 75 j = H 75 j := fun H j => hu_o (by omega) j
    rcases r2 with ⟨hm', a1, a2, a3, a4, a5, a6, a7⟩ | ⟨a1, a2, a3, a4, a5, a6⟩
    · have fe : ∀ p, FE (hu (hfl p 2 (c + 1) (hrd hc1 k)) w m v) hm' := fun p => by
        rw [hfl_no (by rw [a3]; decide)]
        refine ⟨by rw [h75, a3, a4], by rw [h75, a3]; decide, by rw [h75, a5, a6], by rw [h75, a5]; exact a7, ?_⟩
        have := hrd_cr g'.1.2.2 (k := k)
        unfold CR at *
        rw [h75, h75]; exact this
      have ru' : tr_readUpTo 75 hi k hc1 = some (v, hfl (if hi < v then 1 else 0) 2 (c + 1) (hrd hc1 k)) := by
        rw [ru]
        by_cases z : hi < v
        · rw [if_pos z, if_pos z]
        · rw [if_neg z, if_neg z, hfl_0]
      have mf133 : hm' 133 = hm1 133 := by
        have := mo_readsNumber_eq (h := hm1) (lo := 0) (hi := hi) (k := k) (by omega) (by rw [g'.2.2.1]; omega) (by rw [g'.2.2.2.1]; exact g'.1.2.2.2) (by rw [g'.2.2.1]; omega)
        rw [a1] at this
        unfold mres at this
        split at this
        · injection this with this
          rw [(Prod.mk.inj this).2]
          funext j; unfold hmf hmn; rw [hu_o (by decide), hu_o (by decide), hu_o (by decide), hu_o (by decide)]
        · split at this
          · injection this with this
            exact absurd (Prod.mk.inj this).1 (by decide)
          · injection this with this
            rw [(Prod.mk.inj this).2]
            funext j; unfold hmf hmn; rw [hu_o (by decide), hu_o (by decide), hu_o (by decide), hu_o (by decide)]
      exact ⟨_, v, 0, hm', eC _ ru', by rw [eM, bd_eq a1]; rfl, mf1.trans a2, by rw [mf133, s1], hfo _ _, by rw [h75, hfl_o (by omega), hrd_o (by omega), oc2], Or.inl ⟨rfl, fe _⟩⟩
    · have n133 : hmn hm1 e v 133 = hm 133 := by rw [← s1]; exact funext fun j => by unfold hmn; rw [hu_o (by decide), hu_o (by decide)]
      by_cases z : hi < v
      · rw [if_pos z] at ru
        have fe := fe_val (v := v) (e := e) g' a1
        refine ⟨_, v, 0, _, eC _ ru, by rw [eM, bd_eq (a6 (by omega))]; rfl, mf1.trans (mfr_hmn.trans mfr_hmf), ?_, hfo 1 (c + 1), by rw [h75, hfl_o (by omega), hrd_o (by omega), oc2], Or.inl ⟨rfl, ?_⟩⟩
        · rw [← n133]; exact funext fun j => by unfold hmf; rw [hu_o (by decide), hu_o (by decide)]
        · obtain ⟨f1, f2, f3, f4, f5⟩ := fe
          refine ⟨by rw [h75]; exact f1, by rw [h75]; exact f2, by rw [h75]; exact f3, by rw [h75]; exact f4, ?_⟩
          unfold CR at *
          rw [h75, h75]; exact f5
      · rw [if_neg z] at ru
        have gn := g'.rd (v := v) a1 a2
        have hfo0 := hfo 0 0
        rw [hfl_0] at hfo0
        refine ⟨_, v, 1, _, eC _ ru, by rw [eM, bd_eq (a5 (by omega))]; rfl, mf1.trans mfr_hmn, n133, hfo0, by rw [h75, hrd_o (by omega), oc2], Or.inr ⟨rfl, by omega, ?_, e, ?_⟩⟩
        · unfold hmn; rw [hu_j 132 (by decide), hu_s]
        · obtain ⟨⟨f1, f2, f3⟩, f4, f5, f6, f7⟩ := gn
          refine ⟨⟨by rw [h75]; exact f1, by rw [h75]; exact f2, ?_⟩, f4, f5, by rw [h75]; exact f6, ?_⟩
          · unfold CR at *
            rw [h75, h75]; exact f3
          · rw [f7]; exact funext fun j => (hu_o (by omega) j).symm
  · rw [if_neg (fun z => q z.2)] at ac
    have hne : (if c < hc 75 2 then hc 76 c else -999) ≠ x := by
      by_cases q1 : c < hc 75 2
      · rw [if_pos q1]; exact fun z => q ⟨q1, z⟩
      · rw [if_neg q1]; omega
    refine ⟨hc, 0, 1, hu hm 132 7 0, ?_, ?_, mf0, s0, fun c z => ?_, rfl, Or.inr ⟨rfl, by omega, hu_s, c, g0⟩⟩
    · rw [bd_eq ac, if_pos rfl]
    · unfold mo_readsBehind
      rw [lt_eq, bd_eq hh, if_neg hne]
    · have := hu_id (h := hc) (a := w) (i := m)
      rw [hz] at this
      rw [this]
end RDD

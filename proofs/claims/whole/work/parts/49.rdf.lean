section RDF
theorem dim_both {D : Dr} {c : Int} {hc hm : Hp} (g : GR D c hc hm) (h16 : D 7 1 < 16) :
    ∃ hc', tr_readDimension 75 hc = some ((), hc') ∧ FRM hc hc' ∧ ∃ s hm', mo_readsDimension 132 hm = some (s, hm') ∧ MFR hm hm' ∧ ((s = 0 ∧ FE hc' hm') ∨ (s = 1 ∧ ∃ D' c', GR D' c' hc' hm' ∧ D' 7 1 = D 7 1 + 1 ∧ lets D D')) := by
  obtain ⟨⟨g1, g2, g3, g4, g5⟩, m1, m2, m3, m4, m5⟩ := id g
  have w0 := g5.1
  have w1 := g5.2.1
  have e8 : hc 77 8 = D 7 1 := g4.1.2.symm
  have e7 : hc 77 7 = D 7 0 := g4.1.1.symm
  have en : hm 133 0 = D 7 0 := m5.n
  have p0 : ng 0 = 1 := by decide
  have p1 : ng 1 = 0 := by decide
  obtain ⟨v1, e1, vb1, r1, c1⟩ := num_both g.gn (k := 1) (by decide) 0 (D 7 0 - 1)
  rw [show ((1 : Nat) : Int) = 1 from rfl] at r1 c1
  have hp1 := dr_hasPoint_eq (h := hrd hc 1) (th := 77) v1
  have h77 : ∀ j, hrd hc 1 77 j = hc 77 j := fun j => hrd_o (by omega)
  rw [h77, e7] at hp1
  have eC : tr_readDimension 75 hc = tail2 v1 (hfl (ng (yn (0 ≤ v1 ∧ v1 < D 7 0))) 2 c (hrd hc 1)) := by
    have : tr_readDimension 75 hc = bd (tr_readNumber 75 1 hc) fun r1 h1 => bd (dr_hasPoint 77 r1 h1) fun r2 h2 => bd (tr_demand 75 r2 h2) fun _ h3 => tail2 r1 h3 := rfl
    rw [this, bd_eq r1, bd_eq hp1, bd_eq (tr_demand_eq _), hrd_6, g2]
  have eM : ∀ {s : Int} {H : Hp}, mo_readsNumber 132 1 0 (D 7 0 - 1) hm = some (s, H) → mo_readsDimension 132 hm = if s = 0 then some (0, H) else bd (mo_reads 132 45 H) fun r2 h2 => if r2 = 0 then some (0, h2) else ck ((H 132 7) + 1) (ix 0 1120 (ck ((h2 133 0) - 1) (bd (mo_readsNumber 132 1 ((H 132 7) + 1) ((h2 133 0) - 1) h2) fun r3 h3 => if r3 = 0 then some (0, h3) else bd (mo_readsBehind 132 43 2 0 20 h3) fun r4 h4 => if r4 = 0 then some (0, h4) else bd (mo_readsBehind 132 45 2 0 20 h4) fun r5 h5 => if r5 = 0 then some (0, h5) else bd (mo_readsBehind 132 99 1 0 5 h5) fun r6 h6 => if r6 = 0 then some (0, h6) else bd (mo_lays 132 (H 132 7) (h3 132 7) (h5 132 7) (h4 132 7) (h6 132 7) h6) fun _ h7 => some ((1 : Int), h7)))) := fun {s H} e => by
    have : mo_readsDimension 132 hm = ix 0 1120 (ck ((hm 133 0) - 1) (bd (mo_readsNumber 132 1 0 ((hm 133 0) - 1) hm) fun r1 h1 => if r1 = 0 then some (0, h1) else bd (mo_reads 132 45 h1) fun r2 h2 => if r2 = 0 then some (0, h2) else ck ((h1 132 7) + 1) (ix 0 1120 (ck ((h2 133 0) - 1) (bd (mo_readsNumber 132 1 ((h1 132 7) + 1) ((h2 133 0) - 1) h2) fun r3 h3 => if r3 = 0 then some (0, h3) else bd (mo_readsBehind 132 43 2 0 20 h3) fun r4 h4 => if r4 = 0 then some (0, h4) else bd (mo_readsBehind 132 45 2 0 20 h4) fun r5 h5 => if r5 = 0 then some (0, h5) else bd (mo_readsBehind 132 99 1 0 5 h5) fun r6 h6 => if r6 = 0 then some (0, h6) else bd (mo_lays 132 (h1 132 7) (h3 132 7) (h5 132 7) (h4 132 7) (h6 132 7) h6) fun _ h7 => some ((1 : Int), h7)))))) := rfl
    rw [this, ix_in (by omega) (by omega), en, ck_in ⟨by omega, by omega⟩, bd_eq e]
  rcases c1 with ⟨hm', a1, a2, a3, a4, a5, a6, a7⟩ | ⟨a1, a2, a3, a4, a5, a6⟩
  · have fe : FE (hrd hc 1) hm' := ⟨by rw [a3, a4], by rw [a3]; decide, by rw [a5, a6], by rw [a5]; exact a7, hrd_cr g3⟩
    obtain ⟨hc', t1, t2⟩ := tail2_no (h := hrd hc 1) (hrd_cr g3) fe.2.1 (by rw [h77, e8]; omega) v1
    refine ⟨hc', by rw [eC, hfl_no fe.2.1, t1], hrd_frm.trans t2.2.2.2, 0, hm', by rw [eM a1, if_pos rfl], a2, Or.inl ⟨rfl, fe.ft t2⟩⟩
  by_cases q1 : 0 ≤ v1 ∧ v1 ≤ D 7 0 - 1
  case neg =>
    have fe := fe_val (v := v1) (e := e1) g.gn a1
    have fr : FRM hc (hfl 1 2 c (hrd hc 1)) := ⟨fun c' z => funext fun j => by rw [hfl_o (by omega)]; exact hrd_o (by omega), funext fun j => by rw [hfl_o (by omega)]; exact hrd_o (by omega), by rw [hfl_o (by omega)]; exact hrd_o (by omega)⟩
    obtain ⟨hc', t1, t2⟩ := tail2_no (h := hfl 1 2 c (hrd hc 1)) fe.2.2.2.2 fe.2.1 (by rw [hfl_o (by omega), h77, e8]; omega) v1
    refine ⟨hc', by rw [eC, yn_f (fun z => q1 (by omega)), p0, t1], fr.trans t2.2.2.2, 0, _, by rw [eM (a6 q1), if_pos rfl], mfr_hmn.trans mfr_hmf, Or.inl ⟨rfl, fe.ft t2⟩⟩
  rw [yn_t (by omega), p1, hfl_0] at eC
  have gn1 := g.gn.rd (v := v1) a1 a2
  have eM1 := eM (a5 q1)
  rw [if_neg (by decide)] at eM1
  have M7 : hmn hm e1 v1 132 7 = v1 := by unfold hmn; rw [hu_j 132 (by decide), hu_s]
  have M133 : hmn hm e1 v1 133 = hm 133 := funext fun j => by unfold hmn; rw [hu_o (by decide), hu_o (by decide)]
  rw [M7] at eM1
  have fH : FRM hc (hrd hc 1) := hrd_frm
  have mM : MFR hm (hmn hm e1 v1) := mfr_hmn
  have hH : ∀ c, c ≠ 75 → hrd hc 1 c = hc c := fun c z => funext fun j => hrd_o (Or.inl z)
  generalize hmn hm e1 v1 = M at *
  generalize hrd hc 1 = H at *
  have ex := tr_expect_eq gn1.1.2.2 gn1.1.1 (x := 45) (by decide)
  have gb := gn1.1.2.2.1
  have gb2 := gn1.1.2.2.2
  have ge := gn1.1.2.1
  have hh := mo_here_eq (h := M) (by rw [gn1.2.2.1]; omega) (by rw [gn1.2.2.2.1]; exact gb2)
  rw [gn1.2.2.1, gn1.2.2.2.1, gn1.2.2.2.2] at hh
  rw [ge] at ex gb
  by_cases q2 : e1 < H 75 2 ∧ H 76 e1 = 45
  case neg =>
    rw [if_neg q2] at ex
    have hne : (if e1 < H 75 2 then H 76 e1 else -999) ≠ 45 := by
      by_cases z : e1 < H 75 2
      · rw [if_pos z]; exact fun y => q2 ⟨z, y⟩
      · rw [if_neg z]; decide
    have rd : mo_reads 132 45 M = some (0, hmf M 1 e1) := by
      unfold mo_reads
      rw [bd_eq hh, if_neg hne, gn1.2.2.1, bd_eq (mo_fails_eq 1 _)]
      rfl
    have f3 : hfl 1 1 e1 H 75 3 = 1 := by rw [hfl_3 (by decide), if_pos ⟨by decide, gn1.1.1⟩]
    have f4 : hfl 1 1 e1 H 75 4 = e1 := by rw [hfl_4, if_pos ⟨by decide, gn1.1.1⟩]
    have crF : CR (hfl 1 1 e1 H) := by
      unfold CR
      rw [hfl_o (by omega), hfl_o (by omega)]
      exact gn1.1.2.2
    have fe : FE (hfl 1 1 e1 H) (hmf M 1 e1) := ⟨by rw [f3]; unfold hmf hu; simp, by rw [f3]; decide, by rw [f4]; unfold hmf hu; simp, by rw [f4]; omega, crF⟩
    obtain ⟨hc', t1, t2⟩ := tail3_no (h := hfl 1 1 e1 H) crF fe.2.1 (by rw [hfl_o (by omega), hH 77 (by decide), e8]; omega) v1
    have fr : FRM H (hfl 1 1 e1 H) := ⟨fun c' z => funext fun j => hfl_o (by omega), funext fun j => hfl_o (by omega), hfl_o (by omega)⟩
    refine ⟨hc', ?_, (fH.trans fr).trans t2.2.2.2, 0, _, by rw [eM1, bd_eq rd, if_pos rfl], mM.trans mfr_hmf, Or.inl ⟨rfl, fe.ft t2⟩⟩
    rw [eC]
    unfold tail2
    rw [bd_eq ex, t1]
  rw [if_pos q2] at ex
  rw [if_pos q2.1, q2.2] at hh
  have rd : mo_reads 132 45 M = some (1, hu M 132 6 (e1 + 1)) := by
    unfold mo_reads
    rw [bd_eq hh, if_pos rfl, gn1.2.2.1, ck_in ⟨by omega, by omega⟩, lt_eq]
  have gn2 := gn1.adv q2.1
  have fH2 : FRM hc (hu H 75 5 (e1 + 1)) := fH.trans ⟨fun c' z => funext fun j => hu_o (by omega) j, funext fun j => hu_o (by decide) j, hu_j 75 (by decide)⟩
  have mM2 : MFR hm (hu M 132 6 (e1 + 1)) := mM.trans (mfr_m (Or.inr (Or.inr (Or.inl rfl))))
  have M2133 : hu M 132 6 (e1 + 1) 133 = hm 133 := by rw [← M133]; exact funext fun j => hu_o (by decide) j
  have hH2 : ∀ c, c ≠ 75 → hu H 75 5 (e1 + 1) c = hc c := fun c z => by rw [← hH c z]; exact funext fun j => hu_o z j
  have eC2 : tr_readDimension 75 hc = tail3 v1 (hu H 75 5 (e1 + 1)) := by
    rw [eC]
    unfold tail2
    rw [bd_eq ex]
  rw [bd_eq rd, if_neg (by decide), ck_in ⟨by omega, by omega⟩, ix_in (by omega) (by omega), M2133, en, ck_in ⟨by omega, by omega⟩] at eM1
  generalize hu M 132 6 (e1 + 1) = M2 at *
  generalize hu H 75 5 (e1 + 1) = H2 at *
  obtain ⟨v2, e2, vb2, r2, c2⟩ := num_both gn2 (k := 1) (by decide) (v1 + 1) (D 7 0 - 1)
  rw [show ((1 : Nat) : Int) = 1 from rfl] at r2 c2
  have hp2 := dr_hasPoint_eq (h := hrd H2 1) (th := 77) v2
  have h77' : ∀ j, hrd H2 1 77 j = hc 77 j := fun j => by rw [hrd_o (by omega), hH2 77 (by decide)]
  rw [h77', e7] at hp2
  have eC3 : tail3 v1 H2 = b52r v1 v2 (hfl (if v1 + 1 ≤ v2 ∧ v2 ≤ D 7 0 - 1 then 0 else 1) 2 (e1 + 1) (hrd H2 1)) := by
    unfold tail3 tr_readDimension_b51
    rw [bd_eq r2, bd_eq hp2]
    have b0 := b52_eq v1 v2 0 (hrd H2 1)
    have b1 := b52_eq v1 v2 1 (hrd H2 1)
    rw [hrd_6, gn2.1.2.1, p0] at b0
    rw [hrd_6, gn2.1.2.1, p1] at b1
    by_cases q : 0 ≤ v2 ∧ v2 < D 7 0
    · rw [yn_t q, if_neg (by decide)]
      by_cases q3 : v1 < v2
      · rw [if_pos q3, b1, if_pos (by omega)]
      · rw [if_neg q3, b0, if_neg (by omega)]
    · rw [yn_f q, if_pos rfl, b0, if_neg (by omega)]
  have fH3 : ∀ p, FRM hc (hfl p 2 (e1 + 1) (hrd H2 1)) := fun p => (fH2.trans hrd_frm).trans ⟨fun c' z => funext fun j => hfl_o (by omega), funext fun j => hfl_o (by omega), hfl_o (by omega)⟩
  have h778 : ∀ p, hfl p 2 (e1 + 1) (hrd H2 1) 77 8 = D 7 1 := fun p => by rw [hfl_o (by omega), h77', e8]
  rcases c2 with ⟨hm', b1, b2, b3, b4, b5, b6, b7⟩ | ⟨b1, b2, b3, b4, b5, b6⟩
  · have fe : FE (hrd H2 1) hm' := ⟨by rw [b3, b4], by rw [b3]; decide, by rw [b5, b6], by rw [b5]; exact b7, hrd_cr gn2.1.2.2⟩
    have hno : ∀ p, hfl p 2 (e1 + 1) (hrd H2 1) = hrd H2 1 := fun p => hfl_no fe.2.1
    obtain ⟨hc', t1, t2⟩ := b52r_no (h := hrd H2 1) fe.2.2.2.2 fe.2.1 (by rw [h77', e8]; omega) v1 v2
    exact ⟨hc', by rw [eC2, eC3, hno, t1], (fH2.trans hrd_frm).trans t2.2.2.2, 0, hm', by rw [eM1, bd_eq b1, if_pos rfl], mM2.trans b2, Or.inl ⟨rfl, fe.ft t2⟩⟩
  by_cases q3 : v1 + 1 ≤ v2 ∧ v2 ≤ D 7 0 - 1
  case neg =>
    have fe := fe_val (v := v2) (e := e2) gn2 b1
    obtain ⟨hc', t1, t2⟩ := b52r_no (h := hfl 1 2 (e1 + 1) (hrd H2 1)) fe.2.2.2.2 fe.2.1 (by rw [h778]; omega) v1 v2
    exact ⟨hc', by rw [eC2, eC3, if_neg q3, t1], (fH3 1).trans t2.2.2.2, 0, _, by rw [eM1, bd_eq (b6 q3), if_pos rfl], mM2.trans (mfr_hmn.trans mfr_hmf), Or.inl ⟨rfl, fe.ft t2⟩⟩
  rw [if_pos q3, hfl_0] at eC3
  have gn3 := gn2.rd (v := v2) b1 b2
  have M37 : hmn M2 e2 v2 132 7 = v2 := by unfold hmn; rw [hu_j 132 (by decide), hu_s]
  have M3133 : hmn M2 e2 v2 133 = hm 133 := by rw [← M2133]; exact funext fun j => by unfold hmn; rw [hu_o (by decide), hu_o (by decide)]
  have hA3 : AtM D (hmn M2 e2 v2) 0 := by
    unfold AtM at *
    rw [M3133]; exact m5
  have hK3 : AtK D (hrd H2 1) := by
    have hcc : ∀ c, c ≠ 75 → hrd H2 1 c = hc c := fun c z => by rw [← hH2 c z]; exact funext fun j => hrd_o (Or.inl z)
    unfold AtK at *
    rw [hcc 77 (by decide), hcc 78 (by decide), hcc 79 (by decide), hcc 80 (by decide), hcc 81 (by decide), hcc 82 (by decide), hcc 83 (by decide), hcc 84 (by decide)]
    exact g4
  obtain ⟨hc', t1, t2, s, hm', t3, t4, t5⟩ := rest_both gn3 hK3 hA3 g5 h16 (v1 := v1) (v2 := v2) (by omega)
  rw [bd_eq (b5 q3), if_neg (by decide), M37] at eM1
  exact ⟨hc', by rw [eC2, eC3, t1], (fH2.trans hrd_frm).trans t2, s, hm', by rw [eM1, t3], (mM2.trans mfr_hmn).trans t4, t5⟩
end RDF

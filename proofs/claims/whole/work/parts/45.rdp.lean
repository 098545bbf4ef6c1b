section RDP
/-- the class's read content -/
def AtK (D : Dr) (h : Hp) : Prop := (D 7 0 = h 77 7 ∧ D 7 1 = h 77 8) ∧ (∀ i, 0 ≤ i → i < D 7 0 → D 0 i = h 78 i) ∧ (∀ d, 0 ≤ d → d < D 7 1 → D 1 d = h 79 d ∧ D 2 d = h 80 d ∧ D 3 d = h 81 d ∧ D 4 d = h 82 d ∧ D 5 d = h 83 d ∧ D 6 d = h 84 d)
/-- both have read the same up to c -/
def GR (D : Dr) (c : Int) (hc hm : Hp) : Prop := (hc 75 3 = 0 ∧ hc 75 5 = c ∧ CR hc ∧ AtK D hc ∧ WF D) ∧ (hm 132 4 = 0 ∧ hm 132 6 = c ∧ hm 132 3 = hc 75 2 ∧ hm 134 = hc 76 ∧ AtM D hm 0)
/-- both at the same fault -/
def FE (hc hm : Hp) : Prop := hc 75 3 = hm 132 4 ∧ hc 75 3 ≠ 0 ∧ hc 75 4 = hm 132 5 ∧ (0 ≤ hc 75 4 ∧ hc 75 4 ≤ 80) ∧ CR hc
def MFR (h h' : Hp) : Prop := (∀ c, c ≠ 132 → c ≠ 133 → h' c = h c) ∧ (∀ j, (j ≠ 4 ∧ j ≠ 5 ∧ j ≠ 6 ∧ j ≠ 7) → h' 132 j = h 132 j) ∧ ∀ j, 112 ≤ j → h' 133 j = h 133 j
theorem MFR.rfl (h : Hp) : MFR h h := ⟨fun _ _ _ => Eq.refl _, fun _ _ => Eq.refl _, fun _ _ => Eq.refl _⟩
theorem MFR.trans {h1 h2 h3 : Hp} (a : MFR h1 h2) (b : MFR h2 h3) : MFR h1 h3 := ⟨fun c g g' => (b.1 c g g').trans (a.1 c g g'), fun j g => (b.2.1 j g).trans (a.2.1 j g), fun j g => (b.2.2 j g).trans (a.2.2 j g)⟩
theorem mfr_m {h : Hp} {j v : Int} (hj : j = 4 ∨ j = 5 ∨ j = 6 ∨ j = 7) : MFR h (hu h 132 j v) := ⟨fun c g g' => funext fun i => hu_o g i, fun i g => hu_j 132 (by omega), fun i g => hu_o (by decide) i⟩
theorem mfr_p {h : Hp} {j v : Int} (hj : j < 112) : MFR h (hu h 133 j v) := ⟨fun c g g' => funext fun i => hu_o g' i, fun i g => hu_o (by decide) i, fun i g => hu_j 133 (by omega)⟩
theorem mfr_hmn {h : Hp} {e v : Int} : MFR h (hmn h e v) := (mfr_m (Or.inr (Or.inr (Or.inr (Eq.refl _))))).trans (mfr_m (Or.inr (Or.inr (Or.inl (Eq.refl _)))))
theorem mfr_hmf {h : Hp} {e v : Int} : MFR h (hmf h e v) := (mfr_m (Or.inl (Eq.refl _))).trans (mfr_m (Or.inr (Or.inl (Eq.refl _))))
/-- the spots alone -/
def GN (c : Int) (hc hm : Hp) : Prop := (hc 75 3 = 0 ∧ hc 75 5 = c ∧ CR hc) ∧ (hm 132 4 = 0 ∧ hm 132 6 = c ∧ hm 132 3 = hc 75 2 ∧ hm 134 = hc 76)
theorem GR.gn {D : Dr} {c : Int} {hc hm : Hp} (g : GR D c hc hm) : GN c hc hm := ⟨⟨g.1.1, g.1.2.1, g.1.2.2.1⟩, g.2.1, g.2.2.1, g.2.2.2.1, g.2.2.2.2.1⟩
/-- a number both read: the same fault, or the same value -/
theorem num_both {c : Int} {hc hm : Hp} (g : GN c hc hm) {k : Nat} (hk : k ≤ 3) (lo hi : Int) :
    ∃ v e, (0 ≤ v ∧ v < 10 ^ k) ∧ tr_readNumber 75 k hc = some (v, hrd hc k) ∧
      ((∃ hm', mo_readsNumber 132 k lo hi hm = some (0, hm') ∧ MFR hm hm' ∧ hrd hc k 75 3 = 1 ∧ hm' 132 4 = 1 ∧ hrd hc k 75 4 = e ∧ hm' 132 5 = e ∧ (0 ≤ e ∧ e ≤ 80)) ∨
       (hrd hc k 75 3 = 0 ∧ hrd hc k 75 5 = e ∧ hrd hc k 75 6 = c ∧ (0 ≤ e ∧ e ≤ hc 75 2) ∧ (lo ≤ v ∧ v ≤ hi → mo_readsNumber 132 k lo hi hm = some (1, hmn hm e v)) ∧ (¬ (lo ≤ v ∧ v ≤ hi) → mo_readsNumber 132 k lo hi hm = some (0, hmf (hmn hm e v) 2 c)))) := by
  obtain ⟨⟨g1, g2, g3⟩, m1, m2, m3, m4⟩ := g
  have r1 := tr_rd_eq g3 hk
  have r2 := mo_readsNumber_eq (h := hm) (lo := lo) (hi := hi) hk (by have := g3.1; omega) (by have := g3.2; omega) (by have := g3.1; have := g3.2; omega)
  rw [m2, m3, m4] at r2
  rw [g2] at r1
  have vb := va_b (hc 76) (hc 75 2) k c 0 0 (by omega) (by decide)
  rw [Nat.zero_add] at vb
  have f3 := hrd_3 (h := hc) (k := k)
  have f4 := hrd_4 (h := hc) (k := k)
  have f5 := hrd_5 (h := hc) (k := k)
  have f6 := hrd_6 (h := hc) (k := k)
  have rb := rn_b (hc 76) (hc 75 2) k c
  rw [g2] at f3 f4 f5 f6
  have eb : 0 ≤ nx (hc 76) (hc 75 2) k c ∧ nx (hc 76) (hc 75 2) k c ≤ hc 75 2 := by unfold nx; have := g3.1; omega
  generalize nx (hc 76) (hc 75 2) k c = e at *
  generalize va (hc 76) (hc 75 2) k c 0 = v at *
  refine ⟨v, e, vb, r1, ?_⟩
  have h80 := g3.2
  unfold mres at r2
  by_cases q : nbad (hc 76) (hc 75 2) c e ≠ 0
  · rw [if_pos q] at r2
    rw [if_pos ⟨q, g1⟩] at f3 f4
    refine Or.inl ⟨_, r2, mfr_hmn.trans mfr_hmf, f3, ?_, f4, hu_s, by omega⟩
    unfold hmf
    rw [hu_j 132 (by decide), hu_s]
  · rw [if_neg q] at r2
    rw [if_neg (fun z => q z.1)] at f3 f4
    refine Or.inr ⟨f3.trans g1, f5, f6, eb, fun z => ?_, fun z => ?_⟩
    · rw [if_pos z] at r2; exact r2
    · rw [if_neg z] at r2; exact r2
def dPos (D : Dr) (v : Int) : Dr := fun r i => if r = 0 ∧ i = D 7 0 then v else if r = 7 ∧ i = 0 then D 7 0 + 1 else D r i
theorem WF.pos {D : Dr} (w : WF D) {v : Int} (h12 : D 7 0 < 12) (hm : D 7 1 = 0) (hv : 0 ≤ v ∧ v ≤ 300) (hl : 0 < D 7 0 → D 0 (D 7 0 - 1) < v) : WF (dPos D v) := by
  obtain ⟨w1, w2, w3, w4, w5, w6, w7⟩ := w
  have e0 : dPos D v 7 0 = D 7 0 + 1 := by unfold dPos; grind
  have e1 : dPos D v 7 1 = D 7 1 := by unfold dPos; grind
  have e2 : dPos D v 7 2 = D 7 2 := by unfold dPos; grind
  have e3 : dPos D v 7 3 = D 7 3 := by unfold dPos; grind
  have ep : ∀ i, dPos D v 0 i = if i = D 7 0 then v else D 0 i := fun i => by unfold dPos; grind
  refine ⟨by rw [e0]; omega, by rw [e1]; exact w2, by rw [e2]; exact w3, by rw [e3]; exact w4, fun i g0 g1 => ?_, fun i j g0 g1 g2 => ?_, fun d g0 g1 => ?_⟩
  · rw [ep]; rw [e0] at g1
    by_cases q : i = D 7 0
    · rw [if_pos q]; exact hv
    · rw [if_neg q]; exact w5 i g0 (by omega)
  · rw [ep, ep]; rw [e0] at g2
    rw [if_neg (by omega)]
    by_cases q : j = D 7 0
    · rw [if_pos q]
      by_cases q2 : i = D 7 0 - 1
      · rw [q2]; exact hl (by omega)
      · have := w6 i (D 7 0 - 1) g0 (by omega) (by omega)
        have := hl (by omega)
        omega
    · rw [if_neg q]; exact w6 i j g0 g1 (by omega)
  · rw [e1] at g1; omega
/-- a position both read -/
theorem pos_both {D : Dr} {c : Int} {hc hm : Hp} (g : GR D c hc hm) (h12 : D 7 0 < 12) (hd : D 7 1 = 0) {x1 : Int} (hx0 : D 7 0 = 0 → x1 = -1) (hx1 : 0 < D 7 0 → x1 = D 0 (D 7 0 - 1)) :
    ∃ hc', tr_readPosition 75 hc = some ((), hc') ∧ FRM hc hc' ∧
      ((∃ hm', mo_readsNumber 132 3 (x1 + 1) 300 hm = some (0, hm') ∧ MFR hm hm' ∧ FE hc' hm') ∨
       (∃ v e, 0 ≤ v ∧ v ≤ 300 ∧ mo_readsNumber 132 3 (x1 + 1) 300 hm = some (1, hmn hm e v) ∧ GR (dPos D v) e hc' (hu (hu (hmn hm e v) 133 (1 + D 7 0) v) 133 0 (D 7 0 + 1)))) := by
  obtain ⟨v, e, vb, r1, r2⟩ := num_both g.gn (k := 3) (by decide) (x1 + 1) 300
  obtain ⟨⟨g1, g2, g3, g4, g5⟩, m1, m2, m3, m4, m5⟩ := id g
  have w0 := g5.1
  have e7 : hc 77 7 = D 7 0 := g4.1.1.symm
  have rp := tr_readPosition_eq g3 (by omega)
  have r1' := (tr_rd_eq g3 (k := 3) (by decide)).symm.trans r1
  have ev : va (hc 76) (hc 75 2) 3 (hc 75 5) 0 = v := by
    injection r1' with r1'
    exact (Prod.mk.inj r1').1
  rw [ev, e7] at rp
  have hq : (v ≤ 300 ∧ (hc 77 7 = 0 ∨ hc 78 (hc 77 7 - 1) < v)) ↔ (x1 + 1 ≤ v ∧ v ≤ 300) := by
    rw [e7]
    by_cases q : D 7 0 = 0
    · have := hx0 q; omega
    · have := hx1 (by omega)
      have e := g4.2.1 (D 7 0 - 1) (by omega) (by omega)
      omega
  have crN := hrd_cr g3 (k := 3)
  have hps_o : ∀ p c j, (c ≠ 78 ∧ c ≠ 77) → (c ≠ 75 ∨ (j ≠ 3 ∧ j ≠ 4)) → hps hc (D 7 0) v p c j = hrd hc 3 c j := fun p c j a b => by
    unfold hps
    rw [hu_o (by omega), hu_o (by omega), hfl_o b]
  have crP : ∀ p, CR (hps hc (D 7 0) v p) := fun p => by
    unfold CR
    rw [hps_o p 75 5 (by decide) (by omega), hps_o p 75 2 (by decide) (by omega)]
    exact crN
  have hps3 : ∀ p, hps hc (D 7 0) v p 75 3 = if p ≠ 0 ∧ hrd hc 3 75 3 = 0 then 2 else hrd hc 3 75 3 := fun p => by
    unfold hps
    rw [hu_o (by decide), hu_o (by decide), hfl_3 (by decide)]
  have hps4 : ∀ p, hps hc (D 7 0) v p 75 4 = if p ≠ 0 ∧ hrd hc 3 75 3 = 0 then hc 75 5 else hrd hc 3 75 4 := fun p => by
    unfold hps
    rw [hu_o (by decide), hu_o (by decide), hfl_4]
  have hpsK : ∀ p c j, (c = 78 ∨ c = 77) → ¬ (c = 78 ∧ j = D 7 0) → ¬ (c = 77 ∧ j = 7) → hps hc (D 7 0) v p c j = hc c j := fun p c j a b b' => by
    have : hrd hc 3 c j = hc c j := hrd_o (by omega)
    have : hfl p 2 (hc 75 5) (hrd hc 3) c j = hc c j := by rw [hfl_o (by omega)]; exact this
    unfold hps
    generalize hfl p 2 (hc 75 5) (hrd hc 3) = H at *
    unfold hu
    grind
  have frm : ∀ p, FRM hc (hps hc (D 7 0) v p) := fun p => ⟨fun c g => funext fun j => by rw [hps_o p c j (by omega) (by omega)]; exact hrd_o (by omega), funext fun j => by rw [hps_o p 76 j (by decide) (by omega)]; exact hrd_o (by omega), by rw [hps_o p 75 2 (by decide) (by omega)]; exact hrd_o (by omega)⟩
  refine ⟨_, rp, frm _, ?_⟩
  generalize hpp : psBad hc v = p
  rcases r2 with ⟨hm', a1, a2, a3, a4, a5, a6, a7⟩ | ⟨a1, a2, a3, a4, a5, a6⟩
  · refine Or.inl ⟨hm', a1, a2, ?_, ?_, ?_, ?_, crP p⟩
    · rw [hps3, if_neg (fun z => by omega), a3, a4]
    · rw [hps3, if_neg (fun z => by omega), a3]; decide
    · rw [hps4, if_neg (fun z => by omega), a5, a6]
    · rw [hps4, if_neg (fun z => by omega), a5]; exact a7
  · by_cases q : x1 + 1 ≤ v ∧ v ≤ 300
    · have hp0 : p = 0 := by rw [← hpp]; exact if_pos (hq.mpr q)
      subst hp0
      refine Or.inr ⟨v, e, vb.1, q.2, a5 q, ⟨?_, ?_, crP 0, ⟨⟨?_, ?_⟩, fun i i0 i1 => ?_, fun d d0 d1 => ?_⟩, ?_⟩, ?_, ?_, ?_, ?_, ⟨?_, ?_, ?_, ?_⟩, fun i i0 i1 => ?_, fun d d0 d1 => ?_⟩
      · rw [hps3, if_neg (fun z => z.1 rfl), a1]
      · rw [hps_o 0 75 5 (by decide) (by omega), a2]
      · rw [show dPos D v 7 0 = D 7 0 + 1 by unfold dPos; grind]; unfold hps; rw [hu_s]
      · rw [show dPos D v 7 1 = D 7 1 by unfold dPos; grind, hpsK 0 77 8 (by omega) (by omega) (by omega)]; exact g4.1.2
      · rw [show dPos D v 7 0 = D 7 0 + 1 by unfold dPos; grind] at i1
        rw [show dPos D v 0 i = if i = D 7 0 then v else D 0 i by unfold dPos; grind]
        by_cases qi : i = D 7 0
        · rw [if_pos qi]; unfold hps; rw [hu_o (by decide), qi, hu_s]
        · rw [if_neg qi, hpsK 0 78 i (by omega) (by omega) (by omega)]; exact g4.2.1 i i0 (by omega)
      · rw [show dPos D v 7 1 = D 7 1 by unfold dPos; grind] at d1; omega
      · exact g5.pos h12 hd ⟨vb.1, q.2⟩ (fun z => by have := hx1 z; omega)
      · rw [hu_o (by decide), hu_o (by decide)]; unfold hmn; rw [hu_j 132 (by decide), hu_j 132 (by decide)]; exact m1
      · rw [hu_o (by decide), hu_o (by decide)]; unfold hmn; rw [hu_s]
      · rw [hu_o (by decide), hu_o (by decide), hps_o 0 75 2 (by decide) (by omega)]; unfold hmn; rw [hu_j 132 (by decide), hu_j 132 (by decide), m3]; exact (hrd_o (by omega)).symm
      · funext j; rw [hu_o (by decide), hu_o (by decide), hps_o 0 76 j (by decide) (by omega)]; unfold hmn; rw [hu_o (by decide), hu_o (by decide), m4]; exact (hrd_o (by omega)).symm
      · rw [show dPos D v 7 0 = D 7 0 + 1 by unfold dPos; grind]; exact hu_s.symm
      · rw [show dPos D v 7 1 = D 7 1 by unfold dPos; grind, hu_j 133 (by omega), hu_j 133 (by omega)]; unfold hmn; rw [hu_o (by decide), hu_o (by decide)]; exact m5.1.2.1
      · rw [show dPos D v 7 2 = D 7 2 by unfold dPos; grind, hu_j 133 (by omega), hu_j 133 (by omega)]; unfold hmn; rw [hu_o (by decide), hu_o (by decide)]; exact m5.1.2.2.1
      · rw [show dPos D v 7 3 = D 7 3 by unfold dPos; grind, hu_j 133 (by omega), hu_j 133 (by omega)]; unfold hmn; rw [hu_o (by decide), hu_o (by decide)]; exact m5.1.2.2.2
      · rw [show dPos D v 7 0 = D 7 0 + 1 by unfold dPos; grind] at i1
        rw [show dPos D v 0 i = if i = D 7 0 then v else D 0 i by unfold dPos; grind, hu_j 133 (by omega)]
        by_cases qi : i = D 7 0
        · rw [if_pos qi, show 112 * 0 + 1 + i = 1 + D 7 0 by omega, hu_s]
        · rw [if_neg qi, hu_j 133 (by omega)]; unfold hmn; rw [hu_o (by decide), hu_o (by decide)]; exact m5.2.1 i i0 (by omega)
      · rw [show dPos D v 7 1 = D 7 1 by unfold dPos; grind] at d1; omega
    · have hp1 : p = 1 := by rw [← hpp]; exact if_neg (fun z => q (hq.mp z))
      subst hp1
      refine Or.inl ⟨_, a6 q, mfr_hmn.trans mfr_hmf, ?_, ?_, ?_, ?_, crP 1⟩
      · rw [hps3, if_pos ⟨by decide, a1⟩]; unfold hmf; rw [hu_j 132 (by decide), hu_s]
      · rw [hps3, if_pos ⟨by decide, a1⟩]; decide
      · rw [hps4, if_pos ⟨by decide, a1⟩, g2]; unfold hmf; rw [hu_s]
      · rw [hps4, if_pos ⟨by decide, a1⟩]; have := g3.1; have := g3.2; omega
end RDP

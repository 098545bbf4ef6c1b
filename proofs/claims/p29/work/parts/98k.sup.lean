section LAWX
variable {D : Dr} {h : Hp}
theorem eE_x1 {W : Int → Prop} : eE D W (-1) = eE D W (-999) := by
  funext u v x
  apply propext
  constructor
  · rintro ⟨d, d1, d2, d3⟩
    refine ⟨d, d1, d2, ?_⟩
    rw [if_neg (show ¬ d = -1 by omega), if_neg (show ¬ d = -1 by omega)] at d3
    rw [if_neg (show ¬ d = -999 by omega), if_neg (show ¬ d = -999 by omega)]
    exact d3
  · rintro ⟨d, d1, d2, d3⟩
    refine ⟨d, d1, d2, ?_⟩
    rw [if_neg (show ¬ d = -999 by omega), if_neg (show ¬ d = -999 by omega)] at d3
    rw [if_neg (show ¬ d = -1 by omega), if_neg (show ¬ d = -1 by omega)]
    exact d3
theorem eE_m1 {X : Int} : eE D (fun e => e = -1) X = eE D (fun _ => False) X := eE_congr (fun d a b => ⟨fun z => by omega, fun z => z.elim⟩)
theorem E0_m : eE D (fun e => e = -1) (-1) = E0 D := by rw [eE_m1, eE_x1]; rfl
theorem EX_m {d : Int} : eE D (fun e => e = -1) d = EX D d := eE_m1
theorem ES_d {d : Int} : eE D (fun e => e = d) (-1) = eE D (fun e => False ∨ e = d) (-999) := by
  rw [eE_x1]
  exact eE_congr (fun e _ _ => ⟨Or.inr, fun z => z.elim (fun y => y.elim) id⟩)
theorem sp_rng (w : WF D) {W : Int → Prop} {X a v : Int} {R : Int → Int} (s : SP (eE D W X) a R) (ha : 0 ≤ a ∧ a < D 7 0) (hv : 0 ≤ v ∧ v < D 7 0) : R v = 1000000 ∨ (-300 ≤ R v ∧ R v ≤ 100000) := by
  have w0 := w.1
  rcases s.2.1 v hv.1 (by omega) with z | ⟨z1, y, z2, z3⟩
  · exact Or.inl z
  · have b := Wk_b w z3
    have p1 := w.2.2.2.2.1 a ha.1 ha.2
    have p2 := w.2.2.2.2.1 v hv.1 hv.2
    exact Or.inr ⟨by omega, z1⟩
theorem lw_isSuperfluous_wp (g : QS D h) {q : Nat} (hq : 132 ≤ q) {d : Int} (hd : 0 ≤ d ∧ d < D 7 1) : wp (lw_isSuperfluous 0 d q h) (fun r h1 => r = tb (sup0 D d) ∧ QM D q h h1) := by
  have w := g.wf
  have w0 := w.1
  have dw := w.dim hd.1 hd.2
  have vb := vD_b w hd
  have d34 := w.2.2.2.2.2.2 d hd.1 hd.2
  unfold lw_isSuperfluous
  rw [lt_eq]
  have g2 : QS D (hz h q) := g.hz hq
  have f2 : ∀ c, 132 ≤ c → c ≠ q → hz h q c = h c := fun c a b => hz_o b
  refine wp_mono (Q := fun r h3 => r = tb (sup0 D d) ∧ QM D q (hz h q) h3) ?_ (fun r h3 z => ⟨z.1, z.2.1, fun c a b => by rw [z.2.2 c a b, f2 c a b]⟩)
  generalize hz h q = h0 at *
  obtain ⟨h1, e1, l1⟩ := q_d0 g2 hd
  obtain ⟨h2, e2, l2⟩ := q_d1 l1.1 hd
  have l02 := l1.trans l2
  unfold lw_isSuperfluous_b5
  rw [bd_eq e1, bd_eq e2]
  refine wp_bd (lw_reach_wp l2.1 hq (s := D 1 d) (p2 := d) (X := -1) (by omega)) (fun _ h3 hq3 => ?_)
  obtain ⟨s3, m3⟩ := hq3
  rw [ix_in (by omega) (by omega)]
  refine wp_bd (lw_reach_wp m3.1 hq (s := D 2 d) (p2 := d) (X := -1) (by omega)) (fun _ h4 hq4 => ?_)
  obtain ⟨s4, m4⟩ := hq4
  have r3 := sp_rng w s3 (v := D 2 d) (by omega) (by omega)
  have r4 := sp_rng w s4 (v := D 1 d) (by omega) (by omega)
  have x3 := s3.dst (v := D 2 d) (by omega) (by omega)
  have x4 := s4.dst (v := D 1 d) (by omega) (by omega)
  rw [ES_d] at x3 x4
  have es : sup0 D d ↔ h3 q (D 2 d) ≤ vD D d + D 4 d ∧ h4 q (D 1 d) ≤ D 3 d - vD D d := by
    rw [x3, x4]
    exact Iff.rfl
  have mm : QM D q h0 h4 := ⟨m4.1, fun c a b => by rw [m4.2 c a b, m3.2 c a b, l02.2 c a]⟩
  have fin : ∀ h5 v, QL D h4 h5 → v = tb (sup0 D d) → wp (some (v, h5)) (fun r h3 => r = tb (sup0 D d) ∧ QM D q h0 h3) := fun h5 v l5 ev => wp_ret ⟨ev, l5.1, fun c a b => by rw [l5.2 c a, mm.2 c a b]⟩
  unfold lw_isSuperfluous_b92
  simp only [lw_isSuperfluous_b93]
  rw [bz_in (Or.inl rfl)]
  by_cases c : h3 q (D 2 d) < 1000000
  · rw [if_pos c]
    obtain ⟨h5, e5, l5⟩ := q_d2 m4.1 hd
    obtain ⟨h6, e6, l6⟩ := q_d4 l5.1 hd
    have l46 := l5.trans l6
    rw [bd_eq e5, bd_eq e6, ck_in ⟨by omega, by omega⟩]
    by_cases c2 : vD D d + D 4 d < h3 q (D 2 d)
    · rw [if_pos c2]
      exact fin h6 0 l46 (by rw [tb_f (fun z => by have := es.mp z; omega)])
    · rw [if_neg c2, ix_in (by omega) (by omega), l46.2 q hq, ck_in ⟨by omega, by omega⟩]
      obtain ⟨h7, e7, l7⟩ := q_d2 l6.1 hd
      obtain ⟨h8, e8, l8⟩ := q_d3 l7.1 hd
      have l48 := (l46.trans l7).trans l8
      rw [bd_eq e7, bd_eq e8, ck_in ⟨by omega, by omega⟩]
      by_cases c3 : -h4 q (D 1 d) < vD D d - D 3 d
      · rw [if_pos c3, bz_in (Or.inl rfl)]
        exact fin h8 0 l48 (by rw [tb_f (fun z => by have := es.mp z; omega)])
      · rw [if_neg c3, bz_in (Or.inr rfl)]
        exact fin h8 1 l48 (by rw [tb_t (es.mpr ⟨by omega, by omega⟩)])
  · rw [if_neg c]
    exact fin h4 0 (QL.rfl m4.1) (by rw [tb_f (fun z => by have := es.mp z; omega)])
/-- the law counts the superfluous ones -/
theorem lw_tol1_wp {Q : Int → Hp → Prop} (g : QS D h) {x1 x2 : Int} {a : Nat} (ha : 132 ≤ a) (hk : ∀ h2, QS D h2 → wp (lw_tolerances_b91 0 x1 x2 a (a + 1) (a + 2) (cSup D (D 7 1).toNat) h2) Q) : wp (iter2 (lw_tol1 0 x1 x2 a) fuel 0 0 h) Q := by
  have w := g.wf
  have w1 := w.2.1
  refine wp_it2 (fun x6 x7 h' => ∃ k : Nat, x7 = k ∧ (k : Int) ≤ D 7 1 ∧ x6 = cSup D k ∧ QS D h') (fun _ x7 _ => (D 7 1 - x7).toNat) (fun x6 x7 h' hI k29 hk29 => ?_) fuel _ _ _ ⟨0, rfl, by omega, rfl, g⟩ (by unfold fuel; omega)
  obtain ⟨k, rfl, hkm, rfl, gx⟩ := hI
  have cb := cSup_b (D := D) k
  unfold lw_tol1
  obtain ⟨h1, e1, l1⟩ := q_m gx
  rw [ix_in (by omega) (by omega), bd_eq e1]
  by_cases c : (k : Int) < D 7 1
  · rw [if_pos c]
    refine wp_bd (lw_isSuperfluous_wp l1.1 (q := a + 3 + (k : Int).toNat) (by omega) (d := (k : Int)) (by omega)) (fun r h2 hq2 => ?_)
    obtain ⟨er, m2⟩ := hq2
    obtain ⟨h3, e3, l3⟩ := q_d11 m2.1 (d := (k : Int)) (by omega)
    have es : cSup D (k + 1) = cSup D k + tb (sup0 D k) := rfl
    unfold lw_tol2_b45 lw_tol2_b59
    simp only [lw_tol2_b80]
    by_cases c2 : sup0 D (k : Int)
    · rw [er, tb_t c2, if_neg (by decide), ck_in ⟨by omega, by omega⟩, bd_eq e3, if_neg (by decide), tb_t c2, if_pos rfl, ck_in ⟨by omega, by omega⟩, if_pos True.intro]
      rw [tb_t c2] at es
      exact hk29 _ _ _ ⟨k + 1, rfl, by omega, es.symm, l3.1⟩ (by omega)
    · rw [er, tb_f c2, if_pos rfl, ck_in ⟨by omega, by omega⟩, bd_eq e3, if_pos rfl, tb_f c2, if_pos rfl, ck_in ⟨by omega, by omega⟩, if_pos True.intro]
      rw [tb_f c2] at es
      exact hk29 _ _ _ ⟨k + 1, rfl, by omega, es.symm, l3.1⟩ (by omega)
  · rw [if_neg c]
    have ek : k = (D 7 1).toNat := by omega
    subst ek
    exact hk h1 l1.1
end LAWX

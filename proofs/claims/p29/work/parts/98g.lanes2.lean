section LAWN
variable {D : Dr} {h : Hp}
theorem q_2 (g : QS D h) : ∃ h1, dl_count 0 2 h = some (uc D (D 7 1).toNat, h1) ∧ QL D h h1 := q_count g (by decide)
theorem q_3 (g : QS D h) : ∃ h1, dl_count 0 3 h = some (mlN D (D 7 3) (D 7 1).toNat, h1) ∧ QL D h h1 := q_count g (by decide)
theorem q_4 (g : QS D h) : ∃ h1, dl_count 0 4 h = some (cAn D (D 7 3) (D 7 0).toNat, h1) ∧ QL D h h1 := q_count g (by decide)
theorem q_5 (g : QS D h) : ∃ h1, dl_count 0 5 h = some (cntF D (D 7 0).toNat, h1) ∧ QL D h h1 := q_count g (by decide)
theorem q_6 (g : QS D h) : ∃ h1, dl_count 0 6 h = some (cSup D (D 7 1).toNat, h1) ∧ QL D h h1 := q_count g (by decide)
/-- what a method leaves that makes the cell q -/
def QM (D : Dr) (q : Nat) (h h1 : Hp) : Prop := QS D h1 ∧ ∀ c, 132 ≤ c → c ≠ q → h1 c = h c
theorem lan_check {h0 : Hp} {q i : Nat} {x3 x4 x5 : Int} (hq : 132 ≤ q) (L : LI D h0 q i x3 h) (hi : (i : Int) = uc D (D 7 1).toNat) (e4 : x4 = uc D (D 7 1).toNat) (e5 : x5 = lcn D (D 7 3) i) : wp (iter1 (lw_lanes_f372 0 (D 7 1) q x4 x5) fuel 0 h) (fun r h1 => r = 1 ∧ QM D q h0 h1) := by
  have g := L.2.2.2.1
  have w := g.wf
  have w1 := w.2.1
  refine wp_it1 (fun x6 h' => (0 ≤ x6 ∧ x6 ≤ D 7 1) ∧ QL D h h') (fun x6 _ => (D 7 1 - x6).toNat) (fun x6 h' hI k hk => ?_) fuel _ _ ⟨by omega, QL.rfl g⟩ (by unfold fuel; omega)
  obtain ⟨hx, lx⟩ := hI
  unfold lw_lanes_f372 lw_lanes_b429
  simp only [lw_lanes_b430]
  by_cases c : x6 < D 7 1
  · rw [if_pos c]
    obtain ⟨h1, e1, l1⟩ := q_d10 lx.1 (d := x6) (by omega)
    obtain ⟨h2, e2, l2⟩ := lw_unit_eq l1.1 (d := x6) (by omega)
    have l02 := (lx.trans l1).trans l2
    have lb := (ld_is (D := D) (d := x6) hx.1).1
    have ap : aP D (D 7 3) i (ld D x6) = 1 := by
      have := aP_end (a := D 7 3) w lb.1 (by omega) (ld_ld (D := D) hx.1)
      rw [show i = (uc D (D 7 1).toNat).toNat by omega]
      exact this
    have eh := (L.q hq l02).2.2.1 (ld D x6) lb.1 (by omega) ap
    have el : lnD D (D 7 3) x6 = aL D (D 7 3) i (ld D x6) := by
      rw [show i = (uc D (D 7 1).toNat).toNat by omega]
      rfl
    rw [bd_eq e1, bd_eq e2, ix_in lb.1 (by omega), eh, if_pos el, ck_in ⟨by omega, by omega⟩]
    exact hk _ _ ⟨by omega, l02⟩ (by omega)
  · rw [if_neg c]
    obtain ⟨h1, e1, l1⟩ := q_2 lx.1
    obtain ⟨h2, e2, l2⟩ := q_3 l1.1
    have em : mlN D (D 7 3) (D 7 1).toNat = x5 := by
      rw [e5, ← lcn_end w, show i = (uc D (D 7 1).toNat).toNat by omega]
    rw [bd_eq e1, if_pos e4.symm, bd_eq e2, if_pos em, bz_in (Or.inr rfl)]
    have Lz := L.q hq ((lx.trans l1).trans l2)
    exact wp_ret ⟨rfl, Lz.2.2.2.1, Lz.2.2.2.2⟩
theorem lan_main (g : QS D h) {q : Nat} (hq : 132 ≤ q) {x4 : Int} (e4 : x4 = uc D (D 7 1).toNat) : wp (iter3 (lw_lanes_f58 0 (D 7 1) q x4) fuel 0 0 0 h) (fun r h1 => r = 1 ∧ QM D q h h1) := by
  have w := g.wf
  have w1 := w.2.1
  have ucb := uc_b (D := D) (D 7 1).toNat
  refine wp_it3 (fun x3 x5 x6 h' => ∃ i : Nat, x6 = i ∧ (i : Int) ≤ uc D (D 7 1).toNat ∧ x5 = lcn D (D 7 3) i ∧ LI D h q i x3 h') (fun _ _ x6 _ => (uc D (D 7 1).toNat - x6).toNat) (fun x3 x5 x6 h' hI k hk => ?_) fuel _ _ _ _ ⟨0, rfl, by omega, rfl, by omega, fun v a b => ?_, fun v a b z => absurd z (by decide : ¬ (0 : Int) = 1), g, fun c a b => rfl⟩ (by unfold fuel; omega)
  · obtain ⟨i, rfl, hi, rfl, L⟩ := hI
    unfold lw_lanes_f58
    by_cases c : (i : Int) < x4
    · have hi' : (i : Int) < uc D (D 7 1).toNat := by omega
      rw [if_pos c]
      refine lan_sel L hi' (fun h1 l1 => ?_)
      have L1 := L.q hq l1
      have t := aU_is (a := D 7 3) w (aS_is w i (by omega)).1 hi'
      obtain ⟨h2, e2, l2⟩ := lw_span2 l1.1 t.1 t.2.1
      rw [bd_eq e2]
      have L2 := L1.q hq l2
      refine lan_cov hq L2 hi' (fun h3 l3 => ?_)
      have L3 := L2.q hq l3
      refine lan_lay hq L3 hi' (by omega) (fun y3 h4 L4 => ?_)
      exact hk _ _ _ _ ⟨i + 1, rfl, by omega, rfl, L4⟩ (by omega)
    · rw [if_neg c]
      exact lan_check hq L (by omega) e4 rfl
  · unfold pbit
    rw [Int.zero_ediv]
    exact ⟨fun z => absurd z (by decide), fun z => absurd z (by decide : ¬ (0 : Int) = 1)⟩
theorem lw_lanes_wp (g : QS D h) {q : Nat} (hq : 132 ≤ q) : wp (lw_lanes 0 q h) (fun r h1 => r = 1 ∧ QM D q h h1) := by
  have w := g.wf
  have w1 := w.2.1
  obtain ⟨h1, e1, l1⟩ := q_m g
  unfold lw_lanes
  rw [bd_eq e1, lt_eq]
  have g2 : QS D (hz h1 q) := l1.1.hz hq
  have f2 : ∀ c, 132 ≤ c → c ≠ q → hz h1 q c = h c := fun c a b => by rw [hz_o b, l1.2 c a]
  unfold lw_lanes_b11
  refine wp_mono (Q := fun r h3 => r = 1 ∧ QM D q (hz h1 q) h3) ?_ (fun r h3 z => ⟨z.1, z.2.1, fun c a b => by rw [z.2.2 c a b, f2 c a b]⟩)
  generalize hz h1 q = h2 at *
  refine wp_it2 (fun x4 x5 h' => ∃ k : Nat, x5 = k ∧ (k : Int) ≤ D 7 1 ∧ x4 = uc D k ∧ QL D h2 h') (fun _ x5 _ => (D 7 1 - x5).toNat) (fun x4 x5 h' hI k2 hk => ?_) fuel _ _ _ ⟨0, rfl, by omega, rfl, QL.rfl g2⟩ (by unfold fuel; omega)
  obtain ⟨k, rfl, hkm, rfl, lx⟩ := hI
  have ub := uc_b (D := D) k
  unfold lw_lanes_f19
  by_cases c : (k : Int) < D 7 1
  · rw [if_pos c]
    obtain ⟨h3, e3, l3⟩ := lw_unit_eq lx.1 (d := (k : Int)) (by omega)
    rw [bd_eq e3]
    have eu : uc D (k + 1) = uc D k + yn (ld D k = k) := rfl
    have lz := lx.trans l3
    unfold lw_lanes_b43
    by_cases c2 : ld D (k : Int) = k
    · rw [if_pos c2, ck_in ⟨by omega, by omega⟩, ck_in ⟨by omega, by omega⟩]
      rw [yn_t c2] at eu
      exact hk _ _ _ ⟨k + 1, rfl, by omega, eu.symm, lz⟩ (by omega)
    · rw [if_neg c2, ck_in ⟨by omega, by omega⟩, ck_in ⟨by omega, by omega⟩]
      rw [yn_f c2] at eu
      exact hk _ _ _ ⟨k + 1, rfl, by omega, eu.symm, lz⟩ (by omega)
  · rw [if_neg c]
    refine wp_mono (lan_main lx.1 hq (by rw [show k = (D 7 1).toNat by omega])) (fun r h3 z => ⟨z.1, z.2.1, fun c a b => by rw [z.2.2 c a b, lx.2 c a]⟩)
end LAWN

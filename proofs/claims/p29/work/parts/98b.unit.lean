section LAWU
variable {D : Dr} {h : Hp}
theorem lw_unit_eq (g : QS D h) {d : Int} (hd : 0 ≤ d ∧ d < D 7 1) : ∃ h1, lw_unit 0 d h = some (ld D d, h1) ∧ QL D h h1 := by
  have w1 := g.wf.2.1
  obtain ⟨i1, i2, i3⟩ := ld_is (D := D) hd.1
  obtain ⟨h1, e1, l1⟩ := q_d5 g hd
  unfold lw_unit
  rw [bd_eq e1]
  refine exq (wp_it1 (fun x h' => (0 ≤ x ∧ x ≤ ld D d) ∧ QL D h h') (fun x _ => (ld D d - x).toNat) (fun x h' hI k hk => ?_) fuel _ _ ⟨by omega, l1⟩ (by unfold fuel; omega))
  obtain ⟨hx, lx⟩ := hI
  unfold lw_unit_f9 lw_unit_b31
  simp only [lw_unit_b37]
  by_cases c : 0 < D 5 d
  · rw [if_pos c]
    obtain ⟨h2, e2, l2⟩ := q_d5 lx.1 (d := x) (by omega)
    rw [bd_eq e2]
    by_cases c2 : D 5 x = D 5 d
    · rw [if_pos c2]
      refine wp_ret ⟨Classical.byContradiction fun z => i3 x hx.1 (by omega) ⟨c, c2⟩, lx.trans l2⟩
    · rw [if_neg c2, ck_in ⟨by omega, by omega⟩]
      have nx : x ≠ ld D d := fun z => c2 (by
        rcases i2 with y | y
        · rw [z, y]
        · rw [z]
          exact y.2)
      exact hk _ _ ⟨by omega, lx.trans l2⟩ (by omega)
  · rw [if_neg c]
    have e : ld D d = d := i2.resolve_right (fun z => c z.1)
    by_cases c2 : x = d
    · rw [if_pos c2]
      exact wp_ret ⟨by omega, lx⟩
    · rw [if_neg c2, ck_in ⟨by omega, by omega⟩]
      exact hk _ _ ⟨by omega, lx⟩ (by omega)
/-- a unit's least or greatest, as the law counts it -/
def spf (D : Dr) (op : Int → Int → Int) (v : Int → Int) (u base : Int) : Nat → Int
  | 0 => base
  | k + 1 => if ld D k = u then op (spf D op v u base k) (v k) else spf D op v u base k
theorem spf_uf {op : Int → Int → Int} {v : Int → Int} {u base : Int} (h0 : 0 ≤ u) (hu : ld D u = u) (hb : op base (v u) = v u) : ∀ k : Nat, spf D op v u base k = if (k : Int) ≤ u then base else uf D op v u k
  | 0 => (if_pos h0).symm
  | k + 1 => by
    have i := spf_uf h0 hu hb k
    have lk := (ld_is (D := D) (d := (k : Int)) (by omega)).1
    have e1 : spf D op v u base (k + 1) = if ld D k = u then op (spf D op v u base k) (v k) else spf D op v u base k := rfl
    have e2 : uf D op v u (k + 1) = if ld D k = u ∧ (k : Int) ≠ u then op (uf D op v u k) (v k) else uf D op v u k := rfl
    rw [e1, i]
    by_cases c : ld D k = u
    · rw [if_pos c]
      by_cases c2 : (k : Int) = u
      · rw [if_pos (show (k : Int) ≤ u by omega), if_neg (show ¬ ((k + 1 : Nat) : Int) ≤ u by omega), uf_low (k + 1) (by omega), c2]
        exact hb
      · rw [if_neg (show ¬ (k : Int) ≤ u by omega), if_neg (show ¬ ((k + 1 : Nat) : Int) ≤ u by omega), e2, if_pos ⟨c, c2⟩]
    · rw [if_neg c]
      have c2 : (k : Int) ≠ u := fun z => c (by rw [z]; exact hu)
      by_cases c3 : (k : Int) ≤ u
      · rw [if_pos c3, if_pos (show ((k + 1 : Nat) : Int) ≤ u by omega)]
      · rw [if_neg c3, if_neg (show ¬ ((k + 1 : Nat) : Int) ≤ u by omega), e2, if_neg (fun z => c z.1)]
/-- what lw_span answers -/
def spA (D : Dr) (u e : Int) : Int := if e = 0 then uS D u else if e = 1 then uT D u else uL D u
def spV (D : Dr) (e : Int) : Int → Int := if e = 0 then v0 D else if e = 1 then v1 D else D 6
def spO (e : Int) : Int → Int → Int := if e = 0 then min else max
def spB (e : Int) : Int := if e = 0 then 1000 else 0
theorem spV_b (w : WF D) {e d : Int} (hd : 0 ≤ d ∧ d < D 7 1) : 0 ≤ spV D e d ∧ spV D e d ≤ 300 := by
  have dw := w.dim hd.1 hd.2
  have d6 := (w.2.2.2.2.2.2 d hd.1 hd.2).2.2.2.2
  unfold spV
  split
  · unfold v0; omega
  · split
    · unfold v1; omega
    · omega
theorem sp_all (w : WF D) {u e : Int} (hu : 0 ≤ u ∧ u < D 7 1) (hl : ld D u = u) : spf D (spO e) (spV D e) u (spB e) (D 7 1).toNat = spA D u e := by
  have vb := spV_b w (e := e) hu
  rw [spf_uf hu.1 hl (by
    unfold spO spB
    split <;> omega) _, if_neg (by omega)]
  unfold spA spO spV
  split
  · rfl
  · split
    · rfl
    · rfl
theorem spf_b (w : WF D) {u e : Int} : ∀ k : Nat, (k : Int) ≤ D 7 1 → 0 ≤ spf D (spO e) (spV D e) u (spB e) k ∧ spf D (spO e) (spV D e) u (spB e) k ≤ 1000
  | 0, _ => by
    unfold spf spB
    split <;> omega
  | k + 1, hk => by
    have i := spf_b w (u := u) (e := e) k (by omega)
    have vb := spV_b w (e := e) (d := (k : Int)) (by omega)
    have ob : ∀ a b : Int, (0 ≤ a ∧ a ≤ 1000) → (0 ≤ b ∧ b ≤ 300) → 0 ≤ spO e a b ∧ spO e a b ≤ 1000 := fun a b ha hb => by
      unfold spO
      split <;> omega
    unfold spf
    split
    · exact ob _ _ i vb
    · exact i
theorem lw_span_eq (g : QS D h) {u e : Int} (hu : 0 ≤ u ∧ u < D 7 1) (hl : ld D u = u) (he : 0 ≤ e ∧ e ≤ 2) : ∃ h1, lw_span 0 u e h = some (spA D u e, h1) ∧ QL D h h1 := by
  have w := g.wf
  have w1 := w.2.1
  have e0 : lw_span 0 u e h = iter2 (lw_span_f15 0 u e) fuel (spB e) 0 h := by
    unfold lw_span spB
    simp only [lw_span_b11]
    split <;> rfl
  rw [e0]
  refine exq (wp_it2 (fun x y h' => ∃ k : Nat, y = k ∧ (k : Int) ≤ D 7 1 ∧ x = spf D (spO e) (spV D e) u (spB e) k ∧ QL D h h') (fun _ y _ => (D 7 1 - y).toNat) (fun x y h' hI k2 hk => ?_) fuel _ _ _ ⟨0, rfl, by omega, rfl, QL.rfl g⟩ (by unfold fuel; omega))
  obtain ⟨k, rfl, hkm, rfl, lx⟩ := hI
  unfold lw_span_f15
  obtain ⟨h1, e1, l1⟩ := q_m lx.1
  rw [bd_eq e1]
  by_cases c : (k : Int) < D 7 1
  · rw [if_pos c]
    obtain ⟨h2, e2, l2⟩ := lw_unit_eq l1.1 (d := (k : Int)) (by omega)
    rw [bd_eq e2]
    have l02 := (lx.trans l1).trans l2
    have es : spf D (spO e) (spV D e) u (spB e) (k + 1) = if ld D k = u then spO e (spf D (spO e) (spV D e) u (spB e) k) (spV D e k) else spf D (spO e) (spV D e) u (spB e) k := rfl
    have sb := spf_b w (u := u) (e := e) k hkm
    by_cases c2 : ld D (k : Int) = u
    · rw [if_pos c2]
      rw [if_pos c2] at es
      have fin : ∀ (h3 : Hp), QL D h h3 → wp (lw_span_b58 0 u e k2 (spf D (spO e) (spV D e) u (spB e) k) k (spV D e k) h3) (fun r h1 => r = spA D u e ∧ QL D h h1) := fun h3 l3 => by
        have go : wp (k2 (spf D (spO e) (spV D e) u (spB e) (k + 1)) ((k : Int) + 1) h3) (fun r h1 => r = spA D u e ∧ QL D h h1) := hk _ _ _ ⟨k + 1, rfl, by omega, rfl, l3⟩ (by omega)
        rw [es] at go
        unfold lw_span_b58
        simp only [lw_span_b91, lw_span_b92]
        by_cases c3 : e = 0
        · have eo : spO e = min := by unfold spO; rw [if_pos c3]
          rw [if_pos c3, ck_in (z := (k : Int) + 1) ⟨by omega, by omega⟩, ck_in (z := (k : Int) + 1) ⟨by omega, by omega⟩]
          rw [eo] at go ⊢
          by_cases c4 : spV D e k < spf D min (spV D e) u (spB e) k
          · rw [if_pos c4]
            rw [Int.min_eq_right (Int.le_of_lt c4)] at go
            exact go
          · rw [if_neg c4]
            rw [Int.min_eq_left (by omega)] at go
            exact go
        · have eo : spO e = max := by unfold spO; rw [if_neg c3]
          rw [if_neg c3, ck_in (z := (k : Int) + 1) ⟨by omega, by omega⟩, ck_in (z := (k : Int) + 1) ⟨by omega, by omega⟩]
          rw [eo] at go ⊢
          by_cases c4 : spf D max (spV D e) u (spB e) k < spV D e k
          · rw [if_pos c4]
            rw [Int.max_eq_right (Int.le_of_lt c4)] at go
            exact go
          · rw [if_neg c4]
            rw [Int.max_eq_left (by omega)] at go
            exact go
      by_cases c3 : e = 2
      · rw [if_pos c3]
        obtain ⟨h3, e3, l3⟩ := q_d6 l2.1 (d := (k : Int)) (by omega)
        rw [bd_eq e3]
        have ev : D 6 (k : Int) = spV D e k := by
          unfold spV
          rw [if_neg (by omega), if_neg (by omega)]
        rw [ev]
        exact fin h3 (l02.trans l3)
      · rw [if_neg c3]
        by_cases c4 : e = 0
        · obtain ⟨h3, e3, l3⟩ := lp_0 l2.1 (d := (k : Int)) (by omega)
          rw [← c4] at e3
          rw [bd_eq e3]
          have ev : v0 D (k : Int) = spV D e k := by
            unfold spV
            rw [if_pos c4]
          rw [ev]
          exact fin h3 (l02.trans l3)
        · have c5 : e = 1 := by omega
          obtain ⟨h3, e3, l3⟩ := lp_1 l2.1 (d := (k : Int)) (by omega)
          rw [← c5] at e3
          rw [bd_eq e3]
          have ev : v1 D (k : Int) = spV D e k := by
            unfold spV
            rw [if_neg c4, if_pos c5]
          rw [ev]
          exact fin h3 (l02.trans l3)
    · rw [if_neg c2]
      rw [if_neg c2] at es
      unfold lw_span_b92
      rw [ck_in ⟨by omega, by omega⟩]
      refine hk _ _ _ ⟨k + 1, rfl, by omega, es.symm, l02⟩ (by omega)
  · rw [if_neg c]
    refine wp_ret ⟨?_, lx.trans l1⟩
    rw [show k = (D 7 1).toNat by omega]
    exact sp_all w hu hl
theorem lw_span0 (g : QS D h) {u : Int} (hu : 0 ≤ u ∧ u < D 7 1) (hl : ld D u = u) : ∃ h1, lw_span 0 u 0 h = some (uS D u, h1) ∧ QL D h h1 := lw_span_eq g hu hl (by decide)
theorem lw_span1 (g : QS D h) {u : Int} (hu : 0 ≤ u ∧ u < D 7 1) (hl : ld D u = u) : ∃ h1, lw_span 0 u 1 h = some (uT D u, h1) ∧ QL D h h1 := lw_span_eq g hu hl (by decide)
theorem lw_span2 (g : QS D h) {u : Int} (hu : 0 ≤ u ∧ u < D 7 1) (hl : ld D u = u) : ∃ h1, lw_span 0 u 2 h = some (uL D u, h1) ∧ QL D h h1 := lw_span_eq g hu hl (by decide)
end LAWU

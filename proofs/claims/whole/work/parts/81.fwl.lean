section FWL
variable {D : Dr} {X p1 : Int} {h : Hp}
/-- dimensions whose bit is set -/
def bt (p1 d : Int) : Prop := ¬ p1 / pw2 d % 2 = 0
def gm (h : Hp) : Int → Int → Int := fun i j => h 141 (12 * i + j)
theorem mo_bounds_eq {a b m : Int} (ha : 0 ≤ a ∧ a < 12) (hb : 0 ≤ b ∧ b < 12) : mo_bounds 132 a b m h = some ((), hu h 141 (12 * a + b) (min m (gm h a b))) := by
  unfold gm
  simp only [mo_bounds, mo_bounds_b40, Nat.reduceAdd]
  rw [ck_in ⟨by omega, by omega⟩, ck_in ⟨by omega, by omega⟩, ck_in ⟨by omega, by omega⟩, ck_in ⟨by omega, by omega⟩, ix_in (by omega) (by omega)]
  by_cases q : m < h 141 (12 * a + b)
  · rw [if_pos q, ix_in (by omega) (by omega), lt_eq, Int.min_eq_left (by omega)]
  · rw [if_neg q, ck_in ⟨by omega, by omega⟩, ck_in ⟨by omega, by omega⟩, ix_in (by omega) (by omega), ix_in (by omega) (by omega), lt_eq, Int.min_eq_right (by omega)]
theorem gm_hu {a b x : Int} (ha : 0 ≤ a ∧ a < 12) (hb : 0 ≤ b ∧ b < 12) {i j : Int} (hi : 0 ≤ i ∧ i < 12) (hj : 0 ≤ j ∧ j < 12) : gm (hu h 141 (12 * a + b) x) i j = if i = a ∧ j = b then x else gm h i j := by
  unfold gm hu
  by_cases q : i = a ∧ j = b
  · rw [if_pos q, if_pos ⟨rfl, by omega⟩]
  · rw [if_neg q, if_neg (by omega)]
theorem AtM.o {h' : Hp} (ha : AtM D h 0) (e : ∀ c, c ≠ 141 → h' c = h c) : AtM D h' 0 := ha.any (e 133 (by decide))
/-- behind the first x dimensions -/
def DI (D : Dr) (E : ES) (W : Int → Prop) (X x : Int) (h : Hp) : Prop := FWT D E 1 (gm h) ∧ ∀ d, 0 ≤ d → d < x → ¬ W d → gm h (D 1 d) (D 2 d) ≤ vD D d + (if d = X then 0 else D 4 d) ∧ gm h (D 2 d) (D 1 d) ≤ (if d = X then 0 else D 3 d) - vD D d
theorem di_upd (g : WF D) {E : ES} {W : Int → Prop} (hE : E = eE D W X) {x u v w : Int} (hI : DI D E W X x h) (hx : x ≤ D 7 1) (e : E u v w) : DI D E W X x (hu h 141 (12 * u + v) (min w (gm h u v))) ∧ gm (hu h 141 (12 * u + v) (min w (gm h u v))) u v ≤ w ∧ ∀ i j, 0 ≤ i → i < 12 → 0 ≤ j → j < 12 → gm (hu h 141 (12 * u + v) (min w (gm h u v))) i j ≤ gm h i j := by
  subst hE
  have w0 := g.1
  have eb := eE_b g e
  have hu' : 0 ≤ u ∧ u < 12 := by omega
  have hv' : 0 ≤ v ∧ v < 12 := by omega
  have gg := fun {i j : Int} => gm_hu (h := h) (x := min w (gm h u v)) hu' hv' (i := i) (j := j)
  have low : ∀ i j, 0 ≤ i → i < 12 → 0 ≤ j → j < 12 → gm (hu h 141 (12 * u + v) (min w (gm h u v))) i j ≤ gm h i j := fun i j i0 i1 j0 j1 => by
    rw [gg ⟨i0, i1⟩ ⟨j0, j1⟩]
    by_cases q : i = u ∧ j = v
    · rw [if_pos q, q.1, q.2]
      omega
    · rw [if_neg q]
      exact Int.le_refl _
  refine ⟨⟨⟨fun i i0 i1 => ?_, fun i j i0 i1 j0 j1 => ?_⟩, fun d d0 d1 d2 => ?_⟩, ?_, low⟩
  · rw [gg ⟨i0, i1⟩ ⟨i0, i1⟩, if_neg (by omega)]
    exact hI.1.1 i i0 i1
  · rw [gg ⟨i0, i1⟩ ⟨j0, j1⟩]
    by_cases q : i = u ∧ j = v
    · rw [if_pos q, q.1, q.2]
      by_cases c : w ≤ gm h u v
      · rw [Int.min_eq_left c]
        exact Or.inr ⟨by omega, Wk.one e⟩
      · rw [Int.min_eq_right (by omega)]
        exact hI.1.2 u v hu'.1 hu'.2 hv'.1 hv'.2
    · rw [if_neg q]
      exact hI.1.2 i j i0 i1 j0 j1
  · have dd := (g.2.2.2.2.2.2 d d0 (by omega)).1
    have l1 := low (D 1 d) (D 2 d) (by omega) (by omega) (by omega) (by omega)
    have l2 := low (D 2 d) (D 1 d) (by omega) (by omega) (by omega) (by omega)
    have := hI.2 d d0 d1 d2
    omega
  · rw [gg hu' hv', if_pos ⟨rfl, rfl⟩]
    omega
/-- the cells of a table, the first x of them laid anew -/
def hst2 (h : Hp) (b x : Int) : Hp := fun c k => if c = 141 ∧ 0 ≤ k ∧ k < x then stG (gm h) b (k / 12) (k % 12) else h c k
theorem fw_in {b : Int} (hb : 0 ≤ b ∧ b < 12) (d0 : ∀ i, 0 ≤ i → i < 12 → gm h i i = 0) (bd0 : ∀ i j, 0 ≤ i → i < 12 → 0 ≤ j → j < 12 → -1000000 ≤ gm h i j ∧ gm h i j ≤ 1000000) (k141 : Int → Hp → O Unit) : iter2 (mo_laysDistances_f154 132 p1 X k141) fuel b 0 h = k141 (b + 1) (hst2 h b 144) := by
  have e0 : hst2 h b ((0 : Nat) : Int) = h := by
    funext c j
    unfold hst2
    rw [if_neg (by omega)]
  have key := it2_seq (F := mo_laysDistances_f154 132 p1 X k141) (fun _ => b) (fun k => (k : Int)) (fun k => hst2 h b k) 144 (R := k141 (b + 1) (hst2 h b ((144 : Nat) : Int))) (fun k x hx => ?_) (fun k => ?_) fuel 0 (Nat.zero_le _) (by unfold fuel; omega)
  · rw [e0] at key
    exact key
  · have hi : 0 ≤ (x : Int) / 12 ∧ (x : Int) / 12 < 12 := by omega
    have hj : 0 ≤ (x : Int) % 12 ∧ (x : Int) % 12 < 12 := by omega
    have dz := d0 b hb.1 hb.2
    have st1 : stG (gm h) b ((x : Int) / 12) b = gm h ((x : Int) / 12) b := by
      unfold stG
      rw [dz]
      split
      · rfl
      · rw [if_neg (by omega)]
        omega
    have st2 : stG (gm h) b b ((x : Int) % 12) = gm h b ((x : Int) % 12) := by
      unfold stG
      rw [dz, if_neg (by omega)]
      split
      · rfl
      · omega
    have r1 : hst2 h b x 141 ((x : Int) / 12 * 12 + b) = gm h ((x : Int) / 12) b := by
      unfold hst2
      by_cases q : (x : Int) / 12 * 12 + b < x
      · rw [if_pos ⟨rfl, by omega, q⟩, show ((x : Int) / 12 * 12 + b) / 12 = (x : Int) / 12 by omega, show ((x : Int) / 12 * 12 + b) % 12 = b by omega, st1]
      · rw [if_neg (by omega)]
        unfold gm
        rw [Int.mul_comm]
    have r2 : hst2 h b x 141 (12 * b + (x : Int) % 12) = gm h b ((x : Int) % 12) := by
      unfold hst2
      by_cases q : 12 * b + (x : Int) % 12 < x
      · rw [if_pos ⟨rfl, by omega, q⟩, show (12 * b + (x : Int) % 12) / 12 = b by omega, show (12 * b + (x : Int) % 12) % 12 = (x : Int) % 12 by omega, st2]
      · rw [if_neg (by omega)]
        rfl
    have ex : 12 * ((x : Int) / 12) + (x : Int) % 12 = x := by omega
    have r3 : gm (hst2 h b x) ((x : Int) / 12) ((x : Int) % 12) = gm h ((x : Int) / 12) ((x : Int) % 12) := by
      unfold gm hst2
      rw [ex, if_neg (by omega)]
    have b1 := bd0 ((x : Int) / 12) b hi.1 hi.2 hb.1 hb.2
    have b2 := bd0 b ((x : Int) % 12) hb.1 hb.2 hj.1 hj.2
    have nx : ∀ v, v = stG (gm h) b ((x : Int) / 12) ((x : Int) % 12) → hu (hst2 h b x) 141 x v = hst2 h b ((x + 1 : Nat) : Int) := fun v ev => by
      funext c j
      unfold hu
      by_cases q : c = 141 ∧ j = x
      · rw [if_pos q, ev, q.1, q.2]
        unfold hst2
        rw [if_pos ⟨rfl, by omega, by omega⟩]
      · rw [if_neg q]
        unfold hst2
        by_cases q2 : c = 141 ∧ 0 ≤ j ∧ j < x
        · rw [if_pos q2, if_pos (by omega)]
        · rw [if_neg q2, if_neg (by omega)]
    have nx0 : gm h ((x : Int) / 12) ((x : Int) % 12) = stG (gm h) b ((x : Int) / 12) ((x : Int) % 12) → hst2 h b x = hst2 h b ((x + 1 : Nat) : Int) := fun ev => by
      rw [← nx _ ev, ← r3]
      unfold gm
      rw [ex, hu_id]
    simp only [mo_laysDistances_f154, mo_laysDistances_b229, Nat.reduceAdd]
    rw [if_pos (by omega), dv_in (by omega) (by omega), ck_in ⟨by omega, by omega⟩, ck_in ⟨by omega, by omega⟩, ix_in (by omega) (by omega), ck_in ⟨by omega, by omega⟩, dv_in (by omega) (by omega), ck_in ⟨by omega, by omega⟩, ix_in (by omega) (by omega), r1, r2]
    by_cases q1 : gm h ((x : Int) / 12) b = 1000000
    · rw [if_pos q1, ck_in ⟨by omega, by omega⟩, nx0 (by unfold stG; rw [if_pos q1])]
      rfl
    · rw [if_neg q1]
      by_cases q2 : gm h b ((x : Int) % 12) = 1000000
      · rw [if_pos q2, ck_in ⟨by omega, by omega⟩, nx0 (by unfold stG; rw [if_neg q1, if_pos q2])]
        rfl
      · rw [if_neg q2, dv_in (by omega) (by omega), dv_in (by omega) (by omega), ck_in ⟨by omega, by omega⟩, bd_eq (mo_bounds_eq hi hj), ck_in ⟨by omega, by omega⟩, r3, ex, nx _ (by unfold stG; rw [if_neg q1, if_neg q2])]
        rfl
  · unfold mo_laysDistances_f154
    rw [if_neg (by omega), ck_in ⟨by omega, by omega⟩]
theorem gm_hst2 {b i j : Int} (hi : 0 ≤ i ∧ i < 12) (hj : 0 ≤ j ∧ j < 12) : gm (hst2 h b 144) i j = stG (gm h) b i j := by
  unfold gm hst2
  rw [if_pos ⟨rfl, by omega, by omega⟩, show (12 * i + j) / 12 = i by omega, show (12 * i + j) % 12 = j by omega]
  rfl
end FWL

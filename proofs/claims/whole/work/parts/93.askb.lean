section ASKB
/-- the first below n with P -/
noncomputable def ff (P : Int → Prop) : Nat → Int
  | 0 => -999
  | k + 1 => if ff P k = -999 then @ite _ (P k) (Classical.propDecidable _) (k : Int) (-999) else ff P k
theorem ff_none {P : Int → Prop} : ∀ {n : Nat}, (∀ y : Nat, y < n → ¬ P y) → ff P n = -999
  | 0, _ => rfl
  | n + 1, h => by
    unfold ff
    rw [if_pos (ff_none (fun y g => h y (by omega))), if_neg (h n (by omega))]
theorem ff_some {P : Int → Prop} {x : Nat} (hx : P x) (hn : ∀ y : Nat, y < x → ¬ P y) : ∀ {n : Nat}, x < n → ff P n = x
  | 0, h => absurd h (Nat.not_lt_zero _)
  | n + 1, h => by
    unfold ff
    by_cases q : x = n
    · subst q
      rw [if_pos (ff_none hn), if_pos hx]
    · have := ff_some hx hn (n := n) (by omega)
      rw [if_neg (by omega), this]
/-- the dimension that covers a position of a lane -/
noncomputable def aAt (D : Dr) (l p : Int) : Int := if l < 0 then -1 else if -9 ≤ p ∧ p ≤ 400 then ff (fun d => lnD D (D 7 3) d = l ∧ bD D (D 7 3) d ≤ p ∧ p ≤ eD D (D 7 3) d) (D 7 1).toNat else -1
theorem dl_at_wp {D : Dr} {h : Hp} {l p : Int} (w : WF D) (hA : AtC D h 1) (hF : FR D h) : wp (dl_at 0 l p h) (fun r h1 => r = aAt D l p ∧ CFr h h1 ∧ FR D h1) := by
  have w1 := w.2.1
  unfold aAt dl_at dl_at_b16
  by_cases q : l < 0
  · rw [if_pos q, if_pos q]
    exact wp_ret ⟨rfl, CFr.rfl h, hF⟩
  · rw [if_neg q, if_neg q, bd_eq (dl_isWithin_eq p (-9) 400)]
    by_cases q2 : -9 ≤ p ∧ p ≤ 400
    · rw [yn_t q2, if_neg (by decide), if_pos q2]
      refine wp_bd (dl_laidLanes_wp hA w hF) (fun _ h3 hq => ?_)
      obtain ⟨ll, f1, f2⟩ := hq
      refine wp_of ?_ ⟨rfl, f1, f2⟩
      have em : h3 (0 + 1) 8 = D 7 1 := (f1.atc hA).1.2.1.symm
      refine it1_find (F := dl_at_f26 0 l p) (fun k => (k : Int)) (fun _ => h3) (D 7 1).toNat (fun d => lnD D (D 7 3) d = l ∧ bD D (D 7 3) d ≤ p ∧ p ≤ eD D (D 7 3) d) (fun k x hx hp => ?_) (fun k x hx hp hy => ?_) (fun k hy => ?_) fuel 0 (Nat.zero_le _) (by unfold fuel; omega) (fun y g => absurd g (Nat.not_lt_zero _))
      · obtain ⟨-, e2, e3, e4, -⟩ := ll.2.1 x (by omega) (by omega)
        have e2 : h3 (0 + 87) x = bD D (D 7 3) x := e2
        have e3 : h3 (0 + 88) x = eD D (D 7 3) x := e3
        have e4 : h3 (0 + 89) x = lnD D (D 7 3) x := e4
        unfold dl_at_f26 dl_at_b74
        rw [em, if_pos (by omega), ix_in (by omega) (by omega), e4, ck_in ⟨by omega, by omega⟩]
        by_cases c1 : lnD D (D 7 3) x = l
        · rw [if_pos c1, ix_in (by omega) (by omega), e2]
          by_cases c2 : p < bD D (D 7 3) x
          · rw [if_pos c2]
            rfl
          · rw [if_neg c2, ix_in (by omega) (by omega), e3, if_pos (Int.lt_of_not_ge (fun z => hp ⟨c1, by omega, z⟩))]
            rfl
        · rw [if_neg c1]
          rfl
      · obtain ⟨-, e2, e3, e4, -⟩ := ll.2.1 x (by omega) (by omega)
        have e2 : h3 (0 + 87) x = bD D (D 7 3) x := e2
        have e3 : h3 (0 + 88) x = eD D (D 7 3) x := e3
        have e4 : h3 (0 + 89) x = lnD D (D 7 3) x := e4
        unfold dl_at_f26
        rw [em, if_pos (by omega), ix_in (by omega) (by omega), e4, if_pos hp.1, ix_in (by omega) (by omega), e2, if_neg (by omega), ix_in (by omega) (by omega), e3, if_neg (by omega), ff_some (P := fun d => lnD D (D 7 3) d = l ∧ bD D (D 7 3) d ≤ p ∧ p ≤ eD D (D 7 3) d) hp hy hx]
      · unfold dl_at_f26
        rw [em, if_neg (by omega), ff_none hy]
    · rw [yn_f q2, if_pos rfl, if_neg q2]
      exact wp_ret ⟨rfl, CFr.rfl h, hF⟩
theorem mo_at_wp {D : Dr} {h : Hp} {l p : Int} (w : WF D) (hM : AtM D h 0) : wp (mo_at 132 l p h) (fun r h1 => r = aAt D l p ∧ RFr h h1) := by
  have w1 := w.2.1
  unfold aAt mo_at mo_at_b16
  by_cases q : l < 0
  · rw [if_pos q, if_pos q]
    exact wp_ret ⟨rfl, RFr.rfl h⟩
  · rw [if_neg q, if_neg q, bd_eq (mo_in_eq p (-9) 400)]
    by_cases q2 : -9 ≤ p ∧ p ≤ 400
    · rw [yn_t q2, if_neg (by decide), if_pos q2]
      refine wp_bd (mo_laysLanes_wp hM w) (fun _ h3 hq => ?_)
      obtain ⟨ll, f1⟩ := hq
      refine wp_of ?_ ⟨rfl, f1⟩
      have em : h3 (132 + 1) 13 = D 7 1 := ll.1.m
      refine it1_find (F := mo_at_f24 132 l p) (fun k => (k : Int)) (fun _ => h3) (D 7 1).toNat (fun d => lnD D (D 7 3) d = l ∧ bD D (D 7 3) d ≤ p ∧ p ≤ eD D (D 7 3) d) (fun k x hx hp => ?_) (fun k x hx hp hy => ?_) (fun k hy => ?_) fuel 0 (Nat.zero_le _) (by unfold fuel; omega) (fun y g => absurd g (Nat.not_lt_zero _))
      · have hx' : 0 ≤ (x : Int) ∧ (x : Int) < D 7 1 := by omega
        unfold mo_at_f24 mo_at_b63
        rw [ix_in (by omega) (by omega), em, if_pos hx'.2, bd_eq (ll.2 x hx'.1 hx'.2)]
        by_cases c1 : lnD D (D 7 3) x = l
        · rw [if_pos c1, bd_eq (mo_begins_eq ll.1 w hx'.1 hx'.2), bd_eq (mo_reaches_eq ll.1 w hx'.1 hx'.2), bd_eq (mo_in_eq p _ _), yn_f (fun z => hp ⟨c1, z⟩), if_pos rfl, ck_in ⟨by omega, by omega⟩]
          rfl
        · rw [if_neg c1, ck_in ⟨by omega, by omega⟩]
          rfl
      · have hx' : 0 ≤ (x : Int) ∧ (x : Int) < D 7 1 := by omega
        unfold mo_at_f24
        rw [ix_in (by omega) (by omega), em, if_pos hx'.2, bd_eq (ll.2 x hx'.1 hx'.2), if_pos hp.1, bd_eq (mo_begins_eq ll.1 w hx'.1 hx'.2), bd_eq (mo_reaches_eq ll.1 w hx'.1 hx'.2), bd_eq (mo_in_eq p _ _), yn_t hp.2, if_neg (by decide), ff_some (P := fun d => lnD D (D 7 3) d = l ∧ bD D (D 7 3) d ≤ p ∧ p ≤ eD D (D 7 3) d) hp hy hx]
      · unfold mo_at_f24
        rw [ix_in (by omega) (by omega), em, if_neg (by omega), ff_none hy]
    · rw [yn_f q2, if_pos rfl, if_neg q2]
      exact wp_ret ⟨rfl, RFr.rfl h⟩
theorem ask_at {l p : Int} : ASK (fun D _ _ => aAt D l p) (fun h => dl_at 0 l p h) (fun h => mo_at 132 l p h) := ask_of (fun _ _ _ _ w hC _ _ hF => dl_at_wp w hC.1 hF) (fun _ _ _ _ w _ hM _ _ => mo_at_wp w hM.1)
/-- two points -/
abbrev two (D : Dr) (a b : Int) : Prop := (0 ≤ a ∧ a < D 7 0) ∧ (0 ≤ b ∧ b < D 7 0) ∧ a ≠ b
theorem dl_areTwo_eq {D : Dr} {h : Hp} (hA : AtC D h 1) {a b : Int} : dl_areTwoPoints 0 a b h = some (yn (two D a b), h) := by
  have en : h 1 7 = D 7 0 := hA.1.1.symm
  have bz1 : bz 1 = (fun (E : O Int) => E) := funext fun E => if_pos (Or.inr rfl)
  have bz0 : bz 0 = (fun (E : O Int) => E) := funext fun E => if_pos (Or.inl rfl)
  simp only [dl_areTwoPoints, dl_areTwoPoints_b31, dl_areTwoPoints_b32, bz0, bz1, Nat.reduceAdd]
  rw [bd_eq (dr_hasPoint_eq a), en]
  by_cases q1 : 0 ≤ a ∧ a < D 7 0
  · rw [yn_t q1, if_neg (by decide), bd_eq (dr_hasPoint_eq b), en]
    by_cases q2 : 0 ≤ b ∧ b < D 7 0
    · rw [yn_t q2, if_neg (by decide)]
      by_cases q3 : a = b
      · rw [if_pos q3, yn_f (fun z => z.2.2 q3)]
      · rw [if_neg q3, yn_t ⟨q1, q2, q3⟩]
    · rw [yn_f q2, if_pos rfl, yn_f (fun z => q2 z.2.1)]
  · rw [yn_f q1, if_pos rfl, yn_f (fun z => q1 z.1)]
theorem mo_arePoints_eq {D : Dr} {h : Hp} (w : WF D) (hM : AtM D h 0) {a b : Int} : mo_arePoints 132 a b h = some (yn (two D a b), h) := by
  have bz1 : bz 1 = (fun (E : O Int) => E) := funext fun E => if_pos (Or.inr rfl)
  have bz0 : bz 0 = (fun (E : O Int) => E) := funext fun E => if_pos (Or.inl rfl)
  simp only [mo_arePoints, mo_arePoints_b25, mo_arePoints_b26, bz0, bz1]
  rw [bd_eq (mo_isPoint_eq hM w a)]
  by_cases q1 : 0 ≤ a ∧ a < D 7 0
  · rw [yn_t q1, if_neg (by decide), bd_eq (mo_isPoint_eq hM w b)]
    by_cases q2 : 0 ≤ b ∧ b < D 7 0
    · rw [yn_t q2, if_neg (by decide)]
      by_cases q3 : a = b
      · rw [if_pos q3, yn_f (fun z => z.2.2 q3)]
      · rw [if_neg q3, yn_t ⟨q1, q2, q3⟩]
    · rw [yn_f q2, if_pos rfl, yn_f (fun z => q2 z.2.1)]
  · rw [yn_f q1, if_pos rfl, yn_f (fun z => q1 z.1)]
noncomputable def aDist (D : Dr) (a b g : Int) : Int := if two D a b then (if dd D a b = 1000000 then -999 else if g = 0 then -dd D b a else dd D a b) else -1
theorem dl_distance_wp {D : Dr} {h : Hp} {a b g : Int} (w : WF D) (hA : AtC D h 1) (hF : FR D h) : wp (dl_distance 0 a b g h) (fun r h1 => r = aDist D a b g ∧ CFr h h1 ∧ FR D h1) := by
  have w0 := w.1
  unfold aDist
  simp only [dl_distance, dl_distance_b57, Nat.reduceAdd]
  rw [bd_eq (dl_areTwo_eq hA)]
  by_cases q : two D a b
  · have dba := (dd_b w q.2.1 q.1).2.2
    rw [yn_t q, if_neg (by decide), if_pos q]
    refine wp_bd (dl_knownBounds_wp hA w hF) (fun _ h3 hq => ?_)
    obtain ⟨l, f1, f2⟩ := hq
    rw [bd_eq (bo_areBound_eq w l.2.1 q.1 q.2.1)]
    by_cases c : dd D a b = 1000000
    · rw [tb_f (fun z => z c), if_pos rfl, if_pos c]
      exact wp_ret ⟨rfl, f1, f2⟩
    · rw [tb_t (show bnd D a b from c), if_neg (by decide), if_neg c, l.2.1 b a q.2.1.1 q.2.1.2 q.1.1 (by omega), l.2.1 a b q.1.1 q.1.2 q.2.1.1 (by omega)]
      by_cases c2 : g = 0
      · rw [if_pos c2, if_pos c2, ix_in q.2.1.1 (by omega), ix_in q.1.1 (by omega), ck_in ⟨by omega, by omega⟩]
        exact wp_ret ⟨rfl, f1, f2⟩
      · rw [if_neg c2, if_neg c2, ix_in q.1.1 (by omega), ix_in q.2.1.1 (by omega)]
        exact wp_ret ⟨rfl, f1, f2⟩
  · rw [yn_f q, if_pos rfl, if_neg q]
    exact wp_ret ⟨rfl, CFr.rfl h, hF⟩
theorem mo_distance_wp {D : Dr} {h : Hp} {a b g : Int} (w : WF D) (hM : AtM D h 0) : wp (mo_distance 132 a b g h) (fun r h1 => r = aDist D a b g ∧ RFr h h1) := by
  have w0 := w.1
  unfold aDist mo_distance mo_distance_b62
  rw [bd_eq (mo_arePoints_eq w hM)]
  by_cases q : two D a b
  · have dba := (dd_b w q.2.1 q.1).2.2
    rw [yn_t q, if_neg (by decide), if_pos q]
    refine wp_bd (mo_lays_wp hM w (by omega)) (fun _ h3 hq => ?_)
    obtain ⟨l, f⟩ := hq
    have e1 : h3 (132 + 9) (12 * b + a) = dd D b a := l.dd (by omega) (by omega)
    have e2 : h3 (132 + 9) (12 * a + b) = dd D a b := l.dd (by omega) (by omega)
    rw [bd_eq (mo_bnd_eq l (by omega) (by omega))]
    by_cases c : dd D a b = 1000000
    · rw [tb_f (fun z => z c), if_pos rfl, if_pos c]
      exact wp_ret ⟨rfl, RFr.o f⟩
    · rw [tb_t (show bnd D a b from c), if_neg (by decide), if_neg c, e1, e2]
      by_cases c2 : g = 0
      · rw [if_pos c2, if_pos c2, ck_in ⟨by omega, by omega⟩, ck_in ⟨by omega, by omega⟩, ix_in (by omega) (by omega), ck_in ⟨by omega, by omega⟩]
        exact wp_ret ⟨rfl, RFr.o f⟩
      · rw [if_neg c2, if_neg c2, ck_in ⟨by omega, by omega⟩, ck_in ⟨by omega, by omega⟩, ix_in (by omega) (by omega)]
        exact wp_ret ⟨rfl, RFr.o f⟩
  · rw [yn_f q, if_pos rfl, if_neg q]
    exact wp_ret ⟨rfl, RFr.rfl h⟩
theorem ask_distance {a b g : Int} : ASK (fun D _ _ => aDist D a b g) (fun h => dl_distance 0 a b g h) (fun h => mo_distance 132 a b g h) := ask_of (fun _ _ _ _ w hC _ _ hF => dl_distance_wp w hC.1 hF) (fun _ _ _ _ w _ hM _ _ => mo_distance_wp w hM.1)
end ASKB

section MLL
variable {D : Dr} {h : Hp}
/-- the reference's heap behind i units -/
noncomputable def HM (D : Dr) (h : Hp) : Nat → Hp
  | 0 => hmuN D h (D 7 1).toNat
  | i + 1 => hu (hu (HM D h i) 139 (aU D (D 7 3) i) (aZ D (D 7 3) i)) 140 (aU D (D 7 3) i) 1
theorem HM_o {c : Nat} (z : c < 135 ∨ 140 < c) : ∀ i, HM D h i c = h c
  | 0 => hmuN_o z _
  | i + 1 => funext fun j => by
    show hu (hu (HM D h i) 139 (aU D (D 7 3) i) (aZ D (D 7 3) i)) 140 (aU D (D 7 3) i) 1 c j = h c j
    rw [hu_o (by omega), hu_o (by omega), HM_o z i]
theorem HM_low {c : Nat} (z : c < 139) : ∀ i, HM D h i c = hmuN D h (D 7 1).toNat c
  | 0 => rfl
  | i + 1 => funext fun j => by
    show hu (hu (HM D h i) 139 (aU D (D 7 3) i) (aZ D (D 7 3) i)) 140 (aU D (D 7 3) i) 1 c j = _
    rw [hu_o (by omega), hu_o (by omega), HM_low z i]
theorem HM_is (ha : AtM D h 0) (w : WF D) : ∀ i : Nat, (i : Int) ≤ uc D (D 7 1).toNat → MC D i (HM D h i)
  | 0, _ => by
    have w1 := w.2.1
    have hu := hmuN_unit (D := D) (h := h) (D 7 1).toNat
    refine ⟨ha.any (HM_o (by omega) 0), fun u u0 u1 => ?_, fun u u0 u1 => (hu u u0 (by omega)).2.1, fun u _ _ _ z => by exact absurd z (by decide : ¬ (0 : Int) = 1)⟩
    have := hu u u0 (by omega)
    exact ⟨this.1, this.2.2⟩
  | i + 1, hi => by
    obtain ⟨i1, i2, i3, i4⟩ := HM_is ha w i (by omega)
    obtain ⟨u1, u2, u3, u4⟩ := aU_is (a := D 7 3) w (aS_is w i (by omega)).1 (by omega)
    refine ⟨ha.any (HM_o (by omega) (i + 1)), fun u u0 u1 => ?_, fun u u0 u1 => ?_, fun u u0 u1 hu hp => ?_⟩
    · rw [HM_low (by omega) (i + 1), HM_low (by omega) (i + 1), HM_low (by omega) (i + 1), HM_low (by omega) (i + 1), ← HM_low (h := h) (by omega) i, ← HM_low (h := h) (by omega) i, ← HM_low (h := h) (by omega) i, ← HM_low (h := h) (by omega) i]
      exact i2 u u0 u1
    · rw [aP_s]
      show hu (hu (HM D h i) 139 (aU D (D 7 3) i) (aZ D (D 7 3) i)) 140 (aU D (D 7 3) i) 1 140 u = if u = aU D (D 7 3) i then 1 else aP D (D 7 3) i u
      by_cases q : u = aU D (D 7 3) i
      · rw [if_pos q, q, hu_s]
      · rw [if_neg q, ← i3 u u0 u1]
        unfold hu
        rw [if_neg (fun z => q z.2), if_neg (by omega)]
    · rw [aP_s] at hp
      have hp' : (if u = aU D (D 7 3) i then 1 else aP D (D 7 3) i u) = 1 := hp
      rw [aL_s]
      show _root_.Jvm.Pilot.CDimensionLinesLaw_law_r5478_4509e4.hu (_root_.Jvm.Pilot.CDimensionLinesLaw_law_r5478_4509e4.hu (HM D h i) 139 (aU D (D 7 3) i) (aZ D (D 7 3) i)) 140 (aU D (D 7 3) i) 1 139 u = if u = aU D (D 7 3) i then aZ D (D 7 3) i else aL D (D 7 3) i u
      rw [hu_o (by omega)]
      by_cases q : u = aU D (D 7 3) i
      · rw [if_pos q, q, hu_s]
      · rw [if_neg q] at hp' ⊢
        rw [← i4 u u0 u1 hu hp']
        unfold _root_.Jvm.Pilot.CDimensionLinesLaw_law_r5478_4509e4.hu
        rw [if_neg (fun z => q z.2)]
theorem lays_low (w : WF D) {i : Nat} (g : MC D i h) (hi : (i : Int) < uc D (D 7 1).toNat) (k9 : Int → Hp → O Unit) : iter3 (mo_laysLanes_f25 132 k9) fuel (aU D (D 7 3) i) (h 138 (aU D (D 7 3) i)) 0 h = iter2 (mo_laysLanes_f91 132 k9) fuel (aU D (D 7 3) i) (aB D (D 7 3) i) h := by
  have w1 := w.2.1
  have ub := uc_b (D := D) (D 7 1).toNat
  obtain ⟨gA, gR, gP, gL⟩ := g
  have hA := aS_is (a := D 7 3) w i (by omega)
  obtain ⟨u1, u2, u3, u4⟩ := aU_is (a := D 7 3) w hA.1 hi
  obtain ⟨r1, r2, r3⟩ := (gR _ u1.1 u1.2).2 u2
  rw [r3]
  refine it3_seq (F := mo_laysLanes_f25 132 k9) (fun _ => aU D (D 7 3) i) (fun k => lbr D (aP D (D 7 3) i) (aL D (D 7 3) i) (aU D (D 7 3) i) k) (fun k => (k : Int)) (fun _ => h) (D 7 1).toNat (fun k y hy => ?_) (fun k => ?_) fuel 0 (Nat.zero_le _) (by unfold fuel; omega)
  · have hy' : 0 ≤ (y : Int) ∧ (y : Int) < D 7 1 := by omega
    have e : lbr D (aP D (D 7 3) i) (aL D (D 7 3) i) (aU D (D 7 3) i) (y + 1) = if ld D y = y ∧ aP D (D 7 3) i y = 1 ∧ (uS D (aU D (D 7 3) i) ≤ uS D y ∧ uT D y ≤ uT D (aU D (D 7 3) i)) ∧ lbr D (aP D (D 7 3) i) (aL D (D 7 3) i) (aU D (D 7 3) i) y ≤ aL D (D 7 3) i y then aL D (D 7 3) i y + 1 else lbr D (aP D (D 7 3) i) (aL D (D 7 3) i) (aU D (D 7 3) i) y := rfl
    rw [e]
    generalize lbr D (aP D (D 7 3) i) (aL D (D 7 3) i) (aU D (D 7 3) i) y = b at *
    have b84 : ∀ s, mo_laysLanes_b84 132 k (aU D (D 7 3) i) y s h = k (aU D (D 7 3) i) s ((y : Int) + 1) h := fun s => by
      unfold mo_laysLanes_b84
      rw [ck_in ⟨by omega, by omega⟩]
    have pz := aP_z (D := D) (a := D 7 3) i y
    simp only [mo_laysLanes_f25, mo_laysLanes_b83, b84, Nat.reduceAdd]
    rw [ix_in (by omega) (by omega), gA.m, if_pos hy'.2, bd_eq (mo_isUnit_eq (by omega) (gR y hy'.1 hy'.2).1)]
    by_cases c0 : ld D y = y
    · obtain ⟨y1, y2, y3⟩ := (gR y hy'.1 hy'.2).2 c0
      rw [yn_t c0, if_neg (by decide), ix_in hy'.1 (by omega), gP y hy'.1 hy'.2]
      by_cases c1 : aP D (D 7 3) i y = 0
      · rw [if_pos c1, if_neg (fun z => by omega), b84]; rfl
      · have c1' : aP D (D 7 3) i y = 1 := pz.elim (fun z => absurd z c1) id
        have ly := hA.2 y hy'.1 hy'.2 c0 c1'
        rw [if_neg c1, bd_eq (mo_covers_eq (by omega) (by omega)), r1, r2, y1, y2]
        by_cases c2 : uS D (aU D (D 7 3) i) ≤ uS D y ∧ uT D y ≤ uT D (aU D (D 7 3) i)
        · rw [yn_t c2, if_neg (by decide), ix_in hy'.1 (by omega), gL y hy'.1 hy'.2 c0 c1']
          by_cases c3 : aL D (D 7 3) i y < b
          · rw [if_pos c3, if_neg (fun z => by omega), b84]; rfl
          · rw [if_neg c3, if_pos ⟨c0, c1', c2, by omega⟩, ix_in hy'.1 (by omega), ck_in ⟨by omega, by omega⟩, b84]; rfl
        · rw [yn_f c2, if_pos rfl, if_neg (fun z => c2 z.2.2.1), b84]; rfl
    · rw [yn_f c0, if_pos rfl, if_neg (fun z => c0 z.1), b84]; rfl
  · simp only [mo_laysLanes_f25, Nat.reduceAdd]
    rw [ix_in (by omega) (by omega), gA.m, if_neg (by omega)]
    rfl
theorem lays_at (w : WF D) {i : Nat} (g : MC D i h) (hi : (i : Int) < uc D (D 7 1).toNat) (k9 : Int → Hp → O Unit) (g' : MC D (i + 1) (hu (hu h 139 (aU D (D 7 3) i) (aZ D (D 7 3) i)) 140 (aU D (D 7 3) i) 1)) : iter2 (mo_laysLanes_f91 132 k9) fuel (aU D (D 7 3) i) (aB D (D 7 3) i) h = k9 (aU D (D 7 3) (i + 1)) (hu (hu h 139 (aU D (D 7 3) i) (aZ D (D 7 3) i)) 140 (aU D (D 7 3) i) 1) := by
  have w1 := w.2.1
  have ub := uc_b (D := D) (D 7 1).toNat
  have hA := aS_is (a := D 7 3) w i (by omega)
  obtain ⟨u1, u2, u3, u4⟩ := aU_is (a := D 7 3) w hA.1 hi
  have uu := (w.uST u1.1 u1.2).2.2
  have lb : 0 ≤ aB D (D 7 3) i ∧ aB D (D 7 3) i ≤ 10 + 17 * (i : Int) := lbr_b (p := aP D (D 7 3) i) (l := aL D (D 7 3) i) (by omega) _ (fun v a b c d => by
    have := hA.2 v a (by omega) c d
    omega)
  have st := fun t : Nat => sr_is (P := tk D (D 7 3) (aP D (D 7 3) i) (aL D (D 7 3) i) (aU D (D 7 3) i)) (l := aB D (D 7 3) i) t
  have fin : ∀ (k : Int → Int → Hp → O Unit) (x : Int), ¬ tk D (D 7 3) (aP D (D 7 3) i) (aL D (D 7 3) i) (aU D (D 7 3) i) x → x = aZ D (D 7 3) i → mo_laysLanes_f91 132 k9 k (aU D (D 7 3) i) x h = k9 (aU D (D 7 3) (i + 1)) (hu (hu h 139 (aU D (D 7 3) i) (aZ D (D 7 3) i)) 140 (aU D (D 7 3) i) 1) := fun k x hx ex => by
    have bz1 : bz 1 = (fun (E : O Unit) => E) := funext fun E => if_pos (Or.inr rfl)
    simp only [mo_laysLanes_f91, Nat.reduceAdd]
    rw [bd_eq (mo_meets_eq w g), tb_f hx, if_pos rfl, ix_in u1.1 (by omega), lt_eq, ix_in u1.1 (by omega), bz1, lt_eq, ex]
    rw [bd_eq (mo_nextUnit_eq g'.1 w (fun u a b => (g'.2.1 u a b).1) (fun u a b c => by
      obtain ⟨x1, x2, x3⟩ := (g'.2.1 u a b).2 c
      obtain ⟨y1, y2, y3⟩ := w.uST a b
      rw [x1, x2]
      exact ⟨y1, y2⟩))]
    refine congrArg (fun z => k9 z _) ?_
    unfold aU
    have ext : ∀ k : Nat, k ≤ (D 7 1).toNat → nu D (hu (hu h 139 (aU D (D 7 3) i) (aZ D (D 7 3) i)) 140 (aU D (D 7 3) i) 1 140) (hu (hu h 139 (aU D (D 7 3) i) (aZ D (D 7 3) i)) 140 (aU D (D 7 3) i) 1 136) (hu (hu h 139 (aU D (D 7 3) i) (aZ D (D 7 3) i)) 140 (aU D (D 7 3) i) 1 137) k = nu D (aP D (D 7 3) (i + 1)) (uS D) (uT D) k := fun k => by
      generalize hu (hu h 139 (aU D (D 7 3) i) (aZ D (D 7 3) i)) 140 (aU D (D 7 3) i) 1 = H at *
      obtain ⟨-, gR, gP, -⟩ := g'
      induction k with
      | zero => intro _; rfl
      | succ k ih =>
        intro hk
        have i0 := ih (by omega)
        have ni := nu_is (D := D) (pl := aP D (D 7 3) (i + 1)) (S := uS D) (T := uT D) k
        unfold nu
        rw [i0, gP k (by omega) (by omega)]
        by_cases c0 : ld D (k : Int) = k
        · obtain ⟨a1, a2, -⟩ := (gR k (by omega) (by omega)).2 c0
          rcases ni with z | z
          · rw [z.1]
            simp
          · obtain ⟨z1, z2, z3, z4⟩ := z
            obtain ⟨b1, b2, -⟩ := (gR _ z1.1 (by omega)).2 z2
            have : bf (H 136) (H 137) k (nu D (aP D (D 7 3) (i + 1)) (uS D) (uT D) k) ↔ bf (uS D) (uT D) k (nu D (aP D (D 7 3) (i + 1)) (uS D) (uT D) k) := by
              unfold bf
              rw [a1, a2, b1, b2]
            simp only [this]
        · rw [if_neg (fun z => c0 z.1), if_neg (fun z => c0 z.1)]
    exact ext _ (Nat.le_refl _)
  refine it2_find (F := mo_laysLanes_f91 132 k9) (fun _ => aU D (D 7 3) i) (fun t => sr (tk D (D 7 3) (aP D (D 7 3) i) (aL D (D 7 3) i) (aU D (D 7 3) i)) (aB D (D 7 3) i) t) (fun _ => h) i (fun t => ¬ tk D (D 7 3) (aP D (D 7 3) i) (aL D (D 7 3) i) (aU D (D 7 3) i) (sr (tk D (D 7 3) (aP D (D 7 3) i) (aL D (D 7 3) i) (aU D (D 7 3) i)) (aB D (D 7 3) i) t)) (fun k t ht hp => ?_) (fun k t ht hp _ => ?_) (fun k _ => ?_) fuel 0 (Nat.zero_le _) (by unfold fuel; omega) (fun y g => absurd g (Nat.not_lt_zero _))
  · have hp' := Classical.not_not.mp hp
    have s1 := (st t).1
    simp only [mo_laysLanes_f91, Nat.reduceAdd]
    rw [bd_eq (mo_meets_eq w g), tb_t hp', if_neg (by decide), ck_in ⟨by omega, by omega⟩, sr_t hp']
  · exact fin k _ hp (sr_stop hp i (by omega)).symm
  · exact fin k _ (aZ_free w hi) rfl
theorem mo_laysLanes_eq (ha : AtM D h 0) (w : WF D) : mo_laysLanes 132 h = some ((), HM D h (uc D (D 7 1).toNat).toNat) := by
  have w1 := w.2.1
  have ub := uc_b (D := D) (D 7 1).toNat
  have hM := HM_is ha w
  have e0 := hM 0 (by omega)
  unfold mo_laysLanes
  rw [bd_eq (mo_laysUnits_eq ha w)]
  have en : mo_nextUnit 132 (HM D h 0) = some (aU D (D 7 3) 0, HM D h 0) := by
    rw [mo_nextUnit_eq e0.1 w (fun u a b => (e0.2.1 u a b).1) (fun u a b c => by
      obtain ⟨x1, x2, x3⟩ := (e0.2.1 u a b).2 c
      obtain ⟨y1, y2, y3⟩ := w.uST a b
      rw [x1, x2]
      exact ⟨y1, y2⟩)]
    have ext : ∀ k : Nat, k ≤ (D 7 1).toNat → nu D (HM D h 0 140) (HM D h 0 136) (HM D h 0 137) k = nu D (aP D (D 7 3) 0) (uS D) (uT D) k := fun k => by
      obtain ⟨-, gR, gP, -⟩ := e0
      induction k with
      | zero => intro _; rfl
      | succ k ih =>
        intro hk
        have i0 := ih (by omega)
        have ni := nu_is (D := D) (pl := aP D (D 7 3) 0) (S := uS D) (T := uT D) k
        unfold nu
        rw [i0, gP k (by omega) (by omega)]
        by_cases c0 : ld D (k : Int) = k
        · obtain ⟨a1, a2, -⟩ := (gR k (by omega) (by omega)).2 c0
          rcases ni with z | z
          · rw [z.1]
            simp
          · obtain ⟨z1, z2, z3, z4⟩ := z
            obtain ⟨b1, b2, -⟩ := (gR _ z1.1 (by omega)).2 z2
            have : bf (HM D h 0 136) (HM D h 0 137) k (nu D (aP D (D 7 3) 0) (uS D) (uT D) k) ↔ bf (uS D) (uT D) k (nu D (aP D (D 7 3) 0) (uS D) (uT D) k) := by
              unfold bf
              rw [a1, a2, b1, b2]
            simp only [this]
        · rw [if_neg (fun z => c0 z.1), if_neg (fun z => c0 z.1)]
    exact congrArg (fun z => some (z, HM D h 0)) (ext _ (Nat.le_refl _))
  rw [bd_eq (show mo_nextUnit 132 (hmuN D h (D 7 1).toNat) = some (aU D (D 7 3) 0, HM D h 0) from en)]
  refine it1_seq (F := mo_laysLanes_f9 132) (fun i => aU D (D 7 3) i) (fun i => HM D h i) (uc D (D 7 1).toNat).toNat (fun k i hi => ?_) (fun k => ?_) fuel 0 (Nat.zero_le _) (by unfold fuel; omega)
  · obtain ⟨u1, u2, u3, u4⟩ := aU_is (a := D 7 3) w (aS_is w i (by omega)).1 (by omega)
    simp only [mo_laysLanes_f9, Nat.reduceAdd]
    rw [if_neg (by omega), ix_in u1.1 (by omega), lays_low w (hM i (by omega)) (by omega), lays_at w (hM i (by omega)) (by omega) k (hM (i + 1) (by omega))]
    rfl
  · simp only [mo_laysLanes_f9]
    rw [if_pos (aU_end w)]
/-- where a dimension lies, in the reference -/
theorem mo_laneOf_eq (ha : AtM D h 0) (w : WF D) {h' : Hp} (hr : ∀ c, 135 ≤ c → c ≤ 140 → h' c = HM D h (uc D (D 7 1).toNat).toNat c) {d : Int} (h0 : 0 ≤ d) (h1 : d < D 7 1) : mo_laneOf 132 d h' = some (lnD D (D 7 3) d, h') := by
  have w1 := w.2.1
  have ub := uc_b (D := D) (D 7 1).toNat
  obtain ⟨gA, gR, gP, gL⟩ := HM_is ha w (uc D (D 7 1).toNat).toNat (by omega)
  have lx := (ld_is (D := D) h0).1
  simp only [mo_laneOf, Nat.reduceAdd]
  rw [ix_in h0 (by omega), hr 135 (by omega) (by omega), (gR d h0 h1).1, ix_in lx.1 (by omega), hr 139 (by omega) (by omega), gL _ lx.1 (by omega) (ld_ld h0) (aP_end w lx.1 (by omega) (ld_ld h0))]
  rfl
end MLL

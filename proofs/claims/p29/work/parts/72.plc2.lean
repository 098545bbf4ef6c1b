section PLCB
variable {D : Dr} {a : Int} {h : Hp} {th : Nat}
theorem PC.lane_le (w : WF D) {i : Nat} (g : PC D a th i h) (hi : (i : Int) ≤ uc D (D 7 1).toNat) {d : Int} (h0 : 0 ≤ d) (h1 : d < D 7 1) : -1 ≤ h (th + 4) d ∧ h (th + 4) d ≤ 300 := by
  have w1 := w.2.1
  have ub := uc_b (D := D) (D 7 1).toNat
  have lx := (ld_is (D := D) h0).1
  rw [g.2.2.2.2.1 d h0 h1]
  split
  · have := (aS_is (a := a) w i hi).2 (ld D d) lx.1 (by omega) (ld_ld h0) (by assumption)
    omega
  · omega
/-- the lane that the class finds -/
theorem la_lowest (w : WF D) {i : Nat} (g : PC D a th i h) (hi : (i : Int) < uc D (D 7 1).toNat) : la_lowestLaneFor th (aU D a i) i h = some (aZ D a i, h) := by
  have w1 := w.2.1
  have ub := uc_b (D := D) (D 7 1).toNat
  have hA := aS_is (a := a) w i (by omega)
  obtain ⟨u1, u2, u3, u4⟩ := aU_is (a := a) w hA.1 hi
  obtain ⟨gL, gO, gp, gq, gl, g7⟩ := id g
  obtain ⟨ru9, ru10, ru11⟩ := (gL.2.2 _ u1.1 u1.2).2.2.2.2 u2
  have hO : ∀ j : Int, 0 ≤ j → j < i → (0 ≤ h (th + 12) j ∧ h (th + 12) j < 16) ∧ (-1 ≤ h (th + 4) (h (th + 12) j) ∧ h (th + 4) (h (th + 12) j) ≤ 1000) := fun j j0 j1 => by
    have o := (gO.1 j j0 (by omega)).1
    have l := g.lane_le w (by omega) o.1 o.2
    omega
  have eb : lbd h th (aU D a i) (i : Int).toNat = aB D a i := eq_of_le fun y => by
    have ei : (((i : Int).toNat : Nat) : Int) = i := by omega
    have em : (((D 7 1).toNat : Nat) : Int) = D 7 1 := by omega
    unfold aB
    rw [lbd_le, lbr_le, ru9, ru10, ru11, ei, em]
    refine ⟨fun z => ⟨z.1, fun v v0 v1 v2 v3 v4 => ?_⟩, fun z => ⟨z.1, fun j j0 j1 jc => ?_⟩⟩
    · obtain ⟨j, j0, j1, j2⟩ := gO.2.2 v v0 v1 v2
      have hj : j < i := Int.lt_of_not_ge fun n => by
        have := gq j n j1
        rw [j2] at this
        omega
      obtain ⟨r9, r10, -⟩ := (gL.2.2 v v0 v1).2.2.2.2 v2
      have := z.2 j j0 hj (by rw [j2, r9, r10]; exact v4)
      rw [j2, gl v v0 v1, v2, if_pos v3] at this
      exact this
    · have o := gO.1 j j0 (by omega)
      obtain ⟨r9, r10, -⟩ := (gL.2.2 _ o.1.1 o.1.2).2.2.2.2 o.2
      rw [r9, r10] at jc
      have pj := gp j j0 j1
      rw [gl _ o.1.1 o.1.2, o.2, if_pos pj]
      exact z.2 _ o.1.1 o.1.2 o.2 pj jc
  have uu := (w.uST u1.1 u1.2).2.2
  have lb : 0 ≤ aB D a i ∧ aB D a i ≤ 10 + 17 * (i : Int) := lbr_b (p := aP D a i) (l := aL D a i) (by omega) _ (fun v a b c d => by
    have := hA.2 v a (by omega) c d
    omega)
  rw [low_first (by omega) (by omega) hO, eb]
  have st := fun t : Nat => sr_is (P := tk D a (aP D a i) (aL D a i) (aU D a i)) (l := aB D a i) t
  have tq : ∀ t : Nat, t ≤ i → (tkn h th (sr (tk D a (aP D a i) (aL D a i) (aU D a i)) (aB D a i) t) (aU D a i) (D 7 1) ↔ tk D a (aP D a i) (aL D a i) (aU D a i) (sr (tk D a (aP D a i) (aL D a i) (aU D a i)) (aB D a i) t)) := fun t ht => by
    have s1 := (st t).1
    generalize sr (tk D a (aP D a i) (aL D a i) (aU D a i)) (aB D a i) t = x at *
    have key : ∀ (d e : Nat), d < (D 7 1).toNat → e < (D 7 1).toNat → ((h (th + 8) d = aU D a i ↔ ld D d = aU D a i) ∧ (mt h th x d e ↔ ((aP D a i (ld D e) = 1 ∧ aL D a i (ld D e) = x) ∧ bD D a d ≤ eD D a e ∧ bD D a e ≤ eD D a d))) := fun d e hd he => by
      obtain ⟨-, d2, d3, d8, -⟩ := gL.2.2 (d : Int) (by omega) (by omega)
      obtain ⟨-, e2, e3, e8, -⟩ := gL.2.2 (e : Int) (by omega) (by omega)
      refine ⟨by rw [d8], ?_⟩
      unfold mt
      rw [d2, d3, e2, e3, gl (e : Int) (by omega) (by omega)]
      by_cases c : aP D a i (ld D (e : Int)) = 1
      · rw [if_pos c]
        constructor
        · intro z; exact ⟨⟨c, z.1⟩, by omega, by omega⟩
        · intro z; exact ⟨z.1.2, by omega, by omega⟩
      · rw [if_neg c]
        constructor
        · intro z; omega
        · intro z; exact absurd z.1.1 c
    constructor
    · rintro ⟨d, d1, d2, e, e1, e2⟩
      exact ⟨d, d1, (key d d d1 d1).1.mp d2, e, e1, (key d e d1 e1).2.mp e2⟩
    · rintro ⟨d, d1, d2, e, e1, e2⟩
      exact ⟨d, d1, (key d d d1 d1).1.mpr d2, e, e1, (key d e d1 e1).2.mpr e2⟩
  have tk01 := fun (t : Nat) => la_isTaken_eq (h := h) (th := th) (l := sr (tk D a (aP D a i) (aL D a i) (aU D a i)) (aB D a i) t) (u := aU D a i) w1 gL.1
  refine it2_find (F := la_lowestLaneFor_f80 th (aU D a i) i) (fun t => sr (tk D a (aP D a i) (aL D a i) (aU D a i)) (aB D a i) t) (fun t => (t : Int)) (fun _ => h) i (fun t => ¬ tk D a (aP D a i) (aL D a i) (aU D a i) (sr (tk D a (aP D a i) (aL D a i) (aU D a i)) (aB D a i) t)) (fun k t ht hp => ?_) (fun k t ht hp _ => ?_) (fun k _ => ?_) fuel 0 (Nat.zero_le _) (by unfold fuel; omega) (fun y g => absurd g (Nat.not_lt_zero _))
  · have hp' := Classical.not_not.mp hp
    have s1 := (st t).1
    unfold la_lowestLaneFor_f80
    rw [if_pos (by omega), bd_eq ((tk01 t).1 ((tq t (by omega)).mpr hp')), if_neg (by decide), ck_in ⟨by omega, by omega⟩, ck_in ⟨by omega, by omega⟩, sr_t hp']
    rfl
  · unfold la_lowestLaneFor_f80 la_lowestLaneFor_b104
    rw [if_pos (by omega), bd_eq ((tk01 t).2 (fun z => hp ((tq t (by omega)).mp z))), if_pos rfl]
    unfold aZ
    rw [sr_stop hp i (by omega)]
  · unfold la_lowestLaneFor_f80 la_lowestLaneFor_b104
    rw [if_neg (by omega)]
    rfl
/-- one more unit is laid -/
theorem la_place_wp (w : WF D) {i : Nat} (g : PC D a th i h) (hi : (i : Int) < uc D (D 7 1).toNat) : wp (la_place th i h) (fun _ h' => PC D a th (i + 1) h' ∧ ∀ c, (c < th ∨ th + 12 < c) → h' c = h c) := by
  have w1 := w.2.1
  have ub := uc_b (D := D) (D 7 1).toNat
  have hA := aS_is (a := a) w i (by omega)
  unfold la_place
  rw [ck_in ⟨by omega, by omega⟩]
  refine wp_it1 (fun x h' => ((i : Int) + 1 ≤ x ∧ x ≤ uc D (D 7 1).toNat) ∧ PC D a th i h' ∧ (∀ c, (c < th ∨ th + 12 < c) → h' c = h c) ∧ ∀ j : Int, (i : Int) < j → j < x → bf (uS D) (uT D) (h' (th + 12) i) (h' (th + 12) j)) (fun x _ => (uc D (D 7 1).toNat - x).toNat) (fun x h' hI k hk => ?_) fuel _ _ ⟨by omega, g, fun _ _ => rfl, fun j j0 j1 => by omega⟩ (by unfold fuel; omega)
  obtain ⟨hx, g', gf, gb⟩ := hI
  obtain ⟨gL, gO, gp, gq, gl, g7⟩ := id g'
  unfold la_place_f4
  rw [gL.2.1]
  by_cases q : x < uc D (D 7 1).toNat
  · have ox := gO.1 x (by omega) q
    have oi := gO.1 i (by omega) hi
    have b57 : ∀ h3 : Hp, la_place_b57 th i k x h3 = k (x + 1) h3 := fun h3 => by
      unfold la_place_b57
      rw [ck_in ⟨by omega, by omega⟩]
    rw [if_pos q, ix_in (by omega) (by omega), ix_in (by omega) (by omega), bd_eq (la_comes gL w ox oi)]
    by_cases c : bf (uS D) (uT D) (h' (th + 12) x) (h' (th + 12) i)
    · rw [yn_t c, if_neg (by decide), ix_in (by omega) (by omega), ix_in (by omega) (by omega), ix_in (by omega) (by omega), lt_eq, ix_in (by omega) (by omega), lt_eq, b57]
      generalize hH : hu (hu h' (th + 12) i (h' (th + 12) x)) (th + 12) x (h' (th + 12) i) = H
      have e12 : ∀ j, H (th + 12) j = swp (h' (th + 12)) i x j := fun j => by
        rw [← hH]
        unfold swp hu
        simp
      have ec : ∀ cc, cc ≠ th + 12 → H cc = h' cc := fun cc n => funext fun j => by
        rw [← hH, hu_o (by omega), hu_o (by omega)]
      have e12' : H (th + 12) = swp (h' (th + 12)) i x := funext e12
      have hw := UO_swp gO (i := i) (x := x) (by omega) (by omega) (by omega)
      refine hk _ _ ⟨by omega, ⟨gL.keep (by rw [ec th (by omega)]) (by rw [ec th (by omega)]) (fun cc z j => by rw [ec cc (by omega)]), by rw [e12']; exact hw, fun j j0 j1 => ?_, fun j j0 j1 => ?_, fun d d0 d1 => by rw [ec (th + 4) (by omega)]; exact gl d d0 d1, by rw [ec th (by omega)]; exact g7⟩, fun cc z => by rw [ec cc (by omega), gf cc z], fun j j0 j1 => ?_⟩ (by omega)
      · rw [e12]
        unfold swp
        rw [if_neg (by omega), if_neg (by omega)]
        exact gp j j0 j1
      · rw [e12]
        unfold swp
        split
        · exact gq i (by omega) (by omega)
        · split
          · exact gq x (by omega) (by omega)
          · exact gq j j0 j1
      · rw [e12, e12]
        have s1 : swp (h' (th + 12)) i x i = h' (th + 12) x := by
          unfold swp
          rw [if_neg (by omega), if_pos rfl]
        rw [s1]
        unfold swp
        by_cases z : j = x
        · rw [if_pos z]; exact c
        · rw [if_neg z, if_neg (by omega)]
          exact bf_trans c (gb j j0 (by omega))
    · rw [yn_f c, if_pos rfl, b57]
      refine hk _ _ ⟨by omega, g', gf, fun j j0 j1 => ?_⟩ (by omega)
      by_cases z : j = x
      · rw [z]
        rcases bf_tri (S := uS D) (T := uT D) (u := h' (th + 12) x) (v := h' (th + 12) i) (fun y => by
          have := gO.2.1 x i (by omega) q (by omega) hi y
          omega) with y | y
        · exact absurd y c
        · exact y
      · exact gb j j0 (by omega)
  · have et := turn_is w hi gO gp gq (fun j j0 j1 => gb j j0 (by omega))
    obtain ⟨u1, u2, u3, u4⟩ := aU_is (a := a) w hA.1 hi
    rw [if_neg q, ix_in (by omega) (by omega), et, bd_eq (la_lowest w g' hi)]
    have uu := (w.uST u1.1 u1.2).2.2
    have s := (sr_is (P := tk D a (aP D a i) (aL D a i) (aU D a i)) (l := aB D a i) i).1
    have lb : 0 ≤ aB D a i ∧ aB D a i ≤ 10 + 17 * (i : Int) := lbr_b (p := aP D a i) (l := aL D a i) (by omega) _ (fun v a b c d => by
      have := hA.2 v a (by omega) c d
      omega)
    have ez : aZ D a i = sr (tk D a (aP D a i) (aL D a i) (aU D a i)) (aB D a i) i := rfl
    rw [place_set w1 gL.1 (by omega)]
    have ec : ∀ cc j, cc ≠ th → cc ≠ th + 4 → hu (hpl h' th (aU D a i) (aZ D a i) (D 7 1)) th 7 (max (h' th 7) (aZ D a i + 1)) cc j = h' cc j := fun cc j n1 n2 => by
      rw [hu_o n1, hpl_o n2]
    have et' : ∀ j, j ≠ 7 → hu (hpl h' th (aU D a i) (aZ D a i) (D 7 1)) th 7 (max (h' th 7) (aZ D a i + 1)) th j = h' th j := fun j n1 => by
      unfold hu
      rw [if_neg (by omega), hpl_o (by omega)]
    have e4 : ∀ d, 0 ≤ d → d < D 7 1 → hu (hpl h' th (aU D a i) (aZ D a i) (D 7 1)) th 7 (max (h' th 7) (aZ D a i + 1)) (th + 4) d = if ld D d = aU D a i then aZ D a i else h' (th + 4) d := fun d d0 d1 => by
      rw [hu_o (by omega)]
      unfold hpl
      rw [(gL.2.2 d d0 d1).2.2.2.1]
      by_cases z : ld D d = aU D a i
      · rw [if_pos ⟨rfl, d0, d1, z⟩, if_pos z]
      · rw [if_neg (fun y => z y.2.2.2), if_neg z]
    have e7 : hu (hpl h' th (aU D a i) (aZ D a i) (D 7 1)) th 7 (max (h' th 7) (aZ D a i + 1)) th 7 = max (h' th 7) (aZ D a i + 1) := hu_s
    generalize hu (hpl h' th (aU D a i) (aZ D a i) (D 7 1)) th 7 (max (h' th 7) (aZ D a i + 1)) = H at *
    have e12 : H (th + 12) = h' (th + 12) := funext fun j => ec _ j (by omega) (by omega)
    refine wp_ret ⟨⟨gL.keep (et' 15 (by decide)) (et' 6 (by decide)) (fun cc z j => ec cc j (by omega) (by omega)), by rw [e12]; exact gO, fun j j0 j1 => ?_, fun j j0 j1 => ?_, fun d d0 d1 => ?_, ?_⟩, fun cc z => ?_⟩
    · rw [e12, aP_s]
      show (if h' (th + 12) j = aU D a i then 1 else aP D a i (h' (th + 12) j)) = 1
      by_cases z : h' (th + 12) j = aU D a i
      · rw [if_pos z]
      · rw [if_neg z]
        exact gp j j0 (by
          have : j ≠ i := fun y => z (by rw [y, et])
          omega)
    · rw [e12, aP_s]
      show (if h' (th + 12) j = aU D a i then 1 else aP D a i (h' (th + 12) j)) = 0
      rw [if_neg (fun z => by
        have := gO.2.1 j i (by omega) j1 (by omega) hi (z.trans et.symm)
        omega)]
      exact gq j (by omega) j1
    · rw [e4 d d0 d1, aP_s, aL_s]
      show _ = if (if ld D d = aU D a i then 1 else aP D a i (ld D d)) = 1 then (if ld D d = aU D a i then aZ D a i else aL D a i (ld D d)) else -1
      by_cases z : ld D d = aU D a i
      · simp only [if_pos z, if_true]
      · simp only [if_neg z]
        exact gl d d0 d1
    · rw [e7, g7]; rfl
    · rw [funext fun j => ec cc j (by omega) (by omega), gf cc z]
end PLCB

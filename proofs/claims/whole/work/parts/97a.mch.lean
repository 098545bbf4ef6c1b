section MCH
variable {D : Dr} {h : Hp} {c : Int}
/-- what is summed -/
def gw (D : Dr) (x : Int) : Int → Int := fun d => if x = 0 then 1 else if x = 4 then vD D d else if x = 5 then D 3 d else D 4 d
theorem AtM.ofs (hM : AtM D h 0) (w : WF D) {d : Int} (d0 : 0 ≤ d) (d1 : d < D 7 1) : mo_of 132 d 0 h = some (D 1 d, h) ∧ mo_of 132 d 1 h = some (D 2 d, h) ∧ mo_of 132 d 2 h = some (D 3 d, h) ∧ mo_of 132 d 3 h = some (D 4 d, h) ∧ mo_of 132 d 4 h = some (D 5 d, h) := by
  have w1 := w.2.1
  obtain ⟨a1, a2, a3, a4, a5, a6⟩ := hM.dim d0 d1
  refine ⟨?_, ?_, ?_, ?_, ?_⟩
  · rw [mo_of_raw (by omega) (by omega), a1]
  · rw [mo_of_raw (by omega) (by omega), a2]
  · rw [mo_of_raw (by omega) (by omega), a3]
  · rw [mo_of_raw (by omega) (by omega), a4]
  · rw [mo_of_raw (by omega) (by omega), a5]
theorem mo_sumOf_eq (hM : AtM D h 0) (w : WF D) {x : Int} : mo_sumOf 132 c x h = some (sc D c (gw D x), h) := by
  have w1 := w.2.1
  have em : h (132 + 1) 13 = D 7 1 := hM.m
  unfold mo_sumOf
  have gb : ∀ d : Int, 0 ≤ d → d < D 7 1 → 0 ≤ gw D x d ∧ gw D x d ≤ 300 := fun d d0 d1 => by
    have dt := w.2.2.2.2.2.2 d d0 d1
    have v := w.v d0 d1
    unfold gw
    split
    · omega
    · split
      · exact v
      · split <;> omega
  refine it2_seq (F := mo_sumOf_f5 132 c x) (fun k => scN D c (gw D x) k) (fun k => (k : Int)) (fun _ => h) (D 7 1).toNat (fun k y hy => ?_) (fun k => ?_) fuel 0 (Nat.zero_le _) (by unfold fuel; omega)
  · have hy' : 0 ≤ (y : Int) ∧ (y : Int) < D 7 1 := by omega
    have sb := scN_b (D := D) (c := c) (g := gw D x) (B := 300) (by decide) (n := y) (fun d d0 d1 => gb d d0 (by omega))
    have gy := gb y hy'.1 hy'.2
    obtain ⟨o0, o1, o2, o3, o4⟩ := hM.ofs w hy'.1 hy'.2
    have b55 : ∀ s, s = gw D x y → mo_sumOf_b55 132 c x k (scN D c (gw D x) y) y s h = k (scN D c (gw D x) (y + 1)) ((y + 1 : Nat) : Int) h := fun s es => by
      unfold mo_sumOf_b55 mo_sumOf_b75
      rw [bd_eq o4, scN_s, es]
      by_cases q : D 5 y = c
      · rw [if_pos q, if_pos q, ck_in ⟨by omega, by omega⟩, ck_in ⟨by omega, by omega⟩]
        rfl
      · rw [if_neg q, if_neg q, ck_in ⟨by omega, by omega⟩, ck_in ⟨by omega, by omega⟩]
        rfl
    unfold mo_sumOf_f5 mo_sumOf_b52
    rw [ix_in (by omega) (by omega), em, if_pos hy'.2]
    by_cases x0 : x = 0
    · rw [if_pos x0, b55 1 (by unfold gw; rw [if_pos x0])]
    · rw [if_neg x0]
      by_cases x4 : x = 4
      · rw [if_pos x4, bd_eq (mo_value_eq hM w hy'.1 hy'.2), b55 _ (by unfold gw; rw [if_neg x0, if_pos x4])]
      · rw [if_neg x4]
        by_cases x5 : x = 5
        · rw [if_pos x5, bd_eq o2, b55 _ (by unfold gw; rw [if_neg x0, if_neg x4, if_pos x5])]
        · rw [if_neg x5, bd_eq o3, b55 _ (by unfold gw; rw [if_neg x0, if_neg x4, if_neg x5])]
  · unfold mo_sumOf_f5
    rw [ix_in (by omega) (by omega), em, if_neg (by omega)]
    rfl
theorem mo_begin_eq (hM : AtM D h 0) (w : WF D) (hc : sc D c (fun _ => 1) ≠ 0) : mo_endOf 132 c 0 h = some (bg D c, h) := by
  have w1 := w.2.1
  have em : h (132 + 1) 13 = D 7 1 := hM.m
  unfold mo_endOf
  have key := it2_seq (F := mo_endOf_f7 132 c 0) (fun k => if scN D c (fun _ => 1) k = 0 then -999 else bgN D c k) (fun k => (k : Int)) (fun _ => h) (D 7 1).toNat (R := some (bg D c, h)) (fun k y hy => ?_) (fun k => ?_) fuel 0 (Nat.zero_le _) (by unfold fuel; omega)
  · exact key
  · have hy' : 0 ≤ (y : Int) ∧ (y : Int) < D 7 1 := by omega
    have i := bgN_b (c := c) w y (by omega)
    have sb := sc1_b (D := D) (c := c) y
    have dw := (w.dim hy'.1 hy'.2).1
    obtain ⟨o0, o1, o2, o3, o4⟩ := hM.ofs w hy'.1 hy'.2
    have e : bgN D c (y + 1) = if D 5 y = c then min (bgN D c y) (D 1 y) else bgN D c y := rfl
    show mo_endOf_f7 132 c 0 k (if scN D c (fun _ => 1) y = 0 then -999 else bgN D c y) y h = k (if scN D c (fun _ => 1) (y + 1) = 0 then -999 else bgN D c (y + 1)) ((y : Int) + 1) h
    rw [scN_s, e]
    unfold mo_endOf_f7 mo_endOf_b31 mo_endOf_b73 mo_endOf_b78 mo_endOf_b79
    rw [ix_in (by omega) (by omega), em, if_pos hy'.2, if_pos rfl, bd_eq o0, bd_eq o4]
    by_cases q : D 5 y = c
    · rw [if_pos q, if_pos q, if_pos q, if_pos rfl]
      by_cases z : scN D c (fun _ => 1) y = 0
      · rw [if_pos z, if_pos rfl, ck_in ⟨by omega, by omega⟩, if_neg (by omega), i.2.1 z, Int.min_eq_right (by omega)]
      · have := i.2.2 z
        rw [if_neg z, if_neg (by omega), if_neg (show ¬ scN D c (fun _ => 1) y + 1 = 0 by omega)]
        by_cases l : D 1 y < bgN D c y
        · rw [if_pos l, ck_in ⟨by omega, by omega⟩, Int.min_eq_right (by omega)]
        · rw [if_neg l, ck_in ⟨by omega, by omega⟩, Int.min_eq_left (by omega)]
    · rw [if_neg q, if_neg q, if_neg q, ck_in ⟨by omega, by omega⟩, Int.add_zero]
  · have z : scN D c (fun _ => 1) (D 7 1).toNat ≠ 0 := hc
    unfold mo_endOf_f7
    rw [ix_in (by omega) (by omega), em, if_neg (by omega), if_neg z]
    rfl
theorem mo_end_eq (hM : AtM D h 0) (w : WF D) (hc : sc D c (fun _ => 1) ≠ 0) : mo_endOf 132 c 1 h = some (en D c, h) := by
  have w1 := w.2.1
  have em : h (132 + 1) 13 = D 7 1 := hM.m
  unfold mo_endOf
  have key := it2_seq (F := mo_endOf_f7 132 c 1) (fun k => if scN D c (fun _ => 1) k = 0 then -999 else enN D c k) (fun k => (k : Int)) (fun _ => h) (D 7 1).toNat (R := some (en D c, h)) (fun k y hy => ?_) (fun k => ?_) fuel 0 (Nat.zero_le _) (by unfold fuel; omega)
  · exact key
  · have hy' : 0 ≤ (y : Int) ∧ (y : Int) < D 7 1 := by omega
    have i := enN_b (c := c) w y (by omega)
    have sb := sc1_b (D := D) (c := c) y
    have dw := (w.dim hy'.1 hy'.2).1
    obtain ⟨o0, o1, o2, o3, o4⟩ := hM.ofs w hy'.1 hy'.2
    have e : enN D c (y + 1) = if D 5 y = c then max (enN D c y) (D 2 y) else enN D c y := rfl
    show mo_endOf_f7 132 c 1 k (if scN D c (fun _ => 1) y = 0 then -999 else enN D c y) y h = k (if scN D c (fun _ => 1) (y + 1) = 0 then -999 else enN D c (y + 1)) ((y : Int) + 1) h
    rw [scN_s, e]
    unfold mo_endOf_f7 mo_endOf_b31 mo_endOf_b73 mo_endOf_b78 mo_endOf_b79
    rw [ix_in (by omega) (by omega), em, if_pos hy'.2, if_neg (show ¬ (1 : Int) = 0 by decide), bd_eq o1, bd_eq o4]
    by_cases q : D 5 y = c
    · rw [if_pos q, if_pos q, if_pos q, if_neg (show ¬ (1 : Int) = 0 by decide)]
      by_cases z : scN D c (fun _ => 1) y = 0
      · rw [if_pos z, if_pos rfl, ck_in ⟨by omega, by omega⟩, if_neg (by omega), i.2.1 z, Int.max_eq_right (by omega)]
      · rw [if_neg z, if_neg (by omega), if_neg (show ¬ scN D c (fun _ => 1) y + 1 = 0 by omega)]
        by_cases l : enN D c y < D 2 y
        · rw [if_pos l, ck_in ⟨by omega, by omega⟩, Int.max_eq_right (by omega)]
        · rw [if_neg l, ck_in ⟨by omega, by omega⟩, Int.max_eq_left (by omega)]
    · rw [if_neg q, if_neg q, if_neg q, ck_in ⟨by omega, by omega⟩, Int.add_zero]
  · have z : scN D c (fun _ => 1) (D 7 1).toNat ≠ 0 := hc
    unfold mo_endOf_f7
    rw [ix_in (by omega) (by omega), em, if_neg (by omega), if_neg z]
    rfl
theorem mo_over_eq (hM : AtM D h 0) (w : WF D) (hc : sc D c (fun _ => 1) ≠ 0) : mo_over 132 c h = some (ov D c, h) := by
  have w1 := w.2.1
  have em : h (132 + 1) 13 = D 7 1 := hM.m
  unfold mo_over
  refine it1_find (F := mo_over_f2 132 c) (fun k => (k : Int)) (fun _ => h) (D 7 1).toNat (fun d => D 5 d ≠ c ∧ D 1 d = bg D c ∧ D 2 d = en D c) (fun k x hx hp => ?_) (fun k x hx hp hy => ?_) (fun k hy => ?_) fuel 0 (Nat.zero_le _) (by unfold fuel; omega) (fun y g => absurd g (Nat.not_lt_zero _))
  · obtain ⟨o0, o1, o2, o3, o4⟩ := hM.ofs w (d := (x : Int)) (by omega) (by omega)
    have b55 : mo_over_b55 132 c k x h = k ((x + 1 : Nat) : Int) h := by
      unfold mo_over_b55
      rw [ck_in ⟨by omega, by omega⟩]
      rfl
    unfold mo_over_f2
    rw [ix_in (by omega) (by omega), em, if_pos (by omega), bd_eq o4]
    by_cases q : D 5 x = c
    · rw [if_pos q, b55]
    · rw [if_neg q, bd_eq o0, bd_eq (mo_begin_eq hM w hc)]
      by_cases q2 : D 1 x = bg D c
      · rw [if_pos q2, bd_eq o1, bd_eq (mo_end_eq hM w hc), if_neg (fun z => hp ⟨q, q2, z⟩), b55]
      · rw [if_neg q2, b55]
  · obtain ⟨o0, o1, o2, o3, o4⟩ := hM.ofs w (d := (x : Int)) (by omega) (by omega)
    unfold mo_over_f2
    rw [ix_in (by omega) (by omega), em, if_pos (by omega), bd_eq o4, if_neg hp.1, bd_eq o0, bd_eq (mo_begin_eq hM w hc), if_pos hp.2.1, bd_eq o1, bd_eq (mo_end_eq hM w hc), if_pos hp.2.2]
    unfold ov
    rw [ff_some (P := fun d => D 5 d ≠ c ∧ D 1 d = bg D c ∧ D 2 d = en D c) hp hy hx]
  · unfold mo_over_f2
    rw [ix_in (by omega) (by omega), em, if_neg (by omega)]
    unfold ov
    rw [ff_none hy]
/-- the first dimension of a chain -/
noncomputable def fc (D : Dr) (c : Int) : Int := ff (fun d => D 5 d = c) (D 7 1).toNat
theorem la_laneOfChain_eq (hA : AtC D h 1) (w : WF D) (hl : LANES D (D 7 3) 85 h) (hc : sc D c (fun _ => 1) ≠ 0) : la_laneOfChain 85 1 c h = some (lnD D (D 7 3) (fc D c), h) := by
  have w1 := w.2.1
  obtain ⟨d, d1, d2⟩ := sc_some w1.1 hc
  have e15 : h 85 15 = D 7 1 := hl.1.2.2.2
  unfold la_laneOfChain
  refine it1_find (F := la_laneOfChain_f2 85 1 c) (fun k => (k : Int)) (fun _ => h) (D 7 1).toNat (fun d => D 5 d = c) (fun k x hx hp => ?_) (fun k x hx hp hy => ?_) (fun k hy => ?_) fuel 0 (Nat.zero_le _) (by unfold fuel; omega) (fun y g => absurd g (Nat.not_lt_zero _))
  · have r5 := (hA.rows (d := (x : Int)) (by omega) (by omega)).2.2.2.2.1
    simp only [la_laneOfChain_f2, Nat.reduceAdd]
    rw [e15, if_pos (by omega), ix_in (by omega) (by omega), r5, if_neg hp, ck_in ⟨by omega, by omega⟩]
    rfl
  · have r5 := (hA.rows (d := (x : Int)) (by omega) (by omega)).2.2.2.2.1
    have e4 : h 89 x = lnD D (D 7 3) x := (hl.2.1 x (by omega) (by omega)).2.2.2.1
    simp only [la_laneOfChain_f2, Nat.reduceAdd]
    rw [e15, if_pos (by omega), ix_in (by omega) (by omega), r5, if_pos hp, ix_in (by omega) (by omega), e4]
    unfold fc
    rw [ff_some (P := fun d => D 5 d = c) hp hy hx]
  · refine absurd (show D 5 ((d.toNat : Nat) : Int) = c by rw [Int.toNat_of_nonneg d1.1]; exact d2) (hy d.toNat (by omega))
theorem mo_laneOfChain_wp (hM : AtM D h 0) (w : WF D) (hc : sc D c (fun _ => 1) ≠ 0) : wp (mo_laneOfChain 132 c h) (fun r h' => r = lnD D (D 7 3) (fc D c) ∧ RFr h h') := by
  have w1 := w.2.1
  obtain ⟨d, d1, d2⟩ := sc_some w1.1 hc
  unfold mo_laneOfChain
  refine wp_bd (mo_laysLanes_wp hM w) (fun _ h1 hq => ?_)
  obtain ⟨l, f⟩ := hq
  refine wp_of ?_ ⟨rfl, f⟩
  refine it1_find (F := mo_laneOfChain_f6 132 c) (fun k => (k : Int)) (fun _ => h1) (D 7 1).toNat (fun d => D 5 d = c) (fun k x hx hp => ?_) (fun k x hx hp hy => ?_) (fun k hy => ?_) fuel 0 (Nat.zero_le _) (by unfold fuel; omega) (fun y g => absurd g (Nat.not_lt_zero _))
  · obtain ⟨o0, o1, o2, o3, o4⟩ := l.1.ofs w (d := (x : Int)) (by omega) (by omega)
    unfold mo_laneOfChain_f6
    rw [bd_eq o4, if_neg hp, ck_in ⟨by omega, by omega⟩]
    rfl
  · obtain ⟨o0, o1, o2, o3, o4⟩ := l.1.ofs w (d := (x : Int)) (by omega) (by omega)
    unfold mo_laneOfChain_f6
    rw [bd_eq o4, if_pos hp, bd_eq (l.2 x (by omega) (by omega))]
    unfold fc
    rw [ff_some (P := fun d => D 5 d = c) hp hy hx]
  · refine absurd (show D 5 ((d.toNat : Nat) : Int) = c by rw [Int.toNat_of_nonneg d1.1]; exact d2) (hy d.toNat (by omega))
end MCH

section ASKC
variable {D : Dr} {h : Hp}
theorem bo_gie_eq (w : WF D) (hA : AtC D h 1) (hr : RW D h) {d a b : Int} (hd : 0 ≤ d ∧ d < D 7 1) (ha : 0 ≤ a ∧ a < D 7 0) (hb : 0 ≤ b ∧ b < D 7 0) : bo_greatestIfExact 111 1 d a b h = some (gie D d a b, h) := by
  have w0 := w.1
  have w1 := w.2.1
  have dw := w.dim hd.1 hd.2
  have wc := hA.wf w
  have hf : 0 ≤ D 1 d ∧ D 1 d < D 7 0 := by omega
  have ht : 0 ≤ D 2 d ∧ D 2 d < D 7 0 := by omega
  obtain ⟨r1, r2, -⟩ := hA.2.2 d hd.1 hd.2
  have r1 : h 3 d = D 1 d := r1.symm
  have r2 : h 4 d = D 2 d := r2.symm
  have p1 : h 2 (D 1 d) = D 0 (D 1 d) := (hA.2.1 _ dw.1.1 (by omega)).symm
  have p2 : h 2 (D 2 d) = D 0 (D 2 d) := (hA.2.1 _ (by omega) dw.1.2.2).symm
  have ev : dr_valueOf 1 d h = some (vD D d, h) := by
    have := dr_valueOf_eq wc (d := d) hd.1 (by have := hA.1.2.1; omega)
    rw [show (1 + 3 : Nat) = 4 from rfl, show (1 + 2 : Nat) = 3 from rfl, show (1 + 1 : Nat) = 2 from rfl, r1, r2, p1, p2] at this
    exact this
  have vb : 0 < vD D d ∧ vD D d ≤ 300 := by
    unfold vD
    omega
  have b1 := (dd_b w ha hf).2.2
  have b2 := (dd_b w ht hb).2.2
  have b3 := (dd_b w ha ht).2.2
  have b4 := (dd_b w hf hb).2.2
  simp only [bo_greatestIfExact, Nat.reduceAdd]
  rw [ix_in hd.1 (by omega), ix_in hd.1 (by omega), bd_eq ev, r1, r2, hr a (D 1 d) ha.1 ha.2 hf.1 (by omega), hr (D 2 d) b ht.1 ht.2 hb.1 (by omega), hr a (D 2 d) ha.1 ha.2 ht.1 (by omega), hr (D 1 d) b hf.1 hf.2 hb.1 (by omega), hr a b ha.1 ha.2 hb.1 (by omega)]
  rw [ix_in ha.1 (by omega), ix_in hf.1 (by omega), ck_in ⟨by omega, by omega⟩, ix_in ht.1 (by omega), ix_in hb.1 (by omega), ck_in ⟨by omega, by omega⟩, ix_in ha.1 (by omega), ix_in ht.1 (by omega), ck_in ⟨by omega, by omega⟩, ix_in hf.1 (by omega), ix_in hb.1 (by omega), ck_in ⟨by omega, by omega⟩, ix_in ha.1 (by omega), ix_in hb.1 (by omega)]
  rfl
theorem bo_gain_eq (w : WF D) (hA : AtC D h 1) (hr : RW D h) {d a b : Int} (hd : 0 ≤ d ∧ d < D 7 1) (ha : 0 ≤ a ∧ a < D 7 0) (hb : 0 ≤ b ∧ b < D 7 0) (n : bnd D a b) : bo_gain 111 1 d a b h = some (gn D d a b, h) := by
  have w0 := w.1
  have b1 := (dd_b w ha hb).2.2
  have b2 := (dd_b w hb ha).2.2
  have n2 := bnd_symm w ha hb n
  have g1 : -2000 ≤ gie D d a b ∧ gie D d a b ≤ 1000000 := by
    have dw := w.dim hd.1 hd.2
    have x1 := (dd_b w ha (b := D 1 d) (by omega)).2.2
    have x2 := (dd_b w (a := D 2 d) (by omega) hb).2.2
    have x3 := (dd_b w ha (b := D 2 d) (by omega)).2.2
    have x4 := (dd_b w (a := D 1 d) (by omega) hb).2.2
    unfold gie vD
    omega
  have g2 : -2000 ≤ gie D d b a ∧ gie D d b a ≤ 1000000 := by
    have dw := w.dim hd.1 hd.2
    have x1 := (dd_b w hb (b := D 1 d) (by omega)).2.2
    have x2 := (dd_b w (a := D 2 d) (by omega) ha).2.2
    have x3 := (dd_b w hb (b := D 2 d) (by omega)).2.2
    have x4 := (dd_b w (a := D 1 d) (by omega) ha).2.2
    unfold gie vD
    omega
  simp only [bo_gain, Nat.reduceAdd]
  rw [ix_in ha.1 (by omega), ix_in hb.1 (by omega), bd_eq (bo_gie_eq w hA hr hd ha hb), hr a b ha.1 ha.2 hb.1 (by omega), hr b a hb.1 hb.2 ha.1 (by omega), ck_in ⟨by omega, by omega⟩, ix_in hb.1 (by omega), ix_in ha.1 (by omega), ck_in ⟨by omega, by omega⟩, bd_eq (bo_gie_eq w hA hr hd hb ha), ck_in ⟨by omega, by omega⟩]
  unfold gn
  rw [dx_eq w hd ha hb n, dx_eq w hd hb ha n2]
  exact congrArg (fun z => some (z, h)) (by omega)
noncomputable def aIf (D : Dr) (d a b : Int) : Int := if 0 ≤ d ∧ d < D 7 1 then (if two D a b then (if dd D a b = 1000000 then -999 else gn D d a b) else -1) else -1
theorem dl_ifExact_wp {d a b : Int} (w : WF D) (hA : AtC D h 1) (hF : FR D h) : wp (dl_ifExact 0 d a b h) (fun r h1 => r = aIf D d a b ∧ CFr h h1 ∧ FR D h1) := by
  have em : h 1 8 = D 7 1 := hA.1.2.1.symm
  unfold aIf
  simp only [dl_ifExact, dl_ifExact_b20, dl_ifExact_b56, Nat.reduceAdd]
  rw [bd_eq (dr_hasDimension_eq d), em]
  by_cases q0 : 0 ≤ d ∧ d < D 7 1
  · rw [yn_t q0, if_neg (by decide), if_pos q0, bd_eq (dl_areTwo_eq hA)]
    by_cases q : two D a b
    · rw [yn_t q, if_neg (by decide), if_pos q]
      refine wp_bd (dl_knownBounds_wp hA w hF) (fun _ h3 hq => ?_)
      obtain ⟨l, f1, f2⟩ := hq
      rw [bd_eq (bo_areBound_eq w l.2.1 q.1 q.2.1)]
      by_cases c : dd D a b = 1000000
      · rw [tb_f (fun z => z c), if_pos rfl, if_pos c]
        exact wp_ret ⟨rfl, f1, f2⟩
      · rw [tb_t (show bnd D a b from c), if_neg (by decide), if_neg c, bd_eq (bo_gain_eq w (f1.atc hA) l.2.1 q0 q.1 q.2.1 c)]
        exact wp_ret ⟨rfl, f1, f2⟩
    · rw [yn_f q, if_pos rfl, if_neg q]
      exact wp_ret ⟨rfl, CFr.rfl h, hF⟩
  · rw [yn_f q0, if_pos rfl, if_neg q0]
    exact wp_ret ⟨rfl, CFr.rfl h, hF⟩
/-- the best among the first k -/
noncomputable def crN (D : Dr) (a b : Int) : Nat → Int
  | 0 => -999
  | k + 1 => if crN D a b k = -999 then (k : Int) else if gn D (crN D a b k) a b < gn D k a b then (k : Int) else crN D a b k
theorem crN_b {a b : Int} : ∀ k : Nat, 0 < k → 0 ≤ crN D a b k ∧ crN D a b k < k
  | 0, h => absurd h (Nat.lt_irrefl _)
  | k + 1, _ => by
    unfold crN
    by_cases c : crN D a b k = -999
    · rw [if_pos c]
      omega
    · rw [if_neg c]
      have : 0 < k := by
        rcases Nat.eq_zero_or_pos k with z | z
        · subst z
          exact absurd rfl c
        · exact z
      have := crN_b (a := a) (b := b) k this
      split <;> omega
theorem bnd_dims (w : WF D) {a b : Int} (q : two D a b) (n : bnd D a b) : 0 < D 7 1 := by
  have w1 := w.2.1
  obtain ⟨-, x, -, hx⟩ := (dd_b w q.1 q.2.1).1.resolve_left n
  refine Classical.byContradiction fun z => q.2.2 ?_
  exact (hx.ind (P := fun v _ => v = a) rfl (fun u v x y e _ _ => by
    obtain ⟨d, d1, -⟩ := e
    omega)).symm
noncomputable def aCrit (D : Dr) (a b : Int) : Int := if two D a b then (if dd D a b = 1000000 then -999 else crN D a b (D 7 1).toNat) else -1
theorem dl_critical_wp {a b : Int} (w : WF D) (hA : AtC D h 1) (hF : FR D h) : wp (dl_critical 0 a b h) (fun r h1 => r = aCrit D a b ∧ CFr h h1 ∧ FR D h1) := by
  have w1 := w.2.1
  unfold aCrit
  simp only [dl_critical, dl_critical_b41, Nat.reduceAdd]
  rw [bd_eq (dl_areTwo_eq hA)]
  by_cases q : two D a b
  · rw [yn_t q, if_neg (by decide), if_pos q]
    refine wp_bd (dl_knownBounds_wp hA w hF) (fun _ h3 hq => ?_)
    obtain ⟨l, f1, f2⟩ := hq
    rw [bd_eq (bo_areBound_eq w l.2.1 q.1 q.2.1)]
    by_cases c : dd D a b = 1000000
    · rw [tb_f (fun z => z c), if_pos rfl, if_pos c]
      exact wp_ret ⟨rfl, f1, f2⟩
    · have n : bnd D a b := c
      have m0 := bnd_dims w q n
      have hA3 := f1.atc hA
      rw [tb_t n, if_neg (by decide), if_neg c]
      have e : bo_bestToMakeExact 111 1 a b h3 = some (crN D a b (D 7 1).toNat, h3) := by
        unfold bo_bestToMakeExact
        have key := it2_seq (F := bo_bestToMakeExact_f6 111 1 a b) (fun t => crN D a b (t + 1)) (fun t => (t : Int) + 1) (fun _ => h3) ((D 7 1).toNat - 1) (R := some (crN D a b (D 7 1).toNat, h3)) (fun k t ht => ?_) (fun k => ?_) fuel 0 (Nat.zero_le _) (by unfold fuel; omega)
        · exact key
        · have cb := crN_b (D := D) (a := a) (b := b) (t + 1) (by omega)
          have e : crN D a b (t + 1 + 1) = if crN D a b (t + 1) = -999 then ((t + 1 : Nat) : Int) else if gn D (crN D a b (t + 1)) a b < gn D ((t + 1 : Nat) : Int) a b then ((t + 1 : Nat) : Int) else crN D a b (t + 1) := rfl
          show bo_bestToMakeExact_f6 111 1 a b k (crN D a b (t + 1)) ((t : Int) + 1) h3 = k (crN D a b (t + 1 + 1)) (((t + 1 : Nat) : Int) + 1) h3
          rw [e, if_neg (by omega)]
          unfold bo_bestToMakeExact_f6 bo_bestToMakeExact_b40
          rw [l.1.1, if_pos (by omega), bd_eq (bo_gain_eq w hA3 l.2.1 (d := (t : Int) + 1) (by omega) q.1 q.2.1 n), bd_eq (bo_gain_eq w hA3 l.2.1 (d := crN D a b (t + 1)) (by omega) q.1 q.2.1 n)]
          by_cases c3 : gn D (crN D a b (t + 1)) a b < gn D ((t + 1 : Nat) : Int) a b
          · rw [if_pos c3]
            have c3' : gn D (crN D a b (t + 1)) a b < gn D ((t : Int) + 1) a b := c3
            rw [if_pos c3', ck_in ⟨by omega, by omega⟩]
            rfl
          · rw [if_neg c3]
            have c3' : ¬ gn D (crN D a b (t + 1)) a b < gn D ((t : Int) + 1) a b := c3
            rw [if_neg c3', ck_in ⟨by omega, by omega⟩]
            rfl
        · show bo_bestToMakeExact_f6 111 1 a b k (crN D a b ((D 7 1).toNat - 1 + 1)) ((((D 7 1).toNat - 1 : Nat) : Int) + 1) h3 = _
          unfold bo_bestToMakeExact_f6
          rw [l.1.1, if_neg (by omega), show (D 7 1).toNat - 1 + 1 = (D 7 1).toNat by omega]
      rw [bd_eq e]
      exact wp_ret ⟨rfl, f1, f2⟩
  · rw [yn_f q, if_pos rfl, if_neg q]
    exact wp_ret ⟨rfl, CFr.rfl h, hF⟩
end ASKC

section WIT
noncomputable def wtN (D : Dr) (a p : Int) : Nat → Int
  | 0 => -1
  | k + 1 => if D 1 k = p ∨ D 2 k = p then max (wtN D a p k) (lnD D a k) else wtN D a p k
noncomputable def wt (D : Dr) (a p : Int) : Int := wtN D a p (D 7 1).toNat
/-- the witness line of p crosses d -/
abbrev crs (D : Dr) (a p d : Int) : Prop := lnD D a d < wt D a p ∧ D 1 d < p ∧ p < D 2 d
noncomputable def cPn (D : Dr) (a p : Int) (k : Nat) : Int := sumI (fun d => yn (crs D a p d)) k
noncomputable def cDn (D : Dr) (a d : Int) (k : Nat) : Int := sumI (fun p => yn (crs D a p d)) k
noncomputable def cAn (D : Dr) (a : Int) (k : Nat) : Int := sumI (fun p => cPn D a p (D 7 1).toNat) k
theorem cPn_s {D : Dr} {a p : Int} {k : Nat} : cPn D a p (k + 1) = cPn D a p k + yn (crs D a p k) := rfl
theorem cDn_s {D : Dr} {a d : Int} {k : Nat} : cDn D a d (k + 1) = cDn D a d k + yn (crs D a k d) := rfl
theorem cAn_s {D : Dr} {a : Int} {k : Nat} : cAn D a (k + 1) = cAn D a k + cPn D a k (D 7 1).toNat := rfl
theorem cPn_b {D : Dr} {a p : Int} (k : Nat) : 0 ≤ cPn D a p k ∧ cPn D a p k ≤ k := sum_yn k
theorem cDn_b {D : Dr} {a d : Int} (k : Nat) : 0 ≤ cDn D a d k ∧ cDn D a d k ≤ k := sum_yn k
theorem cAn_b {D : Dr} {a : Int} (hm : 0 ≤ D 7 1 ∧ D 7 1 ≤ 16) (k : Nat) : 0 ≤ cAn D a k ∧ cAn D a k ≤ 16 * k := sumI_le (fun i _ _ => by
  have := cPn_b (D := D) (a := a) (p := i) (D 7 1).toNat
  omega)
theorem wtN_b {D : Dr} {a p : Int} (w : WF D) : ∀ k : Nat, (k : Int) ≤ D 7 1 → -1 ≤ wtN D a p k ∧ wtN D a p k ≤ 300
  | 0, _ => by unfold wtN; omega
  | k + 1, hk => by
    have i := wtN_b (a := a) (p := p) w k (by omega)
    have l := lnD_b (a := a) w (d := (k : Int)) (by omega) (by omega)
    unfold wtN
    split
    · omega
    · exact i
def hfil (h : Hp) (q : Nat) (n v : Int) : Hp := fun c j => if c = q ∧ 0 ≤ j ∧ j < n then v else h c j
theorem ja_fill_eq {h : Hp} {q n : Nat} {v : Int} (hn : n ≤ 200) : ja_fill q n v h = some ((), hfil h q n v) := by
  have e0 : hfil h q ((0 : Nat) : Int) v = h := by
    funext c j
    unfold hfil
    rw [if_neg (by omega)]
  unfold ja_fill
  have key := it2_seq (F := ja_fill_f5 q n v) (fun k => (k : Int)) (fun _ => (n : Int)) (fun k => hfil h q k v) n (R := some ((), hfil h q n v)) (fun k x hx => ?_) (fun k => ?_) fuel 0 (Nat.zero_le _) (by unfold fuel; omega)
  · rw [e0] at key
    exact key
  · unfold ja_fill_f5
    rw [if_pos (by omega), ix_in (by omega) (by omega), lt_eq, ck_in ⟨by omega, by omega⟩]
    have : hu (hfil h q x v) q x v = hfil h q ((x + 1 : Nat) : Int) v := by
      funext c j
      unfold hu hfil
      grind
    rw [this]
    rfl
  · unfold ja_fill_f5
    rw [if_neg (by omega)]
variable {D : Dr} {a : Int} {h : Hp} {th : Nat}
/-- the crossings of p's witness line, over the first x dimensions -/
noncomputable def hcc (D : Dr) (a : Int) (h : Hp) (th : Nat) (p : Int) (x : Nat) : Hp := fun c j =>
  if c = th + 6 ∧ j = p then cPn D a p x
  else if c = th + 5 ∧ 0 ≤ j ∧ j < x then h (th + 5) j + yn (crs D a p j)
  else if c = th ∧ j = 8 then h th 8 + cPn D a p x
  else h c j
theorem la_countCrossings_eq (ha : AtC D h 1) (w : WF D) (hth : 9 ≤ th) {p : Int} (hp : 0 ≤ p ∧ p < D 7 0) (e15 : h th 15 = D 7 1) (e4 : ∀ d, 0 ≤ d → d < D 7 1 → h (th + 4) d = lnD D a d) (e7 : h (th + 7) p = wt D a p) (b5 : ∀ d, 0 ≤ d → d < D 7 1 → 0 ≤ h (th + 5) d ∧ h (th + 5) d ≤ 100) (b8 : 0 ≤ h th 8 ∧ h th 8 ≤ 1000) : la_countCrossings th 1 p h = some ((), hcc D a h th p (D 7 1).toNat) := by
  have w0 := w.1
  have w1 := w.2.1
  have e0 : hu h (th + 6) p 0 = hcc D a h th p 0 := by
    funext c j
    have z : cPn D a p 0 = 0 := rfl
    unfold hcc hu
    rw [z]
    by_cases q : c = th + 6 ∧ j = p
    · rw [if_pos q, if_pos q]
    · rw [if_neg q, if_neg q, if_neg (by omega)]
      by_cases q2 : c = th ∧ j = 8
      · rw [if_pos q2, q2.1, q2.2, Int.add_zero]
      · rw [if_neg q2]
  unfold la_countCrossings
  rw [ix_in hp.1 (by omega), lt_eq, e0]
  refine it1_seq (F := la_countCrossings_f9 th 1 p) (fun k => (k : Int)) (fun k => hcc D a h th p k) (D 7 1).toNat (fun k x hx => ?_) (fun k => ?_) fuel 0 (Nat.zero_le _) (by unfold fuel; omega)
  · have cb := cPn_b (D := D) (a := a) (p := p) x
    have hx' : 0 ≤ (x : Int) ∧ (x : Int) < D 7 1 := by omega
    have d1 : hcc D a h th p x 3 x = D 1 x := by
      unfold hcc
      rw [if_neg (by omega), if_neg (by omega), if_neg (by omega)]
      exact (ha.2.2 x hx'.1 hx'.2).1.symm
    have d2 : hcc D a h th p x 4 x = D 2 x := by
      unfold hcc
      rw [if_neg (by omega), if_neg (by omega), if_neg (by omega)]
      exact (ha.2.2 x hx'.1 hx'.2).2.1.symm
    have d15 : hcc D a h th p x th 15 = D 7 1 := by
      unfold hcc
      rw [if_neg (by omega), if_neg (by omega), if_neg (by omega)]
      exact e15
    have d4 : hcc D a h th p x (th + 4) x = lnD D a x := by
      unfold hcc
      rw [if_neg (by omega), if_neg (by omega), if_neg (by omega)]
      exact e4 x hx'.1 hx'.2
    have d7 : hcc D a h th p x (th + 7) p = wt D a p := by
      unfold hcc
      rw [if_neg (by omega), if_neg (by omega), if_neg (by omega)]
      exact e7
    have d6 : hcc D a h th p x (th + 6) p = cPn D a p x := by
      unfold hcc
      rw [if_pos ⟨rfl, rfl⟩]
    have d5 : hcc D a h th p x (th + 5) x = h (th + 5) x := by
      unfold hcc
      rw [if_neg (by omega), if_neg (by omega), if_neg (by omega)]
    have d8 : hcc D a h th p x th 8 = h th 8 + cPn D a p x := by
      unfold hcc
      rw [if_neg (by omega), if_neg (by omega), if_pos ⟨rfl, rfl⟩]
    have b5' := b5 x hx'.1 hx'.2
    have same : ¬ crs D a p x → hcc D a h th p x = hcc D a h th p (x + 1) := fun q => by
      funext c j
      unfold hcc
      rw [cPn_s, yn_f q, Int.add_zero]
      by_cases c6 : c = th + 6 ∧ j = p
      · rw [if_pos c6, if_pos c6]
      · rw [if_neg c6, if_neg c6]
        by_cases c5 : c = th + 5 ∧ 0 ≤ j ∧ j < x
        · rw [if_pos c5, if_pos ⟨c5.1, c5.2.1, by omega⟩]
        · rw [if_neg c5]
          by_cases c5' : c = th + 5 ∧ 0 ≤ j ∧ j < ((x + 1 : Nat) : Int)
          · have ej : j = x := by omega
            rw [if_pos c5', if_neg (by omega), ej, yn_f q, Int.add_zero, c5'.1]
          · rw [if_neg c5']
    simp only [la_countCrossings_f9, la_countCrossings_b82, Nat.reduceAdd]
    rw [d15, if_pos hx'.2, ix_in hx'.1 (by omega), ix_in hp.1 (by omega), d4, d7]
    by_cases q1 : lnD D a x < wt D a p
    · rw [if_pos q1, ix_in hx'.1 (by omega), d1]
      by_cases q2 : D 1 x < p
      · rw [if_pos q2, ix_in hx'.1 (by omega), d2]
        by_cases q3 : p < D 2 x
        · have q : crs D a p x := ⟨q1, q2, q3⟩
          rw [if_pos q3, ix_in hp.1 (by omega), d6, ck_in ⟨by omega, by omega⟩, ix_in hp.1 (by omega), lt_eq, ix_in hx'.1 (by omega)]
          have f5 : hu (hcc D a h th p x) (th + 6) p (cPn D a p x + 1) (th + 5) x = h (th + 5) x := by rw [hu_o (by omega), d5]
          rw [f5, ck_in ⟨by omega, by omega⟩, ix_in hx'.1 (by omega), lt_eq]
          have f8 : hu (hu (hcc D a h th p x) (th + 6) p (cPn D a p x + 1)) (th + 5) x (h (th + 5) x + 1) th 8 = h th 8 + cPn D a p x := by rw [hu_o (by omega), hu_o (by omega), d8]
          rw [f8, ck_in ⟨by omega, by omega⟩, lt_eq, ck_in ⟨by omega, by omega⟩]
          have fin : hu (hu (hu (hcc D a h th p x) (th + 6) p (cPn D a p x + 1)) (th + 5) x (h (th + 5) x + 1)) th 8 (h th 8 + cPn D a p x + 1) = hcc D a h th p (x + 1) := by
            funext c j
            unfold hcc hu
            rw [cPn_s, yn_t q]
            by_cases c8 : c = th
            · subst c8
              by_cases j8 : j = 8
              · subst j8
                simp
                omega
              · simp [j8]
            · by_cases c5 : c = th + 5
              · subst c5
                by_cases jx : j = x
                · subst jx
                  simp [yn_t q]
                  omega
                · by_cases c5' : 0 ≤ j ∧ j < x
                  · simp [jx, c5']
                    omega
                  · simp [jx]
                    omega
              · by_cases c6 : c = th + 6
                · subst c6
                  by_cases jp : j = p
                  · simp [jp]
                  · simp [jp]
                · simp [c8, c5, c6]
          rw [fin]
          rfl
        · rw [if_neg q3, ck_in ⟨by omega, by omega⟩, same (fun z => q3 z.2.2)]
          rfl
      · rw [if_neg q2, ck_in ⟨by omega, by omega⟩, same (fun z => q2 z.2.1)]
        rfl
    · rw [if_neg q1, ck_in ⟨by omega, by omega⟩, same (fun z => q1 z.1)]
      rfl
  · have d15 : hcc D a h th p (D 7 1).toNat th 15 = D 7 1 := by
      unfold hcc
      rw [if_neg (by omega), if_neg (by omega), if_neg (by omega)]
      exact e15
    unfold la_countCrossings_f9
    rw [d15, if_neg (by omega)]
/-- how high p's witness line goes, over the first k dimensions -/
noncomputable def htp (D : Dr) (a : Int) (h : Hp) (th : Nat) (p : Int) (k : Nat) : Hp := hu h (th + 7) p (wtN D a p k)
theorem draw_in (ha : AtC D h 1) (w : WF D) (hth : 9 ≤ th) {p : Int} (hp : 0 ≤ p ∧ p < D 7 0) (e15 : h th 15 = D 7 1) (e4 : ∀ d, 0 ≤ d → d < D 7 1 → h (th + 4) d = lnD D a d) (b5 : ∀ d, 0 ≤ d → d < D 7 1 → 0 ≤ h (th + 5) d ∧ h (th + 5) d ≤ 100) (b8 : 0 ≤ h th 8 ∧ h th 8 ≤ 1000) (k15 : Int → Hp → O Unit) : la_drawWitnessLines_f15 th 1 k15 p h = k15 (p + 1) (hcc D a (htp D a h th p (D 7 1).toNat) th p (D 7 1).toNat) := by
  have w0 := w.1
  have w1 := w.2.1
  have en : h 1 7 = D 7 0 := ha.1.1.symm
  simp only [la_drawWitnessLines_f15, Nat.reduceAdd]
  rw [en, if_pos hp.2, ix_in hp.1 (by omega), lt_eq]
  refine it2_seq (F := la_drawWitnessLines_f32 th 1 k15) (fun _ => p) (fun k => (k : Int)) (fun k => htp D a h th p k) (D 7 1).toNat (fun k x hx => ?_) (fun k => ?_) fuel 0 (Nat.zero_le _) (by unfold fuel; omega)
  · have hx' : 0 ≤ (x : Int) ∧ (x : Int) < D 7 1 := by omega
    have wb := wtN_b (a := a) (p := p) w x (by omega)
    have lb := lnD_b (a := a) w hx'.1 hx'.2
    have d15 : htp D a h th p x th 15 = D 7 1 := by
      unfold htp
      rw [hu_o (by omega), e15]
    have d1 : htp D a h th p x 3 x = D 1 x := by
      unfold htp
      rw [hu_o (by omega)]
      exact (ha.2.2 x hx'.1 hx'.2).1.symm
    have d2 : htp D a h th p x 4 x = D 2 x := by
      unfold htp
      rw [hu_o (by omega)]
      exact (ha.2.2 x hx'.1 hx'.2).2.1.symm
    have d4 : htp D a h th p x (th + 4) x = lnD D a x := by
      unfold htp
      rw [hu_o (by omega), e4 x hx'.1 hx'.2]
    have d7 : htp D a h th p x (th + 7) p = wtN D a p x := hu_s
    have e : wtN D a p (x + 1) = if D 1 x = p ∨ D 2 x = p then max (wtN D a p x) (lnD D a x) else wtN D a p x := rfl
    unfold la_drawWitnessLines_f32 la_drawWitnessLines_b70
    rw [d15, if_pos hx'.2, bd_eq (dr_isEnd_eq hx'.1 (by omega) p), show (1 + 2 : Nat) = 3 from rfl, show (1 + 3 : Nat) = 4 from rfl, d1, d2]
    by_cases q : D 1 x = p ∨ D 2 x = p
    · rw [yn_t q, if_neg (by decide), ix_in hp.1 (by omega), ix_in hx'.1 (by omega), ix_in hp.1 (by omega), lt_eq, ck_in ⟨by omega, by omega⟩, d7, d4]
      have : hu (htp D a h th p x) (th + 7) p (max (wtN D a p x) (lnD D a x)) = htp D a h th p (x + 1) := by
        unfold htp
        rw [hu_hu, e, if_pos q]
      rw [this]
      rfl
    · rw [yn_f q, if_pos rfl, ck_in ⟨by omega, by omega⟩]
      have : htp D a h th p x = htp D a h th p (x + 1) := by
        unfold htp
        rw [e, if_neg q]
      rw [← this]
      rfl
  · have c1 : ∀ j c, c ≠ th + 7 → htp D a h th p (D 7 1).toNat c j = h c j := fun j c n => by
      unfold htp
      rw [hu_o n]
    have hA : AtC D (htp D a h th p (D 7 1).toNat) 1 := ha.keep (fun c g0 g1 => funext fun j => c1 j c (by omega))
    unfold la_drawWitnessLines_f32
    rw [c1 15 th (by omega), e15, if_neg (by omega), bd_eq (la_countCrossings_eq hA w hth hp (by rw [c1 15 th (by omega), e15]) (fun d d0 d1 => by rw [c1 d _ (by omega)]; exact e4 d d0 d1) (by unfold htp; exact hu_s) (fun d d0 d1 => by rw [c1 d _ (by omega)]; exact b5 d d0 d1) (by rw [c1 8 th (by omega)]; exact b8)), ck_in ⟨by omega, by omega⟩]
end WIT

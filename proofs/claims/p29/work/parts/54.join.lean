section JOIN
variable {D : Dr} {h : Hp}
def v0 (D : Dr) (d : Int) : Int := D 0 (D 1 d)
def v1 (D : Dr) (d : Int) : Int := D 0 (D 2 d)
/-- one more dimension joins its unit -/
def hju (D : Dr) (h : Hp) (th : Nat) (d : Int) : Hp := fun c j =>
  if c = th + 8 ∧ j = d then ld D d
  else if c = th + 9 ∧ j = ld D d then (if ld D d = d then v0 D d else min (h (th + 9) (ld D d)) (v0 D d))
  else if c = th + 10 ∧ j = ld D d then (if ld D d = d then v1 D d else max (h (th + 10) (ld D d)) (v1 D d))
  else if c = th + 11 ∧ j = ld D d then (if ld D d = d then D 6 d else max (h (th + 11) (ld D d)) (D 6 d))
  else if c = th + 12 ∧ j = h th 6 ∧ ld D d = d then d
  else if c = th ∧ j = 6 ∧ ld D d = d then h th 6 + 1
  else h c j
theorem la_joinUnit_eq (ha : AtC D h 1) (w : WF D) {th : Nat} (hth : 9 ≤ th) {d : Int} (h0 : 0 ≤ d) (h1 : d < D 7 1) (hu6 : 0 ≤ h th 6 ∧ h th 6 < 16) : la_joinUnit th 1 d h = some ((), hju D h th d) := by
  have wd := w.dim h0 h1
  have w0 := w.1
  have w1 := w.2.1
  obtain ⟨r1, r2, -, -, -, r6⟩ := ha.2.2 d h0 h1
  have r1 : h 3 d = D 1 d := r1.symm
  have r2 : h 4 d = D 2 d := r2.symm
  have r6 : h 8 d = D 6 d := r6.symm
  have p1 : h 2 (D 1 d) = D 0 (D 1 d) := (ha.2.1 _ wd.1.1 (by omega)).symm
  have p2 : h 2 (D 2 d) = D 0 (D 2 d) := (ha.2.1 _ (by omega) wd.1.2.2).symm
  have lb := (ld_is (D := D) h0).1
  simp only [la_joinUnit, Nat.reduceAdd]
  rw [ix_in h0 (by omega), r1, ix_in (by omega) (by omega), ix_in h0 (by omega), r2, ix_in (by omega) (by omega), bd_eq (la_leaderOf_eq ha w h0 h1), ix_in h0 (by omega), lt_eq, p1, p2]
  by_cases q : ld D d = d
  · rw [if_pos q, ix_in h0 (by omega), lt_eq, ix_in h0 (by omega), lt_eq, ix_in h0 (by omega), ix_in h0 (by omega), lt_eq]
    have a8 : ∀ x y z, hu (hu (hu h (th + 8) d x) (th + 9) d y) (th + 10) d z 8 d = D 6 d := fun x y z => by
      rw [hu_o (by omega), hu_o (by omega), hu_o (by omega), r6]
    have a6 : ∀ x y z t, hu (hu (hu (hu h (th + 8) d x) (th + 9) d y) (th + 10) d z) (th + 11) d t th 6 = h th 6 := fun x y z t => by
      rw [hu_o (by omega), hu_o (by omega), hu_o (by omega), hu_o (by omega)]
    have a7 : ∀ x y z t u, hu (hu (hu (hu (hu h (th + 8) d x) (th + 9) d y) (th + 10) d z) (th + 11) d t) (th + 12) (h th 6) u th 6 = h th 6 := fun x y z t u => by
      rw [hu_o (by omega), a6]
    rw [a8, a6, ix_in hu6.1 hu6.2, lt_eq, a7, ck_in ⟨by omega, by omega⟩, lt_eq, q]
    refine congrArg (fun z => some ((), z)) ?_
    funext c j
    unfold hju v0 v1
    rw [q]
    unfold hu
    by_cases c8 : c = th + 8
    · subst c8; simp
    · by_cases c9 : c = th + 9
      · subst c9; simp
      · by_cases c10 : c = th + 10
        · subst c10; simp
        · by_cases c11 : c = th + 11
          · subst c11; simp
          · by_cases c12 : c = th + 12
            · subst c12; simp
            · simp [c8, c9, c10, c11, c12]
  · have x9 : ∀ x, hu h (th + 8) d x (th + 9) (ld D d) = h (th + 9) (ld D d) := fun x => by rw [hu_o (by omega)]
    have x10 : ∀ x y, hu (hu h (th + 8) d x) (th + 9) (ld D d) y (th + 10) (ld D d) = h (th + 10) (ld D d) := fun x y => by rw [hu_o (by omega), hu_o (by omega)]
    have x11 : ∀ x y z, hu (hu (hu h (th + 8) d x) (th + 9) (ld D d) y) (th + 10) (ld D d) z (th + 11) (ld D d) = h (th + 11) (ld D d) := fun x y z => by rw [hu_o (by omega), hu_o (by omega), hu_o (by omega)]
    have x8 : ∀ x y z, hu (hu (hu h (th + 8) d x) (th + 9) (ld D d) y) (th + 10) (ld D d) z 8 d = D 6 d := fun x y z => by rw [hu_o (by omega), hu_o (by omega), hu_o (by omega), r6]
    rw [if_neg q, ix_in lb.1 (by omega), ix_in lb.1 (by omega), lt_eq, x9, ix_in lb.1 (by omega), ix_in lb.1 (by omega), lt_eq, x10, ix_in lb.1 (by omega), ix_in h0 (by omega), ix_in lb.1 (by omega), lt_eq, x11, x8]
    refine congrArg (fun z => some ((), z)) ?_
    funext c j
    unfold hju v0 v1 hu
    by_cases c8 : c = th + 8
    · subst c8; simp
    · by_cases c9 : c = th + 9
      · subst c9; simp [q]
      · by_cases c10 : c = th + 10
        · subst c10; simp [q]
        · by_cases c11 : c = th + 11
          · subst c11; simp [q]
          · simp [c8, c9, c10, c11, q]
end JOIN

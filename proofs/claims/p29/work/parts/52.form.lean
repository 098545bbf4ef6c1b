section FORM
def vD (D : Dr) (d : Int) : Int := D 0 (D 2 d) - D 0 (D 1 d)
def dgs (v : Int) : Int := if 99 < v then 3 else if 9 < v then 2 else 1
def wD (D : Dr) (d : Int) : Int := D 7 2 * dgs (vD D d)
def fD (D : Dr) (a d : Int) : Int := if vD D d < wD D d + 2 * a then (if vD D d < wD D d then 2 else 1) else 0
def bD (D : Dr) (a d : Int) : Int := D 0 (D 1 d) - (if fD D a d = 0 then 0 else a)
def eD (D : Dr) (a d : Int) : Int := D 0 (D 2 d) + (if fD D a d = 0 then 0 else a) + (if fD D a d = 2 then wD D d else 0)
variable {D : Dr} {h : Hp}
theorem WF.dim (w : WF D) {d : Int} (h0 : 0 ≤ d) (h1 : d < D 7 1) : (0 ≤ D 1 d ∧ D 1 d < D 2 d ∧ D 2 d < D 7 0) ∧ (0 ≤ D 0 (D 1 d) ∧ D 0 (D 1 d) < D 0 (D 2 d) ∧ D 0 (D 2 d) ≤ 300) := by
  have a := (w.2.2.2.2.2.2 d h0 h1).1
  have b := w.2.2.2.2.1 (D 1 d) a.1 (by omega)
  have c := w.2.2.2.2.1 (D 2 d) (by omega) a.2.2
  have e := w.2.2.2.2.2.1 (D 1 d) (D 2 d) a.1 a.2.1 a.2.2
  omega
theorem dgs_b (v : Int) : 1 ≤ dgs v ∧ dgs v ≤ 3 := by unfold dgs; split <;> (try split) <;> omega
theorem WF.wD (w : WF D) (d : Int) : 1 ≤ wD D d ∧ wD D d ≤ 27 := by
  have a := dgs_b (vD D d)
  have b := w.2.2.1
  show 1 ≤ D 7 2 * dgs (vD D d) ∧ D 7 2 * dgs (vD D d) ≤ 27
  rcases (by omega : dgs (vD D d) = 1 ∨ dgs (vD D d) = 2 ∨ dgs (vD D d) = 3) with e | e | e <;> rw [e] <;> omega
/-- form, begin and end of a dimension in a lanes' rows -/
def hmes (h : Hp) (th : Nat) (d f b e : Int) : Hp := hu (hu (hu h (th + 1) d f) (th + 2) d b) (th + 3) d e
theorem hmes_c {h : Hp} {th : Nat} {d f b e : Int} : hu (hu (hu h (th + 2) d b) (th + 3) d e) (th + 1) d f = hmes h th d f b e := by
  funext c j
  unfold hmes hu
  by_cases q1 : c = th + 1
  · subst q1; simp
  · by_cases q2 : c = th + 2
    · subst q2; simp
    · simp [q1, q2]
theorem la_digitsOf_eq (v : Int) : la_digitsOf v h = some (dgs v, h) := by
  unfold la_digitsOf la_digitsOf_b19 dgs
  by_cases q : v < 100
  · rw [if_pos q, if_neg (show ¬ 99 < v by omega)]
    by_cases q2 : v < 10
    · rw [if_pos q2, if_neg (show ¬ 9 < v by omega)]
    · rw [if_neg q2, if_pos (show 9 < v by omega)]
  · rw [if_neg q, if_pos (by omega)]
theorem b89_eq {th : Nat} {d a x s P Q : Int} (hd : 0 ≤ d ∧ d < 16) (ha : 1 ≤ a ∧ a ≤ 9) (hx : 0 ≤ x ∧ x ≤ 27) (hP : 0 ≤ P ∧ P ≤ 300) (hQ : 0 ≤ Q ∧ Q ≤ 300) : la_measure_b89 th 1 d a x s d (hu (hu h (th + 2) d P) (th + 3) d Q) = some ((), hmes h th d s (P - a) (if s = 1 then Q + a else Q + (a + x))) := by
  unfold la_measure_b89 la_measure_b125
  have e2 : hu (hu (hu h (th + 2) d P) (th + 3) d Q) (th + 1) d s (th + 2) d = P := by
    rw [hu_o (by omega), hu_o (by omega), hu_s]
  have e3 : hu (hu (hu (hu h (th + 2) d P) (th + 3) d Q) (th + 1) d s) (th + 2) d (P - a) (th + 3) d = Q := by
    rw [hu_o (by omega), hu_o (by omega), hu_s]
  have e1 : hu (hu (hu (hu h (th + 2) d P) (th + 3) d Q) (th + 1) d s) (th + 2) d (P - a) (th + 1) d = s := by
    rw [hu_o (by omega), hu_s]
  have fin : ∀ v, hu (hu (hu (hu (hu h (th + 2) d P) (th + 3) d Q) (th + 1) d s) (th + 2) d (P - a)) (th + 3) d v = hmes h th d s (P - a) v := fun v => by
    funext c j
    unfold hmes hu
    by_cases q1 : c = th + 1
    · subst q1; simp
    · by_cases q2 : c = th + 2
      · subst q2; simp; grind
      · by_cases q3 : c = th + 3
        · subst q3; simp; grind
        · simp [q1, q2, q3]
  rw [ix_in hd.1 hd.2, lt_eq, ix_in hd.1 hd.2, e2, ck_in ⟨by omega, by omega⟩, ix_in hd.1 hd.2, lt_eq, ix_in hd.1 hd.2, ix_in hd.1 hd.2, e1, e3]
  by_cases q : s = 1
  · rw [if_pos q, if_pos q, ck_in ⟨by omega, by omega⟩, ix_in hd.1 hd.2, lt_eq, fin]
  · rw [if_neg q, if_neg q, ck_in ⟨by omega, by omega⟩, ck_in ⟨by omega, by omega⟩, ix_in hd.1 hd.2, lt_eq, fin]
theorem la_measure_eq (ha : AtC D h 1) (w : WF D) {th : Nat} (hth : 9 ≤ th) {d a : Int} (h0 : 0 ≤ d) (h1 : d < D 7 1) (ab : 1 ≤ a ∧ a ≤ 9) : la_measure th 1 d a h = some ((), hmes h th d (fD D a d) (bD D a d) (eD D a d)) := by
  have wd := w.dim h0 h1
  have w0 := w.1
  have w1 := w.2.1
  have wb := w.wD d
  have wc := ha.wf w
  obtain ⟨r1, r2, -⟩ := ha.2.2 d h0 h1
  have r1 : h 3 d = D 1 d := r1.symm
  have r2 : h 4 d = D 2 d := r2.symm
  have p1 : h 2 (D 1 d) = D 0 (D 1 d) := (ha.2.1 _ wd.1.1 (by omega)).symm
  have p2 : h 2 (D 2 d) = D 0 (D 2 d) := (ha.2.1 _ (by omega) wd.1.2.2).symm
  have el : h 1 9 = D 7 2 := ha.1.2.2.1.symm
  have ev : dr_valueOf 1 d h = some (vD D d, h) := by
    have := dr_valueOf_eq wc (d := d) h0 (by have := ha.1.2.1; omega)
    rw [show (1 + 3 : Nat) = 4 from rfl, show (1 + 2 : Nat) = 3 from rfl, show (1 + 1 : Nat) = 2 from rfl, r1, r2, p1, p2] at this
    exact this
  have ew : D 7 2 * dgs (vD D d) = wD D d := rfl
  simp only [la_measure, Nat.reduceAdd]
  rw [bd_eq ev, bd_eq (la_digitsOf_eq _), el, ew, ck_in ⟨by omega, by omega⟩, ix_in h0 (by omega), r1, ix_in (by omega) (by omega), ix_in h0 (by omega), lt_eq, p1, ix_in h0 (by omega), hu_o (by omega), r2, ix_in (by omega) (by omega), ix_in h0 (by omega), lt_eq, hu_o (by omega), p2, ck_in ⟨by omega, by omega⟩, ck_in ⟨by omega, by omega⟩]
  have hin : 0 ≤ d ∧ d < 16 := by omega
  by_cases q : vD D d < wD D d + 2 * a
  · rw [if_pos q]
    by_cases q2 : vD D d < wD D d
    · have ef : fD D a d = 2 := by unfold fD; rw [if_pos q, if_pos q2]
      rw [if_pos q2, b89_eq ⟨h0, hin.2⟩ (by omega) (by omega) (by omega) (by omega)]
      unfold bD eD
      rw [ef]
      simp [Int.add_assoc]
    · have ef : fD D a d = 1 := by unfold fD; rw [if_pos q, if_neg q2]
      rw [if_neg q2, b89_eq ⟨h0, hin.2⟩ (by omega) (by omega) (by omega) (by omega)]
      unfold bD eD
      rw [ef]
      simp
  · have ef : fD D a d = 0 := by unfold fD; rw [if_neg q]
    rw [if_neg q, ix_in h0 (by omega), lt_eq, hmes_c]
    unfold bD eD
    rw [ef]
    simp
end FORM

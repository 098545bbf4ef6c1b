section SEQ
/-- the lane a unit must lie in or above: over the first k dimensions -/
def lbr (D : Dr) (p l : Int → Int) (u : Int) : Nat → Int
  | 0 => uL D u
  | k + 1 => if ld D k = k ∧ p k = 1 ∧ (uS D u ≤ uS D k ∧ uT D k ≤ uT D u) ∧ lbr D p l u k ≤ l k then l k + 1 else lbr D p l u k
def tk (D : Dr) (a : Int) (p l : Int → Int) (u x : Int) : Prop := ∃ d : Nat, d < (D 7 1).toNat ∧ ld D d = u ∧ ∃ e : Nat, e < (D 7 1).toNat ∧ (p (ld D e) = 1 ∧ l (ld D e) = x) ∧ bD D a d ≤ eD D a e ∧ bD D a e ≤ eD D a d
/-- which units are laid, and where, after i of them -/
noncomputable def aS (D : Dr) (a : Int) : Nat → (Int → Int) × (Int → Int)
  | 0 => (fun _ => 0, fun _ => 0)
  | i + 1 => (fun x => if x = nu D (aS D a i).1 (uS D) (uT D) (D 7 1).toNat then 1 else (aS D a i).1 x, fun x => if x = nu D (aS D a i).1 (uS D) (uT D) (D 7 1).toNat then sr (tk D a (aS D a i).1 (aS D a i).2 (nu D (aS D a i).1 (uS D) (uT D) (D 7 1).toNat)) (lbr D (aS D a i).1 (aS D a i).2 (nu D (aS D a i).1 (uS D) (uT D) (D 7 1).toNat) (D 7 1).toNat) i else (aS D a i).2 x)
noncomputable def aP (D : Dr) (a : Int) (i : Nat) : Int → Int := (aS D a i).1
noncomputable def aL (D : Dr) (a : Int) (i : Nat) : Int → Int := (aS D a i).2
noncomputable def aU (D : Dr) (a : Int) (i : Nat) : Int := nu D (aP D a i) (uS D) (uT D) (D 7 1).toNat
noncomputable def aB (D : Dr) (a : Int) (i : Nat) : Int := lbr D (aP D a i) (aL D a i) (aU D a i) (D 7 1).toNat
noncomputable def aZ (D : Dr) (a : Int) (i : Nat) : Int := sr (tk D a (aP D a i) (aL D a i) (aU D a i)) (aB D a i) i
variable {D : Dr} {a : Int}
theorem aP_s {i : Nat} : aP D a (i + 1) = fun x => if x = aU D a i then 1 else aP D a i x := rfl
theorem aL_s {i : Nat} : aL D a (i + 1) = fun x => if x = aU D a i then aZ D a i else aL D a i x := rfl
theorem aP_z : ∀ (i : Nat) (x : Int), aP D a i x = 0 ∨ aP D a i x = 1
  | 0, _ => Or.inl rfl
  | i + 1, x => by
    rw [aP_s]
    show (if x = aU D a i then 1 else aP D a i x) = 0 ∨ (if x = aU D a i then 1 else aP D a i x) = 1
    split
    · exact Or.inr rfl
    · exact aP_z i x
theorem lbr_b {p l : Int → Int} {u lo hi : Int} (h0 : lo ≤ uL D u ∧ uL D u ≤ hi) : ∀ k : Nat, (∀ v : Int, 0 ≤ v → v < k → ld D v = v → p v = 1 → lo ≤ l v + 1 ∧ l v + 1 ≤ hi) → lo ≤ lbr D p l u k ∧ lbr D p l u k ≤ hi
  | 0, _ => h0
  | k + 1, h => by
    have i := lbr_b (p := p) (l := l) h0 k (fun v a b => h v a (by omega))
    unfold lbr
    by_cases q : ld D k = k ∧ p k = 1 ∧ (uS D u ≤ uS D k ∧ uT D k ≤ uT D u) ∧ lbr D p l u k ≤ l k
    · rw [if_pos q]; exact h k (by omega) (by omega) q.1 q.2.1
    · rw [if_neg q]; exact i
theorem aU_is {i : Nat} (w : WF D) (hc : cnt D (aP D a i) = i) (hi : (i : Int) < uc D (D 7 1).toNat) : (0 ≤ aU D a i ∧ aU D a i < D 7 1) ∧ ld D (aU D a i) = aU D a i ∧ aP D a i (aU D a i) = 0 ∧ ∀ u, 0 ≤ u → u < D 7 1 → ld D u = u → aP D a i u = 0 → u ≠ aU D a i → bf (uS D) (uT D) (aU D a i) u := by
  have w1 := w.2.1
  obtain ⟨u, u1, u2, u3⟩ := cnt_not w1.1 (aP_z (D := D) (a := a) i) (by omega)
  rcases nu_is (D := D) (pl := aP D a i) (S := uS D) (T := uT D) (D 7 1).toNat with z | z
  · exact absurd u3 (z.2 u u1.1 (by omega) u2)
  · obtain ⟨z1, z2, z3, z4⟩ := z
    refine ⟨⟨z1.1, ?_⟩, z2, z3, fun v a b => z4 v a (by omega)⟩
    have := z1.2
    show nu D (aP D a i) (uS D) (uT D) (D 7 1).toNat < D 7 1
    omega
theorem aS_is (w : WF D) : ∀ i : Nat, (i : Int) ≤ uc D (D 7 1).toNat → cnt D (aP D a i) = i ∧ ∀ v, 0 ≤ v → v < D 7 1 → ld D v = v → aP D a i v = 1 → 0 ≤ aL D a i v ∧ aL D a i v ≤ 9 + 17 * i
  | 0, _ => by
    refine ⟨?_, fun v _ _ _ z => by exact absurd z (by decide : ¬ (0 : Int) = 1)⟩
    show sumI (fun u => yn (ld D u = u ∧ (0 : Int) = 1)) _ = 0
    have : ∀ n : Nat, sumI (fun u => yn (ld D u = u ∧ (0 : Int) = 1)) n = 0 := fun n => by
      induction n with
      | zero => rfl
      | succ n ih => rw [sumI_s, ih, yn_f (by omega)]; rfl
    exact this _
  | i + 1, hi => by
    have w1 := w.2.1
    have ub := uc_b (D := D) (D 7 1).toNat
    obtain ⟨i1, i2⟩ := aS_is w i (by omega)
    obtain ⟨u1, u2, u3, u4⟩ := aU_is w i1 (by omega)
    refine ⟨?_, fun v v0 v1 v2 v3 => ?_⟩
    · rw [aP_s, cnt_upd w1.1 u1.1 u1.2 u2 u3, i1]; omega
    · rw [aP_s] at v3
      rw [aL_s]
      show 0 ≤ (if v = aU D a i then aZ D a i else aL D a i v) ∧ (if v = aU D a i then aZ D a i else aL D a i v) ≤ _
      by_cases q : v = aU D a i
      · rw [if_pos q]
        have s := (sr_is (P := tk D a (aP D a i) (aL D a i) (aU D a i)) (l := aB D a i) i).1
        have uu := (w.uST u1.1 u1.2).2.2
        have b : 0 ≤ aB D a i ∧ aB D a i ≤ 10 + 17 * (i : Int) := lbr_b (p := aP D a i) (l := aL D a i) (by omega) _ (fun v a b c d => by
          have := i2 v a (by omega) c d
          omega)
        have : aZ D a i = sr (tk D a (aP D a i) (aL D a i) (aU D a i)) (aB D a i) i := rfl
        omega
      · rw [if_neg q]
        have v3' : (if v = aU D a i then 1 else aP D a i v) = 1 := v3
        rw [if_neg q] at v3'
        have := i2 v v0 v1 v2 v3'
        omega
/-- the lane found is free -/
theorem aZ_free (w : WF D) {i : Nat} (hi : (i : Int) < uc D (D 7 1).toNat) : ¬ tk D a (aP D a i) (aL D a i) (aU D a i) (aZ D a i) := by
  intro q
  have w1 := w.2.1
  obtain ⟨i1, i2⟩ := aS_is (a := a) w i (by omega)
  obtain ⟨s1, s2, s3⟩ := sr_is (P := tk D a (aP D a i) (aL D a i) (aU D a i)) (l := aB D a i) i
  have ez : aZ D a i = sr (tk D a (aP D a i) (aL D a i) (aU D a i)) (aB D a i) i := rfl
  rw [← ez] at s1 s2 s3
  have e : ¬ aZ D a i < aB D a i + i := fun z => s3 z q
  have := pig w1.1 (l := aL D a i) (x := aB D a i) (i + 1) (aP D a i) (fun t ht => by
    have ht' : tk D a (aP D a i) (aL D a i) (aU D a i) (aB D a i + t) := by
      by_cases z : t = i
      · rw [show aB D a i + (t : Int) = aZ D a i by omega]; exact q
      · exact s2 _ (by omega) (by omega)
    obtain ⟨d, d1, d2, x, x1, x2, -⟩ := ht'
    have lx := (ld_is (D := D) (d := (x : Int)) (by omega)).1
    exact ⟨ld D x, ⟨lx.1, by omega⟩, ld_ld (by omega), x2.1, x2.2⟩)
  omega
/-- all units are laid in the end -/
theorem aP_end (w : WF D) {u : Int} (h0 : 0 ≤ u) (h1 : u < D 7 1) (hu : ld D u = u) : aP D a (uc D (D 7 1).toNat).toNat u = 1 := by
  have ub := uc_b (D := D) (D 7 1).toNat
  have i1 := (aS_is (a := a) w (uc D (D 7 1).toNat).toNat (by omega)).1
  exact cnt_full w.2.1.1 (aP_z _) (by omega) h0 h1 hu
theorem aU_end (w : WF D) : aU D a (uc D (D 7 1).toNat).toNat = -999 := by
  have w1 := w.2.1
  rcases nu_is (D := D) (pl := aP D a (uc D (D 7 1).toNat).toNat) (S := uS D) (T := uT D) (D 7 1).toNat with z | z
  · exact z.1
  · obtain ⟨z1, z2, z3, z4⟩ := z
    have := aP_end (a := a) w z1.1 (by omega) z2
    omega
/-- the lane of a dimension, and how many lanes there are -/
noncomputable def lnD (D : Dr) (a d : Int) : Int := aL D a (uc D (D 7 1).toNat).toNat (ld D d)
theorem lnD_b (w : WF D) {d : Int} (h0 : 0 ≤ d) (h1 : d < D 7 1) : 0 ≤ lnD D a d ∧ lnD D a d ≤ 300 := by
  have ub := uc_b (D := D) (D 7 1).toNat
  have w1 := w.2.1
  have lx := (ld_is (D := D) h0).1
  have := (aS_is (a := a) w (uc D (D 7 1).toNat).toNat (by omega)).2 (ld D d) lx.1 (by omega) (ld_ld h0) (aP_end w lx.1 (by omega) (ld_ld h0))
  unfold lnD
  omega
end SEQ

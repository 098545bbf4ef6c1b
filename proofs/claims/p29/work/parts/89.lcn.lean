section LCN
variable {D : Dr} {a : Int} {h : Hp}
noncomputable def mlN (D : Dr) (a : Int) : Nat → Int
  | 0 => 0
  | k + 1 => if lnD D a k < mlN D a k then mlN D a k else lnD D a k + 1
theorem mlN_le {y : Int} : ∀ k : Nat, mlN D a k ≤ y ↔ 0 ≤ y ∧ ∀ d : Int, 0 ≤ d → d < k → lnD D a d + 1 ≤ y
  | 0 => ⟨fun z => ⟨z, fun d d0 d1 => by omega⟩, fun z => z.1⟩
  | k + 1 => by
    have i := mlN_le (y := y) k
    unfold mlN
    by_cases q : lnD D a k < mlN D a k
    · rw [if_pos q, i]
      refine ⟨fun z => ⟨z.1, fun d d0 d1 => ?_⟩, fun z => ⟨z.1, fun d d0 d1 => z.2 d d0 (by omega)⟩⟩
      by_cases c : d = k
      · have := i.mpr z
        rw [c]
        omega
      · exact z.2 d d0 (by omega)
    · rw [if_neg q]
      refine ⟨fun z => ?_, fun z => z.2 k (by omega) (by omega)⟩
      have t := i.mp (by omega)
      refine ⟨t.1, fun d d0 d1 => ?_⟩
      by_cases c : d = k
      · rw [c]; exact z
      · exact t.2 d d0 (by omega)
theorem lcn_le (w : WF D) {y : Int} : ∀ i : Nat, (i : Int) ≤ uc D (D 7 1).toNat → (lcn D a i ≤ y ↔ 0 ≤ y ∧ ∀ u, 0 ≤ u → u < D 7 1 → ld D u = u → aP D a i u = 1 → aL D a i u + 1 ≤ y)
  | 0, _ => ⟨fun z => ⟨z, fun u _ _ _ e => absurd e (by decide : ¬ (0 : Int) = 1)⟩, fun z => z.1⟩
  | i + 1, hi => by
    have t := lcn_le w (y := y) i (by omega)
    obtain ⟨u1, u2, u3, u4⟩ := aU_is (a := a) w (aS_is w i (by omega)).1 (by omega)
    have e : lcn D a (i + 1) = max (lcn D a i) (aZ D a i + 1) := rfl
    have ep : ∀ u, aP D a (i + 1) u = if u = aU D a i then 1 else aP D a i u := fun u => rfl
    have el : ∀ u, aL D a (i + 1) u = if u = aU D a i then aZ D a i else aL D a i u := fun u => rfl
    rw [e]
    constructor
    · intro z
      have t' := t.mp (by omega)
      refine ⟨t'.1, fun u a0 a1 a2 a3 => ?_⟩
      rw [ep] at a3
      rw [el]
      by_cases c : u = aU D a i
      · rw [if_pos c]
        omega
      · rw [if_neg c] at a3 ⊢
        exact t'.2 u a0 a1 a2 a3
    · intro z
      have q := z.2 (aU D a i) u1.1 u1.2 u2 (by rw [ep, if_pos rfl])
      rw [el, if_pos rfl] at q
      have := t.mpr ⟨z.1, fun u a0 a1 a2 a3 => by
        have c : u ≠ aU D a i := fun y => by
          rw [y] at a3
          omega
        have := z.2 u a0 a1 a2 (by rw [ep, if_neg c]; exact a3)
        rw [el, if_neg c] at this
        exact this⟩
      omega
/-- both counts of lanes -/
theorem lcn_end (w : WF D) : lcn D a (uc D (D 7 1).toNat).toNat = mlN D a (D 7 1).toNat := eq_of_le fun y => by
  have w1 := w.2.1
  have ub := uc_b (D := D) (D 7 1).toNat
  rw [lcn_le w _ (by omega), mlN_le]
  constructor
  · intro z
    refine ⟨z.1, fun d d0 d1 => ?_⟩
    have lx := (ld_is (D := D) d0).1
    exact z.2 (ld D d) lx.1 (by omega) (ld_ld d0) (aP_end w lx.1 (by omega) (ld_ld d0))
  · intro z
    refine ⟨z.1, fun u u0 u1 u2 _ => ?_⟩
    have := z.2 u u0 (by omega)
    unfold lnD at this
    rw [u2] at this
    exact this
end LCN

section OROW
variable {D : Dr} {h : Hp}
/-- a row that holds the units below k, each once -/
def UO (D : Dr) (O : Int → Int) (n k : Int) : Prop := (∀ i, 0 ≤ i → i < n → (0 ≤ O i ∧ O i < k) ∧ ld D (O i) = O i) ∧ (∀ i j, 0 ≤ i → i < n → 0 ≤ j → j < n → O i = O j → i = j) ∧ ∀ u, 0 ≤ u → u < k → ld D u = u → ∃ i, 0 ≤ i ∧ i < n ∧ O i = u
theorem hstN_ord {a : Int} {th : Nat} (h6 : h th 6 = 0) : ∀ k : Nat, UO D (hstN D a h th k (th + 12)) (uc D k) k
  | 0 => ⟨fun i a b => by unfold uc at b; omega, fun i j a b => by unfold uc at b; omega, fun u a b => by omega⟩
  | k + 1 => by
    obtain ⟨i1, i2, i3⟩ := hstN_ord (a := a) h6 k
    have ht := (hstN_t (D := D) (a := a) h6 k).1
    have hn := uc_b (D := D) k
    have e6 : hu (hmes (hstN D a h th k) th k (fD D a k) (bD D a k) (eD D a k)) (th + 4) k (-1) th 6 = uc D k := by
      unfold hmes
      rw [hu_o (by omega), hu_o (by omega), hu_o (by omega), hu_o (by omega), ht]
    have e12 : ∀ j, hu (hmes (hstN D a h th k) th k (fD D a k) (bD D a k) (eD D a k)) (th + 4) k (-1) (th + 12) j = hstN D a h th k (th + 12) j := fun j => by
      unfold hmes
      rw [hu_o (by omega), hu_o (by omega), hu_o (by omega), hu_o (by omega)]
    have e : ∀ j, hstN D a h th (k + 1) (th + 12) j = if j = uc D k ∧ ld D (k : Int) = k then (k : Int) else hstN D a h th k (th + 12) j := fun j => by
      show hst D a (hstN D a h th k) th k (th + 12) j = _
      unfold hst hju
      rw [e6, e12]
      simp
    have eu : uc D (k + 1) = uc D k + yn (ld D (k : Int) = k) := rfl
    generalize hstN D a h th k (th + 12) = O at *
    generalize hstN D a h th (k + 1) (th + 12) = O' at *
    by_cases q : ld D (k : Int) = k
    · rw [eu, yn_t q]
      have e' : ∀ j, O' j = if j = uc D k then (k : Int) else O j := fun j => by
        rw [e]
        by_cases z : j = uc D k
        · rw [if_pos ⟨z, q⟩, if_pos z]
        · rw [if_neg (fun y => z y.1), if_neg z]
      refine ⟨fun i g0 g1 => ?_, fun i j g0 g1 g2 g3 g4 => ?_, fun u g0 g1 g2 => ?_⟩
      · rw [e']
        by_cases z : i = uc D k
        · rw [if_pos z]; exact ⟨by omega, q⟩
        · rw [if_neg z]
          have := i1 i g0 (by omega)
          exact ⟨by omega, this.2⟩
      · rw [e', e'] at g4
        by_cases z : i = uc D k
        · by_cases y : j = uc D k
          · omega
          · rw [if_pos z, if_neg y] at g4
            have := i1 j g2 (by omega)
            omega
        · by_cases y : j = uc D k
          · rw [if_neg z, if_pos y] at g4
            have := i1 i g0 (by omega)
            omega
          · rw [if_neg z, if_neg y] at g4
            exact i2 i j g0 (by omega) g2 (by omega) g4
      · by_cases z : u = k
        · exact ⟨uc D k, by omega, by omega, by rw [e', if_pos rfl, z]⟩
        · obtain ⟨i, a1, a2, a3⟩ := i3 u g0 (by omega) g2
          exact ⟨i, a1, by omega, by rw [e', if_neg (by omega), a3]⟩
    · rw [eu, yn_f q, Int.add_zero]
      have e' : ∀ j, O' j = O j := fun j => by rw [e, if_neg (fun y => q y.2)]
      refine ⟨fun i g0 g1 => ?_, fun i j g0 g1 g2 g3 g4 => ?_, fun u g0 g1 g2 => ?_⟩
      · rw [e']
        have := i1 i g0 g1
        exact ⟨by omega, this.2⟩
      · rw [e', e'] at g4
        exact i2 i j g0 g1 g2 g3 g4
      · have : u ≠ k := fun z => q (by rw [← z]; exact g2)
        obtain ⟨i, a1, a2, a3⟩ := i3 u g0 (by omega) g2
        exact ⟨i, a1, a2, by rw [e', a3]⟩
end OROW

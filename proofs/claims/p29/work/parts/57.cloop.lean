section CLOOP
variable {D : Dr} {h : Hp}
theorem hstN_o {a : Int} {th : Nat} {c : Nat} (z : c < th ∨ th + 12 < c) : ∀ k, hstN D a h th k c = h c
  | 0 => rfl
  | k + 1 => (hst_o z).trans (hstN_o z k)
theorem hstN_t {a : Int} {th : Nat} (h6 : h th 6 = 0) : ∀ k : Nat, hstN D a h th k th 6 = uc D k ∧ ∀ j, j ≠ 6 → hstN D a h th k th j = h th j
  | 0 => ⟨h6, fun _ _ => rfl⟩
  | k + 1 => by
    obtain ⟨i1, i2⟩ := hstN_t h6 k
    show hst D a (hstN D a h th k) th k th 6 = _ ∧ ∀ j, j ≠ 6 → hst D a (hstN D a h th k) th k th j = _
    refine ⟨?_, fun j hj => ?_⟩
    · rw [hst_t]
      unfold uc
      by_cases q : ld D (k : Int) = k
      · rw [if_pos ⟨rfl, q⟩, i1, yn_t q]
      · rw [if_neg (fun z => q z.2), i1, yn_f q, Int.add_zero]
    · rw [hst_t, if_neg (fun z => hj z.1), i2 j hj]
theorem la_layOut_f20_eq (ha : AtC D h 1) (w : WF D) {th : Nat} (hth : 9 ≤ th) {d a : Int} (h0 : 0 ≤ d) (h1 : d < D 7 1) (ab : 1 ≤ a ∧ a ≤ 9) (hu6 : 0 ≤ h th 6 ∧ h th 6 < 16) (h15 : h th 15 = D 7 1) (k : Int → Hp → O Unit) : la_layOut_f20 th 1 a k d h = k (d + 1) (hst D a h th d) := by
  have w1 := w.2.1
  have hm6 : hu (hmes h th d (fD D a d) (bD D a d) (eD D a d)) (th + 4) d (-1) th 6 = h th 6 := by
    unfold hmes
    rw [hu_o (by omega), hu_o (by omega), hu_o (by omega), hu_o (by omega)]
  have hA : AtC D (hu (hmes h th d (fD D a d) (bD D a d) (eD D a d)) (th + 4) d (-1)) 1 := ha.keep (fun c g0 g1 => funext fun j => by
    unfold hmes
    rw [hu_o (by omega), hu_o (by omega), hu_o (by omega), hu_o (by omega)])
  unfold la_layOut_f20
  rw [h15, if_pos h1, bd_eq (la_measure_eq ha w hth h0 h1 ab), ix_in h0 (by omega), lt_eq, bd_eq (la_joinUnit_eq hA w hth h0 h1 (by rw [hm6]; exact hu6)), ck_in ⟨by omega, by omega⟩]
  rfl
theorem la_first_eq (ha : AtC D h 1) (w : WF D) {th : Nat} (hth : 9 ≤ th) {a : Int} (ab : 1 ≤ a ∧ a ≤ 9) (h6 : h th 6 = 0) (h15 : h th 15 = D 7 1) : iter1 (la_layOut_f20 th 1 a) fuel 0 h = iter1 (la_layOut_f56 th 1 a) fuel 0 (hstN D a h th (D 7 1).toNat) := by
  have w1 := w.2.1
  have hA : ∀ k, AtC D (hstN D a h th k) 1 := fun k => ha.keep (fun c g0 g1 => hstN_o (by omega) k)
  have ht := hstN_t (D := D) (a := a) h6
  refine it1_seq (fun k => (k : Int)) (fun k => hstN D a h th k) (D 7 1).toNat (fun k x hx => ?_) (fun k => ?_) fuel 0 (Nat.zero_le _) (by unfold fuel; omega)
  · have ub := uc_b (D := D) x
    rw [la_layOut_f20_eq (hA x) w hth (by omega) (by omega) ab (by rw [(ht x).1]; omega) (by rw [(ht x).2 15 (by decide), h15])]
    rfl
  · unfold la_layOut_f20
    rw [(ht _).2 15 (by decide), h15, if_neg (by omega)]
/-- what the first pass leaves -/
theorem hstN_dim {a : Int} {th : Nat} : ∀ k : Nat, ∀ u : Int, 0 ≤ u → u < k → hstN D a h th k (th + 1) u = fD D a u ∧ hstN D a h th k (th + 2) u = bD D a u ∧ hstN D a h th k (th + 3) u = eD D a u ∧ hstN D a h th k (th + 4) u = -1 ∧ hstN D a h th k (th + 8) u = ld D u ∧ (ld D u = u → hstN D a h th k (th + 9) u = uf D min (v0 D) u k ∧ hstN D a h th k (th + 10) u = uf D max (v1 D) u k ∧ hstN D a h th k (th + 11) u = uf D max (D 6) u k)
  | 0, u, h0, h1 => by omega
  | k + 1, u, h0, h1 => by
    have lb := (ld_is (D := D) (d := (k : Int)) (by omega)).1
    show hst D a (hstN D a h th k) th k (th + 1) u = _ ∧ hst D a (hstN D a h th k) th k (th + 2) u = _ ∧ hst D a (hstN D a h th k) th k (th + 3) u = _ ∧ hst D a (hstN D a h th k) th k (th + 4) u = _ ∧ hst D a (hstN D a h th k) th k (th + 8) u = _ ∧ (_ → hst D a (hstN D a h th k) th k (th + 9) u = _ ∧ hst D a (hstN D a h th k) th k (th + 10) u = _ ∧ hst D a (hstN D a h th k) th k (th + 11) u = _)
    by_cases q : u = k
    · subst q
      refine ⟨?_, ?_, ?_, ?_, ?_, fun e => ?_⟩
      · unfold hst hju hmes hu; simp
      · unfold hst hju hmes hu; simp
      · unfold hst hju hmes hu; simp
      · unfold hst hju hmes hu; simp
      · unfold hst hju hmes hu; simp
      · unfold uf
        rw [if_neg (by omega), if_neg (by omega), if_neg (by omega), uf_low k (by omega), uf_low k (by omega), uf_low k (by omega)]
        unfold hst hju
        simp [e]
    · obtain ⟨i1, i2, i3, i4, i5, i6⟩ := hstN_dim (a := a) (th := th) k u h0 (by omega)
      refine ⟨?_, ?_, ?_, ?_, ?_, fun e => ?_⟩
      · rw [← i1]; unfold hst hju hmes hu; simp [q]
      · rw [← i2]; unfold hst hju hmes hu; simp [q]
      · rw [← i3]; unfold hst hju hmes hu; simp [q]
      · rw [← i4]; unfold hst hju hmes hu; simp [q]
      · rw [← i5]; unfold hst hju hmes hu; simp [q]
      · obtain ⟨j1, j2, j3⟩ := i6 e
        unfold uf
        by_cases z : ld D k = u
        · have hz : ld D k ≠ k := by omega
          rw [if_pos ⟨z, by omega⟩, if_pos ⟨z, by omega⟩, if_pos ⟨z, by omega⟩, ← j1, ← j2, ← j3]
          unfold hst hju hmes hu
          rw [z] at hz ⊢
          simp [hz]
        · rw [if_neg (fun y => z y.1), if_neg (fun y => z y.1), if_neg (fun y => z y.1), ← j1, ← j2, ← j3]
          have z' : ¬ u = ld D k := fun y => z y.symm
          unfold hst hju hmes hu
          simp [z']
end CLOOP

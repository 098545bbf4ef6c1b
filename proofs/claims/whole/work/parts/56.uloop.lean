section ULOOP
variable {D : Dr} {h : Hp}
def hmuN (D : Dr) (h : Hp) : Nat → Hp
  | 0 => h
  | k + 1 => hmu D (hmuN D h k) k
theorem hmu_o {d : Int} {c : Nat} (z : c < 135 ∨ 140 < c) : hmu D h d c = h c := funext fun j => by
  unfold hmu
  rw [if_neg (by omega), if_neg (by omega), if_neg (by omega), if_neg (by omega), if_neg (by omega)]
theorem hmuN_o {c : Nat} (z : c < 135 ∨ 140 < c) : ∀ k, hmuN D h k c = h c
  | 0 => rfl
  | k + 1 => (hmu_o z).trans (hmuN_o z k)
theorem mo_laysUnits_eq (ha : AtM D h 0) (w : WF D) : mo_laysUnits 132 h = some ((), hmuN D h (D 7 1).toNat) := by
  have w1 := w.2.1
  have hA : ∀ k, AtM D (hmuN D h k) 0 := fun k => ha.any (hmuN_o (by omega) k)
  unfold mo_laysUnits
  refine it1_seq (fun k => (k : Int)) (fun k => hmuN D h k) (D 7 1).toNat (fun k x hx => ?_) (fun k => ?_) fuel 0 (Nat.zero_le _) (by unfold fuel; omega)
  · rw [mo_laysUnits_f2_eq (hA x) w (by omega) (by omega)]
    rfl
  · simp only [mo_laysUnits_f2, Nat.reduceAdd]
    rw [ix_in (by omega) (by omega), (hA _).m, if_neg (by omega)]
/-- over the dimensions of u's unit among the first k -/
def uf (D : Dr) (op : Int → Int → Int) (v : Int → Int) (u : Int) : Nat → Int
  | 0 => v u
  | k + 1 => if ld D k = u ∧ (k : Int) ≠ u then op (uf D op v u k) (v k) else uf D op v u k
theorem uf_low {op : Int → Int → Int} {v : Int → Int} {u : Int} : ∀ k : Nat, (k : Int) ≤ u + 1 → uf D op v u k = v u
  | 0, _ => rfl
  | k + 1, g => by
    have := (ld_is (D := D) (d := (k : Int)) (by omega)).1
    unfold uf
    rw [if_neg (by omega), uf_low k (by omega)]
theorem hmuN_unit : ∀ k : Nat, ∀ u : Int, 0 ≤ u → u < k → hmuN D h k 135 u = ld D u ∧ hmuN D h k 140 u = 0 ∧ (ld D u = u → hmuN D h k 136 u = uf D min (v0 D) u k ∧ hmuN D h k 137 u = uf D max (v1 D) u k ∧ hmuN D h k 138 u = uf D max (D 6) u k)
  | 0, u, h0, h1 => by omega
  | k + 1, u, h0, h1 => by
    have lb := (ld_is (D := D) (d := (k : Int)) (by omega)).1
    show hmu D (hmuN D h k) k 135 u = _ ∧ hmu D (hmuN D h k) k 140 u = _ ∧ (_ → hmu D (hmuN D h k) k 136 u = _ ∧ hmu D (hmuN D h k) k 137 u = _ ∧ hmu D (hmuN D h k) k 138 u = _)
    by_cases q : u = k
    · subst q
      refine ⟨?_, ?_, fun e => ?_⟩
      · unfold hmu; simp
      · unfold hmu; simp
      · unfold uf
        rw [if_neg (by omega), if_neg (by omega), if_neg (by omega), uf_low k (by omega), uf_low k (by omega), uf_low k (by omega)]
        unfold hmu
        simp [e]
    · obtain ⟨i1, i2, i3⟩ := hmuN_unit k u h0 (by omega)
      refine ⟨?_, ?_, fun e => ?_⟩
      · rw [← i1]; unfold hmu; simp [q]
      · rw [← i2]; unfold hmu; simp [q]
      · obtain ⟨j1, j2, j3⟩ := i3 e
        unfold uf
        by_cases z : ld D k = u
        · have hz : ld D k ≠ k := by omega
          rw [if_pos ⟨z, by omega⟩, if_pos ⟨z, by omega⟩, if_pos ⟨z, by omega⟩, ← j1, ← j2, ← j3]
          unfold hmu
          rw [z] at hz ⊢
          simp [hz]
        · rw [if_neg (fun y => z y.1), if_neg (fun y => z y.1), if_neg (fun y => z y.1), ← j1, ← j2, ← j3]
          have z' : ¬ u = ld D k := fun y => z y.symm
          unfold hmu
          simp [z']
/-- the class's first pass -/
def hst (D : Dr) (a : Int) (h : Hp) (th : Nat) (d : Int) : Hp := hju D (hu (hmes h th d (fD D a d) (bD D a d) (eD D a d)) (th + 4) d (-1)) th d
def hstN (D : Dr) (a : Int) (h : Hp) (th : Nat) : Nat → Hp
  | 0 => h
  | k + 1 => hst D a (hstN D a h th k) th k
/-- how many units among the first k -/
def uc (D : Dr) : Nat → Int
  | 0 => 0
  | k + 1 => uc D k + yn (ld D k = k)
theorem uc_b : ∀ k : Nat, 0 ≤ uc D k ∧ uc D k ≤ k
  | 0 => by unfold uc; omega
  | k + 1 => by
    have := uc_b k
    have := yn_b (c := (ld D (k : Int) = k))
    unfold uc
    omega
theorem hst_o {a : Int} {th : Nat} {d : Int} {c : Nat} (z : c < th ∨ th + 12 < c) : hst D a h th d c = h c := funext fun j => by
  unfold hst hju
  rw [if_neg (by omega), if_neg (by omega), if_neg (by omega), if_neg (by omega), if_neg (by omega), if_neg (by omega), hu_o (by omega)]
  unfold hmes
  rw [hu_o (by omega), hu_o (by omega), hu_o (by omega)]
theorem hst_t {a : Int} {th : Nat} {d : Int} {j : Int} : hst D a h th d th j = if j = 6 ∧ ld D d = d then h th 6 + 1 else h th j := by
  have e : ∀ i, hu (hmes h th d (fD D a d) (bD D a d) (eD D a d)) (th + 4) d (-1) th i = h th i := fun i => by
    unfold hmes
    rw [hu_o (by omega), hu_o (by omega), hu_o (by omega), hu_o (by omega)]
  unfold hst hju
  rw [if_neg (by omega), if_neg (by omega), if_neg (by omega), if_neg (by omega), if_neg (by omega), e, e]
  simp
end ULOOP

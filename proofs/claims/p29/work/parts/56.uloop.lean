section ULOOP
variable {D : Dr} {h : Hp}
/-- over the dimensions of u's unit among the first k -/
def uf (D : Dr) (op : Int → Int → Int) (v : Int → Int) (u : Int) : Nat → Int
  | 0 => v u
  | k + 1 => if ld D k = u ∧ (k : Int) ≠ u then op (uf D op v u k) (v k) else uf D op v u k
theorem uf_low {op : Int → Int → Int} {v : Int → Int} {u : Int} : ∀ k : Nat, (k : Int) ≤ u + 1 → uf D op v u k = v u
  | 0, _ => rfl
  | k + 1, g => by
    have := (ld_is (D := D) (d := (k : Int)) (by omega)).1
    unfold uf
    rw [if_neg (by omega), uf_low k (by omega)]
/-- the class's first pass -/
def hst (D : Dr) (a : Int) (h : Hp) (th : Nat) (d : Int) : Hp := hju D (hu (hmes h th d (fD D a d) (bD D a d) (eD D a d)) (th + 4) d (-1)) th d
def hstN (D : Dr) (a : Int) (h : Hp) (th : Nat) : Nat → Hp
  | 0 => h
  | k + 1 => hst D a (hstN D a h th k) th k
/-- how many units among the first k -/
def uc (D : Dr) : Nat → Int
  | 0 => 0
  | k + 1 => uc D k + yn (ld D k = k)
theorem uc_b : ∀ k : Nat, 0 ≤ uc D k ∧ uc D k ≤ k
  | 0 => by unfold uc; omega
  | k + 1 => by
    have := uc_b k
    have := yn_b (c := (ld D (k : Int) = k))
    unfold uc
    omega
theorem hst_o {a : Int} {th : Nat} {d : Int} {c : Nat} (z : c < th ∨ th + 12 < c) : hst D a h th d c = h c := funext fun j => by
  unfold hst hju
  rw [if_neg (by omega), if_neg (by omega), if_neg (by omega), if_neg (by omega), if_neg (by omega), if_neg (by omega), hu_o (by omega)]
  unfold hmes
  rw [hu_o (by omega), hu_o (by omega), hu_o (by omega)]
theorem hst_t {a : Int} {th : Nat} {d : Int} {j : Int} : hst D a h th d th j = if j = 6 ∧ ld D d = d then h th 6 + 1 else h th j := by
  have e : ∀ i, hu (hmes h th d (fD D a d) (bD D a d) (eD D a d)) (th + 4) d (-1) th i = h th i := fun i => by
    unfold hmes
    rw [hu_o (by omega), hu_o (by omega), hu_o (by omega), hu_o (by omega)]
  unfold hst hju
  rw [if_neg (by omega), if_neg (by omega), if_neg (by omega), if_neg (by omega), if_neg (by omega), e, e]
  simp
end ULOOP

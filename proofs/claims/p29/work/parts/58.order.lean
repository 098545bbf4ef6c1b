section ORDER
variable {D : Dr} {h : Hp}
/-- the order in which units are laid -/
abbrev bf (S T : Int → Int) (u v : Int) : Prop := T u - S u < T v - S v ∨ (T u - S u = T v - S v ∧ (S u < S v ∨ (S u = S v ∧ u < v)))
theorem la_comesBefore_eq {th : Nat} {u v : Int} (hu : 0 ≤ u ∧ u < 16) (hv : 0 ≤ v ∧ v < 16) (b1 : (0 ≤ h (th + 9) u ∧ h (th + 9) u ≤ 300) ∧ (0 ≤ h (th + 10) u ∧ h (th + 10) u ≤ 300)) (b2 : (0 ≤ h (th + 9) v ∧ h (th + 9) v ≤ 300) ∧ (0 ≤ h (th + 10) v ∧ h (th + 10) v ≤ 300)) : la_comesBefore th u v h = some (yn (bf (h (th + 9)) (h (th + 10)) u v), h) := by
  have bz0 : bz 0 = (fun (E : O Int) => E) := funext fun E => if_pos (Or.inl rfl)
  have bz1 : bz 1 = (fun (E : O Int) => E) := funext fun E => if_pos (Or.inr rfl)
  unfold la_comesBefore la_comesBefore_b88 la_comesBefore_b77 la_comesBefore_b41
  rw [ix_in hu.1 hu.2, ix_in hu.1 hu.2, ck_in ⟨by omega, by omega⟩, ix_in hv.1 hv.2, ix_in hv.1 hv.2, ck_in ⟨by omega, by omega⟩, ck_in ⟨by omega, by omega⟩]
  simp only [bz0, bz1]
  by_cases q1 : h (th + 10) u - h (th + 9) u - (h (th + 10) v - h (th + 9) v) = 0
  · rw [if_pos q1, ix_in hu.1 hu.2, ix_in hv.1 hv.2]
    by_cases q2 : h (th + 9) u = h (th + 9) v
    · rw [if_pos q2]
      by_cases q3 : u < v
      · rw [if_pos q3, yn_t (by unfold bf; omega)]
      · rw [if_neg q3, yn_f (by unfold bf; omega)]
    · rw [if_neg q2, ix_in hu.1 hu.2, ix_in hv.1 hv.2]
      by_cases q3 : h (th + 9) u < h (th + 9) v
      · rw [if_pos q3, yn_t (by unfold bf; omega)]
      · rw [if_neg q3, yn_f (by unfold bf; omega)]
  · rw [if_neg q1]
    by_cases q3 : h (th + 10) u - h (th + 9) u - (h (th + 10) v - h (th + 9) v) < 0
    · rw [if_pos q3, yn_t (by unfold bf; omega)]
    · rw [if_neg q3, yn_f (by unfold bf; omega)]
theorem bf_trans {S T : Int → Int} {u v x : Int} (a : bf S T u v) (b : bf S T v x) : bf S T u x := by unfold bf at *; omega
theorem bf_tri {S T : Int → Int} {u v : Int} (n : u ≠ v) : bf S T u v ∨ bf S T v u := by unfold bf; omega
theorem bf_asym {S T : Int → Int} {u v : Int} (a : bf S T u v) : ¬ bf S T v u := by unfold bf at *; omega
theorem uf_b {op : Int → Int → Int} {v : Int → Int} {u lo hi : Int} (hop : op = min ∨ op = max) (hu : 0 ≤ u) : ∀ k : Nat, (∀ j : Int, 0 ≤ j → (j < k ∨ j = u) → lo ≤ v j ∧ v j ≤ hi) → lo ≤ uf D op v u k ∧ uf D op v u k ≤ hi
  | 0, g => g u hu (Or.inr rfl)
  | k + 1, g => by
    have i := uf_b hop hu k (fun j a b => g j a (by omega))
    have j := g (k : Int) (by omega) (by omega)
    unfold uf
    split
    · generalize uf D op v u k = x at i ⊢
      rcases hop with e | e <;> rw [e] <;> omega
    · exact i
end ORDER

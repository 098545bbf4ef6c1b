section SETL
variable {h : Hp}
/-- the members of unit u among the first n lie in lane l -/
def hpl (h : Hp) (th : Nat) (u l n : Int) : Hp := fun c j => if c = th + 4 ∧ 0 ≤ j ∧ j < n ∧ h (th + 8) j = u then l else h c j
theorem hpl_o {th c : Nat} {u l n : Int} (z : c ≠ th + 4) (j : Int) : hpl h th u l n c j = h c j := by
  unfold hpl
  rw [if_neg (fun q => z q.1)]
theorem place_set {th : Nat} {p u l m : Int} (hm : 0 ≤ m ∧ m ≤ 16) (e15 : h th 15 = m) (hl : 0 ≤ l ∧ l ≤ 1000) : iter3 (la_place_f80 th p) fuel u l 0 h = some ((), hu (hpl h th u l m) th 7 (max (h th 7) (l + 1))) := by
  have e0 : hpl h th u l ((0 : Nat) : Int) = h := by
    funext c j
    unfold hpl
    rw [if_neg (fun q => by omega)]
  have := it3_seq (F := la_place_f80 th p) (fun _ => u) (fun _ => l) (fun k => (k : Int)) (fun k => hpl h th u l k) m.toNat (R := some ((), hu (hpl h th u l m) th 7 (max (h th 7) (l + 1)))) (fun k x hx => ?_) (fun k => ?_) fuel 0 (by omega) (by unfold fuel; omega)
  · rw [e0] at this
    exact this
  · unfold la_place_f80 la_place_b108
    rw [hpl_o (by omega), e15, if_pos (by omega), ix_in (by omega) (by omega), hpl_o (by omega)]
    by_cases q : h (th + 8) x = u
    · rw [if_pos q, ix_in (by omega) (by omega), lt_eq, ck_in ⟨by omega, by omega⟩]
      have : hu (hpl h th u l x) (th + 4) x l = hpl h th u l ((x + 1 : Nat) : Int) := by
        funext c j
        unfold hu hpl
        by_cases z : c = th + 4
        · subst z
          by_cases y : j = x
          · subst y; simp [q]; omega
          · simp [y]; grind
        · simp [z]
      rw [this]
      rfl
    · rw [if_neg q, ck_in ⟨by omega, by omega⟩]
      have : hpl h th u l x = hpl h th u l ((x + 1 : Nat) : Int) := by
        funext c j
        unfold hpl
        grind
      rw [this]
      rfl
  · unfold la_place_f80
    have em : ((m.toNat : Nat) : Int) = m := by omega
    simp only [em]
    rw [hpl_o (by omega), e15, if_neg (by omega), ck_in ⟨by omega, by omega⟩, lt_eq, hpl_o (by omega)]
end SETL

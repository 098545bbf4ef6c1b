section MGRP
variable {D : Dr} {h : Hp}
theorem bt_nat {n : Nat} {e : Int} : bt (n : Int) e ↔ n.testBit e.toNat = true := by
  have c : (n : Int) / pw2 e % 2 = ((n / 2 ^ e.toNat % 2 : Nat) : Int) := rfl
  unfold bt
  rw [c, Nat.testBit_eq_decide_div_mod_eq, decide_eq_true_iff]
  omega
theorem bt_or {g d e : Int} (hg : 0 ≤ g) (hd : 0 ≤ d) (he : 0 ≤ e) : bt (orI g (pw2 d)) e ↔ bt g e ∨ e = d := by
  have eg : g = ((g.toNat : Nat) : Int) := (Int.toNat_of_nonneg hg).symm
  have ep : (pw2 d).toNat = 2 ^ d.toNat := rfl
  unfold orI
  rw [ep, bt_nat, Nat.testBit_or, Nat.testBit_two_pow]
  conv => rhs; rw [eg, bt_nat]
  rw [Bool.or_eq_true, decide_eq_true_iff]
  constructor
  · rintro (z | z)
    · exact Or.inl z
    · exact Or.inr (by omega)
  · rintro (z | z)
    · exact Or.inl z
    · exact Or.inr (by omega)
theorem orI_b {g d : Int} : 0 ≤ orI g (pw2 d) := by
  unfold orI
  omega
end MGRP

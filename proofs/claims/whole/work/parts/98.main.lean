theorem lw_true (L : Nat) (xs : Nat → Int32) (hL : L ≤ 2048) : ∃ h', lw_all L xs (fun _ _ => 0) = some (1, h') := by
  sorry

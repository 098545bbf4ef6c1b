section LOW
variable {h : Hp}
/-- the lane a unit must lie in or above, by the first k units laid -/
def lbd (h : Hp) (th : Nat) (u : Int) : Nat → Int
  | 0 => h (th + 11) u
  | k + 1 => if h (th + 9) (h (th + 12) k) < h (th + 9) u then lbd h th u k else if h (th + 10) u < h (th + 10) (h (th + 12) k) then lbd h th u k else max (lbd h th u k) (h (th + 4) (h (th + 12) k) + 1)
theorem low_first {th : Nat} {u p : Int} (hu : 0 ≤ u ∧ u < 16) (hp : 0 ≤ p ∧ p ≤ 16) (hO : ∀ i : Int, 0 ≤ i → i < p → (0 ≤ h (th + 12) i ∧ h (th + 12) i < 16) ∧ (-1 ≤ h (th + 4) (h (th + 12) i) ∧ h (th + 4) (h (th + 12) i) ≤ 1000)) : la_lowestLaneFor th u p h = iter2 (la_lowestLaneFor_f80 th u p) fuel (lbd h th u p.toNat) 0 h := by
  unfold la_lowestLaneFor
  rw [ix_in hu.1 hu.2]
  refine it2_seq (fun k => lbd h th u k) (fun k => (k : Int)) (fun _ => h) p.toNat (fun k x hx => ?_) (fun k => ?_) fuel 0 (Nat.zero_le _) (by unfold fuel; omega)
  · have o := hO x (by omega) (by omega)
    have e : lbd h th u (x + 1) = if h (th + 9) (h (th + 12) x) < h (th + 9) u then lbd h th u x else if h (th + 10) u < h (th + 10) (h (th + 12) x) then lbd h th u x else max (lbd h th u x) (h (th + 4) (h (th + 12) x) + 1) := rfl
    rw [e]
    unfold la_lowestLaneFor_f10 la_lowestLaneFor_b71
    rw [if_pos (by omega), ix_in (by omega) (by omega), ix_in hu.1 hu.2, ix_in o.1.1 o.1.2]
    by_cases q1 : h (th + 9) (h (th + 12) x) < h (th + 9) u
    · rw [if_pos q1, if_pos q1, ck_in ⟨by omega, by omega⟩]; rfl
    · rw [if_neg q1, if_neg q1, ix_in o.1.1 o.1.2, ix_in hu.1 hu.2]
      by_cases q2 : h (th + 10) u < h (th + 10) (h (th + 12) x)
      · rw [if_pos q2, if_pos q2, ck_in ⟨by omega, by omega⟩]; rfl
      · rw [if_neg q2, if_neg q2, ix_in o.1.1 o.1.2, ck_in ⟨by omega, by omega⟩, ck_in ⟨by omega, by omega⟩]; rfl
  · unfold la_lowestLaneFor_f10
    rw [if_neg (by omega)]
end LOW

section MOB
theorem it1_find {α : Type} {F : (Int → Hp → O α) → Int → Hp → O α} (a : Nat → Int) (H : Nat → Hp) (N : Nat) (P : Nat → Prop) {R : O α} (hs : ∀ (k : Int → Hp → O α) (x : Nat), x < N → ¬ P x → F k (a x) (H x) = k (a (x + 1)) (H (x + 1))) (hf : ∀ k (x : Nat), x < N → P x → (∀ y, y < x → ¬ P y) → F k (a x) (H x) = R) (hl : ∀ k, (∀ y, y < N → ¬ P y) → F k (a N) (H N) = R) : ∀ (n x : Nat), x ≤ N → N - x < n → (∀ y, y < x → ¬ P y) → iter1 F n (a x) (H x) = R
  | 0, _, _, hn, _ => absurd hn (Nat.not_lt_zero _)
  | n + 1, x, hx, hn, hy => by
    show F (iter1 F n) (a x) (H x) = R
    rcases Nat.lt_or_ge x N with q | q
    · by_cases hp : P x
      · exact hf _ x q hp hy
      · rw [hs _ x q hp]
        exact it1_find a H N P hs hf hl n (x + 1) q (by omega) (fun y g => by
          rcases Nat.lt_or_ge y x with z | z
          · exact hy y z
          · rw [show y = x by omega]; exact hp)
    · have e : x = N := by omega
      subst e
      exact hl _ hy
variable {D : Dr} {h : Hp}
end MOB

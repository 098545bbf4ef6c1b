section UNIT
theorem it2_find {α : Type} {F : (Int → Int → Hp → O α) → Int → Int → Hp → O α} (a b : Nat → Int) (H : Nat → Hp) (N : Nat) (P : Nat → Prop) {R : O α} (hs : ∀ (k : Int → Int → Hp → O α) (x : Nat), x < N → ¬ P x → F k (a x) (b x) (H x) = k (a (x + 1)) (b (x + 1)) (H (x + 1))) (hf : ∀ k (x : Nat), x < N → P x → (∀ y, y < x → ¬ P y) → F k (a x) (b x) (H x) = R) (hl : ∀ k, (∀ y, y < N → ¬ P y) → F k (a N) (b N) (H N) = R) : ∀ (n x : Nat), x ≤ N → N - x < n → (∀ y, y < x → ¬ P y) → iter2 F n (a x) (b x) (H x) = R
  | 0, _, _, hn, _ => absurd hn (Nat.not_lt_zero _)
  | n + 1, x, hx, hn, hy => by
    show F (iter2 F n) (a x) (b x) (H x) = R
    rcases Nat.lt_or_ge x N with q | q
    · by_cases hp : P x
      · exact hf _ x q hp hy
      · rw [hs _ x q hp]
        exact it2_find a b H N P hs hf hl n (x + 1) q (by omega) (fun y g => by
          rcases Nat.lt_or_ge y x with z | z
          · exact hy y z
          · rw [show y = x by omega]; exact hp)
    · have e : x = N := by omega
      subst e
      exact hl _ hy
/-- the first of d's chain among the first k, or d -/
def ldN (c : Int → Int) (d : Int) : Nat → Int
  | 0 => d
  | k + 1 => if ldN c d k = d then (if 0 < c d ∧ c k = c d then (k : Int) else d) else ldN c d k
def ld (D : Dr) (d : Int) : Int := ldN (D 5) d d.toNat
theorem ldN_none {c : Int → Int} {d : Int} : ∀ (N : Nat), (∀ y : Nat, y < N → ¬ (0 < c d ∧ c y = c d)) → ldN c d N = d
  | 0, _ => rfl
  | k + 1, h => by
    unfold ldN
    rw [if_pos (ldN_none k (fun y g => h y (by omega))), if_neg (h k (by omega))]
theorem ldN_some {c : Int → Int} {d : Int} {x : Nat} (hx : 0 < c d ∧ c x = c d) (hn : ∀ y : Nat, y < x → ¬ (0 < c d ∧ c y = c d)) : ∀ (N : Nat), x < N → (N : Int) ≤ d → ldN c d N = x
  | 0, h, _ => absurd h (Nat.not_lt_zero _)
  | k + 1, h, h2 => by
    unfold ldN
    by_cases q : x = k
    · subst q
      rw [if_pos (ldN_none x hn), if_pos hx]
    · have := ldN_some hx hn k (by omega) (by omega)
      rw [if_neg (by omega), this]
theorem ld_none {D : Dr} {d : Int} (h0 : 0 ≤ d) (h : ∀ y : Nat, y < d.toNat → ¬ (0 < D 5 d ∧ D 5 y = D 5 d)) : ld D d = d := ldN_none _ h
theorem ld_some {D : Dr} {d : Int} {x : Nat} (h0 : 0 ≤ d) (hx : x < d.toNat) (hp : 0 < D 5 d ∧ D 5 x = D 5 d) (hn : ∀ y : Nat, y < x → ¬ (0 < D 5 d ∧ D 5 y = D 5 d)) : ld D d = x := ldN_some hp hn _ hx (by omega)
/-- what a leader is -/
theorem ld_is {D : Dr} {d : Int} (h0 : 0 ≤ d) : (0 ≤ ld D d ∧ ld D d ≤ d) ∧ (ld D d = d ∨ (0 < D 5 d ∧ D 5 (ld D d) = D 5 d)) ∧ ∀ y : Int, 0 ≤ y → y < ld D d → ¬ (0 < D 5 d ∧ D 5 y = D 5 d) := by
  by_cases q : ∃ x : Nat, x < d.toNat ∧ (0 < D 5 d ∧ D 5 x = D 5 d) ∧ ∀ y : Nat, y < x → ¬ (0 < D 5 d ∧ D 5 y = D 5 d)
  · obtain ⟨x, h1, h2, h3⟩ := q
    rw [ld_some h0 h1 h2 h3]
    exact ⟨by omega, Or.inr h2, fun y y0 y1 => by have := h3 y.toNat (by omega); rw [Int.toNat_of_nonneg y0] at this; exact this⟩
  · have hn : ∀ n : Nat, n ≤ d.toNat → ∀ y : Nat, y < n → ¬ (0 < D 5 d ∧ D 5 y = D 5 d) := by
      intro n
      induction n with
      | zero => intro _ y h; omega
      | succ n ih =>
        intro hn y hy hp
        rcases Nat.lt_or_ge y n with z | z
        · exact ih (by omega) y z hp
        · have e : y = n := by omega
          subst e
          exact q ⟨y, by omega, hp, ih (by omega)⟩
    rw [ld_none h0 (hn _ (Nat.le_refl _))]
    exact ⟨by omega, Or.inl rfl, fun y y0 y1 => by have := hn _ (Nat.le_refl _) y.toNat (by omega); rw [Int.toNat_of_nonneg y0] at this; exact this⟩
variable {D : Dr} {h : Hp}
theorem la_leaderOf_eq (ha : AtC D h 1) (w : WF D) {d : Int} (h0 : 0 ≤ d) (h1 : d < D 7 1) : la_leaderOf 1 d h = some (ld D d, h) := by
  have w1 := w.2.1
  have cc : ∀ e, 0 ≤ e → e < D 7 1 → h 7 e = D 5 e := fun e a b => (ha.2.2 e a b).2.2.2.2.1.symm
  have cb := (w.2.2.2.2.2.2 d h0 h1).2.2.2.1
  simp only [la_leaderOf, Nat.reduceAdd]
  rw [ix_in h0 (by omega), cc d h0 h1]
  by_cases q0 : D 5 d = 0
  · show la_leaderOf_f9 1 d _ (D 5 d) 0 h = _
    unfold la_leaderOf_f9 la_leaderOf_b36
    rw [if_pos q0, ld_none h0 (fun y g z => by omega)]
  refine it2_find (fun _ => D 5 d) (fun k => (k : Int)) (fun _ => h) d.toNat (fun y => 0 < D 5 d ∧ D 5 y = D 5 d) (fun k x hx hp => ?_) (fun k x hx hp hy => ?_) (fun k hy => ?_) fuel 0 (Nat.zero_le _) (by unfold fuel; omega) (fun y g => absurd g (Nat.not_lt_zero _))
  · simp only [la_leaderOf_f9, Nat.reduceAdd]
    rw [if_neg q0, if_pos (by omega), ix_in (by omega) (by omega), cc x (by omega) (by omega), if_neg (fun z => hp ⟨by omega, z⟩), ck_in ⟨by omega, by omega⟩]
    rfl
  · simp only [la_leaderOf_f9, Nat.reduceAdd]
    rw [if_neg (by omega), if_pos (by omega), ix_in (by omega) (by omega), cc x (by omega) (by omega), if_pos hp.2, ld_some h0 hx hp hy]
  · simp only [la_leaderOf_f9, la_leaderOf_b36, Nat.reduceAdd]
    rw [if_neg (show ¬ ((d.toNat : Nat) : Int) < d by omega), ld_none h0 hy, ite_self]
end UNIT

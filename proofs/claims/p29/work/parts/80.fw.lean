section FW
def p2n : Nat → Int
  | 0 => 1
  | k + 1 => 2 * p2n k
theorem p2n_b : ∀ k : Nat, k < 13 → 1 ≤ p2n k ∧ p2n k ≤ 4096 := by decide
/-- lengths told so far are those of walks -/
def FWT (D : Dr) (E : ES) (B : Int) (G : Int → Int → Int) : Prop := (∀ i, 0 ≤ i → i < 12 → G i i = 0) ∧ ∀ i j, 0 ≤ i → i < 12 → 0 ≤ j → j < 12 → G i j = 1000000 ∨ (G i j ≤ D 0 j - D 0 i + 20 * B ∧ Wk E i j (G i j))
/-- before the point number k is used -/
def FWI (D : Dr) (E : ES) (k : Nat) (G : Int → Int → Int) : Prop := FWT D E (p2n k) G ∧ (∀ u v w, E u v w → G u v ≤ w) ∧ ∀ b i j : Int, 0 ≤ b → b < k → 0 ≤ i → i < 12 → 0 ≤ j → j < 12 → G i b ≠ 1000000 → G b j ≠ 1000000 → G i j ≤ G i b + G b j
def stG (G : Int → Int → Int) (b : Int) : Int → Int → Int := fun i j => if G i b = 1000000 then G i j else if G b j = 1000000 then G i j else min (G i b + G b j) (G i j)
variable {D : Dr} {W : Int → Prop} {X : Int} {G : Int → Int → Int}
theorem FWT.fin (g : WF D) {B : Int} (hB : B ≤ 4096) (h : FWT D (eE D W X) B G) {i j : Int} (i0 : 0 ≤ i) (i1 : i < 12) (j0 : 0 ≤ j) (j1 : j < 12) (n : G i j ≠ 1000000) : Wk (eE D W X) i j (G i j) ∧ G i j ≤ D 0 j - D 0 i + 20 * B ∧ D 0 j - D 0 i ≤ G i j ∧ (-300 ≤ G i j ∧ G i j ≤ 82300) := by
  rcases h.2 i j i0 i1 j0 j1 with q | ⟨q1, q2⟩
  · exact absurd q n
  · have hb := Wk_b g q2
    refine ⟨q2, q1, hb, ?_⟩
    rcases Wk_pt g q2 with z | ⟨z1, z2⟩
    · have := h.1 i i0 i1
      rw [z, this]
      omega
    · have p1 := g.2.2.2.2.1 i z1.1 z1.2
      have p2 := g.2.2.2.2.1 j z2.1 z2.2
      omega
theorem FWI.step (g : WF D) {k : Nat} (hk : k < 12) (h : FWI D (eE D W X) k G) : FWI D (eE D W X) (k + 1) (stG G k) := by
  obtain ⟨ht, he, hb⟩ := h
  have pk := p2n_b k (by omega)
  have ep : p2n (k + 1) = 2 * p2n k := rfl
  have hk' : 0 ≤ (k : Int) ∧ (k : Int) < 12 := by omega
  have dk := ht.1 k hk'.1 hk'.2
  have fin := fun (i j : Int) i0 i1 j0 j1 => ht.fin g pk.2 (i := i) (j := j) i0 i1 j0 j1
  have low : ∀ i j : Int, 0 ≤ i → i < 12 → 0 ≤ j → j < 12 → stG G k i j ≤ G i j := fun i j _ _ _ _ => by
    unfold stG
    split
    · exact Int.le_refl _
    · split
      · exact Int.le_refl _
      · omega
  have via : ∀ i j : Int, 0 ≤ i → i < 12 → 0 ≤ j → j < 12 → G i k ≠ 1000000 → G k j ≠ 1000000 → stG G k i j ≤ G i k + G k j := fun i j _ _ _ _ n1 n2 => by
    unfold stG
    rw [if_neg n1, if_neg n2]
    omega
  have cas : ∀ i j : Int, 0 ≤ i → i < 12 → 0 ≤ j → j < 12 → stG G k i j ≠ 1000000 → (stG G k i j = G i j ∧ G i j ≠ 1000000) ∨ (stG G k i j = G i k + G k j ∧ G i k ≠ 1000000 ∧ G k j ≠ 1000000) := fun i j i0 i1 j0 j1 n => by
    unfold stG at n ⊢
    by_cases n1 : G i k = 1000000
    · rw [if_pos n1] at n ⊢
      exact Or.inl ⟨rfl, n⟩
    · rw [if_neg n1] at n ⊢
      by_cases n2 : G k j = 1000000
      · rw [if_pos n2] at n ⊢
        exact Or.inl ⟨rfl, n⟩
      · rw [if_neg n2] at n ⊢
        have f1 := (fin i k i0 i1 hk'.1 hk'.2 n1).2.2.2
        have f2 := (fin k j hk'.1 hk'.2 j0 j1 n2).2.2.2
        by_cases c : G i k + G k j ≤ G i j
        · rw [Int.min_eq_left c]
          exact Or.inr ⟨rfl, n1, n2⟩
        · rw [Int.min_eq_right (by omega)] at n ⊢
          exact Or.inl ⟨rfl, n⟩
  refine ⟨⟨fun i i0 i1 => ?_, fun i j i0 i1 j0 j1 => ?_⟩, fun u v w e => ?_, fun b i j b0 b1 i0 i1 j0 j1 n1 n2 => ?_⟩
  · have l := low i i i0 i1 i0 i1
    have di := ht.1 i i0 i1
    rcases cas i i i0 i1 i0 i1 (by omega) with ⟨c, -⟩ | ⟨c, c1, c2⟩
    · rw [c, di]
    · have f1 := (fin i k i0 i1 hk'.1 hk'.2 c1).2.2.1
      have f2 := (fin k i hk'.1 hk'.2 i0 i1 c2).2.2.1
      omega
  · by_cases n : stG G k i j = 1000000
    · exact Or.inl n
    · refine Or.inr ?_
      rcases cas i j i0 i1 j0 j1 n with ⟨c, c1⟩ | ⟨c, c1, c2⟩
      · have f := fin i j i0 i1 j0 j1 c1
        rw [c, ep]
        exact ⟨by omega, f.1⟩
      · have f1 := fin i k i0 i1 hk'.1 hk'.2 c1
        have f2 := fin k j hk'.1 hk'.2 j0 j1 c2
        rw [c, ep]
        exact ⟨by omega, f1.1.trans f2.1⟩
  · have eb := (eE_b g e).1
    have w0 := g.1
    have := low u v (by omega) (by omega) (by omega) (by omega)
    have := he u v w e
    omega
  · by_cases cb : b = k
    · subst cb
      have x1 : stG G k i k = G i k := by
        unfold stG
        rw [dk]
        split
        · rfl
        · rw [if_neg (by omega)]
          omega
      have x2 : stG G k k j = G k j := by
        unfold stG
        rw [dk, if_neg (by omega)]
        split
        · rfl
        · omega
      rw [x1] at n1 ⊢
      rw [x2] at n2 ⊢
      exact via i j i0 i1 j0 j1 n1 n2
    · have b1' : b < k := by omega
      have b12 : b < 12 := by omega
      rcases cas i b i0 i1 b0 b12 n1 with ⟨c, c1⟩ | ⟨c, c1, c2⟩
      · rcases cas b j b0 b12 j0 j1 n2 with ⟨d, d1⟩ | ⟨d, d1, d2⟩
        · have := low i j i0 i1 j0 j1
          have := hb b i j b0 b1' i0 i1 j0 j1 c1 d1
          omega
        · have q := hb b i k b0 b1' i0 i1 hk'.1 hk'.2 c1 d1
          have f1 := (fin i b i0 i1 b0 b12 c1).2.2.2
          have f2 := (fin b k b0 b12 hk'.1 hk'.2 d1).2.2.2
          have := via i j i0 i1 j0 j1 (by omega) d2
          omega
      · rcases cas b j b0 b12 j0 j1 n2 with ⟨d, d1⟩ | ⟨d, d1, d2⟩
        · have q := hb b k j b0 b1' hk'.1 hk'.2 j0 j1 c2 d1
          have f1 := (fin k b hk'.1 hk'.2 b0 b12 c2).2.2.2
          have f2 := (fin b j b0 b12 j0 j1 d1).2.2.2
          have := via i j i0 i1 j0 j1 c1 (by omega)
          omega
        · have q := hb b k k b0 b1' hk'.1 hk'.2 hk'.1 hk'.2 c2 d1
          have := via i j i0 i1 j0 j1 c1 d2
          omega
end FW

section WALK
theorem least {P : Nat → Prop} : ∀ n : Nat, P n → ∃ k, P k ∧ ∀ j, j < k → ¬ P j := fun n => by
  induction n using Nat.strongRecOn with
  | _ n ih =>
    intro h
    by_cases q : ∃ j, j < n ∧ P j
    · obtain ⟨j, j1, j2⟩ := q
      exact ih j j1 j2
    · exact ⟨n, h, fun j j1 j2 => q ⟨j, j1, j2⟩⟩
theorem sumI_lt {g g' : Int → Int} {v : Int} : ∀ n : Nat, (∀ i : Int, 0 ≤ i → i < n → g i ≤ g' i) → 0 ≤ v → v < n → g v + 1 ≤ g' v → sumI g n + 1 ≤ sumI g' n
  | 0, _, h0, h1, _ => by omega
  | n + 1, he, h0, h1, hv => by
    show sumI g n + g n + 1 ≤ sumI g' n + g' n
    by_cases q : v = n
    · subst q
      have := sumI_mono n (fun i a b => he i a (by omega))
      omega
    · have := sumI_lt n (fun i a b => he i a (by omega)) h0 (by omega) hv
      have := he n (by omega) (by omega)
      omega
/-- edges: from, to, length -/
abbrev ES : Type := Int → Int → Int → Prop
/-- there is a walk of length x -/
def Wk (E : ES) (a b x : Int) : Prop := ∀ P : Int → Int → Prop, P a 0 → (∀ u v w y, E u v w → P u y → P v (y + w)) → P b x
variable {E : ES} {a b c x y : Int}
theorem Wk.nil : Wk E a a 0 := fun _ h _ => h
theorem Wk.step (h : Wk E a b x) {v w : Int} (e : E b v w) : Wk E a v (x + w) := fun P h0 hs => hs _ _ _ _ e (h P h0 hs)
theorem Wk.ind {P : Int → Int → Prop} (h : Wk E a b x) (h0 : P a 0) (hs : ∀ u v w y, E u v w → Wk E a u y → P u y → P v (y + w)) : P b x := (h (fun v y => Wk E a v y ∧ P v y) ⟨Wk.nil, h0⟩ (fun u v w y e p => ⟨p.1.step e, hs u v w y e p.1 p.2⟩)).2
theorem Wk.trans (h : Wk E a b x) (g : Wk E b c y) : Wk E a c (x + y) := g.ind (P := fun v z => Wk E a v (x + z)) (by rw [Int.add_zero]; exact h) (fun u v w z e _ p => by
  have := p.step e
  rw [Int.add_assoc] at this
  exact this)
theorem Wk.one (e : E a b x) : Wk E a b x := by
  have := (Wk.nil (E := E) (a := a)).step e
  rw [Int.zero_add] at this
  exact this
/-- R holds the least lengths from a -/
def SP (E : ES) (a : Int) (R : Int → Int) : Prop := R a ≤ 0 ∧ (∀ v, 0 ≤ v → v < 12 → R v = 1000000 ∨ (R v ≤ 100000 ∧ ∃ y, y ≤ R v ∧ Wk E a v y)) ∧ ∀ u v w, E u v w → R u ≠ 1000000 → R v ≠ 1000000 ∧ R v ≤ R u + w
variable {R R' : Int → Int}
theorem SP.low (h : SP E a R) {v : Int} (g : Wk E a v y) : R v ≠ 1000000 ∧ R v ≤ y := g.ind (P := fun v z => R v ≠ 1000000 ∧ R v ≤ z) ⟨by have := h.1; omega, h.1⟩ (fun u v w z e _ p => by
  have := h.2.2 u v w e p.1
  exact ⟨this.1, by omega⟩)
theorem SP.uniq (h : SP E a R) (h' : SP E a R') {v : Int} (v0 : 0 ≤ v) (v1 : v < 12) : R v = R' v := by
  rcases h.2.1 v v0 v1 with p | ⟨p, y, q1, q2⟩
  · rcases h'.2.1 v v0 v1 with p' | ⟨p', y', q1', q2'⟩
    · rw [p, p']
    · exact absurd p (h.low q2').1
  · rcases h'.2.1 v v0 v1 with p' | ⟨p', y', q1', q2'⟩
    · exact absurd p' (h'.low q2).1
    · have := (h.low q2').2
      have := (h'.low q2).2
      omega
noncomputable def dst (E : ES) (a v : Int) : Int := @dite _ (∃ R, SP E a R) (Classical.propDecidable _) (fun h => Classical.choose h v) (fun _ => 0)
noncomputable abbrev dstE (E : ES) (a v : Int) : Int := dst E a v
theorem SP.dst (h : SP E a R) {v : Int} (v0 : 0 ≤ v) (v1 : v < 12) : R v = dst E a v := by
  have e : ∃ R, SP E a R := ⟨R, h⟩
  have z : dstE E a v = Classical.choose e v := dif_pos e
  show R v = dstE E a v
  rw [z]
  exact h.uniq (Classical.choose_spec e) v0 v1
/-- the edges of a drawing, some dimensions left out, one exact -/
def eE (D : Dr) (W : Int → Prop) (X : Int) : ES := fun u v w => ∃ d, (0 ≤ d ∧ d < D 7 1) ∧ ¬ W d ∧ ((u = D 1 d ∧ v = D 2 d ∧ w = vD D d + (if d = X then 0 else D 4 d)) ∨ (u = D 2 d ∧ v = D 1 d ∧ w = (if d = X then 0 else D 3 d) - vD D d))
variable {D : Dr} {W : Int → Prop} {X : Int}
theorem eE_congr {W' : Int → Prop} (h : ∀ d, 0 ≤ d → d < D 7 1 → (W d ↔ W' d)) : eE D W X = eE D W' X := by
  funext u v w
  apply propext
  constructor
  · rintro ⟨d, d1, d2, d3⟩
    exact ⟨d, d1, fun z => d2 ((h d d1.1 d1.2).mpr z), d3⟩
  · rintro ⟨d, d1, d2, d3⟩
    exact ⟨d, d1, fun z => d2 ((h d d1.1 d1.2).mp z), d3⟩
theorem eE_b (g : WF D) {u v w : Int} (e : eE D W X u v w) : ((0 ≤ u ∧ u < D 7 0) ∧ 0 ≤ v ∧ v < D 7 0) ∧ u ≠ v ∧ 0 ≤ w - (D 0 v - D 0 u) ∧ w - (D 0 v - D 0 u) ≤ 20 := by
  obtain ⟨d, d1, -, d3⟩ := e
  obtain ⟨a1, a2, a3, -⟩ := g.2.2.2.2.2.2 d d1.1 d1.2
  have ev : vD D d = D 0 (D 2 d) - D 0 (D 1 d) := rfl
  rcases d3 with ⟨e1, e2, e3⟩ | ⟨e1, e2, e3⟩
  · rw [e1, e2, e3, ev]
    split <;> omega
  · rw [e1, e2, e3, ev]
    split <;> omega
theorem Wk_b (g : WF D) (h : Wk (eE D W X) a b x) : D 0 b - D 0 a ≤ x := h.ind (P := fun v z => D 0 v - D 0 a ≤ z) (by omega) (fun u v w z e _ p => by
  have := (eE_b g e).2.2
  show D 0 v - D 0 a ≤ z + w
  omega)
theorem Wk_pt (g : WF D) (h : Wk (eE D W X) a b x) : b = a ∨ ((0 ≤ a ∧ a < D 7 0) ∧ 0 ≤ b ∧ b < D 7 0) := h.ind (P := fun v _ => v = a ∨ ((0 ≤ a ∧ a < D 7 0) ∧ 0 ≤ v ∧ v < D 7 0)) (Or.inl rfl) (fun u v w z e _ p => by
  have := (eE_b g e).1
  show v = a ∨ _
  rcases p with p | p
  · rw [p] at this
    exact Or.inr this
  · exact Or.inr ⟨p.1, this.2⟩)
/-- a walk of least length -/
theorem Wk_least (g : WF D) (h : Wk (eE D W X) a b x) : ∃ y, Wk (eE D W X) a b y ∧ ∀ z, Wk (eE D W X) a b z → y ≤ z := by
  have hb := Wk_b g h
  obtain ⟨k, k1, k2⟩ := least (P := fun n => Wk (eE D W X) a b (D 0 b - D 0 a + n)) (x - (D 0 b - D 0 a)).toNat (by
    rw [Int.toNat_of_nonneg (by omega), show D 0 b - D 0 a + (x - (D 0 b - D 0 a)) = x by omega]
    exact h)
  refine ⟨_, k1, fun z hz => ?_⟩
  have hb' := Wk_b g hz
  by_cases q : D 0 b - D 0 a + (k : Int) ≤ z
  · exact q
  · refine absurd ?_ (k2 (z - (D 0 b - D 0 a)).toNat (by omega))
    rw [Int.toNat_of_nonneg (by omega), show D 0 b - D 0 a + (z - (D 0 b - D 0 a)) = z by omega]
    exact hz
end WALK

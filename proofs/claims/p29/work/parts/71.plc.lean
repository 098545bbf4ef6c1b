section PLC
variable {D : Dr} {a : Int} {h : Hp} {th : Nat}
/-- what the first pass has left, and later ones leave -/
def LR (D : Dr) (a : Int) (th : Nat) (h : Hp) : Prop := h th 15 = D 7 1 ∧ h th 6 = uc D (D 7 1).toNat ∧ ∀ d, 0 ≤ d → d < D 7 1 → h (th + 1) d = fD D a d ∧ h (th + 2) d = bD D a d ∧ h (th + 3) d = eD D a d ∧ h (th + 8) d = ld D d ∧ (ld D d = d → h (th + 9) d = uS D d ∧ h (th + 10) d = uT D d ∧ h (th + 11) d = uL D d)
noncomputable def lcn (D : Dr) (a : Int) : Nat → Int
  | 0 => 0
  | i + 1 => max (lcn D a i) (aZ D a i + 1)
/-- before the unit number i is laid -/
def PC (D : Dr) (a : Int) (th : Nat) (i : Nat) (h : Hp) : Prop := LR D a th h ∧ UO D (h (th + 12)) (uc D (D 7 1).toNat) (D 7 1) ∧ (∀ j : Int, 0 ≤ j → j < i → aP D a i (h (th + 12) j) = 1) ∧ (∀ j : Int, (i : Int) ≤ j → j < uc D (D 7 1).toNat → aP D a i (h (th + 12) j) = 0) ∧ (∀ d, 0 ≤ d → d < D 7 1 → h (th + 4) d = if aP D a i (ld D d) = 1 then aL D a i (ld D d) else -1) ∧ h th 7 = lcn D a i
theorem LR.keep (g : LR D a th h) {h' : Hp} (e15 : h' th 15 = h th 15) (e6 : h' th 6 = h th 6) (e : ∀ c, (c = th + 1 ∨ c = th + 2 ∨ c = th + 3 ∨ c = th + 8 ∨ c = th + 9 ∨ c = th + 10 ∨ c = th + 11) → ∀ j, h' c j = h c j) : LR D a th h' := by
  refine ⟨e15.trans g.1, e6.trans g.2.1, fun d d0 d1 => ?_⟩
  rw [e (th + 1) (by omega), e (th + 2) (by omega), e (th + 3) (by omega), e (th + 8) (by omega), e (th + 9) (by omega), e (th + 10) (by omega), e (th + 11) (by omega)]
  exact g.2.2 d d0 d1
theorem la_comes (g : LR D a th h) (w : WF D) {u v : Int} (hu : (0 ≤ u ∧ u < D 7 1) ∧ ld D u = u) (hv : (0 ≤ v ∧ v < D 7 1) ∧ ld D v = v) : la_comesBefore th u v h = some (yn (bf (uS D) (uT D) u v), h) := by
  have w1 := w.2.1
  obtain ⟨u1, u2, -⟩ := (g.2.2 u hu.1.1 hu.1.2).2.2.2.2 hu.2
  obtain ⟨v1, v2, -⟩ := (g.2.2 v hv.1.1 hv.1.2).2.2.2.2 hv.2
  obtain ⟨a1, a2, -⟩ := w.uST hu.1.1 hu.1.2
  obtain ⟨b1, b2, -⟩ := w.uST hv.1.1 hv.1.2
  rw [la_comesBefore_eq (by omega) (by omega) (by rw [u1, u2]; exact ⟨a1, a2⟩) (by rw [v1, v2]; exact ⟨b1, b2⟩)]
  rw [yn_congr (show bf (h (th + 9)) (h (th + 10)) u v ↔ bf (uS D) (uT D) u v by unfold bf; rw [u1, u2, v1, v2])]
/-- two places of a row change -/
def swp (O : Int → Int) (i x : Int) : Int → Int := fun j => if j = x then O i else if j = i then O x else O j
theorem UO_swp {O : Int → Int} {n k i x : Int} (g : UO D O n k) (hi : 0 ≤ i ∧ i < n) (hx : 0 ≤ x ∧ x < n) (hn : i ≠ x) : UO D (swp O i x) n k := by
  obtain ⟨g1, g2, g3⟩ := g
  have si : ∀ j, swp O i x j = if j = x then O i else if j = i then O x else O j := fun j => rfl
  refine ⟨fun j j0 j1 => ?_, fun j y j0 j1 y0 y1 e => ?_, fun u u0 u1 u2 => ?_⟩
  · rw [si]
    split
    · exact g1 i hi.1 hi.2
    · split
      · exact g1 x hx.1 hx.2
      · exact g1 j j0 j1
  · rw [si, si] at e
    have q1 := g2 i x hi.1 hi.2 hx.1 hx.2
    have q2 := g2 i y hi.1 hi.2 y0 y1
    have q3 := g2 x y hx.1 hx.2 y0 y1
    have q4 := g2 j y j0 j1 y0 y1
    have q5 := g2 j i j0 j1 hi.1 hi.2
    have q6 := g2 j x j0 j1 hx.1 hx.2
    by_cases c1 : j = x
    · rw [if_pos c1] at e
      by_cases c2 : y = x
      · omega
      · rw [if_neg c2] at e
        by_cases c3 : y = i
        · rw [if_pos c3] at e; omega
        · rw [if_neg c3] at e; omega
    · rw [if_neg c1] at e
      by_cases c2 : j = i
      · rw [if_pos c2] at e
        by_cases c3 : y = x
        · rw [if_pos c3] at e; omega
        · rw [if_neg c3] at e
          by_cases c4 : y = i
          · omega
          · rw [if_neg c4] at e; omega
      · rw [if_neg c2] at e
        by_cases c3 : y = x
        · rw [if_pos c3] at e; omega
        · rw [if_neg c3] at e
          by_cases c4 : y = i
          · rw [if_pos c4] at e; omega
          · rw [if_neg c4] at e; omega
  · obtain ⟨j, j0, j1, j2⟩ := g3 u u0 u1 u2
    by_cases c1 : j = i
    · exact ⟨x, hx.1, hx.2, by rw [si, if_pos rfl, ← c1, j2]⟩
    · by_cases c2 : j = x
      · exact ⟨i, hi.1, hi.2, by rw [si, if_neg (by omega), if_pos rfl, ← c2, j2]⟩
      · exact ⟨j, j0, j1, by rw [si, if_neg c2, if_neg c1, j2]⟩
/-- the first place of those left holds the unit whose turn it is -/
theorem turn_is (w : WF D) {O : Int → Int} {i : Nat} (hi : (i : Int) < uc D (D 7 1).toNat) (g : UO D O (uc D (D 7 1).toNat) (D 7 1)) (g1 : ∀ j : Int, 0 ≤ j → j < i → aP D a i (O j) = 1) (g2 : ∀ j : Int, (i : Int) ≤ j → j < uc D (D 7 1).toNat → aP D a i (O j) = 0) (g3 : ∀ j : Int, (i : Int) < j → j < uc D (D 7 1).toNat → bf (uS D) (uT D) (O i) (O j)) : O i = aU D a i := by
  obtain ⟨u1, u2, u3, u4⟩ := aU_is (a := a) w (aS_is w i (by omega)).1 hi
  refine Classical.byContradiction fun n => ?_
  have gi := g.1 i (by omega) hi
  have b1 := u4 (O i) gi.1.1 gi.1.2 gi.2 (g2 i (by omega) hi) n
  obtain ⟨j, j0, j1, j2⟩ := g.2.2 (aU D a i) u1.1 u1.2 u2
  have hj : (i : Int) < j := by
    rcases Int.lt_trichotomy j i with z | z | z
    · have := g1 j j0 z
      rw [j2] at this
      omega
    · exact absurd (by rw [← z, j2]) n
    · exact z
  have b2 := g3 j hj j1
  rw [j2] at b2
  exact bf_asym b1 b2
theorem lbr_le {p l : Int → Int} {u y : Int} : ∀ k : Nat, lbr D p l u k ≤ y ↔ uL D u ≤ y ∧ ∀ v : Int, 0 ≤ v → v < k → ld D v = v → p v = 1 → (uS D u ≤ uS D v ∧ uT D v ≤ uT D u) → l v + 1 ≤ y
  | 0 => ⟨fun z => ⟨z, fun v a b => by omega⟩, fun z => z.1⟩
  | k + 1 => by
    have i := lbr_le (p := p) (l := l) (u := u) (y := y) k
    unfold lbr
    by_cases q : ld D k = k ∧ p k = 1 ∧ (uS D u ≤ uS D k ∧ uT D k ≤ uT D u) ∧ lbr D p l u k ≤ l k
    · rw [if_pos q]
      refine ⟨fun z => ?_, fun z => z.2 k (by omega) (by omega) q.1 q.2.1 q.2.2.1⟩
      obtain ⟨i1, i2⟩ := i.mp (by omega)
      refine ⟨i1, fun v v0 v1 v2 v3 v4 => ?_⟩
      by_cases c : v = k
      · rw [c]; exact z
      · exact i2 v v0 (by omega) v2 v3 v4
    · rw [if_neg q]
      refine ⟨fun z => ⟨(i.mp z).1, fun v v0 v1 v2 v3 v4 => ?_⟩, fun z => i.mpr ⟨z.1, fun v v0 v1 => z.2 v v0 (by omega)⟩⟩
      by_cases c : v = k
      · subst c
        have : ¬ lbr D p l u k ≤ l k := fun y => q ⟨v2, v3, v4, y⟩
        omega
      · exact (i.mp z).2 v v0 (by omega) v2 v3 v4
theorem lbd_le {u y : Int} : ∀ k : Nat, lbd h th u k ≤ y ↔ h (th + 11) u ≤ y ∧ ∀ j : Int, 0 ≤ j → j < k → (h (th + 9) u ≤ h (th + 9) (h (th + 12) j) ∧ h (th + 10) (h (th + 12) j) ≤ h (th + 10) u) → h (th + 4) (h (th + 12) j) + 1 ≤ y
  | 0 => ⟨fun z => ⟨z, fun v a b => by omega⟩, fun z => z.1⟩
  | k + 1 => by
    have i := lbd_le (u := u) (y := y) k
    have e : lbd h th u (k + 1) = if h (th + 9) (h (th + 12) k) < h (th + 9) u then lbd h th u k else if h (th + 10) u < h (th + 10) (h (th + 12) k) then lbd h th u k else max (lbd h th u k) (h (th + 4) (h (th + 12) k) + 1) := rfl
    rw [e]
    generalize lbd h th u k = b at *
    by_cases q1 : h (th + 9) (h (th + 12) k) < h (th + 9) u
    · rw [if_pos q1]
      refine ⟨fun z => ⟨(i.mp z).1, fun v v0 v1 v2 => ?_⟩, fun z => i.mpr ⟨z.1, fun v v0 v1 => z.2 v v0 (by omega)⟩⟩
      by_cases c : v = k
      · subst c; omega
      · exact (i.mp z).2 v v0 (by omega) v2
    · rw [if_neg q1]
      by_cases q2 : h (th + 10) u < h (th + 10) (h (th + 12) k)
      · rw [if_pos q2]
        refine ⟨fun z => ⟨(i.mp z).1, fun v v0 v1 v2 => ?_⟩, fun z => i.mpr ⟨z.1, fun v v0 v1 => z.2 v v0 (by omega)⟩⟩
        by_cases c : v = k
        · subst c; omega
        · exact (i.mp z).2 v v0 (by omega) v2
      · rw [if_neg q2]
        refine ⟨fun z => ⟨(i.mp (by omega)).1, fun v v0 v1 v2 => ?_⟩, fun z => ?_⟩
        · by_cases c : v = k
          · subst c; omega
          · exact (i.mp (by omega)).2 v v0 (by omega) v2
        · have := i.mpr ⟨z.1, fun v v0 v1 => z.2 v v0 (by omega)⟩
          have := z.2 k (by omega) (by omega) ⟨by omega, by omega⟩
          omega
theorem eq_of_le {x y : Int} (h : ∀ z, x ≤ z ↔ y ≤ z) : x = y := by
  have := (h x).mp (Int.le_refl _)
  have := (h y).mpr (Int.le_refl _)
  omega
end PLC

section LAWT
variable {D : Dr} {h : Hp}
theorem bz_in {β : Type} {v : Int} {E : Option β} (h : v = 0 ∨ v = 1) : bz v E = E := if_pos h
/-- two dimensions meet in a lane -/
def tq (D : Dr) (a : Int) (p l : Int → Int) (u x : Int) (d e : Int) : Prop := ld D d = u ∧ (p (ld D e) = 1 ∧ l (ld D e) = x) ∧ bD D a d ≤ eD D a e ∧ bD D a e ≤ eD D a d
theorem tk_iff {a u x : Int} {p l : Int → Int} : tk D a p l u x ↔ ∃ d, (0 ≤ d ∧ d < D 7 1) ∧ ∃ e, (0 ≤ e ∧ e < D 7 1) ∧ tq D a p l u x d e := by
  constructor
  · rintro ⟨d, d1, d2, e, e1, e2, e3, e4⟩
    exact ⟨d, by omega, e, by omega, d2, e2, e3, e4⟩
  · rintro ⟨d, d1, e, e1, t⟩
    have ed : ((d.toNat : Nat) : Int) = d := Int.toNat_of_nonneg d1.1
    have ee : ((e.toNat : Nat) : Int) = e := Int.toNat_of_nonneg e1.1
    refine ⟨d.toNat, by omega, ?_, e.toNat, by omega, ?_, ?_, ?_⟩
    · rw [ed]; exact t.1
    · rw [ee]; exact t.2.1
    · rw [ed, ee]; exact t.2.2.1
    · rw [ed, ee]; exact t.2.2.2
/-- the bit of a unit -/
abbrev pbit (pl v : Int) : Int := pl / pw2 v % 2
theorem isT71 {Q : Int → Hp → Prop} {h0 : Hp} (l0 : QL D h0 h) {u x pl : Int} {q : Nat} {k : Int → Int → Hp → O Int} {s d e s0 : Int} (hd : 0 ≤ d ∧ d < D 7 1) (he : 0 ≤ e ∧ e < D 7 1) (hs : s = 0 ∨ s = 1) (hk : ∀ s' h3, (s' = 0 ∨ s' = 1) → (s' = 1 ↔ s = 1 ∨ (s0 ≠ 0 ∧ bD D (D 7 3) d ≤ eD D (D 7 3) e ∧ bD D (D 7 3) e ≤ eD D (D 7 3) d)) → QL D h0 h3 → wp (k s' (e + 1) h3) Q) : wp (lw_isTaken_b71 0 u x pl q 16 k s d e s0 h) Q := by
  have w1 := l0.1.wf.2.1
  unfold lw_isTaken_b71 lw_isTaken_b125 lw_isTaken_b121
  simp only [lw_isTaken_b126, ck_in (show inR (e + 1) from ⟨by omega, by omega⟩)]
  by_cases c : s = 0
  · rw [if_pos c]
    by_cases c0 : s0 = 0
    · rw [if_pos c0]
      exact hk _ _ (Or.inl rfl) ⟨fun z => absurd z (by decide), fun z => by rcases z with z | z; omega; exact absurd c0 z.1⟩ l0
    · rw [if_neg c0]
      obtain ⟨h1, e1, l1⟩ := q_d8 l0.1 hd
      obtain ⟨h2, e2, l2⟩ := q_d9 l1.1 he
      rw [bd_eq e1, bd_eq e2]
      have l02 := (l0.trans l1).trans l2
      by_cases c1 : eD D (D 7 3) e < bD D (D 7 3) d
      · rw [if_pos c1]
        exact hk _ _ (Or.inl rfl) ⟨fun z => absurd z (by decide), fun z => by omega⟩ l02
      · rw [if_neg c1]
        obtain ⟨h3, e3, l3⟩ := q_d8 l2.1 he
        obtain ⟨h4, e4, l4⟩ := q_d9 l3.1 hd
        rw [bd_eq e3, bd_eq e4]
        have l04 := (l02.trans l3).trans l4
        by_cases c2 : eD D (D 7 3) d < bD D (D 7 3) e
        · rw [if_pos c2]
          exact hk _ _ (Or.inl rfl) ⟨fun z => absurd z (by decide), fun z => by omega⟩ l04
        · rw [if_neg c2]
          exact hk _ _ (Or.inr rfl) ⟨fun _ => Or.inr ⟨c0, by omega, by omega⟩, fun _ => rfl⟩ l04
  · rw [if_neg c]
    exact hk _ _ (Or.inr rfl) ⟨fun _ => Or.inl (by omega), fun _ => rfl⟩ l0
theorem lw_isTaken_eq (g : QS D h) {u x pl : Int} {q : Nat} (hq : 132 ≤ q) (hp : 0 ≤ pl) : ∃ h1, lw_isTaken 0 u x pl q 16 h = some (tb (tk D (D 7 3) (pbit pl) (h q) u x), h1) ∧ QL D h h1 := by
  have w1 := g.wf.2.1
  unfold lw_isTaken
  refine exq (wp_it2 (fun s d h' => (0 ≤ d ∧ d ≤ D 7 1) ∧ (s = 0 ∨ s = 1) ∧ (s = 1 ↔ ∃ d', (0 ≤ d' ∧ d' < d) ∧ ∃ e, (0 ≤ e ∧ e < D 7 1) ∧ tq D (D 7 3) (pbit pl) (h q) u x d' e) ∧ QL D h h') (fun _ d _ => (D 7 1 - d).toNat) (fun s d h' hI k hk => ?_) fuel _ _ _ ⟨by omega, Or.inl rfl, ⟨fun z => absurd z (by decide), fun ⟨d', a, _⟩ => by omega⟩, QL.rfl g⟩ (by unfold fuel; omega))
  obtain ⟨hd, hs, hsi, lx⟩ := hI
  unfold lw_isTaken_f6
  obtain ⟨h1, e1, l1⟩ := q_m lx.1
  rw [bd_eq e1]
  by_cases c : d < D 7 1
  · rw [if_pos c]
    refine wp_it2 (fun s2 e h'' => (0 ≤ e ∧ e ≤ D 7 1) ∧ (s2 = 0 ∨ s2 = 1) ∧ (s2 = 1 ↔ (∃ d', (0 ≤ d' ∧ d' < d) ∧ ∃ e, (0 ≤ e ∧ e < D 7 1) ∧ tq D (D 7 3) (pbit pl) (h q) u x d' e) ∨ ∃ e', (0 ≤ e' ∧ e' < e) ∧ tq D (D 7 3) (pbit pl) (h q) u x d e') ∧ QL D h h'') (fun _ e _ => (D 7 1 - e).toNat) (fun s2 e h'' hJ k2 hk2 => ?_) fuel _ _ _ ⟨by omega, hs, ⟨fun z => Or.inl (hsi.mp z), fun z => hsi.mpr (z.resolve_right (fun ⟨e', a, _⟩ => by omega))⟩, lx.trans l1⟩ (by unfold fuel; omega)
    obtain ⟨he, hs2, hsi2, ly⟩ := hJ
    unfold lw_isTaken_f19
    obtain ⟨h2, e2, l2⟩ := q_m ly.1
    rw [bd_eq e2]
    by_cases c2 : e < D 7 1
    · rw [if_pos c2]
      obtain ⟨h3, e3, l3⟩ := lw_unit_eq l2.1 (d := e) (by omega)
      obtain ⟨h4, e4, l4⟩ := lw_unit_eq l3.1 (d := d) (by omega)
      rw [bd_eq e3, bd_eq e4]
      have l04 := ((ly.trans l2).trans l3).trans l4
      have lde := (ld_is (D := D) (d := e) (by omega)).1
      have eq4 : h4 q = h q := l04.2 q hq
      have next : ∀ (s0 : Int), (s0 ≠ 0 ↔ (ld D d = u ∧ pbit pl (ld D e) = 1 ∧ h q (ld D e) = x)) → wp (lw_isTaken_b71 0 u x pl q 16 k2 s2 d e s0 h4) (fun r h1 => r = tb (tk D (D 7 3) (pbit pl) (h q) u x) ∧ QL D h h1) := fun s0 h0 =>
        isT71 l04 (by omega) (by omega) hs2 (fun s' h5 z1 z2 z3 => hk2 _ _ _ ⟨by omega, z1, by
          rw [z2, hsi2]
          constructor
          · rintro ((y | ⟨e', a, b⟩) | ⟨y, y2, y3⟩)
            · exact Or.inl y
            · exact Or.inr ⟨e', by omega, b⟩
            · have t := h0.mp y
              exact Or.inr ⟨e, by omega, t.1, t.2, y2, y3⟩
          · rintro (y | ⟨e', a, b⟩)
            · exact Or.inl (Or.inl y)
            · by_cases z : e' = e
              · subst z
                exact Or.inr ⟨h0.mpr ⟨b.1, b.2.1.1, b.2.1.2⟩, b.2.2.1, b.2.2.2⟩
              · exact Or.inl (Or.inr ⟨e', by omega, b⟩), z3⟩ (by omega))
      unfold lw_isTaken_b70
      by_cases c3 : ld D d = u
      · rw [if_pos c3, shc_in hp lde.1 (by omega)]
        by_cases c4 : pl / pw2 (ld D e) % 2 = 1
        · rw [if_pos c4, ix_in lde.1 (by omega), eq4]
          by_cases c5 : h q (ld D e) = x
          · rw [if_pos c5]
            exact next 1 ⟨fun _ => ⟨c3, c4, c5⟩, fun _ => by decide⟩
          · rw [if_neg c5]
            exact next 0 ⟨fun z => absurd rfl z, fun z => absurd z.2.2 c5⟩
        · rw [if_neg c4]
          exact next 0 ⟨fun z => absurd rfl z, fun z => absurd z.2.1 c4⟩
      · rw [if_neg c3]
        exact next 0 ⟨fun z => absurd rfl z, fun z => absurd z.1 c3⟩
    · rw [if_neg c2, ck_in ⟨by omega, by omega⟩]
      refine hk _ _ _ ⟨by omega, hs2, ?_, ly.trans l2⟩ (by omega)
      rw [hsi2]
      constructor
      · rintro (⟨d', a, b⟩ | ⟨e', a, b⟩)
        · exact ⟨d', by omega, b⟩
        · exact ⟨d, by omega, e', by omega, b⟩
      · rintro ⟨d', a, e', a2, b⟩
        by_cases z : d' = d
        · subst z
          exact Or.inr ⟨e', by omega, b⟩
        · exact Or.inl ⟨d', by omega, e', a2, b⟩
  · rw [if_neg c, bz_in hs]
    refine wp_ret ⟨?_, lx.trans l1⟩
    have em : d = D 7 1 := by omega
    rw [em] at hsi
    by_cases t : tk D (D 7 3) (pbit pl) (h q) u x
    · rw [tb_t t]
      exact hsi.mpr (tk_iff.mp t)
    · rw [tb_f t]
      exact hs.resolve_right (fun z => t (tk_iff.mpr (hsi.mp z)))
end LAWT

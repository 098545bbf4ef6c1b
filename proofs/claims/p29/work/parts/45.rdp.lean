section RDP
def MFR (h h' : Hp) : Prop := (∀ c, c ≠ 132 → c ≠ 133 → h' c = h c) ∧ (∀ j, (j ≠ 4 ∧ j ≠ 5 ∧ j ≠ 6 ∧ j ≠ 7) → h' 132 j = h 132 j) ∧ ∀ j, 112 ≤ j → h' 133 j = h 133 j
theorem MFR.rfl (h : Hp) : MFR h h := ⟨fun _ _ _ => Eq.refl _, fun _ _ => Eq.refl _, fun _ _ => Eq.refl _⟩
theorem MFR.trans {h1 h2 h3 : Hp} (a : MFR h1 h2) (b : MFR h2 h3) : MFR h1 h3 := ⟨fun c g g' => (b.1 c g g').trans (a.1 c g g'), fun j g => (b.2.1 j g).trans (a.2.1 j g), fun j g => (b.2.2 j g).trans (a.2.2 j g)⟩
end RDP

section RDC
variable {h : Hp}
def CR (h : Hp) : Prop := (0 ≤ h 75 5 ∧ h 75 5 ≤ h 75 2) ∧ h 75 2 ≤ 80
/-- what reading may change in the class -/
def FRM (h h' : Hp) : Prop := (∀ c, c < 75 ∨ 85 ≤ c → h' c = h c) ∧ h' 76 = h 76 ∧ h' 75 2 = h 75 2
/-- behind a fault all is kept but the spot -/
def FT (h h' : Hp) : Prop := CR h' ∧ h' 75 3 = h 75 3 ∧ h' 75 4 = h 75 4 ∧ FRM h h'
theorem FRM.trans {h1 h2 h3 : Hp} (a : FRM h1 h2) (b : FRM h2 h3) : FRM h1 h3 := ⟨fun c g => (b.1 c g).trans (a.1 c g), b.2.1.trans a.2.1, b.2.2.trans a.2.2⟩
theorem FT.trans {h1 h2 h3 : Hp} (a : FT h1 h2) (b : FT h2 h3) : FT h1 h3 := ⟨b.1, b.2.1.trans a.2.1, b.2.2.1.trans a.2.2.1, a.2.2.2.trans b.2.2.2⟩
theorem FRM.rfl (h : Hp) : FRM h h := ⟨fun _ _ => Eq.refl _, Eq.refl _, Eq.refl _⟩
theorem FT.rfl (hc : CR h) : FT h h := ⟨hc, Eq.refl _, Eq.refl _, FRM.rfl h⟩
end RDC

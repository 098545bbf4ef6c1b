section FRAME
variable {FR : Dr → Hp → Prop}
theorem QF.rfl (h : Hp) : QF h h := ⟨fun _ _ _ => Eq.refl _, Eq.refl _, Eq.refl _, Eq.refl _, Eq.refl _, Eq.refl _⟩
theorem QF.trans {h1 h2 h3 : Hp} (a : QF h1 h2) (b : QF h2 h3) : QF h1 h3 := ⟨fun c g0 g1 => (b.1 c g0 g1).trans (a.1 c g0 g1), b.2.1.trans a.2.1, b.2.2.1.trans a.2.2.1, b.2.2.2.1.trans a.2.2.2.1, b.2.2.2.2.1.trans a.2.2.2.2.1, b.2.2.2.2.2.trans a.2.2.2.2.2⟩
end FRAME

section FRAME
variable {FR : Dr → Hp → Prop}
/-- what a question leaves as it was -/
def QF (h h' : Hp) : Prop := (∀ c, 1 ≤ c → c < 85 → h' c = h c) ∧ h' 133 = h 133 ∧ h' 134 = h 134 ∧ h' 132 1 = h 132 1 ∧ h' 132 3 = h 132 3 ∧ h' 132 4 = h 132 4
theorem QF.rfl (h : Hp) : QF h h := ⟨fun _ _ _ => Eq.refl _, Eq.refl _, Eq.refl _, Eq.refl _, Eq.refl _, Eq.refl _⟩
theorem QF.trans {h1 h2 h3 : Hp} (a : QF h1 h2) (b : QF h2 h3) : QF h1 h3 := ⟨fun c g0 g1 => (b.1 c g0 g1).trans (a.1 c g0 g1), b.2.1.trans a.2.1, b.2.2.1.trans a.2.2.1, b.2.2.2.1.trans a.2.2.2.1, b.2.2.2.2.1.trans a.2.2.2.2.1, b.2.2.2.2.2.trans a.2.2.2.2.2⟩
theorem QF.cs {D : Dr} {K : Int} {B : Int → Dr} {h h' : Hp} (q : QF h h') (hS : CS D K B h) : CS D K B h' := hS.keep (fun c a b => q.1 c a (by omega))
theorem QF.sm {D : Dr} {K : Int} {B : Int → Dr} {h h' : Hp} (q : QF h h') (hS : SM D K B h) : SM D K B h' := hS.keep (fun i => by rw [q.2.1]) q.2.2.2.1
theorem QF.tx {h h' : Hp} (q : QF h h') (hT : TX h) : TX h' := hT.keep (q.1 75 (by decide) (by decide)) (q.1 76 (by decide) (by decide)) q.2.2.1 q.2.2.2.2.1 q.2.2.2.2.2
/-- a question, asked of both -/
theorem step_ask {c m : Hp → O Int} (H : ∀ h D K B, INV FR h → OKS D K B → CS D K B h → SM D K B h → TX h → FR D h → ∃ r h1 h2, c h = some (r, h1) ∧ m h1 = some (r, h2) ∧ QF h h2 ∧ FR D h2) : STEP FR c m := by
  intro h hI
  obtain ⟨D, K, B, hO, hC, hM, hT, hR⟩ := id hI
  obtain ⟨r, h1, h2, e1, e2, q, f⟩ := H h D K B hI hO hC hM hT hR
  exact ⟨r, h1, h2, e1, e2, D, K, B, hO, q.cs hC, q.sm hM, q.tx hT, f⟩
end FRAME

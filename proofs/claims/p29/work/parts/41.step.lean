section STEP
def FRK (FR : Dr → Hp → Prop) : Prop := (∀ D h, h 0 6 = 0 → h 0 7 = 0 → FR D h) ∧ ∀ D h h', (∀ c, (c = 0 ∨ (85 ≤ c ∧ c < 132)) → h' c = h c) → FR D h → FR D h'
theorem CS.keep {D : Dr} {K : Int} {B : Int → Dr} {h h' : Hp} (hS : CS D K B h) (e : ∀ c, 1 ≤ c → c < 75 → h' c = h c) : CS D K B h' := ⟨hS.1.keep (fun c a b => e c (by omega) (by omega)), hS.2.keep (fun c a b => e c (by omega) (by omega))⟩
theorem OKS.push {D D' : Dr} {K : Int} {B : Int → Dr} (hO : OKS D K B) (hw : WF D') : OKS D' (min (K + 1) 8) (pushB D B) := ⟨hw, by have := hO.2.1; omega, pushB_wf hO⟩
variable {FR : Dr → Hp → Prop}
end STEP

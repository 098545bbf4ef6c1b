section MOE
/-- edits of a drawing -/
def dLay (D : Dr) (a b mi pl ch : Int) : Dr := fun r i => if r = 7 ∧ i = 1 then D 7 1 + 1 else if i = D 7 1 ∧ r = 1 then a else if i = D 7 1 ∧ r = 2 then b else if i = D 7 1 ∧ r = 3 then mi else if i = D 7 1 ∧ r = 4 then pl else if i = D 7 1 ∧ r = 5 then ch else if i = D 7 1 ∧ r = 6 then 0 else D r i
def dDel (D : Dr) (k : Int) : Dr := fun r i => if r = 7 then (if i = 1 then D 7 1 - 1 else D 7 i) else if r = 0 then D 0 i else if i < k then D r i else D r (i + 1)
def dSet (D : Dr) (r : Nat) (k v : Int) : Dr := fun r' i => if r' = r ∧ i = k then v else D r' i
def dIns (D : Dr) (x c : Int) : Dr := fun r i => if r = 0 then (if i < c then D 0 i else if i = c then x else D 0 (i - 1)) else if r = 1 ∨ r = 2 then (if c ≤ D r i then D r i + 1 else D r i) else if r = 7 ∧ i = 0 then D 7 0 + 1 else D r i
def gone (p x : Int) : Int := if x = p then -1 else if p < x then x - 1 else x
def PF (h h' : Hp) : Prop := (∀ c, c ≠ 133 → h' c = h c) ∧ ∀ j, 112 ≤ j → h' 133 j = h 133 j
theorem PF.refl (h : Hp) : PF h h := ⟨fun _ _ => rfl, fun _ _ => rfl⟩
theorem PF.trans {h h1 h2 : Hp} (a : PF h h1) (b : PF h1 h2) : PF h h2 := ⟨fun c g => (b.1 c g).trans (a.1 c g), fun j g => (b.2 j g).trans (a.2 j g)⟩
end MOE

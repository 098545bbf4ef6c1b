/-! ===== the abstract machine: values, heaps, programs as functions ===== -/
abbrev V : Type := Int ⊕ Nat ⊕ Int ⊕ Unit
abbrev vi (x : Int) : V := Sum.inl x
abbrev vr (a : Nat) : V := Sum.inr (Sum.inl a)
abbrev vl (x : Int) : V := Sum.inr (Sum.inr (Sum.inl x))
abbrev vsc : V := Sum.inr (Sum.inr (Sum.inr ()))
/-- cell, place, what it holds -/
abbrev Hp : Type := Nat → Int → Int
/-- a cell's kind: 0 int[n], 1 boolean[n], 2 Drawing[n] (stride, how many set), 3 int[n][], 4 + c an object of class c (.., how many of its references are set) -/
abbrev LK : Type := Nat × Nat × Nat × Nat
abbrev inR (x : Int) : Prop := -2147483648 ≤ x ∧ x ≤ 2147483647
abbrev O (α : Type) : Type := Option (α × Hp)
def hu (h : Hp) (a : Nat) (i v : Int) : Hp := fun c j => if c = a ∧ j = i then v else h c j
/-- System.arraycopy of n places, from place 0 to place 0 -/
def hcp (h : Hp) (src dst : Nat) (n : Int) : Hp := fun c j => if c = dst ∧ 0 ≤ j ∧ j < n then h src j else h c j
def hz (h : Hp) (a : Nat) : Hp := fun c j => if c = a then 0 else h c j
def ck {β : Type} (z : Int) (E : Option β) : Option β := if inR z then E else none
def ix {β : Type} (i n : Int) (E : Option β) : Option β := if 0 ≤ i ∧ i < n then E else none
def bz {β : Type} (v : Int) (E : Option β) : Option β := if v = 0 ∨ v = 1 then E else none
/-- a division, by what is known to be above 0, of what is known not to be below -/
def dv {β : Type} (x y : Int) (E : Option β) : Option β := if 0 ≤ x ∧ 0 < y then E else none
def shc {β : Type} (x y : Int) (E : Option β) : Option β := if 0 ≤ x ∧ 0 ≤ y ∧ y < 31 then E else none
def orc {β : Type} (x y : Int) (E : Option β) : Option β := if 0 ≤ x ∧ 0 ≤ y then E else none
def pw2 (d : Int) : Int := ((2 ^ d.toNat : Nat) : Int)
def orI (x y : Int) : Int := ((x.toNat ||| y.toNat : Nat) : Int)
def lt {β : Type} (h : Hp) (K : Hp → β) : β := K h
def bd {α β : Type} (o : O α) (K : α → Hp → Option β) : Option β := o.bind fun q => K q.1 q.2
def swt {β : Type} (x lo : Int) (Es : List (Option β)) (d : Option β) : Option β := if lo ≤ x ∧ x < lo + (Es.length : Int) then Es.getD (x - lo).toNat none else d
def fuel : Nat := 3000
def iter1 {β : Type} (F : (Int → Hp → Option β) → Int → Hp → Option β) : Nat → Int → Hp → Option β
  | 0 => fun _ _ => none
  | n + 1 => F (iter1 F n)
def iter0 {β : Type} (F : (Hp → Option β) → Hp → Option β) : Nat → Hp → Option β
  | 0 => fun _ => none
  | n + 1 => F (iter0 F n)
def iter2 {β : Type} (F : (Int → Int → Hp → Option β) → Int → Int → Hp → Option β) : Nat → Int → Int → Hp → Option β
  | 0 => fun _ _ _ => none
  | n + 1 => F (iter2 F n)
def iter3 {β : Type} (F : (Int → Int → Int → Hp → Option β) → Int → Int → Int → Hp → Option β) : Nat → Int → Int → Int → Hp → Option β
  | 0 => fun _ _ _ _ => none
  | n + 1 => F (iter3 F n)
def iter4 {β : Type} (F : (Int → Int → Int → Int → Hp → Option β) → Int → Int → Int → Int → Hp → Option β) : Nat → Int → Int → Int → Int → Hp → Option β
  | 0 => fun _ _ _ _ _ => none
  | n + 1 => F (iter4 F n)
def iter5 {β : Type} (F : (Int → Int → Int → Int → Int → Hp → Option β) → Int → Int → Int → Int → Int → Hp → Option β) : Nat → Int → Int → Int → Int → Int → Hp → Option β
  | 0 => fun _ _ _ _ _ _ => none
  | n + 1 => F (iter5 F n)
theorem ck_some {β : Type} {z : Int} {E : Option β} {r : β} (h : ck z E = some r) : inR z ∧ E = some r := by
  unfold ck at h; split at h <;> first | exact ⟨by assumption, h⟩ | cases h
theorem ix_some {β : Type} {i n : Int} {E : Option β} {r : β} (h : ix i n E = some r) : (0 ≤ i ∧ i < n) ∧ E = some r := by
  unfold ix at h; split at h <;> first | exact ⟨by assumption, h⟩ | cases h
theorem bz_some {β : Type} {v : Int} {E : Option β} {r : β} (h : bz v E = some r) : (v = 0 ∨ v = 1) ∧ E = some r := by
  unfold bz at h; split at h <;> first | exact ⟨by assumption, h⟩ | cases h
theorem dv_some {β : Type} {x y : Int} {E : Option β} {r : β} (h : dv x y E = some r) : (0 ≤ x ∧ 0 < y) ∧ E = some r := by
  unfold dv at h; split at h <;> first | exact ⟨by assumption, h⟩ | cases h
theorem shc_some {β : Type} {x y : Int} {E : Option β} {r : β} (h : shc x y E = some r) : (0 ≤ x ∧ 0 ≤ y ∧ y < 31) ∧ E = some r := by
  unfold shc at h; split at h <;> first | exact ⟨by assumption, h⟩ | cases h
theorem orc_some {β : Type} {x y : Int} {E : Option β} {r : β} (h : orc x y E = some r) : (0 ≤ x ∧ 0 ≤ y) ∧ E = some r := by
  unfold orc at h; split at h <;> first | exact ⟨by assumption, h⟩ | cases h
theorem bd_some {α β : Type} {o : O α} {K : α → Hp → Option β} {r : β} (h : bd o K = some r) : ∃ a h1, o = some (a, h1) ∧ K a h1 = some r := by
  unfold bd at h
  cases o with
  | none => cases h
  | some q => exact ⟨q.1, q.2, rfl, h⟩

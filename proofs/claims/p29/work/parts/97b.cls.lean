section CLS
variable {D : Dr} {h : Hp} {c : Int}
/-- a chain's dimension that begins at p -/
abbrev at1 (D : Dr) (c p d : Int) : Prop := D 5 d = c ∧ D 1 d = p
noncomputable def nxc (D : Dr) (c p : Int) : Int := ff (at1 D c p) (D 7 1).toNat
/-- the walk -/
noncomputable def pt (D : Dr) (c : Int) : Nat → Int
  | 0 => bg D c
  | k + 1 => D 2 (nxc D c (pt D c k))
/-- the walk goes on for k steps -/
def wlk (D : Dr) (c : Int) (k : Nat) : Prop := ∀ j, j < k → nxc D c (pt D c j) ≠ -999
/-- a chain is closed -/
def clo (D : Dr) (c : Int) : Prop := wlk D c (sc D c (fun _ => 1)).toNat
end CLS

section CHN
/-- over a chain's dimensions -/
def scN (D : Dr) (c : Int) (g : Int → Int) (n : Nat) : Int := sumI (fun d => if D 5 d = c then g d else 0) n
def sc (D : Dr) (c : Int) (g : Int → Int) : Int := scN D c g (D 7 1).toNat
def bgN (D : Dr) (c : Int) : Nat → Int
  | 0 => D 7 0 - 1
  | k + 1 => if D 5 k = c then min (bgN D c k) (D 1 k) else bgN D c k
def enN (D : Dr) (c : Int) : Nat → Int
  | 0 => 0
  | k + 1 => if D 5 k = c then max (enN D c k) (D 2 k) else enN D c k
def bg (D : Dr) (c : Int) : Int := bgN D c (D 7 1).toNat
def en (D : Dr) (c : Int) : Int := enN D c (D 7 1).toNat
variable {D : Dr} {h : Hp} {c : Int}
/-- the smallest dimension over a chain -/
noncomputable def ov (D : Dr) (c : Int) : Int := ff (fun d => D 5 d ≠ c ∧ D 1 d = bg D c ∧ D 2 d = en D c) (D 7 1).toNat
end CHN

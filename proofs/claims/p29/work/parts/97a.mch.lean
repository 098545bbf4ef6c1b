section MCH
variable {D : Dr} {h : Hp} {c : Int}
/-- what is summed -/
def gw (D : Dr) (x : Int) : Int → Int := fun d => if x = 0 then 1 else if x = 4 then vD D d else if x = 5 then D 3 d else D 4 d
/-- the first dimension of a chain -/
noncomputable def fc (D : Dr) (c : Int) : Int := ff (fun d => D 5 d = c) (D 7 1).toNat
end MCH

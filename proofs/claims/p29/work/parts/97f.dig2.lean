section DIGC
noncomputable def dmF (D : Dr) (X : Int) : Nat → Int
  | 0 => X
  | d + 1 => itr (aDim D d) (dmF D X d) 13
noncomputable def prI (D : Dr) (a X : Int) : Nat → Int
  | 0 => X
  | t + 1 => 31 * (31 * (31 * prI D a X t + aDist D a (a + 1 + t) 0) + aDist D a (a + 1 + t) 1) + aCrit D a (a + 1 + t)
noncomputable def prF (D : Dr) (X : Int) : Nat → Int
  | 0 => X
  | a + 1 => prI D a (prF D X a) (D 7 0 - 1 - a).toNat
noncomputable def chF (D : Dr) (X : Int) : Nat → Int
  | 0 => X
  | j + 1 => itr (aChain D (1 + j)) (chF D X j) 9
/-- what is left to be mixed, from the chains, pairs, dimensions, points on -/
noncomputable def v4 (D : Dr) (X : Int) : Int := 31 * chF D X 5 + aNeed D
noncomputable def v3 (D : Dr) (X : Int) : Int := v4 D (prF D X (D 7 0).toNat)
noncomputable def v2 (D : Dr) (X : Int) : Int := v3 D (dmF D X (D 7 1).toNat)
variable {D : Dr} {K : Int} {B : Int → Dr} {h0 h : Hp}
end DIGC
section DIGM
variable {D : Dr} {K : Int} {B : Int → Dr} {h0 h : Hp}
end DIGM

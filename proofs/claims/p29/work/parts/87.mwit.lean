section MWIT
variable {D : Dr} {h : Hp}
/-- how high, or none -/
noncomputable def wtA (D : Dr) (p : Int) : Int := if wt D (D 7 3) p = -1 then -999 else wt D (D 7 3) p
end MWIT

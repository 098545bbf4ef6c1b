/-! ===== the law's methods that make cells, and the law ===== -/
def lw_lanes (q0 a : Nat) (h : Hp) : O Int :=
  bd (dl_count q0 1 h) fun r1 h1 =>
  lt (hz h1 a) fun h2 =>
  lw_lanes_b11 q0 r1 a h2
def lw_witnesses (q0 a : Nat) (h : Hp) : O Int :=
  lt (hz h a) fun h1 =>
  lw_witnesses_b7 q0 a 0 h1
def lw_isSuperfluous (q0 : Nat) (p1 : Int) (a : Nat) (h : Hp) : O Int :=
  lt (hz h a) fun h1 =>
  lw_isSuperfluous_b5 q0 p1 a h1
/-- the first loop: each turn makes a cell -/
def lw_tol1 (q0 : Nat) (x1 x2 : Int) (a : Nat) (k29 : Int → Int → Hp → O Int) (x6 x7 : Int) (h : Hp) : O Int :=
  ix x7 17 (
  bd (dl_count q0 1 h) fun r1 h1 =>
  if x7 < r1 then
    bd (lw_isSuperfluous q0 x7 (a + 3 + x7.toNat) h1) fun r2 h2 =>
    lw_tol2_b45 q0 x1 x2 a (a + 1) (a + 2) (fun y6 y7 h => if y7 = x7 + 1 then k29 y6 y7 h else none) x6 x7 r2 h2
  else
    lw_tolerances_b91 q0 x1 x2 a (a + 1) (a + 2) x6 h1)
def lw_tolerances (q0 : Nat) (p1 : Int) (a : Nat) (h : Hp) : O Int :=
  bd (dl_count q0 0 h) fun r1 h1 =>
  lt (hz h1 a) fun h2 =>
  lt (hz h2 (a + 1)) fun h3 =>
  lt (hz h3 (a + 2)) fun h4 =>
  iter2 (lw_tol1 q0 p1 r1 a) fuel 0 0 h4
def lw_mid (L : Nat) (xs : Nat → Int32) (h : Hp) : O Int :=
  bd (lw_lanes 0 132 h) fun r1 h1 =>
  if r1 = 0 then some (0, h1)
  else
    bd (lw_witnesses 0 133 h1) fun r2 h2 =>
    if r2 = 0 then some (0, h2)
    else
      bd (lw_cell L xs 31 h2) fun r3 h3 =>
      bd (lw_tolerances 0 r3 134 h3) fun r4 h4 =>
      if r4 = 0 then some (0, h4)
      else lw_law_b165 0 L xs h4
def lw_all (L : Nat) (xs : Nat → Int32) (h : Hp) : O Int :=
  lt (hz h 0) fun h1 =>
  bd (dl_init 0 h1) fun _ h2 =>
  lw_law_b8 0 L xs (lw_mid L xs) h2

def dr_valueOf (th : Nat) (p1 : Int) (h : Hp) : O Int :=
  ix p1 16 (
  ix (h (th + 3) p1) 12 (
  ix p1 16 (
  ix (h (th + 2) p1) 12 (
  ck ((h (th + 1) (h (th + 3) p1)) - (h (th + 1) (h (th + 2) p1))) (
  some ((h (th + 1) (h (th + 3) p1)) - (h (th + 1) (h (th + 2) p1)), h))))))
def bo_listSteps_f10 (th : Nat) (q1 : Nat) (k10 : Int → Hp → O Unit) (x2 : Int) (h : Hp) : O Unit :=
  if x2 < h th 5 then
    bd (dr_valueOf q1 x2 h) fun r1 h1 =>
    ck (2 * x2) (
    ix x2 16 (
    ix (2 * x2) 32 (lt (hu h1 (th + 18) (2 * x2) (h1 (q1 + 2) x2)) fun h2 =>
    ck (2 * x2) (
    ix x2 16 (
    ix (2 * x2) 32 (lt (hu h2 (th + 19) (2 * x2) (h2 (q1 + 3) x2)) fun h3 =>
    ck (2 * x2) (
    ix x2 16 (
    ck (r1 + (h3 (q1 + 5) x2)) (
    ix (2 * x2) 32 (lt (hu h3 (th + 20) (2 * x2) (r1 + (h3 (q1 + 5) x2))) fun h4 =>
    ck (2 * x2) (
    ck ((2 * x2) + 1) (
    ix x2 16 (
    ix ((2 * x2) + 1) 32 (lt (hu h4 (th + 18) ((2 * x2) + 1) (h4 (q1 + 3) x2)) fun h5 =>
    ck (2 * x2) (
    ck ((2 * x2) + 1) (
    ix x2 16 (
    ix ((2 * x2) + 1) 32 (lt (hu h5 (th + 19) ((2 * x2) + 1) (h5 (q1 + 2) x2)) fun h6 =>
    ck (2 * x2) (
    ck ((2 * x2) + 1) (
    ix x2 16 (
    ck ((h6 (q1 + 4) x2) - r1) (
    ix ((2 * x2) + 1) 32 (lt (hu h6 (th + 20) ((2 * x2) + 1) ((h6 (q1 + 4) x2) - r1)) fun h7 =>
    ck (x2 + 1) (
    k10 (x2 + 1) h7))))))))))))))))))))))))
  else
    some ((), h)
def bo_listSteps (th : Nat) (q1 : Nat) (h : Hp) : O Unit :=
  lt (hu h th 5 (h q1 8)) fun h1 =>
  iter1 (bo_listSteps_f10 th q1) fuel 0 h1
def bo_removeNone_f2 (th : Nat) (k2 : Int → Hp → O Unit) (x1 : Int) (h : Hp) : O Unit :=
  if x1 < 16 then
    ix x1 16 (bz 0 (lt (hu h (th + 16) x1 0) fun h1 =>
    ck (x1 + 1) (
    k2 (x1 + 1) h1)))
  else
    some ((), h)
def bo_removeNone (th : Nat) (h : Hp) : O Unit :=
  iter1 (bo_removeNone_f2 th) fuel 0 h
def ja_fill_f5 (q0 : Nat) (n0 : Nat) (p1 : Int) (k5 : Int → Int → Hp → O Unit) (x2 x3 : Int) (h : Hp) : O Unit :=
  if x2 < x3 then
    ix x2 n0 (lt (hu h q0 x2 p1) fun h1 =>
    ck (x2 + 1) (
    k5 (x2 + 1) x3 h1))
  else
    some ((), h)
def ja_fill (q0 : Nat) (n0 : Nat) (p1 : Int) (h : Hp) : O Unit :=
  iter2 (ja_fill_f5 q0 n0 p1) fuel 0 (n0 : Int) h
def bo_findWays_b123 (th : Nat) (p1 : Int) (q2 : Nat) (n2 : Nat) (h : Hp) : O Unit :=
  some ((), h)
def bo_findWays_b111 (th : Nat) (p1 : Int) (q2 : Nat) (n2 : Nat) (k31 : Int → Int → Int → Hp → O Unit) (x3 x4 x5 : Int) (h : Hp) : O Unit :=
  ck (x5 + 1) (
  k31 x3 x4 (x5 + 1) h)
def bo_findWays_f31 (th : Nat) (p1 : Int) (q2 : Nat) (n2 : Nat) (k15 : Int → Int → Hp → O Unit) (k31 : Int → Int → Int → Hp → O Unit) (x3 x4 x5 : Int) (h : Hp) : O Unit :=
  ck (2 * (h th 5)) (
  if x5 < 2 * (h th 5) then
    ix x5 32 (
    ix (h (th + 18) x5) n2 (
    ix x5 32 (
    ck ((h q2 (h (th + 18) x5)) + (h (th + 20) x5)) (
    dv x5 2 (
    ix (x5 / 2) 16 (
    if h (th + 16) (x5 / 2) = 0 then
      if h q2 (h (th + 18) x5) = 1000000 then
        bo_findWays_b111 th p1 q2 n2 k31 x3 x4 x5 h
      else
        ix x5 32 (
        ix (h (th + 19) x5) n2 (
        if (h q2 (h (th + 18) x5)) + (h (th + 20) x5) < h q2 (h (th + 19) x5) then
          ix x5 32 (
          ix (h (th + 19) x5) n2 (lt (hu h q2 (h (th + 19) x5) ((h q2 (h (th + 18) x5)) + (h (th + 20) x5))) fun h1 =>
          bo_findWays_b111 th p1 q2 n2 k31 1 x4 x5 h1))
        else
          bo_findWays_b111 th p1 q2 n2 k31 x3 x4 x5 h))
    else
      bo_findWays_b111 th p1 q2 n2 k31 x3 x4 x5 h))))))
  else
    ck (x4 + 1) (
    k15 x3 (x4 + 1) h))
def bo_findWays_f15 (th : Nat) (p1 : Int) (q2 : Nat) (n2 : Nat) (k15 : Int → Int → Hp → O Unit) (x3 x4 : Int) (h : Hp) : O Unit :=
  if x3 = 0 then
    bo_findWays_b123 th p1 q2 n2 h
  else
    if x4 < 12 then
      iter3 (bo_findWays_f31 th p1 q2 n2 k15) fuel 0 x4 0 h
    else
      bo_findWays_b123 th p1 q2 n2 h
def bo_findWays (th : Nat) (p1 : Int) (q2 : Nat) (n2 : Nat) (h : Hp) : O Unit :=
  bd (ja_fill q2 n2 1000000 h) fun _ h1 =>
  ix p1 n2 (lt (hu h1 q2 p1 0) fun h2 =>
  iter2 (bo_findWays_f15 th p1 q2 n2) fuel 1 0 h2)
def bo_areBound_b18 (th : Nat) (p1 : Int) (p2 : Int) (s0 : Int) (h : Hp) : O Int :=
  bz s0 (some (s0, h))
def bo_areBound (th : Nat) (p1 : Int) (p2 : Int) (h : Hp) : O Int :=
  ix p1 12 (
  ix p2 12 (
  if h (th + 2 + p1.toNat) p2 = 1000000 then
    bo_areBound_b18 th p1 p2 0 h
  else
    bo_areBound_b18 th p1 p2 1 h))
def bo_formGroups_b74 (th : Nat) (p1 : Int) (k7 : Int → Hp → O Unit) (x2 : Int) (h : Hp) : O Unit :=
  ck (x2 + 1) (
  k7 (x2 + 1) h)
def bo_formGroups_b34 (th : Nat) (p1 : Int) (k7 : Int → Hp → O Unit) (x2 x3 : Int) (h : Hp) : O Unit :=
  if x3 = x2 then
    ix x2 12 (lt (hu h (th + 14) x2 (h th 3)) fun h1 =>
    ck ((h1 th 3) + 1) (
    lt (hu h1 th 3 ((h1 th 3) + 1)) fun h2 =>
    bo_formGroups_b74 th p1 k7 x2 h2))
  else
    ix x3 12 (
    ix x2 12 (lt (hu h (th + 14) x2 (h (th + 14) x3)) fun h3 =>
    bo_formGroups_b74 th p1 k7 x2 h3))
def bo_formGroups_f14 (th : Nat) (p1 : Int) (k7 : Int → Hp → O Unit) (k14 : Int → Int → Hp → O Unit) (x2 x3 : Int) (h : Hp) : O Unit :=
  if x3 < x2 then
    bd (bo_areBound th x3 x2 h) fun r1 h1 =>
    if r1 = 0 then
      ck (x3 + 1) (
      k14 x2 (x3 + 1) h1)
    else
      bo_formGroups_b34 th p1 k7 x2 x3 h1
  else
    bo_formGroups_b34 th p1 k7 x2 x3 h
def bo_formGroups_f7 (th : Nat) (p1 : Int) (k7 : Int → Hp → O Unit) (x2 : Int) (h : Hp) : O Unit :=
  if x2 < p1 then
    iter2 (bo_formGroups_f14 th p1 k7) fuel x2 0 h
  else
    some ((), h)
def bo_formGroups (th : Nat) (p1 : Int) (h : Hp) : O Unit :=
  lt (hu h th 3 0) fun h1 =>
  iter1 (bo_formGroups_f7 th p1) fuel 0 h1
def bo_isSuperfluous_b102 (th : Nat) (p1 : Int) (s0 : Int) (h : Hp) : O Int :=
  ix p1 16 (bz 0 (lt (hu h (th + 16) p1 0) fun h1 =>
  bz s0 (some (s0, h1))))
def bo_isSuperfluous_b101 (th : Nat) (p1 : Int) (h : Hp) : O Int :=
  bo_isSuperfluous_b102 th p1 0 h
def bo_isSuperfluous_b56 (th : Nat) (p1 : Int) (x3 s0 : Int) (h : Hp) : O Int :=
  ix x3 32 (
  bd (bo_findWays th (h (th + 18) x3) (th + 17) 12 h) fun _ h1 =>
  if s0 = 0 then
    bo_isSuperfluous_b101 th p1 h1
  else
    ix x3 32 (
    ix (h1 (th + 19) x3) 12 (
    ix x3 32 (
    if h1 (th + 20) x3 < h1 (th + 17) (h1 (th + 19) x3) then
      bo_isSuperfluous_b101 th p1 h1
    else
      bo_isSuperfluous_b102 th p1 1 h1))))
def bo_isSuperfluous (th : Nat) (p1 : Int) (h : Hp) : O Int :=
  ck (2 * p1) (
  ck (2 * p1) (
  ck ((2 * p1) + 1) (
  ix p1 16 (bz 1 (lt (hu h (th + 16) p1 1) fun h1 =>
  ix (2 * p1) 32 (
  bd (bo_findWays th (h1 (th + 18) (2 * p1)) (th + 17) 12 h1) fun _ h2 =>
  ix (2 * p1) 32 (
  ix (h2 (th + 19) (2 * p1)) 12 (
  ix (2 * p1) 32 (
  if h2 (th + 20) (2 * p1) < h2 (th + 17) (h2 (th + 19) (2 * p1)) then
    bo_isSuperfluous_b56 th p1 ((2 * p1) + 1) 0 h2
  else
    bo_isSuperfluous_b56 th p1 ((2 * p1) + 1) 1 h2)))))))))
def bo_workOut_b89 (th : Nat) (q1 : Nat) (k51 : Int → Hp → O Unit) (x2 s0 s1 : Int) (h : Hp) : O Unit :=
  ck (s1 + s0) (
  lt (hu h th 4 (s1 + s0)) fun h1 =>
  ck (x2 + 1) (
  k51 (x2 + 1) h1))
def bo_workOut_f51 (th : Nat) (q1 : Nat) (k51 : Int → Hp → O Unit) (x2 : Int) (h : Hp) : O Unit :=
  if x2 < h th 5 then
    bd (bo_isSuperfluous th x2 h) fun r1 h1 =>
    ix x2 16 (bz r1 (lt (hu h1 (th + 15) x2 r1) fun h2 =>
    ix x2 16 (
    if h2 (th + 15) x2 = 0 then
      bo_workOut_b89 th q1 k51 x2 0 (h2 th 4) h2
    else
      bo_workOut_b89 th q1 k51 x2 1 (h2 th 4) h2)))
  else
    some ((), h)
def bo_workOut_f11 (th : Nat) (q1 : Nat) (k11 : Int → Hp → O Unit) (x2 : Int) (h : Hp) : O Unit :=
  if x2 < h q1 7 then
    ix x2 12 (
    bd (bo_findWays th x2 (th + 2 + x2.toNat) 12 h) fun _ h2 =>
    ck (x2 + 1) (
    k11 (x2 + 1) h2))
  else
    bd (bo_formGroups th (h q1 7) h) fun _ h3 =>
    lt (hu h3 th 4 0) fun h4 =>
    iter1 (bo_workOut_f51 th q1) fuel 0 h4
def bo_workOut (th : Nat) (q1 : Nat) (h : Hp) : O Unit :=
  bd (bo_listSteps th q1 h) fun _ h1 =>
  bd (bo_removeNone th h1) fun _ h2 =>
  iter1 (bo_workOut_f11 th q1) fuel 0 h2
def bo_greatestIfExact (th : Nat) (q1 : Nat) (p2 : Int) (p3 : Int) (p4 : Int) (h : Hp) : O Int :=
  ix p2 16 (
  ix p2 16 (
  bd (dr_valueOf q1 p2 h) fun r1 h1 =>
  ix p3 12 (
  ix (h (q1 + 2) p2) 12 (
  ck ((h1 (th + 2 + p3.toNat) (h (q1 + 2) p2)) + r1) (
  ix (h (q1 + 3) p2) 12 (
  ix p4 12 (
  ck (((h1 (th + 2 + p3.toNat) (h (q1 + 2) p2)) + r1) + (h1 (th + 2 + (h (q1 + 3) p2).toNat) p4)) (
  ix p3 12 (
  ix (h (q1 + 3) p2) 12 (
  ck ((h1 (th + 2 + p3.toNat) (h (q1 + 3) p2)) - r1) (
  ix (h (q1 + 2) p2) 12 (
  ix p4 12 (
  ck (((h1 (th + 2 + p3.toNat) (h (q1 + 3) p2)) - r1) + (h1 (th + 2 + (h (q1 + 2) p2).toNat) p4)) (
  ix p3 12 (
  ix p4 12 (
  some (min (h1 (th + 2 + p3.toNat) p4) (min (((h1 (th + 2 + p3.toNat) (h (q1 + 2) p2)) + r1) + (h1 (th + 2 + (h (q1 + 3) p2).toNat) p4)) (((h1 (th + 2 + p3.toNat) (h (q1 + 3) p2)) - r1) + (h1 (th + 2 + (h (q1 + 2) p2).toNat) p4))), h1)))))))))))))))))
def bo_gain (th : Nat) (q1 : Nat) (p2 : Int) (p3 : Int) (p4 : Int) (h : Hp) : O Int :=
  ix p3 12 (
  ix p4 12 (
  bd (bo_greatestIfExact th q1 p2 p3 p4 h) fun r2 h2 =>
  ck ((h (th + 2 + p3.toNat) p4) - r2) (
  ix p4 12 (
  ix p3 12 (
  ck (((h (th + 2 + p3.toNat) p4) - r2) + (h2 (th + 2 + p4.toNat) p3)) (
  bd (bo_greatestIfExact th q1 p2 p4 p3 h2) fun r4 h4 =>
  ck ((((h (th + 2 + p3.toNat) p4) - r2) + (h2 (th + 2 + p4.toNat) p3)) - r4) (
  some ((((h (th + 2 + p3.toNat) p4) - r2) + (h2 (th + 2 + p4.toNat) p3)) - r4, h4))))))))
def bo_bestToMakeExact_b40 (th : Nat) (q1 : Nat) (p2 : Int) (p3 : Int) (k6 : Int → Int → Hp → O Int) (x4 x5 : Int) (h : Hp) : O Int :=
  ck (x5 + 1) (
  k6 x4 (x5 + 1) h)
def bo_bestToMakeExact_f6 (th : Nat) (q1 : Nat) (p2 : Int) (p3 : Int) (k6 : Int → Int → Hp → O Int) (x4 x5 : Int) (h : Hp) : O Int :=
  if x5 < h th 5 then
    bd (bo_gain th q1 x5 p2 p3 h) fun r1 h1 =>
    bd (bo_gain th q1 x4 p2 p3 h1) fun r2 h2 =>
    if r2 < r1 then
      bo_bestToMakeExact_b40 th q1 p2 p3 k6 x5 x5 h2
    else
      bo_bestToMakeExact_b40 th q1 p2 p3 k6 x4 x5 h2
  else
    some (x4, h)
def bo_bestToMakeExact (th : Nat) (q1 : Nat) (p2 : Int) (p3 : Int) (h : Hp) : O Int :=
  iter2 (bo_bestToMakeExact_f6 th q1 p2 p3) fuel 0 1 h
def bo_countLeft_b38 (th : Nat) (k16 : Int → Int → Hp → O Int) (x1 x2 : Int) (h : Hp) : O Int :=
  ck (x2 + (-1)) (
  k16 x1 (x2 + (-1)) h)
def bo_countLeft_f16 (th : Nat) (k16 : Int → Int → Hp → O Int) (x1 x2 : Int) (h : Hp) : O Int :=
  if x2 < 0 then
    some (x1, h)
  else
    bd (bo_isSuperfluous th x2 h) fun r1 h1 =>
    if r1 = 0 then
      bo_countLeft_b38 th k16 x1 x2 h1
    else
      ix x2 16 (bz 1 (lt (hu h1 (th + 16) x2 1) fun h2 =>
      ck (x1 + (-1)) (
      bo_countLeft_b38 th k16 (x1 + (-1)) x2 h2)))
def bo_countLeft (th : Nat) (h : Hp) : O Int :=
  bd (bo_removeNone th h) fun _ h1 =>
  ck ((h1 th 5) - 1) (
  iter2 (bo_countLeft_f16 th) fuel (h1 th 5) ((h1 th 5) - 1) h1)
def dr_copyContentFrom (th : Nat) (q1 : Nat) (h : Hp) : O Unit :=
  lt (hu h th 7 (h q1 7)) fun h1 =>
  lt (hu h1 th 8 (h1 q1 8)) fun h2 =>
  lt (hcp h2 (q1 + 1) (th + 1) 12) fun h3 =>
  lt (hcp h3 (q1 + 2) (th + 2) 16) fun h4 =>
  lt (hcp h4 (q1 + 3) (th + 3) 16) fun h5 =>
  lt (hcp h5 (q1 + 4) (th + 4) 16) fun h6 =>
  lt (hcp h6 (q1 + 5) (th + 5) 16) fun h7 =>
  lt (hcp h7 (q1 + 6) (th + 6) 16) fun h8 =>
  lt (hcp h8 (q1 + 7) (th + 7) 16) fun h9 =>
  some ((), h9)
def dr_copyFrom (th : Nat) (q1 : Nat) (h : Hp) : O Unit :=
  bd (dr_copyContentFrom th q1 h) fun _ h1 =>
  lt (hu h1 th 9 (h1 q1 9)) fun h2 =>
  lt (hu h2 th 10 (h2 q1 10)) fun h3 =>
  some ((), h3)
def dr_hasPoint_b17 (th : Nat) (p1 : Int) (s0 : Int) (h : Hp) : O Int :=
  bz s0 (some (s0, h))
def dr_hasPoint_b16 (th : Nat) (p1 : Int) (h : Hp) : O Int :=
  dr_hasPoint_b17 th p1 0 h
def dr_hasPoint (th : Nat) (p1 : Int) (h : Hp) : O Int :=
  if p1 < 0 then
    dr_hasPoint_b16 th p1 h
  else
    if p1 < h th 7 then
      dr_hasPoint_b17 th p1 1 h
    else
      dr_hasPoint_b16 th p1 h
def dr_hasDimension_b17 (th : Nat) (p1 : Int) (s0 : Int) (h : Hp) : O Int :=
  bz s0 (some (s0, h))
def dr_hasDimension_b16 (th : Nat) (p1 : Int) (h : Hp) : O Int :=
  dr_hasDimension_b17 th p1 0 h
def dr_hasDimension (th : Nat) (p1 : Int) (h : Hp) : O Int :=
  if p1 < 0 then
    dr_hasDimension_b16 th p1 h
  else
    if p1 < h th 8 then
      dr_hasDimension_b17 th p1 1 h
    else
      dr_hasDimension_b16 th p1 h
def dr_countPointsBefore_b25 (th : Nat) (p1 : Int) (k4 : Int → Int → Hp → O Int) (x2 x3 : Int) (h : Hp) : O Int :=
  ck (x3 + 1) (
  k4 x2 (x3 + 1) h)
def dr_countPointsBefore_f4 (th : Nat) (p1 : Int) (k4 : Int → Int → Hp → O Int) (x2 x3 : Int) (h : Hp) : O Int :=
  if x3 < h th 7 then
    ix x3 12 (
    if h (th + 1) x3 < p1 then
      ck (x2 + 1) (
      dr_countPointsBefore_b25 th p1 k4 (x2 + 1) x3 h)
    else
      dr_countPointsBefore_b25 th p1 k4 x2 x3 h)
  else
    some (x2, h)
def dr_countPointsBefore (th : Nat) (p1 : Int) (h : Hp) : O Int :=
  iter2 (dr_countPointsBefore_f4 th p1) fuel 0 0 h
def dr_hasPointAt_b29 (th : Nat) (p1 : Int) (s0 : Int) (h : Hp) : O Int :=
  bz s0 (some (s0, h))
def dr_hasPointAt_b28 (th : Nat) (p1 : Int) (h : Hp) : O Int :=
  dr_hasPointAt_b29 th p1 0 h
def dr_hasPointAt (th : Nat) (p1 : Int) (h : Hp) : O Int :=
  bd (dr_countPointsBefore th p1 h) fun r1 h1 =>
  if r1 < h1 th 7 then
    ix r1 12 (
    if h1 (th + 1) r1 = p1 then
      dr_hasPointAt_b29 th p1 1 h1
    else
      dr_hasPointAt_b28 th p1 h1)
  else
    dr_hasPointAt_b28 th p1 h1
def dr_isEnd_b25 (th : Nat) (p1 : Int) (p2 : Int) (s0 : Int) (h : Hp) : O Int :=
  bz s0 (some (s0, h))
def dr_isEnd_b20 (th : Nat) (p1 : Int) (p2 : Int) (h : Hp) : O Int :=
  dr_isEnd_b25 th p1 p2 1 h
def dr_isEnd (th : Nat) (p1 : Int) (p2 : Int) (h : Hp) : O Int :=
  ix p1 16 (
  if h (th + 2) p1 = p2 then
    dr_isEnd_b20 th p1 p2 h
  else
    ix p1 16 (
    if h (th + 3) p1 = p2 then
      dr_isEnd_b20 th p1 p2 h
    else
      dr_isEnd_b25 th p1 p2 0 h))
def dr_countDimensionsAt_b24 (th : Nat) (p1 : Int) (k4 : Int → Int → Hp → O Int) (x2 x3 : Int) (h : Hp) : O Int :=
  ck (x3 + 1) (
  k4 x2 (x3 + 1) h)
def dr_countDimensionsAt_f4 (th : Nat) (p1 : Int) (k4 : Int → Int → Hp → O Int) (x2 x3 : Int) (h : Hp) : O Int :=
  if x3 < h th 8 then
    bd (dr_isEnd th x3 p1 h) fun r1 h1 =>
    if r1 = 0 then
      dr_countDimensionsAt_b24 th p1 k4 x2 x3 h1
    else
      ck (x2 + 1) (
      dr_countDimensionsAt_b24 th p1 k4 (x2 + 1) x3 h1)
  else
    some (x2, h)
def dr_countDimensionsAt (th : Nat) (p1 : Int) (h : Hp) : O Int :=
  iter2 (dr_countDimensionsAt_f4 th p1) fuel 0 0 h
def dr_renumbered_b38 (p0 : Int) (p1 : Int) (p2 : Int) (s0 : Int) (h : Hp) : O Int :=
  some (s0, h)
def dr_renumbered_b37 (p0 : Int) (p1 : Int) (p2 : Int) (h : Hp) : O Int :=
  dr_renumbered_b38 p0 p1 p2 p0 h
def dr_renumbered_b21 (p0 : Int) (p1 : Int) (p2 : Int) (h : Hp) : O Int :=
  if p0 < p2 then
    dr_renumbered_b37 p0 p1 p2 h
  else
    if p0 < p1 then
      ck (p0 + 1) (
      dr_renumbered_b38 p0 p1 p2 (p0 + 1) h)
    else
      dr_renumbered_b37 p0 p1 p2 h
def dr_renumbered (p0 : Int) (p1 : Int) (p2 : Int) (h : Hp) : O Int :=
  if p0 = p1 then
    some (p2, h)
  else
    if p1 < p0 then
      if p2 < p0 then
        dr_renumbered_b21 p0 p1 p2 h
      else
        ck (p0 - 1) (
        some (p0 - 1, h))
    else
      dr_renumbered_b21 p0 p1 p2 h
def dr_renumberEnds_f2 (th : Nat) (p1 : Int) (p2 : Int) (k2 : Int → Hp → O Unit) (x3 : Int) (h : Hp) : O Unit :=
  if x3 < h th 8 then
    ix x3 16 (
    bd (dr_renumbered (h (th + 2) x3) p1 p2 h) fun r1 h1 =>
    ix x3 16 (
    bd (dr_renumbered (h1 (th + 3) x3) p1 p2 h1) fun r2 h2 =>
    ix x3 16 (lt (hu h2 (th + 2) x3 (min r1 r2)) fun h3 =>
    ix x3 16 (lt (hu h3 (th + 3) x3 (max r1 r2)) fun h4 =>
    ck (x3 + 1) (
    k2 (x3 + 1) h4)))))
  else
    some ((), h)
def dr_renumberEnds (th : Nat) (p1 : Int) (p2 : Int) (h : Hp) : O Unit :=
  iter1 (dr_renumberEnds_f2 th p1 p2) fuel 0 h
def dr_shiftPoint_f59 (th : Nat) (p1 : Int) (p2 : Int) (k59 : Int → Int → Hp → O Int) (x3 x4 : Int) (h : Hp) : O Int :=
  if x3 < x4 then
    ck (x4 - 1) (
    ix (x4 - 1) 12 (
    ix x4 12 (lt (hu h (th + 1) x4 (h (th + 1) (x4 - 1))) fun h1 =>
    ck (x4 + (-1)) (
    k59 x3 (x4 + (-1)) h1))))
  else
    ix x3 12 (lt (hu h (th + 1) x3 p2) fun h2 =>
    some (x3, h2))
def dr_shiftPoint_f28 (th : Nat) (p1 : Int) (p2 : Int) (k28 : Int → Int → Hp → O Int) (x3 x4 : Int) (h : Hp) : O Int :=
  if x4 < x3 then
    ck (x4 + 1) (
    ix (x4 + 1) 12 (
    ix x4 12 (lt (hu h (th + 1) x4 (h (th + 1) (x4 + 1))) fun h1 =>
    ck (x4 + 1) (
    k28 x3 (x4 + 1) h1))))
  else
    iter2 (dr_shiftPoint_f59 th p1 p2) fuel x3 p1 h
def dr_shiftPoint_b19 (th : Nat) (p1 : Int) (p2 : Int) (x3 : Int) (h : Hp) : O Int :=
  bd (dr_renumberEnds th p1 x3 h) fun _ h1 =>
  iter2 (dr_shiftPoint_f28 th p1 p2) fuel x3 p1 h1
def dr_shiftPoint (th : Nat) (p1 : Int) (p2 : Int) (h : Hp) : O Int :=
  bd (dr_countPointsBefore th p2 h) fun r1 h1 =>
  ix p1 12 (
  if h1 (th + 1) p1 < p2 then
    ck (r1 + (-1)) (
    dr_shiftPoint_b19 th p1 p2 (r1 + (-1)) h1)
  else
    dr_shiftPoint_b19 th p1 p2 r1 h1)
def dr_insertPoint (th : Nat) (p1 : Int) (h : Hp) : O Int :=
  ck ((h th 7) + 1) (
  lt (hu h th 7 ((h th 7) + 1)) fun h1 =>
  ck ((h1 th 7) - 1) (
  ix ((h1 th 7) - 1) 12 (lt (hu h1 (th + 1) ((h1 th 7) - 1) p1) fun h2 =>
  ck ((h2 th 7) - 1) (
  bd (dr_shiftPoint th ((h2 th 7) - 1) p1 h2) fun r3 h3 =>
  some (r3, h3)))))
def dr_closeGap_f4 (q0 : Nat) (n0 : Nat) (p1 : Int) (p2 : Int) (k4 : Int → Hp → O Unit) (x3 : Int) (h : Hp) : O Unit :=
  if x3 < p2 then
    ck (x3 - 1) (
    ix x3 n0 (
    ix (x3 - 1) n0 (lt (hu h q0 (x3 - 1) (h q0 x3)) fun h1 =>
    ck (x3 + 1) (
    k4 (x3 + 1) h1))))
  else
    some ((), h)
def dr_closeGap (q0 : Nat) (n0 : Nat) (p1 : Int) (p2 : Int) (h : Hp) : O Unit :=
  ck (p1 + 1) (
  iter1 (dr_closeGap_f4 q0 n0 p1 p2) fuel (p1 + 1) h)
def dr_append (th : Nat) (p1 : Int) (p2 : Int) (h : Hp) : O Int :=
  ck ((h th 8) + 1) (
  lt (hu h th 8 ((h th 8) + 1)) fun h1 =>
  ix (h th 8) 16 (lt (hu h1 (th + 2) (h th 8) p1) fun h2 =>
  ix (h th 8) 16 (lt (hu h2 (th + 3) (h th 8) p2) fun h3 =>
  ix (h th 8) 16 (lt (hu h3 (th + 4) (h th 8) 0) fun h4 =>
  ix (h th 8) 16 (lt (hu h4 (th + 5) (h th 8) 0) fun h5 =>
  ix (h th 8) 16 (lt (hu h5 (th + 6) (h th 8) 0) fun h6 =>
  ix (h th 8) 16 (lt (hu h6 (th + 7) (h th 8) 0) fun h7 =>
  some (h th 8, h7))))))))
def dr_removeDimension (th : Nat) (p1 : Int) (h : Hp) : O Unit :=
  bd (dr_closeGap (th + 2) 16 p1 (h th 8) h) fun _ h1 =>
  bd (dr_closeGap (th + 3) 16 p1 (h1 th 8) h1) fun _ h2 =>
  bd (dr_closeGap (th + 4) 16 p1 (h2 th 8) h2) fun _ h3 =>
  bd (dr_closeGap (th + 5) 16 p1 (h3 th 8) h3) fun _ h4 =>
  bd (dr_closeGap (th + 6) 16 p1 (h4 th 8) h4) fun _ h5 =>
  bd (dr_closeGap (th + 7) 16 p1 (h5 th 8) h5) fun _ h6 =>
  ck ((h6 th 8) - 1) (
  lt (hu h6 th 8 ((h6 th 8) - 1)) fun h7 =>
  some ((), h7))
def hi_record (th : Nat) (q1 : Nat) (h : Hp) : O Unit :=
  ck ((h th 1) + 1) (
  dv ((h th 1) + 1) 8 (
  lt (hu h th 1 (((h th 1) + 1) % 8)) fun h1 =>
  ix (h1 th 1) 8 (
  bd (dr_copyFrom (th + 2 + 8 * (h1 th 1).toNat) q1 h1) fun _ h3 =>
  ck ((h3 th 2) + 1) (
  lt (hu h3 th 2 (min ((h3 th 2) + 1) 8)) fun h4 =>
  some ((), h4)))))
def la_digitsOf_b19 (p0 : Int) (s0 : Int) (h : Hp) : O Int :=
  some (s0, h)
def la_digitsOf (p0 : Int) (h : Hp) : O Int :=
  if p0 < 100 then
    if p0 < 10 then
      la_digitsOf_b19 p0 1 h
    else
      la_digitsOf_b19 p0 2 h
  else
    some (3, h)
def la_measure_b125 (th : Nat) (q1 : Nat) (p2 : Int) (p3 : Int) (s0 s1 s2 : Int) (h : Hp) : O Unit :=
  ck (s1 + s0) (
  ix s2 16 (lt (hu h (th + 3) s2 (s1 + s0)) fun h1 =>
  some ((), h1)))
def la_measure_b89 (th : Nat) (q1 : Nat) (p2 : Int) (p3 : Int) (x5 s0 s1 : Int) (h : Hp) : O Unit :=
  ix s1 16 (lt (hu h (th + 1) s1 s0) fun h1 =>
  ix p2 16 (
  ck ((h1 (th + 2) p2) - p3) (
  ix p2 16 (lt (hu h1 (th + 2) p2 ((h1 (th + 2) p2) - p3)) fun h2 =>
  ix p2 16 (
  ix p2 16 (
  if h2 (th + 1) p2 = 1 then
    la_measure_b125 th q1 p2 p3 p3 (h2 (th + 3) p2) p2 h2
  else
    ck (p3 + x5) (
    la_measure_b125 th q1 p2 p3 (p3 + x5) (h2 (th + 3) p2) p2 h2)))))))
def la_measure (th : Nat) (q1 : Nat) (p2 : Int) (p3 : Int) (h : Hp) : O Unit :=
  bd (dr_valueOf q1 p2 h) fun r1 h1 =>
  bd (la_digitsOf r1 h1) fun r2 h2 =>
  ck ((h1 q1 9) * r2) (
  ix p2 16 (
  ix (h2 (q1 + 2) p2) 12 (
  ix p2 16 (lt (hu h2 (th + 2) p2 (h2 (q1 + 1) (h2 (q1 + 2) p2))) fun h3 =>
  ix p2 16 (
  ix (h3 (q1 + 3) p2) 12 (
  ix p2 16 (lt (hu h3 (th + 3) p2 (h3 (q1 + 1) (h3 (q1 + 3) p2))) fun h4 =>
  ck (2 * p3) (
  ck (((h1 q1 9) * r2) + (2 * p3)) (
  if r1 < ((h1 q1 9) * r2) + (2 * p3) then
    if r1 < (h1 q1 9) * r2 then
      la_measure_b89 th q1 p2 p3 ((h1 q1 9) * r2) 2 p2 h4
    else
      la_measure_b89 th q1 p2 p3 ((h1 q1 9) * r2) 1 p2 h4
  else
    ix p2 16 (lt (hu h4 (th + 1) p2 0) fun h5 =>
    some ((), h5)))))))))))
def la_leaderOf_b36 (q0 : Nat) (p1 : Int) (h : Hp) : O Int :=
  some (p1, h)
def la_leaderOf_f9 (q0 : Nat) (p1 : Int) (k9 : Int → Int → Hp → O Int) (x2 x3 : Int) (h : Hp) : O Int :=
  if x2 = 0 then
    la_leaderOf_b36 q0 p1 h
  else
    if x3 < p1 then
      ix x3 16 (
      if h (q0 + 6) x3 = x2 then
        some (x3, h)
      else
        ck (x3 + 1) (
        k9 x2 (x3 + 1) h))
    else
      la_leaderOf_b36 q0 p1 h
def la_leaderOf (q0 : Nat) (p1 : Int) (h : Hp) : O Int :=
  ix p1 16 (
  iter2 (la_leaderOf_f9 q0 p1) fuel (h (q0 + 6) p1) 0 h)
def la_joinUnit (th : Nat) (q1 : Nat) (p2 : Int) (h : Hp) : O Unit :=
  ix p2 16 (
  ix (h (q1 + 2) p2) 12 (
  ix p2 16 (
  ix (h (q1 + 3) p2) 12 (
  bd (la_leaderOf q1 p2 h) fun r1 h1 =>
  ix p2 16 (lt (hu h1 (th + 8) p2 r1) fun h2 =>
  if r1 = p2 then
    ix p2 16 (lt (hu h2 (th + 9) p2 (h (q1 + 1) (h (q1 + 2) p2))) fun h3 =>
    ix p2 16 (lt (hu h3 (th + 10) p2 (h (q1 + 1) (h (q1 + 3) p2))) fun h4 =>
    ix p2 16 (
    ix p2 16 (lt (hu h4 (th + 11) p2 (h4 (q1 + 7) p2)) fun h5 =>
    ix (h5 th 6) 16 (lt (hu h5 (th + 12) (h5 th 6) p2) fun h6 =>
    ck ((h6 th 6) + 1) (
    lt (hu h6 th 6 ((h6 th 6) + 1)) fun h7 =>
    some ((), h7)))))))
  else
    ix r1 16 (
    ix r1 16 (lt (hu h2 (th + 9) r1 (min (h2 (th + 9) r1) (h (q1 + 1) (h (q1 + 2) p2)))) fun h8 =>
    ix r1 16 (
    ix r1 16 (lt (hu h8 (th + 10) r1 (max (h8 (th + 10) r1) (h (q1 + 1) (h (q1 + 3) p2)))) fun h9 =>
    ix r1 16 (
    ix p2 16 (
    ix r1 16 (lt (hu h9 (th + 11) r1 (max (h9 (th + 11) r1) (h9 (q1 + 7) p2))) fun h10 =>
    some ((), h10)))))))))))))
def la_comesBefore_b88 (th : Nat) (p1 : Int) (p2 : Int) (s0 : Int) (h : Hp) : O Int :=
  bz s0 (some (s0, h))
def la_comesBefore_b77 (th : Nat) (p1 : Int) (p2 : Int) (s0 : Int) (h : Hp) : O Int :=
  bz s0 (some (s0, h))
def la_comesBefore_b41 (th : Nat) (p1 : Int) (p2 : Int) (s0 : Int) (h : Hp) : O Int :=
  bz s0 (some (s0, h))
def la_comesBefore (th : Nat) (p1 : Int) (p2 : Int) (h : Hp) : O Int :=
  ix p1 16 (
  ix p1 16 (
  ck ((h (th + 10) p1) - (h (th + 9) p1)) (
  ix p2 16 (
  ix p2 16 (
  ck ((h (th + 10) p2) - (h (th + 9) p2)) (
  ck (((h (th + 10) p1) - (h (th + 9) p1)) - ((h (th + 10) p2) - (h (th + 9) p2))) (
  if ((h (th + 10) p1) - (h (th + 9) p1)) - ((h (th + 10) p2) - (h (th + 9) p2)) = 0 then
    ix p1 16 (
    ix p2 16 (
    if h (th + 9) p1 = h (th + 9) p2 then
      if p1 < p2 then
        la_comesBefore_b88 th p1 p2 1 h
      else
        la_comesBefore_b88 th p1 p2 0 h
    else
      ix p1 16 (
      ix p2 16 (
      if h (th + 9) p1 < h (th + 9) p2 then
        la_comesBefore_b77 th p1 p2 1 h
      else
        la_comesBefore_b77 th p1 p2 0 h))))
  else
    if ((h (th + 10) p1) - (h (th + 9) p1)) - ((h (th + 10) p2) - (h (th + 9) p2)) < 0 then
      la_comesBefore_b41 th p1 p2 1 h
    else
      la_comesBefore_b41 th p1 p2 0 h)))))))
def la_isTaken_b83 (th : Nat) (p1 : Int) (p2 : Int) (k2 : Int → Hp → O Int) (x3 : Int) (h : Hp) : O Int :=
  ck (x3 + 1) (
  k2 (x3 + 1) h)
def la_isTaken_b77 (th : Nat) (p1 : Int) (p2 : Int) (k13 : Int → Int → Hp → O Int) (x3 x4 : Int) (h : Hp) : O Int :=
  ck (x4 + 1) (
  k13 x3 (x4 + 1) h)
def la_isTaken_f13 (th : Nat) (p1 : Int) (p2 : Int) (k2 : Int → Hp → O Int) (k13 : Int → Int → Hp → O Int) (x3 x4 : Int) (h : Hp) : O Int :=
  ix x3 16 (
  if h (th + 8) x3 = p2 then
    if x4 < h th 15 then
      ix x4 16 (
      if h (th + 4) x4 = p1 then
        ix x4 16 (
        ix x3 16 (
        if h (th + 3) x3 < h (th + 2) x4 then
          la_isTaken_b77 th p1 p2 k13 x3 x4 h
        else
          ix x3 16 (
          ix x4 16 (
          if h (th + 3) x4 < h (th + 2) x3 then
            la_isTaken_b77 th p1 p2 k13 x3 x4 h
          else
            some (1, h)))))
      else
        la_isTaken_b77 th p1 p2 k13 x3 x4 h)
    else
      la_isTaken_b83 th p1 p2 k2 x3 h
  else
    la_isTaken_b83 th p1 p2 k2 x3 h)
def la_isTaken_f2 (th : Nat) (p1 : Int) (p2 : Int) (k2 : Int → Hp → O Int) (x3 : Int) (h : Hp) : O Int :=
  if x3 < h th 15 then
    iter2 (la_isTaken_f13 th p1 p2 k2) fuel x3 0 h
  else
    some (0, h)
def la_isTaken (th : Nat) (p1 : Int) (p2 : Int) (h : Hp) : O Int :=
  iter1 (la_isTaken_f2 th p1 p2) fuel 0 h
def la_lowestLaneFor_b104 (th : Nat) (p1 : Int) (p2 : Int) (x3 : Int) (h : Hp) : O Int :=
  some (x3, h)
def la_lowestLaneFor_f80 (th : Nat) (p1 : Int) (p2 : Int) (k80 : Int → Int → Hp → O Int) (x3 x4 : Int) (h : Hp) : O Int :=
  if x4 < p2 then
    bd (la_isTaken th x3 p1 h) fun r1 h1 =>
    if r1 = 0 then
      la_lowestLaneFor_b104 th p1 p2 x3 h1
    else
      ck (x3 + 1) (
      ck (x4 + 1) (
      k80 (x3 + 1) (x4 + 1) h1))
  else
    la_lowestLaneFor_b104 th p1 p2 x3 h
def la_lowestLaneFor_b71 (th : Nat) (p1 : Int) (p2 : Int) (k10 : Int → Int → Hp → O Int) (x3 x4 : Int) (h : Hp) : O Int :=
  ck (x4 + 1) (
  k10 x3 (x4 + 1) h)
def la_lowestLaneFor_f10 (th : Nat) (p1 : Int) (p2 : Int) (k10 : Int → Int → Hp → O Int) (x3 x4 : Int) (h : Hp) : O Int :=
  if x4 < p2 then
    ix x4 16 (
    ix p1 16 (
    ix (h (th + 12) x4) 16 (
    if h (th + 9) (h (th + 12) x4) < h (th + 9) p1 then
      la_lowestLaneFor_b71 th p1 p2 k10 x3 x4 h
    else
      ix (h (th + 12) x4) 16 (
      ix p1 16 (
      if h (th + 10) p1 < h (th + 10) (h (th + 12) x4) then
        la_lowestLaneFor_b71 th p1 p2 k10 x3 x4 h
      else
        ix (h (th + 12) x4) 16 (
        ck ((h (th + 4) (h (th + 12) x4)) + 1) (
        la_lowestLaneFor_b71 th p1 p2 k10 (max x3 ((h (th + 4) (h (th + 12) x4)) + 1)) x4 h)))))))
  else
    iter2 (la_lowestLaneFor_f80 th p1 p2) fuel x3 0 h
def la_lowestLaneFor (th : Nat) (p1 : Int) (p2 : Int) (h : Hp) : O Int :=
  ix p1 16 (
  iter2 (la_lowestLaneFor_f10 th p1 p2) fuel (h (th + 11) p1) 0 h)
def la_place_b108 (th : Nat) (p1 : Int) (k80 : Int → Int → Int → Hp → O Unit) (x2 x3 x4 : Int) (h : Hp) : O Unit :=
  ck (x4 + 1) (
  k80 x2 x3 (x4 + 1) h)
def la_place_f80 (th : Nat) (p1 : Int) (k80 : Int → Int → Int → Hp → O Unit) (x2 x3 x4 : Int) (h : Hp) : O Unit :=
  if x4 < h th 15 then
    ix x4 16 (
    if h (th + 8) x4 = x2 then
      ix x4 16 (lt (hu h (th + 4) x4 x3) fun h1 =>
      la_place_b108 th p1 k80 x2 x3 x4 h1)
    else
      la_place_b108 th p1 k80 x2 x3 x4 h)
  else
    ck (x3 + 1) (
    lt (hu h th 7 (max (h th 7) (x3 + 1))) fun h2 =>
    some ((), h2))
def la_place_b57 (th : Nat) (p1 : Int) (k4 : Int → Hp → O Unit) (x2 : Int) (h : Hp) : O Unit :=
  ck (x2 + 1) (
  k4 (x2 + 1) h)
def la_place_f4 (th : Nat) (p1 : Int) (k4 : Int → Hp → O Unit) (x2 : Int) (h : Hp) : O Unit :=
  if x2 < h th 6 then
    ix x2 16 (
    ix p1 16 (
    bd (la_comesBefore th (h (th + 12) x2) (h (th + 12) p1) h) fun r1 h1 =>
    if r1 = 0 then
      la_place_b57 th p1 k4 x2 h1
    else
      ix p1 16 (
      ix x2 16 (
      ix p1 16 (lt (hu h1 (th + 12) p1 (h1 (th + 12) x2)) fun h2 =>
      ix x2 16 (lt (hu h2 (th + 12) x2 (h1 (th + 12) p1)) fun h3 =>
      la_place_b57 th p1 k4 x2 h3))))))
  else
    ix p1 16 (
    bd (la_lowestLaneFor th (h (th + 12) p1) p1 h) fun r4 h4 =>
    iter3 (la_place_f80 th p1) fuel (h (th + 12) p1) r4 0 h4)
def la_place (th : Nat) (p1 : Int) (h : Hp) : O Unit :=
  ck (p1 + 1) (
  iter1 (la_place_f4 th p1) fuel (p1 + 1) h)
def la_countCrossings_b82 (th : Nat) (q1 : Nat) (p2 : Int) (k9 : Int → Hp → O Unit) (x3 : Int) (h : Hp) : O Unit :=
  ck (x3 + 1) (
  k9 (x3 + 1) h)
def la_countCrossings_f9 (th : Nat) (q1 : Nat) (p2 : Int) (k9 : Int → Hp → O Unit) (x3 : Int) (h : Hp) : O Unit :=
  if x3 < h th 15 then
    ix x3 16 (
    ix p2 12 (
    if h (th + 4) x3 < h (th + 7) p2 then
      ix x3 16 (
      if h (q1 + 2) x3 < p2 then
        ix x3 16 (
        if p2 < h (q1 + 3) x3 then
          ix p2 12 (
          ck ((h (th + 6) p2) + 1) (
          ix p2 12 (lt (hu h (th + 6) p2 ((h (th + 6) p2) + 1)) fun h1 =>
          ix x3 16 (
          ck ((h1 (th + 5) x3) + 1) (
          ix x3 16 (lt (hu h1 (th + 5) x3 ((h1 (th + 5) x3) + 1)) fun h2 =>
          ck ((h2 th 8) + 1) (
          lt (hu h2 th 8 ((h2 th 8) + 1)) fun h3 =>
          la_countCrossings_b82 th q1 p2 k9 x3 h3)))))))
        else
          la_countCrossings_b82 th q1 p2 k9 x3 h)
      else
        la_countCrossings_b82 th q1 p2 k9 x3 h)
    else
      la_countCrossings_b82 th q1 p2 k9 x3 h))
  else
    some ((), h)
def la_countCrossings (th : Nat) (q1 : Nat) (p2 : Int) (h : Hp) : O Unit :=
  ix p2 12 (lt (hu h (th + 6) p2 0) fun h1 =>
  iter1 (la_countCrossings_f9 th q1 p2) fuel 0 h1)
def la_drawWitnessLines_b70 (th : Nat) (q1 : Nat) (k32 : Int → Int → Hp → O Unit) (x2 x3 : Int) (h : Hp) : O Unit :=
  ck (x3 + 1) (
  k32 x2 (x3 + 1) h)
def la_drawWitnessLines_f32 (th : Nat) (q1 : Nat) (k15 : Int → Hp → O Unit) (k32 : Int → Int → Hp → O Unit) (x2 x3 : Int) (h : Hp) : O Unit :=
  if x3 < h th 15 then
    bd (dr_isEnd q1 x3 x2 h) fun r1 h1 =>
    if r1 = 0 then
      la_drawWitnessLines_b70 th q1 k32 x2 x3 h1
    else
      ix x2 12 (
      ix x3 16 (
      ix x2 12 (lt (hu h1 (th + 7) x2 (max (h1 (th + 7) x2) (h1 (th + 4) x3))) fun h2 =>
      la_drawWitnessLines_b70 th q1 k32 x2 x3 h2)))
  else
    bd (la_countCrossings th q1 x2 h) fun _ h3 =>
    ck (x2 + 1) (
    k15 (x2 + 1) h3)
def la_drawWitnessLines_f15 (th : Nat) (q1 : Nat) (k15 : Int → Hp → O Unit) (x2 : Int) (h : Hp) : O Unit :=
  if x2 < h q1 7 then
    ix x2 12 (lt (hu h (th + 7) x2 (-1)) fun h1 =>
    iter2 (la_drawWitnessLines_f32 th q1 k15) fuel x2 0 h1)
  else
    some ((), h)
def la_drawWitnessLines (th : Nat) (q1 : Nat) (h : Hp) : O Unit :=
  lt (hu h th 8 0) fun h1 =>
  bd (ja_fill (th + 5) 16 0 h1) fun _ h2 =>
  iter1 (la_drawWitnessLines_f15 th q1) fuel 0 h2
def la_layOut_f56 (th : Nat) (q1 : Nat) (p2 : Int) (k56 : Int → Hp → O Unit) (x3 : Int) (h : Hp) : O Unit :=
  if x3 < h th 6 then
    bd (la_place th x3 h) fun _ h1 =>
    ck (x3 + 1) (
    k56 (x3 + 1) h1)
  else
    bd (la_drawWitnessLines th q1 h) fun _ h2 =>
    some ((), h2)
def la_layOut_f20 (th : Nat) (q1 : Nat) (p2 : Int) (k20 : Int → Hp → O Unit) (x3 : Int) (h : Hp) : O Unit :=
  if x3 < h th 15 then
    bd (la_measure th q1 x3 p2 h) fun _ h1 =>
    ix x3 16 (lt (hu h1 (th + 4) x3 (-1)) fun h2 =>
    bd (la_joinUnit th q1 x3 h2) fun _ h3 =>
    ck (x3 + 1) (
    k20 (x3 + 1) h3))
  else
    iter1 (la_layOut_f56 th q1 p2) fuel 0 h
def la_layOut (th : Nat) (q1 : Nat) (p2 : Int) (h : Hp) : O Unit :=
  lt (hu h th 15 (h q1 8)) fun h1 =>
  lt (hu h1 th 6 0) fun h2 =>
  lt (hu h2 th 7 0) fun h3 =>
  iter1 (la_layOut_f20 th q1 p2) fuel 0 h3
def la_topOf_b22 (th : Nat) (p1 : Int) (s0 : Int) (h : Hp) : O Int :=
  some (s0, h)
def la_topOf (th : Nat) (p1 : Int) (h : Hp) : O Int :=
  ix p1 12 (
  if h (th + 7) p1 = (-1) then
    la_topOf_b22 th p1 (-999) h
  else
    ix p1 12 (
    la_topOf_b22 th p1 (h (th + 7) p1) h))
def dl_isWithin_b15 (p0 : Int) (p1 : Int) (p2 : Int) (s0 : Int) (h : Hp) : O Int :=
  bz s0 (some (s0, h))
def dl_isWithin_b14 (p0 : Int) (p1 : Int) (p2 : Int) (h : Hp) : O Int :=
  dl_isWithin_b15 p0 p1 p2 0 h
def dl_isWithin (p0 : Int) (p1 : Int) (p2 : Int) (h : Hp) : O Int :=
  if p0 < p1 then
    dl_isWithin_b14 p0 p1 p2 h
  else
    if p2 < p0 then
      dl_isWithin_b14 p0 p1 p2 h
    else
      dl_isWithin_b15 p0 p1 p2 1 h
def dl_forgetWhatWasWorkedOut (th : Nat) (h : Hp) : O Unit :=
  bz 0 (lt (hu h th 6 0) fun h1 =>
  bz 0 (lt (hu h1 th 7 0) fun h2 =>
  some ((), h2)))
def dl_beginChange (th : Nat) (h : Hp) : O Unit :=
  bd (hi_record (th + 9) (th + 1) h) fun _ h1 =>
  bd (dl_forgetWhatWasWorkedOut th h1) fun _ h2 =>
  some ((), h2)
def dl_addPoint (th : Nat) (p1 : Int) (h : Hp) : O Int :=
  bd (dl_isWithin p1 0 300 h) fun r1 h1 =>
  if r1 = 0 then
    some ((-1), h1)
  else
    bd (dr_hasPointAt (th + 1) p1 h1) fun r2 h2 =>
    if r2 = 0 then
      if h2 (th + 1) 7 = 12 then
        some ((-3), h2)
      else
        bd (dl_beginChange th h2) fun _ h3 =>
        bd (dr_insertPoint (th + 1) p1 h3) fun r4 h4 =>
        some (r4, h4)
    else
      some ((-2), h2)
def dl_areTwoPoints_b32 (th : Nat) (p1 : Int) (p2 : Int) (s0 : Int) (h : Hp) : O Int :=
  bz s0 (some (s0, h))
def dl_areTwoPoints_b31 (th : Nat) (p1 : Int) (p2 : Int) (h : Hp) : O Int :=
  dl_areTwoPoints_b32 th p1 p2 0 h
def dl_areTwoPoints (th : Nat) (p1 : Int) (p2 : Int) (h : Hp) : O Int :=
  bd (dr_hasPoint (th + 1) p1 h) fun r1 h1 =>
  if r1 = 0 then
    dl_areTwoPoints_b31 th p1 p2 h1
  else
    bd (dr_hasPoint (th + 1) p2 h1) fun r2 h2 =>
    if r2 = 0 then
      dl_areTwoPoints_b31 th p1 p2 h2
    else
      if p1 = p2 then
        dl_areTwoPoints_b31 th p1 p2 h2
      else
        dl_areTwoPoints_b32 th p1 p2 1 h2
def dl_add (th : Nat) (p1 : Int) (p2 : Int) (h : Hp) : O Int :=
  bd (dl_areTwoPoints th p1 p2 h) fun r1 h1 =>
  if r1 = 0 then
    some ((-1), h1)
  else
    if h1 (th + 1) 8 = 16 then
      some ((-3), h1)
    else
      bd (dl_beginChange th h1) fun _ h2 =>
      bd (dr_append (th + 1) (min p1 p2) (max p1 p2) h2) fun r3 h3 =>
      some (r3, h3)
def dl_drop (th : Nat) (p1 : Int) (h : Hp) : O Int :=
  bd (dr_hasDimension (th + 1) p1 h) fun r1 h1 =>
  if r1 = 0 then
    some ((-1), h1)
  else
    bd (dl_beginChange th h1) fun _ h2 =>
    bd (dr_removeDimension (th + 1) p1 h2) fun _ h3 =>
    some (h3 (th + 1) 8, h3)
def dl_setTolerance_b31 (th : Nat) (p1 : Int) (p2 : Int) (p3 : Int) (h : Hp) : O Int :=
  some ((-1), h)
def dl_setTolerance (th : Nat) (p1 : Int) (p2 : Int) (p3 : Int) (h : Hp) : O Int :=
  bd (dr_hasDimension (th + 1) p1 h) fun r1 h1 =>
  if r1 = 0 then
    dl_setTolerance_b31 th p1 p2 p3 h1
  else
    bd (dl_isWithin p2 0 20 h1) fun r2 h2 =>
    if r2 = 0 then
      dl_setTolerance_b31 th p1 p2 p3 h2
    else
      bd (dl_isWithin p3 0 20 h2) fun r3 h3 =>
      if r3 = 0 then
        dl_setTolerance_b31 th p1 p2 p3 h3
      else
        ix p1 16 (
        ck (100 * (h3 (th + 5) p1)) (
        ix p1 16 (
        ck ((100 * (h3 (th + 5) p1)) + (h3 (th + 6) p1)) (
        bd (dl_beginChange th h3) fun _ h4 =>
        ix p1 16 (lt (hu h4 (th + 5) p1 p2) fun h5 =>
        ix p1 16 (lt (hu h5 (th + 6) p1 p3) fun h6 =>
        some ((100 * (h3 (th + 5) p1)) + (h3 (th + 6) p1), h6)))))))
def dl_setChain_b20 (th : Nat) (p1 : Int) (p2 : Int) (h : Hp) : O Int :=
  some ((-1), h)
def dl_setChain (th : Nat) (p1 : Int) (p2 : Int) (h : Hp) : O Int :=
  bd (dr_hasDimension (th + 1) p1 h) fun r1 h1 =>
  if r1 = 0 then
    dl_setChain_b20 th p1 p2 h1
  else
    bd (dl_isWithin p2 0 5 h1) fun r2 h2 =>
    if r2 = 0 then
      dl_setChain_b20 th p1 p2 h2
    else
      ix p1 16 (
      bd (dl_beginChange th h2) fun _ h3 =>
      ix p1 16 (lt (hu h3 (th + 7) p1 p2) fun h4 =>
      some (h2 (th + 7) p1, h4)))
def dl_setLeast_b21 (th : Nat) (p1 : Int) (p2 : Int) (h : Hp) : O Int :=
  some ((-1), h)
def dl_setLeast (th : Nat) (p1 : Int) (p2 : Int) (h : Hp) : O Int :=
  bd (dr_hasDimension (th + 1) p1 h) fun r1 h1 =>
  if r1 = 0 then
    dl_setLeast_b21 th p1 p2 h1
  else
    bd (dl_isWithin p2 0 9 h1) fun r2 h2 =>
    if r2 = 0 then
      dl_setLeast_b21 th p1 p2 h2
    else
      ix p1 16 (
      bd (dl_beginChange th h2) fun _ h3 =>
      ix p1 16 (lt (hu h3 (th + 8) p1 p2) fun h4 =>
      some (h2 (th + 8) p1, h4)))
def dl_setLetter (th : Nat) (p1 : Int) (h : Hp) : O Int :=
  bd (dl_isWithin p1 1 9 h) fun r1 h1 =>
  if r1 = 0 then
    some ((-1), h1)
  else
    bd (dl_beginChange th h1) fun _ h2 =>
    lt (hu h2 (th + 1) 9 p1) fun h3 =>
    some (h1 (th + 1) 9, h3)
def dl_setArrow (th : Nat) (p1 : Int) (h : Hp) : O Int :=
  bd (dl_isWithin p1 1 9 h) fun r1 h1 =>
  if r1 = 0 then
    some ((-1), h1)
  else
    bd (dl_beginChange th h1) fun _ h2 =>
    lt (hu h2 (th + 1) 10 p1) fun h3 =>
    some (h1 (th + 1) 10, h3)
def dl_laidLanes_b30 (th : Nat) (h : Hp) : O Nat :=
  some ((th + 85), h)
def dl_laidLanes (th : Nat) (h : Hp) : O Nat :=
  if h th 6 = 0 then
    bd (la_layOut (th + 85) (th + 1) (h (th + 1) 10) h) fun _ h1 =>
    bz 1 (lt (hu h1 th 6 1) fun h2 =>
    dl_laidLanes_b30 th h2)
  else
    dl_laidLanes_b30 th h
def dl_knownBounds_b23 (th : Nat) (h : Hp) : O Nat :=
  some ((th + 111), h)
def dl_knownBounds (th : Nat) (h : Hp) : O Nat :=
  if h th 7 = 0 then
    bd (bo_workOut (th + 111) (th + 1) h) fun _ h1 =>
    bz 1 (lt (hu h1 th 7 1) fun h2 =>
    dl_knownBounds_b23 th h2)
  else
    dl_knownBounds_b23 th h
def dl_point (th : Nat) (p1 : Int) (p2 : Int) (h : Hp) : O Int :=
  bd (dr_hasPoint (th + 1) p1 h) fun r1 h1 =>
  if r1 = 0 then
    some ((-1), h1)
  else
    swt p2 0 [
      ix p1 12 (
      some (h1 (th + 2) p1, h1)),
      bd (dr_countDimensionsAt (th + 1) p1 h1) fun r2 h2 =>
      some (r2, h2),
      bd (dl_laidLanes th h1) fun _ h3 =>
      bd (la_topOf (th + 85) p1 h3) fun r4 h4 =>
      some (r4, h4),
      bd (dl_laidLanes th h1) fun _ h5 =>
      ix p1 12 (
      some (h5 (th + 91) p1, h5)),
      bd (dl_knownBounds th h1) fun _ h6 =>
      ix p1 12 (
      some (h6 (th + 125) p1, h6))] (
      some ((-1), h1))
def dl_dimension_b206 (th : Nat) (p1 : Int) (p2 : Int) (s0 : Int) (h : Hp) : O Int :=
  some (s0, h)
def dl_dimension (th : Nat) (p1 : Int) (p2 : Int) (h : Hp) : O Int :=
  bd (dr_hasDimension (th + 1) p1 h) fun r1 h1 =>
  if r1 = 0 then
    some ((-1), h1)
  else
    swt p2 0 [
      ix p1 16 (
      some (h1 (th + 3) p1, h1)),
      ix p1 16 (
      some (h1 (th + 4) p1, h1)),
      bd (dr_valueOf (th + 1) p1 h1) fun r2 h2 =>
      some (r2, h2),
      ix p1 16 (
      some (h1 (th + 5) p1, h1)),
      ix p1 16 (
      some (h1 (th + 6) p1, h1)),
      ix p1 16 (
      some (h1 (th + 7) p1, h1)),
      ix p1 16 (
      some (h1 (th + 8) p1, h1)),
      bd (dl_laidLanes th h1) fun _ h3 =>
      ix p1 16 (
      some (h3 (th + 86) p1, h3)),
      bd (dl_laidLanes th h1) fun _ h4 =>
      ix p1 16 (
      some (h4 (th + 87) p1, h4)),
      bd (dl_laidLanes th h1) fun _ h5 =>
      ix p1 16 (
      some (h5 (th + 88) p1, h5)),
      bd (dl_laidLanes th h1) fun _ h6 =>
      ix p1 16 (
      some (h6 (th + 89) p1, h6)),
      bd (dl_knownBounds th h1) fun _ h7 =>
      ix p1 16 (
      if h7 (th + 126) p1 = 0 then
        dl_dimension_b206 th p1 p2 0 h7
      else
        dl_dimension_b206 th p1 p2 1 h7),
      bd (dl_laidLanes th h1) fun _ h8 =>
      ix p1 16 (
      some (h8 (th + 90) p1, h8))] (
      some ((-1), h1))
def dl_distance_b57 (th : Nat) (p1 : Int) (p2 : Int) (p3 : Int) (s0 : Int) (h : Hp) : O Int :=
  some (s0, h)
def dl_distance (th : Nat) (p1 : Int) (p2 : Int) (p3 : Int) (h : Hp) : O Int :=
  bd (dl_areTwoPoints th p1 p2 h) fun r1 h1 =>
  if r1 = 0 then
    some ((-1), h1)
  else
    bd (dl_knownBounds th h1) fun _ h2 =>
    bd (bo_areBound (th + 111) p1 p2 h2) fun r3 h3 =>
    if r3 = 0 then
      some ((-999), h3)
    else
      if p3 = 0 then
        ix p2 12 (
        ix p1 12 (
        ck (-(h3 ((th + 111) + 2 + p2.toNat) p1)) (
        dl_distance_b57 th p1 p2 p3 (-(h3 ((th + 111) + 2 + p2.toNat) p1)) h3)))
      else
        ix p1 12 (
        ix p2 12 (
        dl_distance_b57 th p1 p2 p3 (h3 ((th + 111) + 2 + p1.toNat) p2) h3))
def dl_ifExact_b56 (th : Nat) (p1 : Int) (p2 : Int) (p3 : Int) (s0 : Int) (h : Hp) : O Int :=
  some (s0, h)
def dl_ifExact_b20 (th : Nat) (p1 : Int) (p2 : Int) (p3 : Int) (h : Hp) : O Int :=
  some ((-1), h)
def dl_ifExact (th : Nat) (p1 : Int) (p2 : Int) (p3 : Int) (h : Hp) : O Int :=
  bd (dr_hasDimension (th + 1) p1 h) fun r1 h1 =>
  if r1 = 0 then
    dl_ifExact_b20 th p1 p2 p3 h1
  else
    bd (dl_areTwoPoints th p2 p3 h1) fun r2 h2 =>
    if r2 = 0 then
      dl_ifExact_b20 th p1 p2 p3 h2
    else
      bd (dl_knownBounds th h2) fun _ h3 =>
      bd (bo_areBound (th + 111) p2 p3 h3) fun r4 h4 =>
      if r4 = 0 then
        dl_ifExact_b56 th p1 p2 p3 (-999) h4
      else
        bd (bo_gain (th + 111) (th + 1) p1 p2 p3 h4) fun r5 h5 =>
        dl_ifExact_b56 th p1 p2 p3 r5 h5
def dl_critical_b41 (th : Nat) (p1 : Int) (p2 : Int) (s0 : Int) (h : Hp) : O Int :=
  some (s0, h)
def dl_critical (th : Nat) (p1 : Int) (p2 : Int) (h : Hp) : O Int :=
  bd (dl_areTwoPoints th p1 p2 h) fun r1 h1 =>
  if r1 = 0 then
    some ((-1), h1)
  else
    bd (dl_knownBounds th h1) fun _ h2 =>
    bd (bo_areBound (th + 111) p1 p2 h2) fun r3 h3 =>
    if r3 = 0 then
      dl_critical_b41 th p1 p2 (-999) h3
    else
      bd (bo_bestToMakeExact (th + 111) (th + 1) p1 p2 h3) fun r4 h4 =>
      dl_critical_b41 th p1 p2 r4 h4
def dl_needed (th : Nat) (h : Hp) : O Int :=
  bd (dl_knownBounds th h) fun _ h1 =>
  bd (bo_countLeft (th + 111) h1) fun r2 h2 =>
  some (r2, h2)
def dl_count (th : Nat) (p1 : Int) (h : Hp) : O Int :=
  swt p1 0 [
    some (h (th + 1) 7, h),
    some (h (th + 1) 8, h),
    bd (dl_laidLanes th h) fun _ h1 =>
    some (h1 (th + 85) 6, h1),
    bd (dl_laidLanes th h) fun _ h2 =>
    some (h2 (th + 85) 7, h2),
    bd (dl_laidLanes th h) fun _ h3 =>
    some (h3 (th + 85) 8, h3),
    bd (dl_knownBounds th h) fun _ h4 =>
    some (h4 (th + 111) 3, h4),
    bd (dl_knownBounds th h) fun _ h5 =>
    some (h5 (th + 111) 4, h5),
    some (h (th + 1) 9, h),
    some (h (th + 1) 10, h),
    some (h (th + 75) 2, h),
    some (h (th + 9) 2, h)] (
    some ((-1), h))

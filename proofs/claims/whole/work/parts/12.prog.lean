def dr_valueOf (th : Nat) (p1 : Int) (h : Hp) : O Int :=
  ix p1 16 (
  ix (h (th + 3) p1) 12 (
  ix p1 16 (
  ix (h (th + 2) p1) 12 (
  ck ((h (th + 1) (h (th + 3) p1)) - (h (th + 1) (h (th + 2) p1))) (
  some ((h (th + 1) (h (th + 3) p1)) - (h (th + 1) (h (th + 2) p1)), h))))))
def bo_listSteps_f10 (th : Nat) (q1 : Nat) (k10 : Int → Hp → O Unit) (x2 : Int) (h : Hp) : O Unit :=
  if x2 < h th 5 then
    bd (dr_valueOf q1 x2 h) fun r1 h1 =>
    ck (2 * x2) (
    ix x2 16 (
    ix (2 * x2) 32 (lt (hu h1 (th + 18) (2 * x2) (h1 (q1 + 2) x2)) fun h2 =>
    ck (2 * x2) (
    ix x2 16 (
    ix (2 * x2) 32 (lt (hu h2 (th + 19) (2 * x2) (h2 (q1 + 3) x2)) fun h3 =>
    ck (2 * x2) (
    ix x2 16 (
    ck (r1 + (h3 (q1 + 5) x2)) (
    ix (2 * x2) 32 (lt (hu h3 (th + 20) (2 * x2) (r1 + (h3 (q1 + 5) x2))) fun h4 =>
    ck (2 * x2) (
    ck ((2 * x2) + 1) (
    ix x2 16 (
    ix ((2 * x2) + 1) 32 (lt (hu h4 (th + 18) ((2 * x2) + 1) (h4 (q1 + 3) x2)) fun h5 =>
    ck (2 * x2) (
    ck ((2 * x2) + 1) (
    ix x2 16 (
    ix ((2 * x2) + 1) 32 (lt (hu h5 (th + 19) ((2 * x2) + 1) (h5 (q1 + 2) x2)) fun h6 =>
    ck (2 * x2) (
    ck ((2 * x2) + 1) (
    ix x2 16 (
    ck ((h6 (q1 + 4) x2) - r1) (
    ix ((2 * x2) + 1) 32 (lt (hu h6 (th + 20) ((2 * x2) + 1) ((h6 (q1 + 4) x2) - r1)) fun h7 =>
    ck (x2 + 1) (
    k10 (x2 + 1) h7))))))))))))))))))))))))
  else
    some ((), h)
def bo_listSteps (th : Nat) (q1 : Nat) (h : Hp) : O Unit :=
  lt (hu h th 5 (h q1 8)) fun h1 =>
  iter1 (bo_listSteps_f10 th q1) fuel 0 h1
def bo_removeNone_f2 (th : Nat) (k2 : Int → Hp → O Unit) (x1 : Int) (h : Hp) : O Unit :=
  if x1 < 16 then
    ix x1 16 (bz 0 (lt (hu h (th + 16) x1 0) fun h1 =>
    ck (x1 + 1) (
    k2 (x1 + 1) h1)))
  else
    some ((), h)
def bo_removeNone (th : Nat) (h : Hp) : O Unit :=
  iter1 (bo_removeNone_f2 th) fuel 0 h
def ja_fill_f5 (q0 : Nat) (n0 : Nat) (p1 : Int) (k5 : Int → Int → Hp → O Unit) (x2 x3 : Int) (h : Hp) : O Unit :=
  if x2 < x3 then
    ix x2 n0 (lt (hu h q0 x2 p1) fun h1 =>
    ck (x2 + 1) (
    k5 (x2 + 1) x3 h1))
  else
    some ((), h)
def ja_fill (q0 : Nat) (n0 : Nat) (p1 : Int) (h : Hp) : O Unit :=
  iter2 (ja_fill_f5 q0 n0 p1) fuel 0 (n0 : Int) h
def bo_findWays_b123 (th : Nat) (p1 : Int) (q2 : Nat) (n2 : Nat) (h : Hp) : O Unit :=
  some ((), h)
def bo_findWays_b111 (th : Nat) (p1 : Int) (q2 : Nat) (n2 : Nat) (k31 : Int → Int → Int → Hp → O Unit) (x3 x4 x5 : Int) (h : Hp) : O Unit :=
  ck (x5 + 1) (
  k31 x3 x4 (x5 + 1) h)
def bo_findWays_f31 (th : Nat) (p1 : Int) (q2 : Nat) (n2 : Nat) (k15 : Int → Int → Hp → O Unit) (k31 : Int → Int → Int → Hp → O Unit) (x3 x4 x5 : Int) (h : Hp) : O Unit :=
  ck (2 * (h th 5)) (
  if x5 < 2 * (h th 5) then
    ix x5 32 (
    ix (h (th + 18) x5) n2 (
    ix x5 32 (
    ck ((h q2 (h (th + 18) x5)) + (h (th + 20) x5)) (
    dv x5 2 (
    ix (x5 / 2) 16 (
    if h (th + 16) (x5 / 2) = 0 then
      if h q2 (h (th + 18) x5) = 1000000 then
        bo_findWays_b111 th p1 q2 n2 k31 x3 x4 x5 h
      else
        ix x5 32 (
        ix (h (th + 19) x5) n2 (
        if (h q2 (h (th + 18) x5)) + (h (th + 20) x5) < h q2 (h (th + 19) x5) then
          ix x5 32 (
          ix (h (th + 19) x5) n2 (lt (hu h q2 (h (th + 19) x5) ((h q2 (h (th + 18) x5)) + (h (th + 20) x5))) fun h1 =>
          bo_findWays_b111 th p1 q2 n2 k31 1 x4 x5 h1))
        else
          bo_findWays_b111 th p1 q2 n2 k31 x3 x4 x5 h))
    else
      bo_findWays_b111 th p1 q2 n2 k31 x3 x4 x5 h))))))
  else
    ck (x4 + 1) (
    k15 x3 (x4 + 1) h))
def bo_findWays_f15 (th : Nat) (p1 : Int) (q2 : Nat) (n2 : Nat) (k15 : Int → Int → Hp → O Unit) (x3 x4 : Int) (h : Hp) : O Unit :=
  if x3 = 0 then
    bo_findWays_b123 th p1 q2 n2 h
  else
    if x4 < 12 then
      iter3 (bo_findWays_f31 th p1 q2 n2 k15) fuel 0 x4 0 h
    else
      bo_findWays_b123 th p1 q2 n2 h
def bo_findWays (th : Nat) (p1 : Int) (q2 : Nat) (n2 : Nat) (h : Hp) : O Unit :=
  bd (ja_fill q2 n2 1000000 h) fun _ h1 =>
  ix p1 n2 (lt (hu h1 q2 p1 0) fun h2 =>
  iter2 (bo_findWays_f15 th p1 q2 n2) fuel 1 0 h2)
def bo_areBound_b18 (th : Nat) (p1 : Int) (p2 : Int) (s0 : Int) (h : Hp) : O Int :=
  bz s0 (some (s0, h))
def bo_areBound (th : Nat) (p1 : Int) (p2 : Int) (h : Hp) : O Int :=
  ix p1 12 (
  ix p2 12 (
  if h (th + 2 + p1.toNat) p2 = 1000000 then
    bo_areBound_b18 th p1 p2 0 h
  else
    bo_areBound_b18 th p1 p2 1 h))
def bo_formGroups_b74 (th : Nat) (p1 : Int) (k7 : Int → Hp → O Unit) (x2 : Int) (h : Hp) : O Unit :=
  ck (x2 + 1) (
  k7 (x2 + 1) h)
def bo_formGroups_b34 (th : Nat) (p1 : Int) (k7 : Int → Hp → O Unit) (x2 x3 : Int) (h : Hp) : O Unit :=
  if x3 = x2 then
    ix x2 12 (lt (hu h (th + 14) x2 (h th 3)) fun h1 =>
    ck ((h1 th 3) + 1) (
    lt (hu h1 th 3 ((h1 th 3) + 1)) fun h2 =>
    bo_formGroups_b74 th p1 k7 x2 h2))
  else
    ix x3 12 (
    ix x2 12 (lt (hu h (th + 14) x2 (h (th + 14) x3)) fun h3 =>
    bo_formGroups_b74 th p1 k7 x2 h3))
def bo_formGroups_f14 (th : Nat) (p1 : Int) (k7 : Int → Hp → O Unit) (k14 : Int → Int → Hp → O Unit) (x2 x3 : Int) (h : Hp) : O Unit :=
  if x3 < x2 then
    bd (bo_areBound th x3 x2 h) fun r1 h1 =>
    if r1 = 0 then
      ck (x3 + 1) (
      k14 x2 (x3 + 1) h1)
    else
      bo_formGroups_b34 th p1 k7 x2 x3 h1
  else
    bo_formGroups_b34 th p1 k7 x2 x3 h
def bo_formGroups_f7 (th : Nat) (p1 : Int) (k7 : Int → Hp → O Unit) (x2 : Int) (h : Hp) : O Unit :=
  if x2 < p1 then
    iter2 (bo_formGroups_f14 th p1 k7) fuel x2 0 h
  else
    some ((), h)
def bo_formGroups (th : Nat) (p1 : Int) (h : Hp) : O Unit :=
  lt (hu h th 3 0) fun h1 =>
  iter1 (bo_formGroups_f7 th p1) fuel 0 h1
def bo_isSuperfluous_b102 (th : Nat) (p1 : Int) (s0 : Int) (h : Hp) : O Int :=
  ix p1 16 (bz 0 (lt (hu h (th + 16) p1 0) fun h1 =>
  bz s0 (some (s0, h1))))
def bo_isSuperfluous_b101 (th : Nat) (p1 : Int) (h : Hp) : O Int :=
  bo_isSuperfluous_b102 th p1 0 h
def bo_isSuperfluous_b56 (th : Nat) (p1 : Int) (x3 s0 : Int) (h : Hp) : O Int :=
  ix x3 32 (
  bd (bo_findWays th (h (th + 18) x3) (th + 17) 12 h) fun _ h1 =>
  if s0 = 0 then
    bo_isSuperfluous_b101 th p1 h1
  else
    ix x3 32 (
    ix (h1 (th + 19) x3) 12 (
    ix x3 32 (
    if h1 (th + 20) x3 < h1 (th + 17) (h1 (th + 19) x3) then
      bo_isSuperfluous_b101 th p1 h1
    else
      bo_isSuperfluous_b102 th p1 1 h1))))
def bo_isSuperfluous (th : Nat) (p1 : Int) (h : Hp) : O Int :=
  ck (2 * p1) (
  ck (2 * p1) (
  ck ((2 * p1) + 1) (
  ix p1 16 (bz 1 (lt (hu h (th + 16) p1 1) fun h1 =>
  ix (2 * p1) 32 (
  bd (bo_findWays th (h1 (th + 18) (2 * p1)) (th + 17) 12 h1) fun _ h2 =>
  ix (2 * p1) 32 (
  ix (h2 (th + 19) (2 * p1)) 12 (
  ix (2 * p1) 32 (
  if h2 (th + 20) (2 * p1) < h2 (th + 17) (h2 (th + 19) (2 * p1)) then
    bo_isSuperfluous_b56 th p1 ((2 * p1) + 1) 0 h2
  else
    bo_isSuperfluous_b56 th p1 ((2 * p1) + 1) 1 h2)))))))))
def bo_workOut_b89 (th : Nat) (q1 : Nat) (k51 : Int → Hp → O Unit) (x2 s0 s1 : Int) (h : Hp) : O Unit :=
  ck (s1 + s0) (
  lt (hu h th 4 (s1 + s0)) fun h1 =>
  ck (x2 + 1) (
  k51 (x2 + 1) h1))
def bo_workOut_f51 (th : Nat) (q1 : Nat) (k51 : Int → Hp → O Unit) (x2 : Int) (h : Hp) : O Unit :=
  if x2 < h th 5 then
    bd (bo_isSuperfluous th x2 h) fun r1 h1 =>
    ix x2 16 (bz r1 (lt (hu h1 (th + 15) x2 r1) fun h2 =>
    ix x2 16 (
    if h2 (th + 15) x2 = 0 then
      bo_workOut_b89 th q1 k51 x2 0 (h2 th 4) h2
    else
      bo_workOut_b89 th q1 k51 x2 1 (h2 th 4) h2)))
  else
    some ((), h)
def bo_workOut_f11 (th : Nat) (q1 : Nat) (k11 : Int → Hp → O Unit) (x2 : Int) (h : Hp) : O Unit :=
  if x2 < h q1 7 then
    ix x2 12 (
    bd (bo_findWays th x2 (th + 2 + x2.toNat) 12 h) fun _ h2 =>
    ck (x2 + 1) (
    k11 (x2 + 1) h2))
  else
    bd (bo_formGroups th (h q1 7) h) fun _ h3 =>
    lt (hu h3 th 4 0) fun h4 =>
    iter1 (bo_workOut_f51 th q1) fuel 0 h4
def bo_workOut (th : Nat) (q1 : Nat) (h : Hp) : O Unit :=
  bd (bo_listSteps th q1 h) fun _ h1 =>
  bd (bo_removeNone th h1) fun _ h2 =>
  iter1 (bo_workOut_f11 th q1) fuel 0 h2
def bo_greatestIfExact (th : Nat) (q1 : Nat) (p2 : Int) (p3 : Int) (p4 : Int) (h : Hp) : O Int :=
  ix p2 16 (
  ix p2 16 (
  bd (dr_valueOf q1 p2 h) fun r1 h1 =>
  ix p3 12 (
  ix (h (q1 + 2) p2) 12 (
  ck ((h1 (th + 2 + p3.toNat) (h (q1 + 2) p2)) + r1) (
  ix (h (q1 + 3) p2) 12 (
  ix p4 12 (
  ck (((h1 (th + 2 + p3.toNat) (h (q1 + 2) p2)) + r1) + (h1 (th + 2 + (h (q1 + 3) p2).toNat) p4)) (
  ix p3 12 (
  ix (h (q1 + 3) p2) 12 (
  ck ((h1 (th + 2 + p3.toNat) (h (q1 + 3) p2)) - r1) (
  ix (h (q1 + 2) p2) 12 (
  ix p4 12 (
  ck (((h1 (th + 2 + p3.toNat) (h (q1 + 3) p2)) - r1) + (h1 (th + 2 + (h (q1 + 2) p2).toNat) p4)) (
  ix p3 12 (
  ix p4 12 (
  some (min (h1 (th + 2 + p3.toNat) p4) (min (((h1 (th + 2 + p3.toNat) (h (q1 + 2) p2)) + r1) + (h1 (th + 2 + (h (q1 + 3) p2).toNat) p4)) (((h1 (th + 2 + p3.toNat) (h (q1 + 3) p2)) - r1) + (h1 (th + 2 + (h (q1 + 2) p2).toNat) p4))), h1)))))))))))))))))
def bo_gain (th : Nat) (q1 : Nat) (p2 : Int) (p3 : Int) (p4 : Int) (h : Hp) : O Int :=
  ix p3 12 (
  ix p4 12 (
  bd (bo_greatestIfExact th q1 p2 p3 p4 h) fun r2 h2 =>
  ck ((h (th + 2 + p3.toNat) p4) - r2) (
  ix p4 12 (
  ix p3 12 (
  ck (((h (th + 2 + p3.toNat) p4) - r2) + (h2 (th + 2 + p4.toNat) p3)) (
  bd (bo_greatestIfExact th q1 p2 p4 p3 h2) fun r4 h4 =>
  ck ((((h (th + 2 + p3.toNat) p4) - r2) + (h2 (th + 2 + p4.toNat) p3)) - r4) (
  some ((((h (th + 2 + p3.toNat) p4) - r2) + (h2 (th + 2 + p4.toNat) p3)) - r4, h4))))))))
def bo_bestToMakeExact_b40 (th : Nat) (q1 : Nat) (p2 : Int) (p3 : Int) (k6 : Int → Int → Hp → O Int) (x4 x5 : Int) (h : Hp) : O Int :=
  ck (x5 + 1) (
  k6 x4 (x5 + 1) h)
def bo_bestToMakeExact_f6 (th : Nat) (q1 : Nat) (p2 : Int) (p3 : Int) (k6 : Int → Int → Hp → O Int) (x4 x5 : Int) (h : Hp) : O Int :=
  if x5 < h th 5 then
    bd (bo_gain th q1 x5 p2 p3 h) fun r1 h1 =>
    bd (bo_gain th q1 x4 p2 p3 h1) fun r2 h2 =>
    if r2 < r1 then
      bo_bestToMakeExact_b40 th q1 p2 p3 k6 x5 x5 h2
    else
      bo_bestToMakeExact_b40 th q1 p2 p3 k6 x4 x5 h2
  else
    some (x4, h)
def bo_bestToMakeExact (th : Nat) (q1 : Nat) (p2 : Int) (p3 : Int) (h : Hp) : O Int :=
  iter2 (bo_bestToMakeExact_f6 th q1 p2 p3) fuel 0 1 h
def bo_countLeft_b38 (th : Nat) (k16 : Int → Int → Hp → O Int) (x1 x2 : Int) (h : Hp) : O Int :=
  ck (x2 + (-1)) (
  k16 x1 (x2 + (-1)) h)
def bo_countLeft_f16 (th : Nat) (k16 : Int → Int → Hp → O Int) (x1 x2 : Int) (h : Hp) : O Int :=
  if x2 < 0 then
    some (x1, h)
  else
    bd (bo_isSuperfluous th x2 h) fun r1 h1 =>
    if r1 = 0 then
      bo_countLeft_b38 th k16 x1 x2 h1
    else
      ix x2 16 (bz 1 (lt (hu h1 (th + 16) x2 1) fun h2 =>
      ck (x1 + (-1)) (
      bo_countLeft_b38 th k16 (x1 + (-1)) x2 h2)))
def bo_countLeft (th : Nat) (h : Hp) : O Int :=
  bd (bo_removeNone th h) fun _ h1 =>
  ck ((h1 th 5) - 1) (
  iter2 (bo_countLeft_f16 th) fuel (h1 th 5) ((h1 th 5) - 1) h1)
def dr_copyContentFrom (th : Nat) (q1 : Nat) (h : Hp) : O Unit :=
  lt (hu h th 7 (h q1 7)) fun h1 =>
  lt (hu h1 th 8 (h1 q1 8)) fun h2 =>
  lt (hcp h2 (q1 + 1) (th + 1) 12) fun h3 =>
  lt (hcp h3 (q1 + 2) (th + 2) 16) fun h4 =>
  lt (hcp h4 (q1 + 3) (th + 3) 16) fun h5 =>
  lt (hcp h5 (q1 + 4) (th + 4) 16) fun h6 =>
  lt (hcp h6 (q1 + 5) (th + 5) 16) fun h7 =>
  lt (hcp h7 (q1 + 6) (th + 6) 16) fun h8 =>
  lt (hcp h8 (q1 + 7) (th + 7) 16) fun h9 =>
  some ((), h9)
def dr_copyFrom (th : Nat) (q1 : Nat) (h : Hp) : O Unit :=
  bd (dr_copyContentFrom th q1 h) fun _ h1 =>
  lt (hu h1 th 9 (h1 q1 9)) fun h2 =>
  lt (hu h2 th 10 (h2 q1 10)) fun h3 =>
  some ((), h3)
def dr_hasPoint_b17 (th : Nat) (p1 : Int) (s0 : Int) (h : Hp) : O Int :=
  bz s0 (some (s0, h))
def dr_hasPoint_b16 (th : Nat) (p1 : Int) (h : Hp) : O Int :=
  dr_hasPoint_b17 th p1 0 h
def dr_hasPoint (th : Nat) (p1 : Int) (h : Hp) : O Int :=
  if p1 < 0 then
    dr_hasPoint_b16 th p1 h
  else
    if p1 < h th 7 then
      dr_hasPoint_b17 th p1 1 h
    else
      dr_hasPoint_b16 th p1 h
def dr_hasDimension_b17 (th : Nat) (p1 : Int) (s0 : Int) (h : Hp) : O Int :=
  bz s0 (some (s0, h))
def dr_hasDimension_b16 (th : Nat) (p1 : Int) (h : Hp) : O Int :=
  dr_hasDimension_b17 th p1 0 h
def dr_hasDimension (th : Nat) (p1 : Int) (h : Hp) : O Int :=
  if p1 < 0 then
    dr_hasDimension_b16 th p1 h
  else
    if p1 < h th 8 then
      dr_hasDimension_b17 th p1 1 h
    else
      dr_hasDimension_b16 th p1 h
def dr_countPointsBefore_b25 (th : Nat) (p1 : Int) (k4 : Int → Int → Hp → O Int) (x2 x3 : Int) (h : Hp) : O Int :=
  ck (x3 + 1) (
  k4 x2 (x3 + 1) h)
def dr_countPointsBefore_f4 (th : Nat) (p1 : Int) (k4 : Int → Int → Hp → O Int) (x2 x3 : Int) (h : Hp) : O Int :=
  if x3 < h th 7 then
    ix x3 12 (
    if h (th + 1) x3 < p1 then
      ck (x2 + 1) (
      dr_countPointsBefore_b25 th p1 k4 (x2 + 1) x3 h)
    else
      dr_countPointsBefore_b25 th p1 k4 x2 x3 h)
  else
    some (x2, h)
def dr_countPointsBefore (th : Nat) (p1 : Int) (h : Hp) : O Int :=
  iter2 (dr_countPointsBefore_f4 th p1) fuel 0 0 h
def dr_hasPointAt_b29 (th : Nat) (p1 : Int) (s0 : Int) (h : Hp) : O Int :=
  bz s0 (some (s0, h))
def dr_hasPointAt_b28 (th : Nat) (p1 : Int) (h : Hp) : O Int :=
  dr_hasPointAt_b29 th p1 0 h
def dr_hasPointAt (th : Nat) (p1 : Int) (h : Hp) : O Int :=
  bd (dr_countPointsBefore th p1 h) fun r1 h1 =>
  if r1 < h1 th 7 then
    ix r1 12 (
    if h1 (th + 1) r1 = p1 then
      dr_hasPointAt_b29 th p1 1 h1
    else
      dr_hasPointAt_b28 th p1 h1)
  else
    dr_hasPointAt_b28 th p1 h1
def dr_isEnd_b25 (th : Nat) (p1 : Int) (p2 : Int) (s0 : Int) (h : Hp) : O Int :=
  bz s0 (some (s0, h))
def dr_isEnd_b20 (th : Nat) (p1 : Int) (p2 : Int) (h : Hp) : O Int :=
  dr_isEnd_b25 th p1 p2 1 h
def dr_isEnd (th : Nat) (p1 : Int) (p2 : Int) (h : Hp) : O Int :=
  ix p1 16 (
  if h (th + 2) p1 = p2 then
    dr_isEnd_b20 th p1 p2 h
  else
    ix p1 16 (
    if h (th + 3) p1 = p2 then
      dr_isEnd_b20 th p1 p2 h
    else
      dr_isEnd_b25 th p1 p2 0 h))
def dr_countDimensionsAt_b24 (th : Nat) (p1 : Int) (k4 : Int → Int → Hp → O Int) (x2 x3 : Int) (h : Hp) : O Int :=
  ck (x3 + 1) (
  k4 x2 (x3 + 1) h)
def dr_countDimensionsAt_f4 (th : Nat) (p1 : Int) (k4 : Int → Int → Hp → O Int) (x2 x3 : Int) (h : Hp) : O Int :=
  if x3 < h th 8 then
    bd (dr_isEnd th x3 p1 h) fun r1 h1 =>
    if r1 = 0 then
      dr_countDimensionsAt_b24 th p1 k4 x2 x3 h1
    else
      ck (x2 + 1) (
      dr_countDimensionsAt_b24 th p1 k4 (x2 + 1) x3 h1)
  else
    some (x2, h)
def dr_countDimensionsAt (th : Nat) (p1 : Int) (h : Hp) : O Int :=
  iter2 (dr_countDimensionsAt_f4 th p1) fuel 0 0 h
def dr_renumbered_b38 (p0 : Int) (p1 : Int) (p2 : Int) (s0 : Int) (h : Hp) : O Int :=
  some (s0, h)
def dr_renumbered_b37 (p0 : Int) (p1 : Int) (p2 : Int) (h : Hp) : O Int :=
  dr_renumbered_b38 p0 p1 p2 p0 h
def dr_renumbered_b21 (p0 : Int) (p1 : Int) (p2 : Int) (h : Hp) : O Int :=
  if p0 < p2 then
    dr_renumbered_b37 p0 p1 p2 h
  else
    if p0 < p1 then
      ck (p0 + 1) (
      dr_renumbered_b38 p0 p1 p2 (p0 + 1) h)
    else
      dr_renumbered_b37 p0 p1 p2 h
def dr_renumbered (p0 : Int) (p1 : Int) (p2 : Int) (h : Hp) : O Int :=
  if p0 = p1 then
    some (p2, h)
  else
    if p1 < p0 then
      if p2 < p0 then
        dr_renumbered_b21 p0 p1 p2 h
      else
        ck (p0 - 1) (
        some (p0 - 1, h))
    else
      dr_renumbered_b21 p0 p1 p2 h
def dr_renumberEnds_f2 (th : Nat) (p1 : Int) (p2 : Int) (k2 : Int → Hp → O Unit) (x3 : Int) (h : Hp) : O Unit :=
  if x3 < h th 8 then
    ix x3 16 (
    bd (dr_renumbered (h (th + 2) x3) p1 p2 h) fun r1 h1 =>
    ix x3 16 (
    bd (dr_renumbered (h1 (th + 3) x3) p1 p2 h1) fun r2 h2 =>
    ix x3 16 (lt (hu h2 (th + 2) x3 (min r1 r2)) fun h3 =>
    ix x3 16 (lt (hu h3 (th + 3) x3 (max r1 r2)) fun h4 =>
    ck (x3 + 1) (
    k2 (x3 + 1) h4)))))
  else
    some ((), h)
def dr_renumberEnds (th : Nat) (p1 : Int) (p2 : Int) (h : Hp) : O Unit :=
  iter1 (dr_renumberEnds_f2 th p1 p2) fuel 0 h
def dr_shiftPoint_f59 (th : Nat) (p1 : Int) (p2 : Int) (k59 : Int → Int → Hp → O Int) (x3 x4 : Int) (h : Hp) : O Int :=
  if x3 < x4 then
    ck (x4 - 1) (
    ix (x4 - 1) 12 (
    ix x4 12 (lt (hu h (th + 1) x4 (h (th + 1) (x4 - 1))) fun h1 =>
    ck (x4 + (-1)) (
    k59 x3 (x4 + (-1)) h1))))
  else
    ix x3 12 (lt (hu h (th + 1) x3 p2) fun h2 =>
    some (x3, h2))
def dr_shiftPoint_f28 (th : Nat) (p1 : Int) (p2 : Int) (k28 : Int → Int → Hp → O Int) (x3 x4 : Int) (h : Hp) : O Int :=
  if x4 < x3 then
    ck (x4 + 1) (
    ix (x4 + 1) 12 (
    ix x4 12 (lt (hu h (th + 1) x4 (h (th + 1) (x4 + 1))) fun h1 =>
    ck (x4 + 1) (
    k28 x3 (x4 + 1) h1))))
  else
    iter2 (dr_shiftPoint_f59 th p1 p2) fuel x3 p1 h
def dr_shiftPoint_b19 (th : Nat) (p1 : Int) (p2 : Int) (x3 : Int) (h : Hp) : O Int :=
  bd (dr_renumberEnds th p1 x3 h) fun _ h1 =>
  iter2 (dr_shiftPoint_f28 th p1 p2) fuel x3 p1 h1
def dr_shiftPoint (th : Nat) (p1 : Int) (p2 : Int) (h : Hp) : O Int :=
  bd (dr_countPointsBefore th p2 h) fun r1 h1 =>
  ix p1 12 (
  if h1 (th + 1) p1 < p2 then
    ck (r1 + (-1)) (
    dr_shiftPoint_b19 th p1 p2 (r1 + (-1)) h1)
  else
    dr_shiftPoint_b19 th p1 p2 r1 h1)
def dr_insertPoint (th : Nat) (p1 : Int) (h : Hp) : O Int :=
  ck ((h th 7) + 1) (
  lt (hu h th 7 ((h th 7) + 1)) fun h1 =>
  ck ((h1 th 7) - 1) (
  ix ((h1 th 7) - 1) 12 (lt (hu h1 (th + 1) ((h1 th 7) - 1) p1) fun h2 =>
  ck ((h2 th 7) - 1) (
  bd (dr_shiftPoint th ((h2 th 7) - 1) p1 h2) fun r3 h3 =>
  some (r3, h3)))))
def dr_closeGap_f4 (q0 : Nat) (n0 : Nat) (p1 : Int) (p2 : Int) (k4 : Int → Hp → O Unit) (x3 : Int) (h : Hp) : O Unit :=
  if x3 < p2 then
    ck (x3 - 1) (
    ix x3 n0 (
    ix (x3 - 1) n0 (lt (hu h q0 (x3 - 1) (h q0 x3)) fun h1 =>
    ck (x3 + 1) (
    k4 (x3 + 1) h1))))
  else
    some ((), h)
def dr_closeGap (q0 : Nat) (n0 : Nat) (p1 : Int) (p2 : Int) (h : Hp) : O Unit :=
  ck (p1 + 1) (
  iter1 (dr_closeGap_f4 q0 n0 p1 p2) fuel (p1 + 1) h)
def dr_removePoint (th : Nat) (p1 : Int) (h : Hp) : O Unit :=
  ck ((h th 7) - 1) (
  bd (dr_renumberEnds th p1 ((h th 7) - 1) h) fun _ h1 =>
  bd (dr_closeGap (th + 1) 12 p1 (h1 th 7) h1) fun _ h2 =>
  ck ((h2 th 7) - 1) (
  lt (hu h2 th 7 ((h2 th 7) - 1)) fun h3 =>
  some ((), h3)))
def dr_append (th : Nat) (p1 : Int) (p2 : Int) (h : Hp) : O Int :=
  ck ((h th 8) + 1) (
  lt (hu h th 8 ((h th 8) + 1)) fun h1 =>
  ix (h th 8) 16 (lt (hu h1 (th + 2) (h th 8) p1) fun h2 =>
  ix (h th 8) 16 (lt (hu h2 (th + 3) (h th 8) p2) fun h3 =>
  ix (h th 8) 16 (lt (hu h3 (th + 4) (h th 8) 0) fun h4 =>
  ix (h th 8) 16 (lt (hu h4 (th + 5) (h th 8) 0) fun h5 =>
  ix (h th 8) 16 (lt (hu h5 (th + 6) (h th 8) 0) fun h6 =>
  ix (h th 8) 16 (lt (hu h6 (th + 7) (h th 8) 0) fun h7 =>
  some (h th 8, h7))))))))
def dr_removeDimension (th : Nat) (p1 : Int) (h : Hp) : O Unit :=
  bd (dr_closeGap (th + 2) 16 p1 (h th 8) h) fun _ h1 =>
  bd (dr_closeGap (th + 3) 16 p1 (h1 th 8) h1) fun _ h2 =>
  bd (dr_closeGap (th + 4) 16 p1 (h2 th 8) h2) fun _ h3 =>
  bd (dr_closeGap (th + 5) 16 p1 (h3 th 8) h3) fun _ h4 =>
  bd (dr_closeGap (th + 6) 16 p1 (h4 th 8) h4) fun _ h5 =>
  bd (dr_closeGap (th + 7) 16 p1 (h5 th 8) h5) fun _ h6 =>
  ck ((h6 th 8) - 1) (
  lt (hu h6 th 8 ((h6 th 8) - 1)) fun h7 =>
  some ((), h7))
def dr_countOfChain_b25 (th : Nat) (p1 : Int) (k4 : Int → Int → Hp → O Int) (x2 x3 : Int) (h : Hp) : O Int :=
  ck (x3 + 1) (
  k4 x2 (x3 + 1) h)
def dr_countOfChain_f4 (th : Nat) (p1 : Int) (k4 : Int → Int → Hp → O Int) (x2 x3 : Int) (h : Hp) : O Int :=
  if x3 < h th 8 then
    ix x3 16 (
    if h (th + 6) x3 = p1 then
      ck (x2 + 1) (
      dr_countOfChain_b25 th p1 k4 (x2 + 1) x3 h)
    else
      dr_countOfChain_b25 th p1 k4 x2 x3 h)
  else
    some (x2, h)
def dr_countOfChain (th : Nat) (p1 : Int) (h : Hp) : O Int :=
  iter2 (dr_countOfChain_f4 th p1) fuel 0 0 h
def dr_sumOfChain_b32 (th : Nat) (p1 : Int) (q2 : Nat) (n2 : Nat) (k5 : Int → Int → Hp → O Int) (x3 x4 : Int) (h : Hp) : O Int :=
  ck (x4 + 1) (
  k5 x3 (x4 + 1) h)
def dr_sumOfChain_f5 (th : Nat) (p1 : Int) (q2 : Nat) (n2 : Nat) (k5 : Int → Int → Hp → O Int) (x3 x4 : Int) (h : Hp) : O Int :=
  if x4 < h th 8 then
    ix x4 16 (
    if h (th + 6) x4 = p1 then
      ix x4 n2 (
      ck (x3 + (h q2 x4)) (
      dr_sumOfChain_b32 th p1 q2 n2 k5 (x3 + (h q2 x4)) x4 h))
    else
      dr_sumOfChain_b32 th p1 q2 n2 k5 x3 x4 h)
  else
    some (x3, h)
def dr_sumOfChain (th : Nat) (p1 : Int) (q2 : Nat) (n2 : Nat) (h : Hp) : O Int :=
  iter2 (dr_sumOfChain_f5 th p1 q2 n2) fuel 0 0 h
def dr_sumOfValues_b30 (th : Nat) (p1 : Int) (k4 : Int → Int → Hp → O Int) (x2 x3 : Int) (h : Hp) : O Int :=
  ck (x3 + 1) (
  k4 x2 (x3 + 1) h)
def dr_sumOfValues_f4 (th : Nat) (p1 : Int) (k4 : Int → Int → Hp → O Int) (x2 x3 : Int) (h : Hp) : O Int :=
  if x3 < h th 8 then
    ix x3 16 (
    if h (th + 6) x3 = p1 then
      bd (dr_valueOf th x3 h) fun r1 h1 =>
      ck (x2 + r1) (
      dr_sumOfValues_b30 th p1 k4 (x2 + r1) x3 h1)
    else
      dr_sumOfValues_b30 th p1 k4 x2 x3 h)
  else
    some (x2, h)
def dr_sumOfValues (th : Nat) (p1 : Int) (h : Hp) : O Int :=
  iter2 (dr_sumOfValues_f4 th p1) fuel 0 0 h
def dr_beginOfChain_b38 (th : Nat) (p1 : Int) (k9 : Int → Int → Hp → O Int) (x2 x3 : Int) (h : Hp) : O Int :=
  ck (x3 + 1) (
  k9 x2 (x3 + 1) h)
def dr_beginOfChain_f9 (th : Nat) (p1 : Int) (k9 : Int → Int → Hp → O Int) (x2 x3 : Int) (h : Hp) : O Int :=
  if x3 < h th 8 then
    ix x3 16 (
    if h (th + 6) x3 = p1 then
      ix x3 16 (
      dr_beginOfChain_b38 th p1 k9 (min x2 (h (th + 2) x3)) x3 h)
    else
      dr_beginOfChain_b38 th p1 k9 x2 x3 h)
  else
    some (x2, h)
def dr_beginOfChain (th : Nat) (p1 : Int) (h : Hp) : O Int :=
  ck ((h th 7) - 1) (
  iter2 (dr_beginOfChain_f9 th p1) fuel ((h th 7) - 1) 0 h)
def dr_endOfChain_b33 (th : Nat) (p1 : Int) (k4 : Int → Int → Hp → O Int) (x2 x3 : Int) (h : Hp) : O Int :=
  ck (x3 + 1) (
  k4 x2 (x3 + 1) h)
def dr_endOfChain_f4 (th : Nat) (p1 : Int) (k4 : Int → Int → Hp → O Int) (x2 x3 : Int) (h : Hp) : O Int :=
  if x3 < h th 8 then
    ix x3 16 (
    if h (th + 6) x3 = p1 then
      ix x3 16 (
      dr_endOfChain_b33 th p1 k4 (max x2 (h (th + 3) x3)) x3 h)
    else
      dr_endOfChain_b33 th p1 k4 x2 x3 h)
  else
    some (x2, h)
def dr_endOfChain (th : Nat) (p1 : Int) (h : Hp) : O Int :=
  iter2 (dr_endOfChain_f4 th p1) fuel 0 0 h
def dr_nextInChain_b32 (th : Nat) (p1 : Int) (p2 : Int) (k2 : Int → Hp → O Int) (x3 : Int) (h : Hp) : O Int :=
  ck (x3 + 1) (
  k2 (x3 + 1) h)
def dr_nextInChain_f2 (th : Nat) (p1 : Int) (p2 : Int) (k2 : Int → Hp → O Int) (x3 : Int) (h : Hp) : O Int :=
  if x3 < h th 8 then
    ix x3 16 (
    if h (th + 6) x3 = p1 then
      ix x3 16 (
      if h (th + 2) x3 = p2 then
        some (x3, h)
      else
        dr_nextInChain_b32 th p1 p2 k2 x3 h)
    else
      dr_nextInChain_b32 th p1 p2 k2 x3 h)
  else
    some ((-1), h)
def dr_nextInChain (th : Nat) (p1 : Int) (p2 : Int) (h : Hp) : O Int :=
  iter1 (dr_nextInChain_f2 th p1 p2) fuel 0 h
def dr_isClosed_f15 (th : Nat) (p1 : Int) (k15 : Int → Int → Int → Hp → O Int) (x2 x3 x4 : Int) (h : Hp) : O Int :=
  if x4 < x2 then
    bd (dr_nextInChain th p1 x3 h) fun r1 h1 =>
    if r1 < 0 then
      some (0, h1)
    else
      ix r1 16 (
      ck (x4 + 1) (
      k15 x2 (h1 (th + 3) r1) (x4 + 1) h1))
  else
    some (1, h)
def dr_isClosed (th : Nat) (p1 : Int) (h : Hp) : O Int :=
  bd (dr_countOfChain th p1 h) fun r1 h1 =>
  bd (dr_beginOfChain th p1 h1) fun r2 h2 =>
  iter3 (dr_isClosed_f15 th p1) fuel r1 r2 0 h2
def dr_smallestOver_b60 (th : Nat) (p1 : Int) (k15 : Int → Int → Int → Hp → O Int) (x2 x3 x4 : Int) (h : Hp) : O Int :=
  ck (x4 + 1) (
  k15 x2 x3 (x4 + 1) h)
def dr_smallestOver_f15 (th : Nat) (p1 : Int) (k15 : Int → Int → Int → Hp → O Int) (x2 x3 x4 : Int) (h : Hp) : O Int :=
  if x4 < h th 8 then
    ix x4 16 (
    if h (th + 6) x4 = p1 then
      dr_smallestOver_b60 th p1 k15 x2 x3 x4 h
    else
      ix x4 16 (
      if h (th + 2) x4 = x2 then
        ix x4 16 (
        if h (th + 3) x4 = x3 then
          some (x4, h)
        else
          dr_smallestOver_b60 th p1 k15 x2 x3 x4 h)
      else
        dr_smallestOver_b60 th p1 k15 x2 x3 x4 h))
  else
    some ((-999), h)
def dr_smallestOver (th : Nat) (p1 : Int) (h : Hp) : O Int :=
  bd (dr_beginOfChain th p1 h) fun r1 h1 =>
  bd (dr_endOfChain th p1 h1) fun r2 h2 =>
  iter3 (dr_smallestOver_f15 th p1) fuel r1 r2 0 h2
def hi_record (th : Nat) (q1 : Nat) (h : Hp) : O Unit :=
  ck ((h th 1) + 1) (
  dv ((h th 1) + 1) 8 (
  lt (hu h th 1 (((h th 1) + 1) % 8)) fun h1 =>
  ix (h1 th 1) 8 (
  bd (dr_copyFrom (th + 2 + 8 * (h1 th 1).toNat) q1 h1) fun _ h3 =>
  ck ((h3 th 2) + 1) (
  lt (hu h3 th 2 (min ((h3 th 2) + 1) 8)) fun h4 =>
  some ((), h4)))))
def hi_restore (th : Nat) (q1 : Nat) (h : Hp) : O Unit :=
  ix (h th 1) 8 (
  bd (dr_copyFrom q1 (th + 2 + 8 * (h th 1).toNat) h) fun _ h2 =>
  ck ((h2 th 1) + 8) (
  ck (((h2 th 1) + 8) - 1) (
  dv (((h2 th 1) + 8) - 1) 8 (
  lt (hu h2 th 1 ((((h2 th 1) + 8) - 1) % 8)) fun h3 =>
  ck ((h3 th 2) - 1) (
  lt (hu h3 th 2 ((h3 th 2) - 1)) fun h4 =>
  some ((), h4))))))
def la_digitsOf_b19 (p0 : Int) (s0 : Int) (h : Hp) : O Int :=
  some (s0, h)
def la_digitsOf (p0 : Int) (h : Hp) : O Int :=
  if p0 < 100 then
    if p0 < 10 then
      la_digitsOf_b19 p0 1 h
    else
      la_digitsOf_b19 p0 2 h
  else
    some (3, h)
def la_measure_b125 (th : Nat) (q1 : Nat) (p2 : Int) (p3 : Int) (s0 s1 s2 : Int) (h : Hp) : O Unit :=
  ck (s1 + s0) (
  ix s2 16 (lt (hu h (th + 3) s2 (s1 + s0)) fun h1 =>
  some ((), h1)))
def la_measure_b89 (th : Nat) (q1 : Nat) (p2 : Int) (p3 : Int) (x5 s0 s1 : Int) (h : Hp) : O Unit :=
  ix s1 16 (lt (hu h (th + 1) s1 s0) fun h1 =>
  ix p2 16 (
  ck ((h1 (th + 2) p2) - p3) (
  ix p2 16 (lt (hu h1 (th + 2) p2 ((h1 (th + 2) p2) - p3)) fun h2 =>
  ix p2 16 (
  ix p2 16 (
  if h2 (th + 1) p2 = 1 then
    la_measure_b125 th q1 p2 p3 p3 (h2 (th + 3) p2) p2 h2
  else
    ck (p3 + x5) (
    la_measure_b125 th q1 p2 p3 (p3 + x5) (h2 (th + 3) p2) p2 h2)))))))
def la_measure (th : Nat) (q1 : Nat) (p2 : Int) (p3 : Int) (h : Hp) : O Unit :=
  bd (dr_valueOf q1 p2 h) fun r1 h1 =>
  bd (la_digitsOf r1 h1) fun r2 h2 =>
  ck ((h1 q1 9) * r2) (
  ix p2 16 (
  ix (h2 (q1 + 2) p2) 12 (
  ix p2 16 (lt (hu h2 (th + 2) p2 (h2 (q1 + 1) (h2 (q1 + 2) p2))) fun h3 =>
  ix p2 16 (
  ix (h3 (q1 + 3) p2) 12 (
  ix p2 16 (lt (hu h3 (th + 3) p2 (h3 (q1 + 1) (h3 (q1 + 3) p2))) fun h4 =>
  ck (2 * p3) (
  ck (((h1 q1 9) * r2) + (2 * p3)) (
  if r1 < ((h1 q1 9) * r2) + (2 * p3) then
    if r1 < (h1 q1 9) * r2 then
      la_measure_b89 th q1 p2 p3 ((h1 q1 9) * r2) 2 p2 h4
    else
      la_measure_b89 th q1 p2 p3 ((h1 q1 9) * r2) 1 p2 h4
  else
    ix p2 16 (lt (hu h4 (th + 1) p2 0) fun h5 =>
    some ((), h5)))))))))))
def la_leaderOf_b36 (q0 : Nat) (p1 : Int) (h : Hp) : O Int :=
  some (p1, h)
def la_leaderOf_f9 (q0 : Nat) (p1 : Int) (k9 : Int → Int → Hp → O Int) (x2 x3 : Int) (h : Hp) : O Int :=
  if x2 = 0 then
    la_leaderOf_b36 q0 p1 h
  else
    if x3 < p1 then
      ix x3 16 (
      if h (q0 + 6) x3 = x2 then
        some (x3, h)
      else
        ck (x3 + 1) (
        k9 x2 (x3 + 1) h))
    else
      la_leaderOf_b36 q0 p1 h
def la_leaderOf (q0 : Nat) (p1 : Int) (h : Hp) : O Int :=
  ix p1 16 (
  iter2 (la_leaderOf_f9 q0 p1) fuel (h (q0 + 6) p1) 0 h)
def la_joinUnit (th : Nat) (q1 : Nat) (p2 : Int) (h : Hp) : O Unit :=
  ix p2 16 (
  ix (h (q1 + 2) p2) 12 (
  ix p2 16 (
  ix (h (q1 + 3) p2) 12 (
  bd (la_leaderOf q1 p2 h) fun r1 h1 =>
  ix p2 16 (lt (hu h1 (th + 8) p2 r1) fun h2 =>
  if r1 = p2 then
    ix p2 16 (lt (hu h2 (th + 9) p2 (h (q1 + 1) (h (q1 + 2) p2))) fun h3 =>
    ix p2 16 (lt (hu h3 (th + 10) p2 (h (q1 + 1) (h (q1 + 3) p2))) fun h4 =>
    ix p2 16 (
    ix p2 16 (lt (hu h4 (th + 11) p2 (h4 (q1 + 7) p2)) fun h5 =>
    ix (h5 th 6) 16 (lt (hu h5 (th + 12) (h5 th 6) p2) fun h6 =>
    ck ((h6 th 6) + 1) (
    lt (hu h6 th 6 ((h6 th 6) + 1)) fun h7 =>
    some ((), h7)))))))
  else
    ix r1 16 (
    ix r1 16 (lt (hu h2 (th + 9) r1 (min (h2 (th + 9) r1) (h (q1 + 1) (h (q1 + 2) p2)))) fun h8 =>
    ix r1 16 (
    ix r1 16 (lt (hu h8 (th + 10) r1 (max (h8 (th + 10) r1) (h (q1 + 1) (h (q1 + 3) p2)))) fun h9 =>
    ix r1 16 (
    ix p2 16 (
    ix r1 16 (lt (hu h9 (th + 11) r1 (max (h9 (th + 11) r1) (h9 (q1 + 7) p2))) fun h10 =>
    some ((), h10)))))))))))))
def la_comesBefore_b88 (th : Nat) (p1 : Int) (p2 : Int) (s0 : Int) (h : Hp) : O Int :=
  bz s0 (some (s0, h))
def la_comesBefore_b77 (th : Nat) (p1 : Int) (p2 : Int) (s0 : Int) (h : Hp) : O Int :=
  bz s0 (some (s0, h))
def la_comesBefore_b41 (th : Nat) (p1 : Int) (p2 : Int) (s0 : Int) (h : Hp) : O Int :=
  bz s0 (some (s0, h))
def la_comesBefore (th : Nat) (p1 : Int) (p2 : Int) (h : Hp) : O Int :=
  ix p1 16 (
  ix p1 16 (
  ck ((h (th + 10) p1) - (h (th + 9) p1)) (
  ix p2 16 (
  ix p2 16 (
  ck ((h (th + 10) p2) - (h (th + 9) p2)) (
  ck (((h (th + 10) p1) - (h (th + 9) p1)) - ((h (th + 10) p2) - (h (th + 9) p2))) (
  if ((h (th + 10) p1) - (h (th + 9) p1)) - ((h (th + 10) p2) - (h (th + 9) p2)) = 0 then
    ix p1 16 (
    ix p2 16 (
    if h (th + 9) p1 = h (th + 9) p2 then
      if p1 < p2 then
        la_comesBefore_b88 th p1 p2 1 h
      else
        la_comesBefore_b88 th p1 p2 0 h
    else
      ix p1 16 (
      ix p2 16 (
      if h (th + 9) p1 < h (th + 9) p2 then
        la_comesBefore_b77 th p1 p2 1 h
      else
        la_comesBefore_b77 th p1 p2 0 h))))
  else
    if ((h (th + 10) p1) - (h (th + 9) p1)) - ((h (th + 10) p2) - (h (th + 9) p2)) < 0 then
      la_comesBefore_b41 th p1 p2 1 h
    else
      la_comesBefore_b41 th p1 p2 0 h)))))))
def la_isTaken_b83 (th : Nat) (p1 : Int) (p2 : Int) (k2 : Int → Hp → O Int) (x3 : Int) (h : Hp) : O Int :=
  ck (x3 + 1) (
  k2 (x3 + 1) h)
def la_isTaken_b77 (th : Nat) (p1 : Int) (p2 : Int) (k13 : Int → Int → Hp → O Int) (x3 x4 : Int) (h : Hp) : O Int :=
  ck (x4 + 1) (
  k13 x3 (x4 + 1) h)
def la_isTaken_f13 (th : Nat) (p1 : Int) (p2 : Int) (k2 : Int → Hp → O Int) (k13 : Int → Int → Hp → O Int) (x3 x4 : Int) (h : Hp) : O Int :=
  ix x3 16 (
  if h (th + 8) x3 = p2 then
    if x4 < h th 15 then
      ix x4 16 (
      if h (th + 4) x4 = p1 then
        ix x4 16 (
        ix x3 16 (
        if h (th + 3) x3 < h (th + 2) x4 then
          la_isTaken_b77 th p1 p2 k13 x3 x4 h
        else
          ix x3 16 (
          ix x4 16 (
          if h (th + 3) x4 < h (th + 2) x3 then
            la_isTaken_b77 th p1 p2 k13 x3 x4 h
          else
            some (1, h)))))
      else
        la_isTaken_b77 th p1 p2 k13 x3 x4 h)
    else
      la_isTaken_b83 th p1 p2 k2 x3 h
  else
    la_isTaken_b83 th p1 p2 k2 x3 h)
def la_isTaken_f2 (th : Nat) (p1 : Int) (p2 : Int) (k2 : Int → Hp → O Int) (x3 : Int) (h : Hp) : O Int :=
  if x3 < h th 15 then
    iter2 (la_isTaken_f13 th p1 p2 k2) fuel x3 0 h
  else
    some (0, h)
def la_isTaken (th : Nat) (p1 : Int) (p2 : Int) (h : Hp) : O Int :=
  iter1 (la_isTaken_f2 th p1 p2) fuel 0 h
def la_lowestLaneFor_b104 (th : Nat) (p1 : Int) (p2 : Int) (x3 : Int) (h : Hp) : O Int :=
  some (x3, h)
def la_lowestLaneFor_f80 (th : Nat) (p1 : Int) (p2 : Int) (k80 : Int → Int → Hp → O Int) (x3 x4 : Int) (h : Hp) : O Int :=
  if x4 < p2 then
    bd (la_isTaken th x3 p1 h) fun r1 h1 =>
    if r1 = 0 then
      la_lowestLaneFor_b104 th p1 p2 x3 h1
    else
      ck (x3 + 1) (
      ck (x4 + 1) (
      k80 (x3 + 1) (x4 + 1) h1))
  else
    la_lowestLaneFor_b104 th p1 p2 x3 h
def la_lowestLaneFor_b71 (th : Nat) (p1 : Int) (p2 : Int) (k10 : Int → Int → Hp → O Int) (x3 x4 : Int) (h : Hp) : O Int :=
  ck (x4 + 1) (
  k10 x3 (x4 + 1) h)
def la_lowestLaneFor_f10 (th : Nat) (p1 : Int) (p2 : Int) (k10 : Int → Int → Hp → O Int) (x3 x4 : Int) (h : Hp) : O Int :=
  if x4 < p2 then
    ix x4 16 (
    ix p1 16 (
    ix (h (th + 12) x4) 16 (
    if h (th + 9) (h (th + 12) x4) < h (th + 9) p1 then
      la_lowestLaneFor_b71 th p1 p2 k10 x3 x4 h
    else
      ix (h (th + 12) x4) 16 (
      ix p1 16 (
      if h (th + 10) p1 < h (th + 10) (h (th + 12) x4) then
        la_lowestLaneFor_b71 th p1 p2 k10 x3 x4 h
      else
        ix (h (th + 12) x4) 16 (
        ck ((h (th + 4) (h (th + 12) x4)) + 1) (
        la_lowestLaneFor_b71 th p1 p2 k10 (max x3 ((h (th + 4) (h (th + 12) x4)) + 1)) x4 h)))))))
  else
    iter2 (la_lowestLaneFor_f80 th p1 p2) fuel x3 0 h
def la_lowestLaneFor (th : Nat) (p1 : Int) (p2 : Int) (h : Hp) : O Int :=
  ix p1 16 (
  iter2 (la_lowestLaneFor_f10 th p1 p2) fuel (h (th + 11) p1) 0 h)
def la_place_b108 (th : Nat) (p1 : Int) (k80 : Int → Int → Int → Hp → O Unit) (x2 x3 x4 : Int) (h : Hp) : O Unit :=
  ck (x4 + 1) (
  k80 x2 x3 (x4 + 1) h)
def la_place_f80 (th : Nat) (p1 : Int) (k80 : Int → Int → Int → Hp → O Unit) (x2 x3 x4 : Int) (h : Hp) : O Unit :=
  if x4 < h th 15 then
    ix x4 16 (
    if h (th + 8) x4 = x2 then
      ix x4 16 (lt (hu h (th + 4) x4 x3) fun h1 =>
      la_place_b108 th p1 k80 x2 x3 x4 h1)
    else
      la_place_b108 th p1 k80 x2 x3 x4 h)
  else
    ck (x3 + 1) (
    lt (hu h th 7 (max (h th 7) (x3 + 1))) fun h2 =>
    some ((), h2))
def la_place_b57 (th : Nat) (p1 : Int) (k4 : Int → Hp → O Unit) (x2 : Int) (h : Hp) : O Unit :=
  ck (x2 + 1) (
  k4 (x2 + 1) h)
def la_place_f4 (th : Nat) (p1 : Int) (k4 : Int → Hp → O Unit) (x2 : Int) (h : Hp) : O Unit :=
  if x2 < h th 6 then
    ix x2 16 (
    ix p1 16 (
    bd (la_comesBefore th (h (th + 12) x2) (h (th + 12) p1) h) fun r1 h1 =>
    if r1 = 0 then
      la_place_b57 th p1 k4 x2 h1
    else
      ix p1 16 (
      ix x2 16 (
      ix p1 16 (lt (hu h1 (th + 12) p1 (h1 (th + 12) x2)) fun h2 =>
      ix x2 16 (lt (hu h2 (th + 12) x2 (h1 (th + 12) p1)) fun h3 =>
      la_place_b57 th p1 k4 x2 h3))))))
  else
    ix p1 16 (
    bd (la_lowestLaneFor th (h (th + 12) p1) p1 h) fun r4 h4 =>
    iter3 (la_place_f80 th p1) fuel (h (th + 12) p1) r4 0 h4)
def la_place (th : Nat) (p1 : Int) (h : Hp) : O Unit :=
  ck (p1 + 1) (
  iter1 (la_place_f4 th p1) fuel (p1 + 1) h)
def la_countCrossings_b82 (th : Nat) (q1 : Nat) (p2 : Int) (k9 : Int → Hp → O Unit) (x3 : Int) (h : Hp) : O Unit :=
  ck (x3 + 1) (
  k9 (x3 + 1) h)
def la_countCrossings_f9 (th : Nat) (q1 : Nat) (p2 : Int) (k9 : Int → Hp → O Unit) (x3 : Int) (h : Hp) : O Unit :=
  if x3 < h th 15 then
    ix x3 16 (
    ix p2 12 (
    if h (th + 4) x3 < h (th + 7) p2 then
      ix x3 16 (
      if h (q1 + 2) x3 < p2 then
        ix x3 16 (
        if p2 < h (q1 + 3) x3 then
          ix p2 12 (
          ck ((h (th + 6) p2) + 1) (
          ix p2 12 (lt (hu h (th + 6) p2 ((h (th + 6) p2) + 1)) fun h1 =>
          ix x3 16 (
          ck ((h1 (th + 5) x3) + 1) (
          ix x3 16 (lt (hu h1 (th + 5) x3 ((h1 (th + 5) x3) + 1)) fun h2 =>
          ck ((h2 th 8) + 1) (
          lt (hu h2 th 8 ((h2 th 8) + 1)) fun h3 =>
          la_countCrossings_b82 th q1 p2 k9 x3 h3)))))))
        else
          la_countCrossings_b82 th q1 p2 k9 x3 h)
      else
        la_countCrossings_b82 th q1 p2 k9 x3 h)
    else
      la_countCrossings_b82 th q1 p2 k9 x3 h))
  else
    some ((), h)
def la_countCrossings (th : Nat) (q1 : Nat) (p2 : Int) (h : Hp) : O Unit :=
  ix p2 12 (lt (hu h (th + 6) p2 0) fun h1 =>
  iter1 (la_countCrossings_f9 th q1 p2) fuel 0 h1)
def la_drawWitnessLines_b70 (th : Nat) (q1 : Nat) (k32 : Int → Int → Hp → O Unit) (x2 x3 : Int) (h : Hp) : O Unit :=
  ck (x3 + 1) (
  k32 x2 (x3 + 1) h)
def la_drawWitnessLines_f32 (th : Nat) (q1 : Nat) (k15 : Int → Hp → O Unit) (k32 : Int → Int → Hp → O Unit) (x2 x3 : Int) (h : Hp) : O Unit :=
  if x3 < h th 15 then
    bd (dr_isEnd q1 x3 x2 h) fun r1 h1 =>
    if r1 = 0 then
      la_drawWitnessLines_b70 th q1 k32 x2 x3 h1
    else
      ix x2 12 (
      ix x3 16 (
      ix x2 12 (lt (hu h1 (th + 7) x2 (max (h1 (th + 7) x2) (h1 (th + 4) x3))) fun h2 =>
      la_drawWitnessLines_b70 th q1 k32 x2 x3 h2)))
  else
    bd (la_countCrossings th q1 x2 h) fun _ h3 =>
    ck (x2 + 1) (
    k15 (x2 + 1) h3)
def la_drawWitnessLines_f15 (th : Nat) (q1 : Nat) (k15 : Int → Hp → O Unit) (x2 : Int) (h : Hp) : O Unit :=
  if x2 < h q1 7 then
    ix x2 12 (lt (hu h (th + 7) x2 (-1)) fun h1 =>
    iter2 (la_drawWitnessLines_f32 th q1 k15) fuel x2 0 h1)
  else
    some ((), h)
def la_drawWitnessLines (th : Nat) (q1 : Nat) (h : Hp) : O Unit :=
  lt (hu h th 8 0) fun h1 =>
  bd (ja_fill (th + 5) 16 0 h1) fun _ h2 =>
  iter1 (la_drawWitnessLines_f15 th q1) fuel 0 h2
def la_layOut_f56 (th : Nat) (q1 : Nat) (p2 : Int) (k56 : Int → Hp → O Unit) (x3 : Int) (h : Hp) : O Unit :=
  if x3 < h th 6 then
    bd (la_place th x3 h) fun _ h1 =>
    ck (x3 + 1) (
    k56 (x3 + 1) h1)
  else
    bd (la_drawWitnessLines th q1 h) fun _ h2 =>
    some ((), h2)
def la_layOut_f20 (th : Nat) (q1 : Nat) (p2 : Int) (k20 : Int → Hp → O Unit) (x3 : Int) (h : Hp) : O Unit :=
  if x3 < h th 15 then
    bd (la_measure th q1 x3 p2 h) fun _ h1 =>
    ix x3 16 (lt (hu h1 (th + 4) x3 (-1)) fun h2 =>
    bd (la_joinUnit th q1 x3 h2) fun _ h3 =>
    ck (x3 + 1) (
    k20 (x3 + 1) h3))
  else
    iter1 (la_layOut_f56 th q1 p2) fuel 0 h
def la_layOut (th : Nat) (q1 : Nat) (p2 : Int) (h : Hp) : O Unit :=
  lt (hu h th 15 (h q1 8)) fun h1 =>
  lt (hu h1 th 6 0) fun h2 =>
  lt (hu h2 th 7 0) fun h3 =>
  iter1 (la_layOut_f20 th q1 p2) fuel 0 h3
def la_topOf_b22 (th : Nat) (p1 : Int) (s0 : Int) (h : Hp) : O Int :=
  some (s0, h)
def la_topOf (th : Nat) (p1 : Int) (h : Hp) : O Int :=
  ix p1 12 (
  if h (th + 7) p1 = (-1) then
    la_topOf_b22 th p1 (-999) h
  else
    ix p1 12 (
    la_topOf_b22 th p1 (h (th + 7) p1) h))
def la_laneOfChain_f2 (th : Nat) (q1 : Nat) (p2 : Int) (k2 : Int → Hp → O Int) (x3 : Int) (h : Hp) : O Int :=
  if x3 < h th 15 then
    ix x3 16 (
    if h (q1 + 6) x3 = p2 then
      ix x3 16 (
      some (h (th + 4) x3, h))
    else
      ck (x3 + 1) (
      k2 (x3 + 1) h))
  else
    some ((-999), h)
def la_laneOfChain (th : Nat) (q1 : Nat) (p2 : Int) (h : Hp) : O Int :=
  iter1 (la_laneOfChain_f2 th q1 p2) fuel 0 h
def tr_append (th : Nat) (p1 : Int) (h : Hp) : O Int :=
  ix (h th 2) 80 (lt (hu h (th + 1) (h th 2) p1) fun h1 =>
  ck ((h1 th 2) + 1) (
  lt (hu h1 th 2 ((h1 th 2) + 1)) fun h2 =>
  some (h2 th 2, h2)))
def tr_empty (th : Nat) (h : Hp) : O Int :=
  lt (hu h th 2 0) fun h1 =>
  some (h th 2, h1)
def tr_next_b24 (th : Nat) (s0 : Int) (h : Hp) : O Int :=
  some (s0, h)
def tr_next (th : Nat) (h : Hp) : O Int :=
  if h th 5 < h th 2 then
    ix (h th 5) 80 (
    tr_next_b24 th (h (th + 1) (h th 5)) h)
  else
    tr_next_b24 th (-1) h
def tr_accept_b15 (th : Nat) (p1 : Int) (h : Hp) : O Int :=
  some (0, h)
def tr_accept (th : Nat) (p1 : Int) (h : Hp) : O Int :=
  if h th 3 = 0 then
    bd (tr_next th h) fun r1 h1 =>
    if r1 = p1 then
      ck ((h1 th 5) + 1) (
      lt (hu h1 th 5 ((h1 th 5) + 1)) fun h2 =>
      some (1, h2))
    else
      tr_accept_b15 th p1 h1
  else
    tr_accept_b15 th p1 h
def tr_fail_b17 (th : Nat) (p1 : Int) (p2 : Int) (h : Hp) : O Unit :=
  some ((), h)
def tr_fail (th : Nat) (p1 : Int) (p2 : Int) (h : Hp) : O Unit :=
  if h th 3 = 0 then
    lt (hu h th 3 p1) fun h1 =>
    lt (hu h1 th 4 p2) fun h2 =>
    tr_fail_b17 th p1 p2 h2
  else
    tr_fail_b17 th p1 p2 h
def tr_expect_b17 (th : Nat) (p1 : Int) (h : Hp) : O Unit :=
  some ((), h)
def tr_expect (th : Nat) (p1 : Int) (h : Hp) : O Unit :=
  bd (tr_accept th p1 h) fun r1 h1 =>
  if r1 = 0 then
    bd (tr_fail th 1 (h1 th 5) h1) fun _ h2 =>
    tr_expect_b17 th p1 h2
  else
    tr_expect_b17 th p1 h1
def dl_isWithin_b15 (p0 : Int) (p1 : Int) (p2 : Int) (s0 : Int) (h : Hp) : O Int :=
  bz s0 (some (s0, h))
def dl_isWithin_b14 (p0 : Int) (p1 : Int) (p2 : Int) (h : Hp) : O Int :=
  dl_isWithin_b15 p0 p1 p2 0 h
def dl_isWithin (p0 : Int) (p1 : Int) (p2 : Int) (h : Hp) : O Int :=
  if p0 < p1 then
    dl_isWithin_b14 p0 p1 p2 h
  else
    if p2 < p0 then
      dl_isWithin_b14 p0 p1 p2 h
    else
      dl_isWithin_b15 p0 p1 p2 1 h
def tr_isDigitNext (th : Nat) (h : Hp) : O Int :=
  bd (tr_next th h) fun r1 h1 =>
  bd (dl_isWithin r1 48 57 h1) fun r2 h2 =>
  bz r2 (some (r2, h2))
def tr_readNumber_b80 (th : Nat) (p1 : Int) (x2 : Int) (h : Hp) : O Int :=
  some (x2, h)
def tr_readNumber_b71 (th : Nat) (p1 : Int) (x2 : Int) (h : Hp) : O Int :=
  bd (tr_fail th 1 (h th 5) h) fun _ h1 =>
  tr_readNumber_b80 th p1 x2 h1
def tr_readNumber_b53 (th : Nat) (p1 : Int) (x2 : Int) (h : Hp) : O Int :=
  if h th 5 = h th 6 then
    tr_readNumber_b71 th p1 x2 h
  else
    bd (tr_isDigitNext th h) fun r1 h1 =>
    if r1 = 0 then
      tr_readNumber_b80 th p1 x2 h1
    else
      tr_readNumber_b71 th p1 x2 h1
def tr_readNumber_f12 (th : Nat) (p1 : Int) (k12 : Int → Int → Hp → O Int) (x2 x3 : Int) (h : Hp) : O Int :=
  if x3 < p1 then
    bd (tr_isDigitNext th h) fun r1 h1 =>
    if r1 = 0 then
      tr_readNumber_b53 th p1 x2 h1
    else
      ck (10 * x2) (
      bd (tr_next th h1) fun r2 h2 =>
      ck ((10 * x2) + r2) (
      ck (((10 * x2) + r2) - 48) (
      ck ((h2 th 5) + 1) (
      lt (hu h2 th 5 ((h2 th 5) + 1)) fun h3 =>
      ck (x3 + 1) (
      k12 (((10 * x2) + r2) - 48) (x3 + 1) h3)))))
  else
    tr_readNumber_b53 th p1 x2 h
def tr_readNumber (th : Nat) (p1 : Int) (h : Hp) : O Int :=
  lt (hu h th 6 (h th 5)) fun h1 =>
  iter2 (tr_readNumber_f12 th p1) fuel 0 0 h1
def tr_demand_b13 (th : Nat) (p1 : Int) (h : Hp) : O Unit :=
  some ((), h)
def tr_demand (th : Nat) (p1 : Int) (h : Hp) : O Unit :=
  if p1 = 0 then
    bd (tr_fail th 2 (h th 6) h) fun _ h1 =>
    tr_demand_b13 th p1 h1
  else
    tr_demand_b13 th p1 h
def tr_readPosition_b56 (th : Nat) (x1 x2 s0 : Int) (h : Hp) : O Unit :=
  bd (tr_demand th s0 h) fun _ h1 =>
  ix x2 12 (lt (hu h1 (th + 3) x2 x1) fun h2 =>
  ck ((h2 (th + 2) 7) + 1) (
  lt (hu h2 (th + 2) 7 ((h2 (th + 2) 7) + 1)) fun h3 =>
  some ((), h3)))
def tr_readPosition_b55 (th : Nat) (x1 x2 : Int) (h : Hp) : O Unit :=
  tr_readPosition_b56 th x1 x2 0 h
def tr_readPosition_b38 (th : Nat) (x1 x2 s0 : Int) (h : Hp) : O Unit :=
  if 300 < x1 then
    tr_readPosition_b55 th x1 x2 h
  else
    if s0 = 0 then
      tr_readPosition_b55 th x1 x2 h
    else
      tr_readPosition_b56 th x1 x2 1 h
def tr_readPosition_b33 (th : Nat) (x1 x2 : Int) (h : Hp) : O Unit :=
  tr_readPosition_b38 th x1 x2 1 h
def tr_readPosition (th : Nat) (h : Hp) : O Unit :=
  bd (tr_readNumber th 3 h) fun r1 h1 =>
  if h1 (th + 2) 7 = 0 then
    tr_readPosition_b33 th r1 (h1 (th + 2) 7) h1
  else
    ck ((h1 (th + 2) 7) - 1) (
    ix ((h1 (th + 2) 7) - 1) 12 (
    if h1 (th + 3) ((h1 (th + 2) 7) - 1) < r1 then
      tr_readPosition_b33 th r1 (h1 (th + 2) 7) h1
    else
      tr_readPosition_b38 th r1 (h1 (th + 2) 7) 0 h1))
def tr_readUpTo_b17 (th : Nat) (p1 : Int) (p2 : Int) (x3 s0 : Int) (h : Hp) : O Int :=
  bd (tr_demand th s0 h) fun _ h1 =>
  some (x3, h1)
def tr_readUpTo (th : Nat) (p1 : Int) (p2 : Int) (h : Hp) : O Int :=
  bd (tr_readNumber th p2 h) fun r1 h1 =>
  if p1 < r1 then
    tr_readUpTo_b17 th p1 p2 r1 0 h1
  else
    tr_readUpTo_b17 th p1 p2 r1 1 h1
def tr_readDimension_b139 (th : Nat) (h : Hp) : O Unit :=
  some ((), h)
def tr_readDimension_b115 (th : Nat) (x3 : Int) (h : Hp) : O Unit :=
  bd (tr_accept th 99 h) fun r1 h1 =>
  if r1 = 0 then
    tr_readDimension_b139 th h1
  else
    bd (tr_readUpTo th 5 1 h1) fun r2 h2 =>
    ix x3 16 (lt (hu h2 (th + 8) x3 r2) fun h3 =>
    tr_readDimension_b139 th h3)
def tr_readDimension_b90 (th : Nat) (x3 : Int) (h : Hp) : O Unit :=
  bd (tr_accept th 45 h) fun r1 h1 =>
  if r1 = 0 then
    tr_readDimension_b115 th x3 h1
  else
    bd (tr_readUpTo th 20 2 h1) fun r2 h2 =>
    ix x3 16 (lt (hu h2 (th + 6) x3 r2) fun h3 =>
    tr_readDimension_b115 th x3 h3)
def tr_readDimension_b52 (th : Nat) (x1 x2 s0 : Int) (h : Hp) : O Unit :=
  bd (tr_demand th s0 h) fun _ h1 =>
  bd (dr_append (th + 2) x1 x2 h1) fun r2 h2 =>
  bd (tr_accept th 43 h2) fun r3 h3 =>
  if r3 = 0 then
    tr_readDimension_b90 th r2 h3
  else
    bd (tr_readUpTo th 20 2 h3) fun r4 h4 =>
    ix r2 16 (lt (hu h4 (th + 7) r2 r4) fun h5 =>
    tr_readDimension_b90 th r2 h5)
def tr_readDimension_b51 (th : Nat) (x1 x2 : Int) (h : Hp) : O Unit :=
  tr_readDimension_b52 th x1 x2 0 h
def tr_readDimension (th : Nat) (h : Hp) : O Unit :=
  bd (tr_readNumber th 1 h) fun r1 h1 =>
  bd (dr_hasPoint (th + 2) r1 h1) fun r2 h2 =>
  bd (tr_demand th r2 h2) fun _ h3 =>
  bd (tr_expect th 45 h3) fun _ h4 =>
  bd (tr_readNumber th 1 h4) fun r5 h5 =>
  bd (dr_hasPoint (th + 2) r5 h5) fun r6 h6 =>
  if r6 = 0 then
    tr_readDimension_b51 th r1 r5 h6
  else
    if r1 < r5 then
      tr_readDimension_b52 th r1 r5 1 h6
    else
      tr_readDimension_b51 th r1 r5 h6
def tr_read_b110 (th : Nat) (h : Hp) : O Unit :=
  some ((), h)
def tr_read_b90 (th : Nat) (h : Hp) : O Unit :=
  if h th 5 < h th 2 then
    bd (tr_fail th 1 (h th 5) h) fun _ h1 =>
    tr_read_b110 th h1
  else
    tr_read_b110 th h
def tr_read_f65 (th : Nat) (k65 : Int → Hp → O Unit) (x1 : Int) (h : Hp) : O Unit :=
  if x1 < 16 then
    bd (tr_accept th 59 h) fun r1 h1 =>
    if r1 = 0 then
      tr_read_b90 th h1
    else
      bd (tr_readDimension th h1) fun _ h2 =>
      ck (x1 + 1) (
      k65 (x1 + 1) h2)
  else
    tr_read_b90 th h
def tr_read_b63 (th : Nat) (h : Hp) : O Unit :=
  iter1 (tr_read_f65 th) fuel 0 h
def tr_read_f38 (th : Nat) (k38 : Int → Hp → O Unit) (x1 : Int) (h : Hp) : O Unit :=
  if x1 < 12 then
    bd (tr_accept th 44 h) fun r1 h1 =>
    if r1 = 0 then
      tr_read_b63 th h1
    else
      bd (tr_readPosition th h1) fun _ h2 =>
      ck (x1 + 1) (
      k38 (x1 + 1) h2)
  else
    tr_read_b63 th h
def tr_read (th : Nat) (h : Hp) : O Unit :=
  lt (hu h th 3 0) fun h1 =>
  lt (hu h1 th 5 0) fun h2 =>
  lt (hu h2 (th + 2) 7 0) fun h3 =>
  lt (hu h3 (th + 2) 8 0) fun h4 =>
  bd (tr_expect th 112 h4) fun _ h5 =>
  bd (tr_readPosition th h5) fun _ h6 =>
  iter1 (tr_read_f38 th) fuel 1 h6
def dl_type (th : Nat) (p1 : Int) (h : Hp) : O Int :=
  bd (dl_isWithin p1 32 126 h) fun r1 h1 =>
  if r1 = 0 then
    some ((-1), h1)
  else
    if h1 (th + 75) 2 = 80 then
      some ((-3), h1)
    else
      bd (tr_append (th + 75) p1 h1) fun r2 h2 =>
      some (r2, h2)
def dl_clearText (th : Nat) (h : Hp) : O Int :=
  bd (tr_empty (th + 75) h) fun r1 h1 =>
  some (r1, h1)
def dl_forgetWhatWasWorkedOut (th : Nat) (h : Hp) : O Unit :=
  bz 0 (lt (hu h th 6 0) fun h1 =>
  bz 0 (lt (hu h1 th 7 0) fun h2 =>
  some ((), h2)))
def dl_beginChange (th : Nat) (h : Hp) : O Unit :=
  bd (hi_record (th + 9) (th + 1) h) fun _ h1 =>
  bd (dl_forgetWhatWasWorkedOut th h1) fun _ h2 =>
  some ((), h2)
def dl_load (th : Nat) (h : Hp) : O Int :=
  bd (tr_read (th + 75) h) fun _ h1 =>
  if h1 (th + 75) 3 = 0 then
    bd (dl_beginChange th h1) fun _ h2 =>
    bd (dr_copyContentFrom (th + 1) (th + 77) h2) fun _ h3 =>
    some (h3 (th + 1) 8, h3)
  else
    ck ((-10) - (h1 (th + 75) 4)) (
    some ((-10) - (h1 (th + 75) 4), h1))
def dl_faultKind (th : Nat) (h : Hp) : O Int :=
  some (h (th + 75) 3, h)
def dl_addPoint (th : Nat) (p1 : Int) (h : Hp) : O Int :=
  bd (dl_isWithin p1 0 300 h) fun r1 h1 =>
  if r1 = 0 then
    some ((-1), h1)
  else
    bd (dr_hasPointAt (th + 1) p1 h1) fun r2 h2 =>
    if r2 = 0 then
      if h2 (th + 1) 7 = 12 then
        some ((-3), h2)
      else
        bd (dl_beginChange th h2) fun _ h3 =>
        bd (dr_insertPoint (th + 1) p1 h3) fun r4 h4 =>
        some (r4, h4)
    else
      some ((-2), h2)
def dl_movePoint_b51 (th : Nat) (p1 : Int) (p2 : Int) (h : Hp) : O Int :=
  bd (dl_beginChange th h) fun _ h1 =>
  bd (dr_shiftPoint (th + 1) p1 p2 h1) fun r2 h2 =>
  some (r2, h2)
def dl_movePoint_b22 (th : Nat) (p1 : Int) (p2 : Int) (h : Hp) : O Int :=
  some ((-1), h)
def dl_movePoint (th : Nat) (p1 : Int) (p2 : Int) (h : Hp) : O Int :=
  bd (dr_hasPoint (th + 1) p1 h) fun r1 h1 =>
  if r1 = 0 then
    dl_movePoint_b22 th p1 p2 h1
  else
    bd (dl_isWithin p2 0 300 h1) fun r2 h2 =>
    if r2 = 0 then
      dl_movePoint_b22 th p1 p2 h2
    else
      bd (dr_hasPointAt (th + 1) p2 h2) fun r3 h3 =>
      if r3 = 0 then
        dl_movePoint_b51 th p1 p2 h3
      else
        ix p1 12 (
        if h3 (th + 2) p1 = p2 then
          dl_movePoint_b51 th p1 p2 h3
        else
          some ((-2), h3))
def dl_dropPoint (th : Nat) (p1 : Int) (h : Hp) : O Int :=
  bd (dr_hasPoint (th + 1) p1 h) fun r1 h1 =>
  if r1 = 0 then
    some ((-1), h1)
  else
    bd (dr_countDimensionsAt (th + 1) p1 h1) fun r2 h2 =>
    if 0 < r2 then
      some ((-2), h2)
    else
      bd (dl_beginChange th h2) fun _ h3 =>
      bd (dr_removePoint (th + 1) p1 h3) fun _ h4 =>
      some (h4 (th + 1) 7, h4)
def dl_areTwoPoints_b32 (th : Nat) (p1 : Int) (p2 : Int) (s0 : Int) (h : Hp) : O Int :=
  bz s0 (some (s0, h))
def dl_areTwoPoints_b31 (th : Nat) (p1 : Int) (p2 : Int) (h : Hp) : O Int :=
  dl_areTwoPoints_b32 th p1 p2 0 h
def dl_areTwoPoints (th : Nat) (p1 : Int) (p2 : Int) (h : Hp) : O Int :=
  bd (dr_hasPoint (th + 1) p1 h) fun r1 h1 =>
  if r1 = 0 then
    dl_areTwoPoints_b31 th p1 p2 h1
  else
    bd (dr_hasPoint (th + 1) p2 h1) fun r2 h2 =>
    if r2 = 0 then
      dl_areTwoPoints_b31 th p1 p2 h2
    else
      if p1 = p2 then
        dl_areTwoPoints_b31 th p1 p2 h2
      else
        dl_areTwoPoints_b32 th p1 p2 1 h2
def dl_add (th : Nat) (p1 : Int) (p2 : Int) (h : Hp) : O Int :=
  bd (dl_areTwoPoints th p1 p2 h) fun r1 h1 =>
  if r1 = 0 then
    some ((-1), h1)
  else
    if h1 (th + 1) 8 = 16 then
      some ((-3), h1)
    else
      bd (dl_beginChange th h1) fun _ h2 =>
      bd (dr_append (th + 1) (min p1 p2) (max p1 p2) h2) fun r3 h3 =>
      some (r3, h3)
def dl_drop (th : Nat) (p1 : Int) (h : Hp) : O Int :=
  bd (dr_hasDimension (th + 1) p1 h) fun r1 h1 =>
  if r1 = 0 then
    some ((-1), h1)
  else
    bd (dl_beginChange th h1) fun _ h2 =>
    bd (dr_removeDimension (th + 1) p1 h2) fun _ h3 =>
    some (h3 (th + 1) 8, h3)
def dl_setTolerance_b31 (th : Nat) (p1 : Int) (p2 : Int) (p3 : Int) (h : Hp) : O Int :=
  some ((-1), h)
def dl_setTolerance (th : Nat) (p1 : Int) (p2 : Int) (p3 : Int) (h : Hp) : O Int :=
  bd (dr_hasDimension (th + 1) p1 h) fun r1 h1 =>
  if r1 = 0 then
    dl_setTolerance_b31 th p1 p2 p3 h1
  else
    bd (dl_isWithin p2 0 20 h1) fun r2 h2 =>
    if r2 = 0 then
      dl_setTolerance_b31 th p1 p2 p3 h2
    else
      bd (dl_isWithin p3 0 20 h2) fun r3 h3 =>
      if r3 = 0 then
        dl_setTolerance_b31 th p1 p2 p3 h3
      else
        ix p1 16 (
        ck (100 * (h3 (th + 5) p1)) (
        ix p1 16 (
        ck ((100 * (h3 (th + 5) p1)) + (h3 (th + 6) p1)) (
        bd (dl_beginChange th h3) fun _ h4 =>
        ix p1 16 (lt (hu h4 (th + 5) p1 p2) fun h5 =>
        ix p1 16 (lt (hu h5 (th + 6) p1 p3) fun h6 =>
        some ((100 * (h3 (th + 5) p1)) + (h3 (th + 6) p1), h6)))))))
def dl_setChain_b20 (th : Nat) (p1 : Int) (p2 : Int) (h : Hp) : O Int :=
  some ((-1), h)
def dl_setChain (th : Nat) (p1 : Int) (p2 : Int) (h : Hp) : O Int :=
  bd (dr_hasDimension (th + 1) p1 h) fun r1 h1 =>
  if r1 = 0 then
    dl_setChain_b20 th p1 p2 h1
  else
    bd (dl_isWithin p2 0 5 h1) fun r2 h2 =>
    if r2 = 0 then
      dl_setChain_b20 th p1 p2 h2
    else
      ix p1 16 (
      bd (dl_beginChange th h2) fun _ h3 =>
      ix p1 16 (lt (hu h3 (th + 7) p1 p2) fun h4 =>
      some (h2 (th + 7) p1, h4)))
def dl_setLeast_b21 (th : Nat) (p1 : Int) (p2 : Int) (h : Hp) : O Int :=
  some ((-1), h)
def dl_setLeast (th : Nat) (p1 : Int) (p2 : Int) (h : Hp) : O Int :=
  bd (dr_hasDimension (th + 1) p1 h) fun r1 h1 =>
  if r1 = 0 then
    dl_setLeast_b21 th p1 p2 h1
  else
    bd (dl_isWithin p2 0 9 h1) fun r2 h2 =>
    if r2 = 0 then
      dl_setLeast_b21 th p1 p2 h2
    else
      ix p1 16 (
      bd (dl_beginChange th h2) fun _ h3 =>
      ix p1 16 (lt (hu h3 (th + 8) p1 p2) fun h4 =>
      some (h2 (th + 8) p1, h4)))
def dl_setLetter (th : Nat) (p1 : Int) (h : Hp) : O Int :=
  bd (dl_isWithin p1 1 9 h) fun r1 h1 =>
  if r1 = 0 then
    some ((-1), h1)
  else
    bd (dl_beginChange th h1) fun _ h2 =>
    lt (hu h2 (th + 1) 9 p1) fun h3 =>
    some (h1 (th + 1) 9, h3)
def dl_setArrow (th : Nat) (p1 : Int) (h : Hp) : O Int :=
  bd (dl_isWithin p1 1 9 h) fun r1 h1 =>
  if r1 = 0 then
    some ((-1), h1)
  else
    bd (dl_beginChange th h1) fun _ h2 =>
    lt (hu h2 (th + 1) 10 p1) fun h3 =>
    some (h1 (th + 1) 10, h3)
def dl_laidLanes_b30 (th : Nat) (h : Hp) : O Nat :=
  some ((th + 85), h)
def dl_laidLanes (th : Nat) (h : Hp) : O Nat :=
  if h th 6 = 0 then
    bd (la_layOut (th + 85) (th + 1) (h (th + 1) 10) h) fun _ h1 =>
    bz 1 (lt (hu h1 th 6 1) fun h2 =>
    dl_laidLanes_b30 th h2)
  else
    dl_laidLanes_b30 th h
def dl_knownBounds_b23 (th : Nat) (h : Hp) : O Nat :=
  some ((th + 111), h)
def dl_knownBounds (th : Nat) (h : Hp) : O Nat :=
  if h th 7 = 0 then
    bd (bo_workOut (th + 111) (th + 1) h) fun _ h1 =>
    bz 1 (lt (hu h1 th 7 1) fun h2 =>
    dl_knownBounds_b23 th h2)
  else
    dl_knownBounds_b23 th h
def dl_point (th : Nat) (p1 : Int) (p2 : Int) (h : Hp) : O Int :=
  bd (dr_hasPoint (th + 1) p1 h) fun r1 h1 =>
  if r1 = 0 then
    some ((-1), h1)
  else
    swt p2 0 [
      ix p1 12 (
      some (h1 (th + 2) p1, h1)),
      bd (dr_countDimensionsAt (th + 1) p1 h1) fun r2 h2 =>
      some (r2, h2),
      bd (dl_laidLanes th h1) fun _ h3 =>
      bd (la_topOf (th + 85) p1 h3) fun r4 h4 =>
      some (r4, h4),
      bd (dl_laidLanes th h1) fun _ h5 =>
      ix p1 12 (
      some (h5 (th + 91) p1, h5)),
      bd (dl_knownBounds th h1) fun _ h6 =>
      ix p1 12 (
      some (h6 (th + 125) p1, h6))] (
      some ((-1), h1))
def dl_dimension_b206 (th : Nat) (p1 : Int) (p2 : Int) (s0 : Int) (h : Hp) : O Int :=
  some (s0, h)
def dl_dimension (th : Nat) (p1 : Int) (p2 : Int) (h : Hp) : O Int :=
  bd (dr_hasDimension (th + 1) p1 h) fun r1 h1 =>
  if r1 = 0 then
    some ((-1), h1)
  else
    swt p2 0 [
      ix p1 16 (
      some (h1 (th + 3) p1, h1)),
      ix p1 16 (
      some (h1 (th + 4) p1, h1)),
      bd (dr_valueOf (th + 1) p1 h1) fun r2 h2 =>
      some (r2, h2),
      ix p1 16 (
      some (h1 (th + 5) p1, h1)),
      ix p1 16 (
      some (h1 (th + 6) p1, h1)),
      ix p1 16 (
      some (h1 (th + 7) p1, h1)),
      ix p1 16 (
      some (h1 (th + 8) p1, h1)),
      bd (dl_laidLanes th h1) fun _ h3 =>
      ix p1 16 (
      some (h3 (th + 86) p1, h3)),
      bd (dl_laidLanes th h1) fun _ h4 =>
      ix p1 16 (
      some (h4 (th + 87) p1, h4)),
      bd (dl_laidLanes th h1) fun _ h5 =>
      ix p1 16 (
      some (h5 (th + 88) p1, h5)),
      bd (dl_laidLanes th h1) fun _ h6 =>
      ix p1 16 (
      some (h6 (th + 89) p1, h6)),
      bd (dl_knownBounds th h1) fun _ h7 =>
      ix p1 16 (
      if h7 (th + 126) p1 = 0 then
        dl_dimension_b206 th p1 p2 0 h7
      else
        dl_dimension_b206 th p1 p2 1 h7),
      bd (dl_laidLanes th h1) fun _ h8 =>
      ix p1 16 (
      some (h8 (th + 90) p1, h8))] (
      some ((-1), h1))
def dl_at_b74 (th : Nat) (p1 : Int) (p2 : Int) (k26 : Int → Hp → O Int) (x4 : Int) (h : Hp) : O Int :=
  ck (x4 + 1) (
  k26 (x4 + 1) h)
def dl_at_f26 (th : Nat) (p1 : Int) (p2 : Int) (k26 : Int → Hp → O Int) (x4 : Int) (h : Hp) : O Int :=
  if x4 < h (th + 1) 8 then
    ix x4 16 (
    if h (th + 89) x4 = p1 then
      ix x4 16 (
      if p2 < h (th + 87) x4 then
        dl_at_b74 th p1 p2 k26 x4 h
      else
        ix x4 16 (
        if h (th + 88) x4 < p2 then
          dl_at_b74 th p1 p2 k26 x4 h
        else
          some (x4, h)))
    else
      dl_at_b74 th p1 p2 k26 x4 h)
  else
    some ((-999), h)
def dl_at_b16 (th : Nat) (p1 : Int) (p2 : Int) (h : Hp) : O Int :=
  some ((-1), h)
def dl_at (th : Nat) (p1 : Int) (p2 : Int) (h : Hp) : O Int :=
  if p1 < 0 then
    dl_at_b16 th p1 p2 h
  else
    bd (dl_isWithin p2 (-9) 400 h) fun r1 h1 =>
    if r1 = 0 then
      dl_at_b16 th p1 p2 h1
    else
      bd (dl_laidLanes th h1) fun _ h2 =>
      iter1 (dl_at_f26 th p1 p2) fuel 0 h2
def dl_distance_b57 (th : Nat) (p1 : Int) (p2 : Int) (p3 : Int) (s0 : Int) (h : Hp) : O Int :=
  some (s0, h)
def dl_distance (th : Nat) (p1 : Int) (p2 : Int) (p3 : Int) (h : Hp) : O Int :=
  bd (dl_areTwoPoints th p1 p2 h) fun r1 h1 =>
  if r1 = 0 then
    some ((-1), h1)
  else
    bd (dl_knownBounds th h1) fun _ h2 =>
    bd (bo_areBound (th + 111) p1 p2 h2) fun r3 h3 =>
    if r3 = 0 then
      some ((-999), h3)
    else
      if p3 = 0 then
        ix p2 12 (
        ix p1 12 (
        ck (-(h3 ((th + 111) + 2 + p2.toNat) p1)) (
        dl_distance_b57 th p1 p2 p3 (-(h3 ((th + 111) + 2 + p2.toNat) p1)) h3)))
      else
        ix p1 12 (
        ix p2 12 (
        dl_distance_b57 th p1 p2 p3 (h3 ((th + 111) + 2 + p1.toNat) p2) h3))
def dl_ifExact_b56 (th : Nat) (p1 : Int) (p2 : Int) (p3 : Int) (s0 : Int) (h : Hp) : O Int :=
  some (s0, h)
def dl_ifExact_b20 (th : Nat) (p1 : Int) (p2 : Int) (p3 : Int) (h : Hp) : O Int :=
  some ((-1), h)
def dl_ifExact (th : Nat) (p1 : Int) (p2 : Int) (p3 : Int) (h : Hp) : O Int :=
  bd (dr_hasDimension (th + 1) p1 h) fun r1 h1 =>
  if r1 = 0 then
    dl_ifExact_b20 th p1 p2 p3 h1
  else
    bd (dl_areTwoPoints th p2 p3 h1) fun r2 h2 =>
    if r2 = 0 then
      dl_ifExact_b20 th p1 p2 p3 h2
    else
      bd (dl_knownBounds th h2) fun _ h3 =>
      bd (bo_areBound (th + 111) p2 p3 h3) fun r4 h4 =>
      if r4 = 0 then
        dl_ifExact_b56 th p1 p2 p3 (-999) h4
      else
        bd (bo_gain (th + 111) (th + 1) p1 p2 p3 h4) fun r5 h5 =>
        dl_ifExact_b56 th p1 p2 p3 r5 h5
def dl_critical_b41 (th : Nat) (p1 : Int) (p2 : Int) (s0 : Int) (h : Hp) : O Int :=
  some (s0, h)
def dl_critical (th : Nat) (p1 : Int) (p2 : Int) (h : Hp) : O Int :=
  bd (dl_areTwoPoints th p1 p2 h) fun r1 h1 =>
  if r1 = 0 then
    some ((-1), h1)
  else
    bd (dl_knownBounds th h1) fun _ h2 =>
    bd (bo_areBound (th + 111) p1 p2 h2) fun r3 h3 =>
    if r3 = 0 then
      dl_critical_b41 th p1 p2 (-999) h3
    else
      bd (bo_bestToMakeExact (th + 111) (th + 1) p1 p2 h3) fun r4 h4 =>
      dl_critical_b41 th p1 p2 r4 h4
def dl_needed (th : Nat) (h : Hp) : O Int :=
  bd (dl_knownBounds th h) fun _ h1 =>
  bd (bo_countLeft (th + 111) h1) fun r2 h2 =>
  some (r2, h2)
def dl_chain_b156 (th : Nat) (p1 : Int) (p2 : Int) (s0 : Int) (h : Hp) : O Int :=
  some (s0, h)
def dl_chain_b55 (th : Nat) (p1 : Int) (p2 : Int) (s0 : Int) (h : Hp) : O Int :=
  some (s0, h)
def dl_chain_b48 (th : Nat) (p1 : Int) (p2 : Int) (h : Hp) : O Int :=
  dl_chain_b55 th p1 p2 0 h
def dl_chain_b19 (th : Nat) (p1 : Int) (p2 : Int) (h : Hp) : O Int :=
  some ((-1), h)
def dl_chain (th : Nat) (p1 : Int) (p2 : Int) (h : Hp) : O Int :=
  bd (dl_isWithin p1 1 5 h) fun r1 h1 =>
  if r1 = 0 then
    dl_chain_b19 th p1 p2 h1
  else
    bd (dl_isWithin p2 0 8 h1) fun r2 h2 =>
    if r2 = 0 then
      dl_chain_b19 th p1 p2 h2
    else
      bd (dr_countOfChain (th + 1) p1 h2) fun r3 h3 =>
      if r3 = 0 then
        if p2 = 0 then
          dl_chain_b48 th p1 p2 h3
        else
          bd (dl_isWithin p2 4 6 h3) fun r4 h4 =>
          if r4 = 0 then
            dl_chain_b55 th p1 p2 (-999) h4
          else
            dl_chain_b48 th p1 p2 h4
      else
        swt p2 0 [
          some (r3, h3),
          bd (dr_beginOfChain (th + 1) p1 h3) fun r5 h5 =>
          ix r5 12 (
          some (h5 (th + 2) r5, h5)),
          bd (dr_endOfChain (th + 1) p1 h3) fun r6 h6 =>
          ix r6 12 (
          some (h6 (th + 2) r6, h6)),
          bd (dr_isClosed (th + 1) p1 h3) fun r7 h7 =>
          if r7 = 0 then
            dl_chain_b156 th p1 p2 0 h7
          else
            dl_chain_b156 th p1 p2 1 h7,
          bd (dr_sumOfValues (th + 1) p1 h3) fun r8 h8 =>
          some (r8, h8),
          bd (dr_sumOfChain (th + 1) p1 (th + 5) 16 h3) fun r9 h9 =>
          some (r9, h9),
          bd (dr_sumOfChain (th + 1) p1 (th + 6) 16 h3) fun r10 h10 =>
          some (r10, h10),
          bd (dr_smallestOver (th + 1) p1 h3) fun r11 h11 =>
          some (r11, h11)] (
          bd (dl_laidLanes th h3) fun _ h12 =>
          bd (la_laneOfChain (th + 85) (th + 1) p1 h12) fun r13 h13 =>
          some (r13, h13))
def dl_ifArrow (th : Nat) (p1 : Int) (h : Hp) : O Int :=
  bd (dl_isWithin p1 1 9 h) fun r1 h1 =>
  if r1 = 0 then
    some ((-1), h1)
  else
    bd (la_layOut (th + 98) (th + 1) p1 h1) fun _ h2 =>
    some (h2 (th + 98) 7, h2)
def dl_undo (th : Nat) (h : Hp) : O Int :=
  if h (th + 9) 2 = 0 then
    some ((-2), h)
  else
    bd (hi_restore (th + 9) (th + 1) h) fun _ h1 =>
    bd (dl_forgetWhatWasWorkedOut th h1) fun _ h2 =>
    some (h2 (th + 9) 2, h2)
def dl_count (th : Nat) (p1 : Int) (h : Hp) : O Int :=
  swt p1 0 [
    some (h (th + 1) 7, h),
    some (h (th + 1) 8, h),
    bd (dl_laidLanes th h) fun _ h1 =>
    some (h1 (th + 85) 6, h1),
    bd (dl_laidLanes th h) fun _ h2 =>
    some (h2 (th + 85) 7, h2),
    bd (dl_laidLanes th h) fun _ h3 =>
    some (h3 (th + 85) 8, h3),
    bd (dl_knownBounds th h) fun _ h4 =>
    some (h4 (th + 111) 3, h4),
    bd (dl_knownBounds th h) fun _ h5 =>
    some (h5 (th + 111) 4, h5),
    some (h (th + 1) 9, h),
    some (h (th + 1) 10, h),
    some (h (th + 75) 2, h),
    some (h (th + 9) 2, h)] (
    some ((-1), h))
def dl_hashOfPairs_f23 (th : Nat) (p1 : Int) (k5 : Int → Int → Hp → O Int) (k23 : Int → Int → Int → Hp → O Int) (x3 x5 x6 : Int) (h : Hp) : O Int :=
  if x6 < h (th + 1) 7 then
    bd (dl_distance th x5 x6 0 h) fun r1 h1 =>
    bd (dl_distance th x5 x6 1 h1) fun r2 h2 =>
    bd (dl_critical th x5 x6 h2) fun r3 h3 =>
    ck (x6 + 1) (
    k23 ((31 * ((31 * ((31 * x3) + r1)) + r2)) + r3) x5 (x6 + 1) h3)
  else
    ck (x5 + 1) (
    k5 x3 (x5 + 1) h)
def dl_hashOfPairs_f5 (th : Nat) (p1 : Int) (k5 : Int → Int → Hp → O Int) (x3 x5 : Int) (h : Hp) : O Int :=
  if x5 < h (th + 1) 7 then
    ck (x5 + 1) (
    iter3 (dl_hashOfPairs_f23 th p1 k5) fuel x3 x5 (x5 + 1) h)
  else
    some (x3, h)
def dl_hashOfPairs (th : Nat) (p1 : Int) (h : Hp) : O Int :=
  iter2 (dl_hashOfPairs_f5 th p1) fuel p1 0 h
def dl_digest_f146 (th : Nat) (k138 : Int → Int → Hp → O Int) (k146 : Int → Int → Int → Hp → O Int) (x1 x3 x4 : Int) (h : Hp) : O Int :=
  if 8 < x4 then
    ck (x3 + 1) (
    k138 x1 (x3 + 1) h)
  else
    bd (dl_chain th x3 x4 h) fun r1 h1 =>
    ck (x4 + 1) (
    k146 ((31 * x1) + r1) x3 (x4 + 1) h1)
def dl_digest_f138 (th : Nat) (k138 : Int → Int → Hp → O Int) (x1 x3 : Int) (h : Hp) : O Int :=
  if 5 < x3 then
    bd (dl_needed th h) fun r1 h1 =>
    some ((31 * x1) + r1, h1)
  else
    iter3 (dl_digest_f146 th k138) fuel x1 x3 0 h
def dl_digest_f96 (th : Nat) (k82 : Int → Int → Hp → O Int) (k96 : Int → Int → Int → Hp → O Int) (x1 x3 x4 : Int) (h : Hp) : O Int :=
  if 12 < x4 then
    ck (x3 + 1) (
    k82 x1 (x3 + 1) h)
  else
    bd (dl_dimension th x3 x4 h) fun r1 h1 =>
    ck (x4 + 1) (
    k96 ((31 * x1) + r1) x3 (x4 + 1) h1)
def dl_digest_f82 (th : Nat) (k82 : Int → Int → Hp → O Int) (x1 x3 : Int) (h : Hp) : O Int :=
  if x3 < h (th + 1) 8 then
    iter3 (dl_digest_f96 th k82) fuel x1 x3 0 h
  else
    bd (dl_hashOfPairs th x1 h) fun r1 h1 =>
    iter2 (dl_digest_f138 th) fuel r1 1 h1
def dl_digest_f47 (th : Nat) (k33 : Int → Int → Hp → O Int) (k47 : Int → Int → Int → Hp → O Int) (x1 x3 x4 : Int) (h : Hp) : O Int :=
  if 4 < x4 then
    ck (x3 + 1) (
    k33 x1 (x3 + 1) h)
  else
    bd (dl_point th x3 x4 h) fun r1 h1 =>
    ck (x4 + 1) (
    k47 ((31 * x1) + r1) x3 (x4 + 1) h1)
def dl_digest_f33 (th : Nat) (k33 : Int → Int → Hp → O Int) (x1 x3 : Int) (h : Hp) : O Int :=
  if x3 < h (th + 1) 7 then
    iter3 (dl_digest_f47 th k33) fuel x1 x3 0 h
  else
    iter2 (dl_digest_f82 th) fuel x1 0 h
def dl_digest_f6 (th : Nat) (k6 : Int → Int → Hp → O Int) (x1 x3 : Int) (h : Hp) : O Int :=
  if 10 < x3 then
    iter2 (dl_digest_f33 th) fuel x1 0 h
  else
    bd (dl_count th x3 h) fun r1 h1 =>
    ck (x3 + 1) (
    k6 ((31 * x1) + r1) (x3 + 1) h1)
def dl_digest (th : Nat) (h : Hp) : O Int :=
  iter2 (dl_digest_f6 th) fuel 18841 0 h
def mo_in_b15 (p0 : Int) (p1 : Int) (p2 : Int) (s0 : Int) (h : Hp) : O Int :=
  bz s0 (some (s0, h))
def mo_in_b14 (p0 : Int) (p1 : Int) (p2 : Int) (h : Hp) : O Int :=
  mo_in_b15 p0 p1 p2 0 h
def mo_in (p0 : Int) (p1 : Int) (p2 : Int) (h : Hp) : O Int :=
  if p0 < p1 then
    mo_in_b14 p0 p1 p2 h
  else
    if p2 < p0 then
      mo_in_b14 p0 p1 p2 h
    else
      mo_in_b15 p0 p1 p2 1 h
def mo_copies_f2 (th : Nat) (p1 : Int) (p2 : Int) (k2 : Int → Hp → O Unit) (x3 : Int) (h : Hp) : O Unit :=
  if x3 < 112 then
    ck (112 * p2) (
    ck ((112 * p2) + x3) (
    ck (112 * p1) (
    ck ((112 * p1) + x3) (
    ix ((112 * p1) + x3) 1120 (
    ix ((112 * p2) + x3) 1120 (lt (hu h (th + 1) ((112 * p2) + x3) (h (th + 1) ((112 * p1) + x3))) fun h1 =>
    ck (x3 + 1) (
    k2 (x3 + 1) h1)))))))
  else
    some ((), h)
def mo_copies (th : Nat) (p1 : Int) (p2 : Int) (h : Hp) : O Unit :=
  iter1 (mo_copies_f2 th p1 p2) fuel 0 h
def mo_records_b41 (th : Nat) (h : Hp) : O Unit :=
  ck ((h th 1) + 1) (
  lt (hu h th 1 ((h th 1) + 1)) fun h1 =>
  bd (mo_copies th 0 (h1 th 1) h1) fun _ h2 =>
  some ((), h2))
def mo_records_f11 (th : Nat) (k11 : Int → Hp → O Unit) (x1 : Int) (h : Hp) : O Unit :=
  if x1 < 8 then
    ck (x1 + 1) (
    bd (mo_copies th (x1 + 1) x1 h) fun _ h1 =>
    ck (x1 + 1) (
    k11 (x1 + 1) h1))
  else
    ck ((h th 1) - 1) (
    lt (hu h th 1 ((h th 1) - 1)) fun h2 =>
    mo_records_b41 th h2)
def mo_records (th : Nat) (h : Hp) : O Unit :=
  if h th 1 = 8 then
    iter1 (mo_records_f11 th) fuel 1 h
  else
    mo_records_b41 th h
def mo_undo (th : Nat) (h : Hp) : O Int :=
  if h th 1 = 0 then
    some ((-2), h)
  else
    bd (mo_copies th (h th 1) 0 h) fun _ h1 =>
    ck ((h1 th 1) - 1) (
    lt (hu h1 th 1 ((h1 th 1) - 1)) fun h2 =>
    some (h2 th 1, h2))
def mo_isPoint (th : Nat) (p1 : Int) (h : Hp) : O Int :=
  ix 0 1120 (
  ck ((h (th + 1) 0) - 1) (
  bd (mo_in p1 0 ((h (th + 1) 0) - 1) h) fun r1 h1 =>
  bz r1 (some (r1, h1))))
def mo_isDimension (th : Nat) (p1 : Int) (h : Hp) : O Int :=
  ix 13 1120 (
  ck ((h (th + 1) 13) - 1) (
  bd (mo_in p1 0 ((h (th + 1) 13) - 1) h) fun r1 h1 =>
  bz r1 (some (r1, h1))))
def mo_of (th : Nat) (p1 : Int) (p2 : Int) (h : Hp) : O Int :=
  ck (6 * p1) (
  ck (14 + (6 * p1)) (
  ck ((14 + (6 * p1)) + p2) (
  ix ((14 + (6 * p1)) + p2) 1120 (
  some (h (th + 1) ((14 + (6 * p1)) + p2), h)))))
def mo_sets (th : Nat) (p1 : Int) (p2 : Int) (p3 : Int) (h : Hp) : O Unit :=
  ck (6 * p1) (
  ck (14 + (6 * p1)) (
  ck ((14 + (6 * p1)) + p2) (
  ix ((14 + (6 * p1)) + p2) 1120 (lt (hu h (th + 1) ((14 + (6 * p1)) + p2) p3) fun h1 =>
  some ((), h1)))))
def mo_position (th : Nat) (p1 : Int) (h : Hp) : O Int :=
  ck (1 + p1) (
  ix (1 + p1) 1120 (
  some (h (th + 1) (1 + p1), h)))
def mo_from (th : Nat) (p1 : Int) (h : Hp) : O Int :=
  bd (mo_of th p1 0 h) fun r1 h1 =>
  bd (mo_position th r1 h1) fun r2 h2 =>
  some (r2, h2)
def mo_to (th : Nat) (p1 : Int) (h : Hp) : O Int :=
  bd (mo_of th p1 1 h) fun r1 h1 =>
  bd (mo_position th r1 h1) fun r2 h2 =>
  some (r2, h2)
def mo_value (th : Nat) (p1 : Int) (h : Hp) : O Int :=
  bd (mo_to th p1 h) fun r1 h1 =>
  bd (mo_from th p1 h1) fun r2 h2 =>
  ck (r1 - r2) (
  some (r1 - r2, h2))
def mo_pointWith_f2 (th : Nat) (p1 : Int) (k2 : Int → Hp → O Int) (x2 : Int) (h : Hp) : O Int :=
  ix 0 1120 (
  if x2 < h (th + 1) 0 then
    bd (mo_position th x2 h) fun r1 h1 =>
    if r1 = p1 then
      some (x2, h1)
    else
      ck (x2 + 1) (
      k2 (x2 + 1) h1)
  else
    some ((-999), h))
def mo_pointWith (th : Nat) (p1 : Int) (h : Hp) : O Int :=
  iter1 (mo_pointWith_f2 th p1) fuel 0 h
def mo_comes_b114 (th : Nat) (p1 : Int) (k67 : Int → Int → Hp → O Int) (x2 x3 s0 s1 s2 : Int) (h : Hp) : O Int :=
  bd (mo_sets th s2 s1 s0 h) fun _ h1 =>
  ck (x3 + 1) (
  k67 x2 (x3 + 1) h1)
def mo_comes_f67 (th : Nat) (p1 : Int) (k67 : Int → Int → Hp → O Int) (x2 x3 : Int) (h : Hp) : O Int :=
  ix 13 1120 (
  ck (2 * (h (th + 1) 13)) (
  if x3 < 2 * (h (th + 1) 13) then
    dv x3 2 (
    dv x3 2 (
    bd (mo_of th (x3 / 2) (x3 % 2) h) fun r1 h1 =>
    dv x3 2 (
    dv x3 2 (
    if r1 < x2 then
      mo_comes_b114 th p1 k67 x2 x3 r1 (x3 % 2) (x3 / 2) h1
    else
      ck (r1 + 1) (
      mo_comes_b114 th p1 k67 x2 x3 (r1 + 1) (x3 % 2) (x3 / 2) h1)))))
  else
    some (x2, h)))
def mo_comes_b46 (th : Nat) (p1 : Int) (x2 : Int) (h : Hp) : O Int :=
  ck (1 + x2) (
  ix (1 + x2) 1120 (lt (hu h (th + 1) (1 + x2) p1) fun h1 =>
  ix 0 1120 (
  ck ((h1 (th + 1) 0) + 1) (
  ix 0 1120 (lt (hu h1 (th + 1) 0 ((h1 (th + 1) 0) + 1)) fun h2 =>
  iter2 (mo_comes_f67 th p1) fuel x2 0 h2)))))
def mo_comes_f7 (th : Nat) (p1 : Int) (k7 : Int → Hp → O Int) (x2 : Int) (h : Hp) : O Int :=
  if 0 < x2 then
    ck (x2 - 1) (
    bd (mo_position th (x2 - 1) h) fun r1 h1 =>
    if p1 < r1 then
      ck (1 + x2) (
      ck (1 + x2) (
      ck ((1 + x2) - 1) (
      ix ((1 + x2) - 1) 1120 (
      ix (1 + x2) 1120 (lt (hu h1 (th + 1) (1 + x2) (h1 (th + 1) ((1 + x2) - 1))) fun h2 =>
      ck (x2 + (-1)) (
      k7 (x2 + (-1)) h2))))))
    else
      mo_comes_b46 th p1 x2 h1)
  else
    mo_comes_b46 th p1 x2 h
def mo_comes (th : Nat) (p1 : Int) (h : Hp) : O Int :=
  ix 0 1120 (
  iter1 (mo_comes_f7 th p1) fuel (h (th + 1) 0) h)
def mo_addPoint (th : Nat) (p1 : Int) (h : Hp) : O Int :=
  bd (mo_in p1 0 300 h) fun r1 h1 =>
  if r1 = 0 then
    some ((-1), h1)
  else
    bd (mo_pointWith th p1 h1) fun r2 h2 =>
    if r2 = (-999) then
      ix 0 1120 (
      if h2 (th + 1) 0 = 12 then
        some ((-3), h2)
      else
        bd (mo_records th h2) fun _ h3 =>
        bd (mo_comes th p1 h3) fun r4 h4 =>
        some (r4, h4))
    else
      some ((-2), h2)
def mo_goes_b100 (th : Nat) (p1 : Int) (k48 : Int → Hp → O Unit) (x2 s0 s1 s2 : Int) (h : Hp) : O Unit :=
  bd (mo_sets th s2 s1 s0 h) fun _ h1 =>
  ck (x2 + 1) (
  k48 (x2 + 1) h1)
def mo_goes_f48 (th : Nat) (p1 : Int) (k48 : Int → Hp → O Unit) (x2 : Int) (h : Hp) : O Unit :=
  ix 13 1120 (
  ck (2 * (h (th + 1) 13)) (
  if x2 < 2 * (h (th + 1) 13) then
    dv x2 2 (
    dv x2 2 (
    bd (mo_of th (x2 / 2) (x2 % 2) h) fun r1 h1 =>
    dv x2 2 (
    dv x2 2 (
    if r1 = p1 then
      mo_goes_b100 th p1 k48 x2 (-1) (x2 % 2) (x2 / 2) h1
    else
      if p1 < r1 then
        ck (r1 - 1) (
        mo_goes_b100 th p1 k48 x2 (r1 - 1) (x2 % 2) (x2 / 2) h1)
      else
        mo_goes_b100 th p1 k48 x2 r1 (x2 % 2) (x2 / 2) h1))))
  else
    some ((), h)))
def mo_goes_f12 (th : Nat) (p1 : Int) (k12 : Int → Hp → O Unit) (x2 : Int) (h : Hp) : O Unit :=
  ix 0 1120 (
  if x2 < h (th + 1) 0 then
    ck (1 + x2) (
    ck (1 + x2) (
    ck ((1 + x2) + 1) (
    ix ((1 + x2) + 1) 1120 (
    ix (1 + x2) 1120 (lt (hu h (th + 1) (1 + x2) (h (th + 1) ((1 + x2) + 1))) fun h1 =>
    ck (x2 + 1) (
    k12 (x2 + 1) h1))))))
  else
    iter1 (mo_goes_f48 th p1) fuel 0 h)
def mo_goes (th : Nat) (p1 : Int) (h : Hp) : O Unit :=
  ix 0 1120 (
  ck ((h (th + 1) 0) - 1) (
  ix 0 1120 (lt (hu h (th + 1) 0 ((h (th + 1) 0) - 1)) fun h1 =>
  iter1 (mo_goes_f12 th p1) fuel p1 h1)))
def mo_movePoint_b162 (th : Nat) (p1 : Int) (p2 : Int) (k61 : Int → Int → Hp → O Int) (x4 x5 s0 s1 s2 : Int) (h : Hp) : O Int :=
  bd (mo_sets th s2 s1 s0 h) fun _ h1 =>
  ck (x5 + 1) (
  k61 x4 (x5 + 1) h1)
def mo_movePoint_b141 (th : Nat) (p1 : Int) (p2 : Int) (k61 : Int → Int → Hp → O Int) (x4 x5 x6 x7 s0 s1 s2 : Int) (h : Hp) : O Int :=
  bd (mo_sets th s2 s1 s0 h) fun _ h1 =>
  if x6 < x7 then
    mo_movePoint_b162 th p1 p2 k61 x4 x5 x7 1 x5 h1
  else
    mo_movePoint_b162 th p1 p2 k61 x4 x5 x6 1 x5 h1
def mo_movePoint_b121 (th : Nat) (p1 : Int) (p2 : Int) (k61 : Int → Int → Hp → O Int) (x4 x5 x6 s0 : Int) (h : Hp) : O Int :=
  if x6 < s0 then
    mo_movePoint_b141 th p1 p2 k61 x4 x5 x6 s0 x6 0 x5 h
  else
    mo_movePoint_b141 th p1 p2 k61 x4 x5 x6 s0 s0 0 x5 h
def mo_movePoint_b96 (th : Nat) (p1 : Int) (p2 : Int) (k61 : Int → Int → Hp → O Int) (x4 x5 s0 : Int) (h : Hp) : O Int :=
  bd (mo_of th x5 1 h) fun r1 h1 =>
  if r1 = (-1) then
    mo_movePoint_b121 th p1 p2 k61 x4 x5 s0 x4 h1
  else
    bd (mo_of th x5 1 h1) fun r2 h2 =>
    mo_movePoint_b121 th p1 p2 k61 x4 x5 s0 r2 h2
def mo_movePoint_f61 (th : Nat) (p1 : Int) (p2 : Int) (k61 : Int → Int → Hp → O Int) (x4 x5 : Int) (h : Hp) : O Int :=
  ix 13 1120 (
  if x5 < h (th + 1) 13 then
    bd (mo_of th x5 0 h) fun r1 h1 =>
    if r1 = (-1) then
      mo_movePoint_b96 th p1 p2 k61 x4 x5 x4 h1
    else
      bd (mo_of th x5 0 h1) fun r2 h2 =>
      mo_movePoint_b96 th p1 p2 k61 x4 x5 r2 h2
  else
    some (x4, h))
def mo_movePoint_b42 (th : Nat) (p1 : Int) (p2 : Int) (h : Hp) : O Int :=
  bd (mo_records th h) fun _ h1 =>
  bd (mo_goes th p1 h1) fun _ h2 =>
  bd (mo_comes th p2 h2) fun r3 h3 =>
  iter2 (mo_movePoint_f61 th p1 p2) fuel r3 0 h3
def mo_movePoint_b19 (th : Nat) (p1 : Int) (p2 : Int) (h : Hp) : O Int :=
  some ((-1), h)
def mo_movePoint (th : Nat) (p1 : Int) (p2 : Int) (h : Hp) : O Int :=
  bd (mo_isPoint th p1 h) fun r1 h1 =>
  if r1 = 0 then
    mo_movePoint_b19 th p1 p2 h1
  else
    bd (mo_in p2 0 300 h1) fun r2 h2 =>
    if r2 = 0 then
      mo_movePoint_b19 th p1 p2 h2
    else
      bd (mo_pointWith th p2 h2) fun r3 h3 =>
      if r3 = (-999) then
        mo_movePoint_b42 th p1 p2 h3
      else
        if r3 = p1 then
          mo_movePoint_b42 th p1 p2 h3
        else
          some ((-2), h3)
def mo_ends_b41 (th : Nat) (p1 : Int) (k4 : Int → Int → Hp → O Int) (x3 s0 s1 : Int) (h : Hp) : O Int :=
  ck (s1 + s0) (
  ck (x3 + 1) (
  k4 (s1 + s0) (x3 + 1) h))
def mo_ends_b36 (th : Nat) (p1 : Int) (k4 : Int → Int → Hp → O Int) (x3 s0 : Int) (h : Hp) : O Int :=
  mo_ends_b41 th p1 k4 x3 1 s0 h
def mo_ends_f4 (th : Nat) (p1 : Int) (k4 : Int → Int → Hp → O Int) (x2 x3 : Int) (h : Hp) : O Int :=
  ix 13 1120 (
  if x3 < h (th + 1) 13 then
    bd (mo_of th x3 0 h) fun r1 h1 =>
    if r1 = p1 then
      mo_ends_b36 th p1 k4 x3 x2 h1
    else
      bd (mo_of th x3 1 h1) fun r2 h2 =>
      if r2 = p1 then
        mo_ends_b36 th p1 k4 x3 x2 h2
      else
        mo_ends_b41 th p1 k4 x3 0 x2 h2
  else
    some (x2, h))
def mo_ends (th : Nat) (p1 : Int) (h : Hp) : O Int :=
  iter2 (mo_ends_f4 th p1) fuel 0 0 h
def mo_dropPoint (th : Nat) (p1 : Int) (h : Hp) : O Int :=
  bd (mo_isPoint th p1 h) fun r1 h1 =>
  if r1 = 0 then
    some ((-1), h1)
  else
    bd (mo_ends th p1 h1) fun r2 h2 =>
    if 0 < r2 then
      some ((-2), h2)
    else
      bd (mo_records th h2) fun _ h3 =>
      bd (mo_goes th p1 h3) fun _ h4 =>
      ix 0 1120 (
      some (h4 (th + 1) 0, h4))
def mo_lays (th : Nat) (p1 : Int) (p2 : Int) (p3 : Int) (p4 : Int) (p5 : Int) (h : Hp) : O Unit :=
  ix 13 1120 (
  ix 13 1120 (
  ck ((h (th + 1) 13) + 1) (
  ix 13 1120 (lt (hu h (th + 1) 13 ((h (th + 1) 13) + 1)) fun h1 =>
  bd (mo_sets th (h (th + 1) 13) 0 p1 h1) fun _ h2 =>
  bd (mo_sets th (h (th + 1) 13) 1 p2 h2) fun _ h3 =>
  bd (mo_sets th (h (th + 1) 13) 2 p3 h3) fun _ h4 =>
  bd (mo_sets th (h (th + 1) 13) 3 p4 h4) fun _ h5 =>
  bd (mo_sets th (h (th + 1) 13) 4 p5 h5) fun _ h6 =>
  bd (mo_sets th (h (th + 1) 13) 5 0 h6) fun _ h7 =>
  some ((), h7)))))
def mo_add_b63 (th : Nat) (p1 : Int) (p2 : Int) (s0 s1 : Int) (h : Hp) : O Int :=
  bd (mo_lays th s1 s0 0 0 0 h) fun _ h1 =>
  ix 13 1120 (
  ck ((h1 (th + 1) 13) - 1) (
  some ((h1 (th + 1) 13) - 1, h1)))
def mo_add_b53 (th : Nat) (p1 : Int) (p2 : Int) (s0 : Int) (h : Hp) : O Int :=
  if p1 < p2 then
    mo_add_b63 th p1 p2 p2 s0 h
  else
    mo_add_b63 th p1 p2 p1 s0 h
def mo_add_b21 (th : Nat) (p1 : Int) (p2 : Int) (h : Hp) : O Int :=
  some ((-1), h)
def mo_add (th : Nat) (p1 : Int) (p2 : Int) (h : Hp) : O Int :=
  bd (mo_isPoint th p1 h) fun r1 h1 =>
  if r1 = 0 then
    mo_add_b21 th p1 p2 h1
  else
    bd (mo_isPoint th p2 h1) fun r2 h2 =>
    if r2 = 0 then
      mo_add_b21 th p1 p2 h2
    else
      if p1 = p2 then
        mo_add_b21 th p1 p2 h2
      else
        ix 13 1120 (
        if h2 (th + 1) 13 = 16 then
          some ((-3), h2)
        else
          bd (mo_records th h2) fun _ h3 =>
          if p1 < p2 then
            mo_add_b53 th p1 p2 p1 h3
          else
            mo_add_b53 th p1 p2 p2 h3)
def mo_drop_f33 (th : Nat) (p1 : Int) (k33 : Int → Hp → O Int) (x2 : Int) (h : Hp) : O Int :=
  ix 13 1120 (
  ck (6 * (h (th + 1) 13)) (
  ck (14 + (6 * (h (th + 1) 13))) (
  if x2 < 14 + (6 * (h (th + 1) 13)) then
    ck (x2 + 6) (
    ix (x2 + 6) 1120 (
    ix x2 1120 (lt (hu h (th + 1) x2 (h (th + 1) (x2 + 6))) fun h1 =>
    ck (x2 + 1) (
    k33 (x2 + 1) h1))))
  else
    ix 13 1120 (
    some (h (th + 1) 13, h)))))
def mo_drop (th : Nat) (p1 : Int) (h : Hp) : O Int :=
  bd (mo_isDimension th p1 h) fun r1 h1 =>
  if r1 = 0 then
    some ((-1), h1)
  else
    bd (mo_records th h1) fun _ h2 =>
    ix 13 1120 (
    ck ((h2 (th + 1) 13) - 1) (
    ix 13 1120 (lt (hu h2 (th + 1) 13 ((h2 (th + 1) 13) - 1)) fun h3 =>
    ck (6 * p1) (
    ck (14 + (6 * p1)) (
    iter1 (mo_drop_f33 th p1) fuel (14 + (6 * p1)) h3)))))
def mo_setTolerance_b28 (th : Nat) (p1 : Int) (p2 : Int) (p3 : Int) (h : Hp) : O Int :=
  some ((-1), h)
def mo_setTolerance (th : Nat) (p1 : Int) (p2 : Int) (p3 : Int) (h : Hp) : O Int :=
  bd (mo_isDimension th p1 h) fun r1 h1 =>
  if r1 = 0 then
    mo_setTolerance_b28 th p1 p2 p3 h1
  else
    bd (mo_in p2 0 20 h1) fun r2 h2 =>
    if r2 = 0 then
      mo_setTolerance_b28 th p1 p2 p3 h2
    else
      bd (mo_in p3 0 20 h2) fun r3 h3 =>
      if r3 = 0 then
        mo_setTolerance_b28 th p1 p2 p3 h3
      else
        bd (mo_records th h3) fun _ h4 =>
        bd (mo_of th p1 2 h4) fun r5 h5 =>
        ck (100 * r5) (
        bd (mo_of th p1 3 h5) fun r6 h6 =>
        ck ((100 * r5) + r6) (
        bd (mo_sets th p1 2 p2 h6) fun _ h7 =>
        bd (mo_sets th p1 3 p3 h7) fun _ h8 =>
        some ((100 * r5) + r6, h8)))
def mo_becomes (th : Nat) (p1 : Int) (p2 : Int) (p3 : Int) (h : Hp) : O Int :=
  bd (mo_records th h) fun _ h1 =>
  bd (mo_of th p1 p2 h1) fun r2 h2 =>
  bd (mo_sets th p1 p2 p3 h2) fun _ h3 =>
  some (r2, h3)
def mo_setChain_b28 (th : Nat) (p1 : Int) (p2 : Int) (s0 : Int) (h : Hp) : O Int :=
  some (s0, h)
def mo_setChain_b27 (th : Nat) (p1 : Int) (p2 : Int) (h : Hp) : O Int :=
  mo_setChain_b28 th p1 p2 (-1) h
def mo_setChain (th : Nat) (p1 : Int) (p2 : Int) (h : Hp) : O Int :=
  bd (mo_isDimension th p1 h) fun r1 h1 =>
  if r1 = 0 then
    mo_setChain_b27 th p1 p2 h1
  else
    bd (mo_in p2 0 5 h1) fun r2 h2 =>
    if r2 = 0 then
      mo_setChain_b27 th p1 p2 h2
    else
      bd (mo_becomes th p1 4 p2 h2) fun r3 h3 =>
      mo_setChain_b28 th p1 p2 r3 h3
def mo_setLeast_b29 (th : Nat) (p1 : Int) (p2 : Int) (s0 : Int) (h : Hp) : O Int :=
  some (s0, h)
def mo_setLeast_b28 (th : Nat) (p1 : Int) (p2 : Int) (h : Hp) : O Int :=
  mo_setLeast_b29 th p1 p2 (-1) h
def mo_setLeast (th : Nat) (p1 : Int) (p2 : Int) (h : Hp) : O Int :=
  bd (mo_isDimension th p1 h) fun r1 h1 =>
  if r1 = 0 then
    mo_setLeast_b28 th p1 p2 h1
  else
    bd (mo_in p2 0 9 h1) fun r2 h2 =>
    if r2 = 0 then
      mo_setLeast_b28 th p1 p2 h2
    else
      bd (mo_becomes th p1 5 p2 h2) fun r3 h3 =>
      mo_setLeast_b29 th p1 p2 r3 h3
def mo_setting (th : Nat) (p1 : Int) (p2 : Int) (h : Hp) : O Int :=
  bd (mo_in p2 1 9 h) fun r1 h1 =>
  if r1 = 0 then
    some ((-1), h1)
  else
    bd (mo_records th h1) fun _ h2 =>
    ix p1 1120 (
    ix p1 1120 (lt (hu h2 (th + 1) p1 p2) fun h3 =>
    some (h2 (th + 1) p1, h3)))
def mo_setLetter (th : Nat) (p1 : Int) (h : Hp) : O Int :=
  bd (mo_setting th 110 p1 h) fun r1 h1 =>
  some (r1, h1)
def mo_setArrow (th : Nat) (p1 : Int) (h : Hp) : O Int :=
  bd (mo_setting th 111 p1 h) fun r1 h1 =>
  some (r1, h1)
def mo_type (th : Nat) (p1 : Int) (h : Hp) : O Int :=
  bd (mo_in p1 32 126 h) fun r1 h1 =>
  if r1 = 0 then
    some ((-1), h1)
  else
    if h1 th 3 = 80 then
      some ((-3), h1)
    else
      ix (h1 th 3) 80 (lt (hu h1 (th + 2) (h1 th 3) p1) fun h2 =>
      ck ((h2 th 3) + 1) (
      lt (hu h2 th 3 ((h2 th 3) + 1)) fun h3 =>
      some (h3 th 3, h3)))
def mo_clearText (th : Nat) (h : Hp) : O Int :=
  lt (hu h th 3 0) fun h1 =>
  some (h th 3, h1)
def mo_here_b26 (th : Nat) (s0 : Int) (h : Hp) : O Int :=
  some (s0, h)
def mo_here (th : Nat) (h : Hp) : O Int :=
  if h th 6 < h th 3 then
    ix (h th 6) 80 (
    mo_here_b26 th (h (th + 2) (h th 6)) h)
  else
    mo_here_b26 th (-999) h
def mo_isDigit (th : Nat) (h : Hp) : O Int :=
  bd (mo_here th h) fun r1 h1 =>
  bd (mo_in r1 48 57 h1) fun r2 h2 =>
  bz r2 (some (r2, h2))
def mo_fails (th : Nat) (p1 : Int) (p2 : Int) (h : Hp) : O Int :=
  lt (hu h th 4 p1) fun h1 =>
  lt (hu h1 th 5 p2) fun h2 =>
  some (0, h2)
def mo_readsNumber_b114 (th : Nat) (p1 : Int) (p2 : Int) (p3 : Int) (s0 : Int) (h : Hp) : O Int :=
  bz s0 (some (s0, h))
def mo_readsNumber_b109 (th : Nat) (p1 : Int) (p2 : Int) (p3 : Int) (h : Hp) : O Int :=
  mo_readsNumber_b114 th p1 p2 p3 1 h
def mo_readsNumber_b77 (th : Nat) (p1 : Int) (p2 : Int) (p3 : Int) (h : Hp) : O Int :=
  bd (mo_fails th 1 (h th 6) h) fun r1 h1 =>
  bz r1 (some (r1, h1))
def mo_readsNumber_b61 (th : Nat) (p1 : Int) (p2 : Int) (p3 : Int) (x4 : Int) (h : Hp) : O Int :=
  if h th 6 = x4 then
    mo_readsNumber_b77 th p1 p2 p3 h
  else
    bd (mo_isDigit th h) fun r1 h1 =>
    if r1 = 0 then
      bd (mo_in (h1 th 7) p2 p3 h1) fun r2 h2 =>
      if r2 = 0 then
        bd (mo_fails th 2 x4 h2) fun r3 h3 =>
        if r3 = 0 then
          mo_readsNumber_b114 th p1 p2 p3 0 h3
        else
          mo_readsNumber_b109 th p1 p2 p3 h3
      else
        mo_readsNumber_b109 th p1 p2 p3 h2
    else
      mo_readsNumber_b77 th p1 p2 p3 h1
def mo_readsNumber_f11 (th : Nat) (p1 : Int) (p2 : Int) (p3 : Int) (k11 : Int → Hp → O Int) (x4 : Int) (h : Hp) : O Int :=
  bd (mo_isDigit th h) fun r1 h1 =>
  if r1 = 0 then
    mo_readsNumber_b61 th p1 p2 p3 x4 h1
  else
    ck (x4 + p1) (
    if h1 th 6 < x4 + p1 then
      ck (10 * (h1 th 7)) (
      bd (mo_here th h1) fun r2 h2 =>
      ck ((10 * (h1 th 7)) + r2) (
      ck (((10 * (h1 th 7)) + r2) - 48) (
      lt (hu h2 th 7 (((10 * (h1 th 7)) + r2) - 48)) fun h3 =>
      ck ((h3 th 6) + 1) (
      lt (hu h3 th 6 ((h3 th 6) + 1)) fun h4 =>
      k11 x4 h4))))
    else
      mo_readsNumber_b61 th p1 p2 p3 x4 h1)
def mo_readsNumber (th : Nat) (p1 : Int) (p2 : Int) (p3 : Int) (h : Hp) : O Int :=
  lt (hu h th 7 0) fun h1 =>
  iter1 (mo_readsNumber_f11 th p1 p2 p3) fuel (h th 6) h1
def mo_reads (th : Nat) (p1 : Int) (h : Hp) : O Int :=
  bd (mo_here th h) fun r1 h1 =>
  if r1 = p1 then
    ck ((h1 th 6) + 1) (
    lt (hu h1 th 6 ((h1 th 6) + 1)) fun h2 =>
    some (1, h2))
  else
    bd (mo_fails th 1 (h1 th 6) h1) fun r3 h3 =>
    bz r3 (some (r3, h3))
def mo_readsPositions_b120 (th : Nat) (s0 : Int) (h : Hp) : O Int :=
  bz s0 (some (s0, h))
def mo_readsPositions_b101 (th : Nat) (k9 : Int → Int → Hp → O Int) (x1 x2 s0 s1 : Int) (h : Hp) : O Int :=
  ck (s1 + s0) (
  lt (hu h th 6 (s1 + s0)) fun h1 =>
  k9 x1 x2 h1)
def mo_readsPositions_b86 (th : Nat) (k9 : Int → Int → Hp → O Int) (x1 s0 : Int) (h : Hp) : O Int :=
  if s0 = 0 then
    mo_readsPositions_b101 th k9 x1 s0 0 (h th 6) h
  else
    mo_readsPositions_b101 th k9 x1 s0 1 (h th 6) h
def mo_readsPositions_b85 (th : Nat) (k9 : Int → Int → Hp → O Int) (x1 : Int) (h : Hp) : O Int :=
  mo_readsPositions_b86 th k9 x1 0 h
def mo_readsPositions_f9 (th : Nat) (k9 : Int → Int → Hp → O Int) (x1 x2 : Int) (h : Hp) : O Int :=
  if x2 = 0 then
    if h th 4 = 0 then
      mo_readsPositions_b120 th 1 h
    else
      mo_readsPositions_b120 th 0 h
  else
    ck (x1 + 1) (
    bd (mo_readsNumber th 3 (x1 + 1) 300 h) fun r1 h1 =>
    if r1 = 0 then
      some (0, h1)
    else
      ix 0 1120 (
      ck (1 + (h1 (th + 1) 0)) (
      ix (1 + (h1 (th + 1) 0)) 1120 (lt (hu h1 (th + 1) (1 + (h1 (th + 1) 0)) (h1 th 7)) fun h2 =>
      ix 0 1120 (
      ck ((h2 (th + 1) 0) + 1) (
      ix 0 1120 (lt (hu h2 (th + 1) 0 ((h2 (th + 1) 0) + 1)) fun h3 =>
      bd (mo_here th h3) fun r4 h4 =>
      if r4 = 44 then
        ix 0 1120 (
        if h4 (th + 1) 0 < 12 then
          mo_readsPositions_b86 th k9 (h1 th 7) 1 h4
        else
          mo_readsPositions_b85 th k9 (h1 th 7) h4)
      else
        mo_readsPositions_b85 th k9 (h1 th 7) h4)))))))
def mo_readsPositions (th : Nat) (h : Hp) : O Int :=
  bd (mo_reads th 112 h) fun r1 h1 =>
  iter2 (mo_readsPositions_f9 th) fuel (-1) r1 h1
def mo_readsBehind (th : Nat) (p1 : Int) (p2 : Int) (p3 : Int) (p4 : Int) (h : Hp) : O Int :=
  lt (hu h th 7 0) fun h1 =>
  bd (mo_here th h1) fun r2 h2 =>
  if r2 = p1 then
    ck ((h2 th 6) + 1) (
    lt (hu h2 th 6 ((h2 th 6) + 1)) fun h3 =>
    bd (mo_readsNumber th p2 p3 p4 h3) fun r4 h4 =>
    bz r4 (some (r4, h4)))
  else
    some (1, h2)
def mo_readsDimension_b52 (th : Nat) (h : Hp) : O Int :=
  some (0, h)
def mo_readsDimension (th : Nat) (h : Hp) : O Int :=
  ix 0 1120 (
  ck ((h (th + 1) 0) - 1) (
  bd (mo_readsNumber th 1 0 ((h (th + 1) 0) - 1) h) fun r1 h1 =>
  if r1 = 0 then
    some (0, h1)
  else
    bd (mo_reads th 45 h1) fun r2 h2 =>
    if r2 = 0 then
      mo_readsDimension_b52 th h2
    else
      ck ((h1 th 7) + 1) (
      ix 0 1120 (
      ck ((h2 (th + 1) 0) - 1) (
      bd (mo_readsNumber th 1 ((h1 th 7) + 1) ((h2 (th + 1) 0) - 1) h2) fun r3 h3 =>
      if r3 = 0 then
        mo_readsDimension_b52 th h3
      else
        bd (mo_readsBehind th 43 2 0 20 h3) fun r4 h4 =>
        if r4 = 0 then
          some (0, h4)
        else
          bd (mo_readsBehind th 45 2 0 20 h4) fun r5 h5 =>
          if r5 = 0 then
            some (0, h5)
          else
            bd (mo_readsBehind th 99 1 0 5 h5) fun r6 h6 =>
            if r6 = 0 then
              some (0, h6)
            else
              bd (mo_lays th (h1 th 7) (h3 th 7) (h5 th 7) (h4 th 7) (h6 th 7) h6) fun _ h7 =>
              some (1, h7))))))
def mo_readsAll_b107 (th : Nat) (h : Hp) : O Unit :=
  some ((), h)
def mo_readsAll_b103 (th : Nat) (k15 : Int → Hp → O Unit) (s0 : Int) (h : Hp) : O Unit :=
  k15 s0 h
def mo_readsAll_b102 (th : Nat) (k15 : Int → Hp → O Unit) (h : Hp) : O Unit :=
  mo_readsAll_b103 th k15 0 h
def mo_readsAll_b83 (th : Nat) (k15 : Int → Hp → O Unit) (x1 s0 s1 : Int) (h : Hp) : O Unit :=
  ck (s1 + s0) (
  lt (hu h th 6 (s1 + s0)) fun h1 =>
  if x1 = 0 then
    mo_readsAll_b102 th k15 h1
  else
    bd (mo_readsDimension th h1) fun r2 h2 =>
    if r2 = 0 then
      mo_readsAll_b102 th k15 h2
    else
      mo_readsAll_b103 th k15 1 h2)
def mo_readsAll_b68 (th : Nat) (k15 : Int → Hp → O Unit) (s0 : Int) (h : Hp) : O Unit :=
  if s0 = 0 then
    mo_readsAll_b83 th k15 s0 0 (h th 6) h
  else
    mo_readsAll_b83 th k15 s0 1 (h th 6) h
def mo_readsAll_b63 (th : Nat) (k15 : Int → Hp → O Unit) (h : Hp) : O Unit :=
  mo_readsAll_b68 th k15 1 h
def mo_readsAll_b51 (th : Nat) (k15 : Int → Hp → O Unit) (h : Hp) : O Unit :=
  bd (mo_fails th 1 (h th 6) h) fun r1 h1 =>
  if r1 = 0 then
    mo_readsAll_b68 th k15 0 h1
  else
    mo_readsAll_b63 th k15 h1
def mo_readsAll_f15 (th : Nat) (k15 : Int → Hp → O Unit) (x1 : Int) (h : Hp) : O Unit :=
  if x1 = 0 then
    mo_readsAll_b107 th h
  else
    if h th 6 < h th 3 then
      bd (mo_here th h) fun r1 h1 =>
      if r1 = 59 then
        ix 13 1120 (
        if h1 (th + 1) 13 < 16 then
          mo_readsAll_b63 th k15 h1
        else
          mo_readsAll_b51 th k15 h1)
      else
        mo_readsAll_b51 th k15 h1
    else
      mo_readsAll_b107 th h
def mo_readsAll (th : Nat) (h : Hp) : O Unit :=
  lt (hu h th 4 0) fun h1 =>
  lt (hu h1 th 6 0) fun h2 =>
  bd (mo_readsPositions th h2) fun r3 h3 =>
  iter1 (mo_readsAll_f15 th) fuel r3 h3
def mo_load_f50 (th : Nat) (k50 : Int → Hp → O Int) (x1 : Int) (h : Hp) : O Int :=
  if x1 < 112 then
    ix x1 1120 (
    ck (1008 + x1) (
    ix (1008 + x1) 1120 (
    ix x1 1120 (lt (hu h (th + 1) x1 (h (th + 1) (1008 + x1))) fun h1 =>
    ck (1008 + x1) (
    ix (1008 + x1) 1120 (lt (hu h1 (th + 1) (1008 + x1) (h (th + 1) x1)) fun h2 =>
    ck (x1 + 1) (
    k50 (x1 + 1) h2)))))))
  else
    bd (mo_records th h) fun _ h3 =>
    bd (mo_copies th 9 0 h3) fun _ h4 =>
    ix 13 1120 (
    some (h4 (th + 1) 13, h4))
def mo_load (th : Nat) (h : Hp) : O Int :=
  bd (mo_copies th 0 9 h) fun _ h1 =>
  ix 0 1120 (lt (hu h1 (th + 1) 0 0) fun h2 =>
  ix 13 1120 (lt (hu h2 (th + 1) 13 0) fun h3 =>
  bd (mo_readsAll th h3) fun _ h4 =>
  if h4 th 4 = 0 then
    iter1 (mo_load_f50 th) fuel 0 h4
  else
    bd (mo_copies th 9 0 h4) fun _ h5 =>
    ck ((-10) - (h5 th 5)) (
    some ((-10) - (h5 th 5), h5))))
def mo_faultKind (th : Nat) (h : Hp) : O Int :=
  some (h th 4, h)
def mo_width_b34 (th : Nat) (p1 : Int) (s0 s1 : Int) (h : Hp) : O Int :=
  ck (s1 * s0) (
  some (s1 * s0, h))
def mo_width (th : Nat) (p1 : Int) (h : Hp) : O Int :=
  bd (mo_value th p1 h) fun r1 h1 =>
  ix 110 1120 (
  if 99 < r1 then
    mo_width_b34 th p1 3 (h1 (th + 1) 110) h1
  else
    if 9 < r1 then
      mo_width_b34 th p1 2 (h1 (th + 1) 110) h1
    else
      mo_width_b34 th p1 1 (h1 (th + 1) 110) h1)
def mo_form_b45 (th : Nat) (p1 : Int) (s0 : Int) (h : Hp) : O Int :=
  some (s0, h)
def mo_form (th : Nat) (p1 : Int) (h : Hp) : O Int :=
  bd (mo_value th p1 h) fun r1 h1 =>
  bd (mo_width th p1 h1) fun r2 h2 =>
  ix 111 1120 (
  ck (2 * (h2 (th + 1) 111)) (
  ck (r2 + (2 * (h2 (th + 1) 111))) (
  if r1 < r2 + (2 * (h2 (th + 1) 111)) then
    bd (mo_value th p1 h2) fun r3 h3 =>
    bd (mo_width th p1 h3) fun r4 h4 =>
    if r3 < r4 then
      mo_form_b45 th p1 2 h4
    else
      mo_form_b45 th p1 1 h4
  else
    mo_form_b45 th p1 0 h2)))
def mo_begins_b24 (th : Nat) (p1 : Int) (s0 s1 : Int) (h : Hp) : O Int :=
  ck (s1 - s0) (
  some (s1 - s0, h))
def mo_begins (th : Nat) (p1 : Int) (h : Hp) : O Int :=
  bd (mo_from th p1 h) fun r1 h1 =>
  bd (mo_form th p1 h1) fun r2 h2 =>
  if r2 = 0 then
    mo_begins_b24 th p1 0 r1 h2
  else
    ix 111 1120 (
    mo_begins_b24 th p1 (h2 (th + 1) 111) r1 h2)
def mo_reaches_b43 (th : Nat) (p1 : Int) (s0 s1 : Int) (h : Hp) : O Int :=
  ck (s1 + s0) (
  some (s1 + s0, h))
def mo_reaches_b24 (th : Nat) (p1 : Int) (s0 s1 : Int) (h : Hp) : O Int :=
  ck (s1 + s0) (
  bd (mo_form th p1 h) fun r1 h1 =>
  if r1 = 2 then
    bd (mo_width th p1 h1) fun r2 h2 =>
    mo_reaches_b43 th p1 r2 (s1 + s0) h2
  else
    mo_reaches_b43 th p1 0 (s1 + s0) h1)
def mo_reaches (th : Nat) (p1 : Int) (h : Hp) : O Int :=
  bd (mo_to th p1 h) fun r1 h1 =>
  bd (mo_form th p1 h1) fun r2 h2 =>
  if r2 = 0 then
    mo_reaches_b24 th p1 0 r1 h2
  else
    ix 111 1120 (
    mo_reaches_b24 th p1 (h2 (th + 1) 111) r1 h2)
def mo_unitOf_b33 (th : Nat) (p1 : Int) (k2 : Int → Hp → O Int) (x2 : Int) (h : Hp) : O Int :=
  ck (x2 + 1) (
  k2 (x2 + 1) h)
def mo_unitOf_f2 (th : Nat) (p1 : Int) (k2 : Int → Hp → O Int) (x2 : Int) (h : Hp) : O Int :=
  if x2 < p1 then
    bd (mo_of th p1 4 h) fun r1 h1 =>
    if 0 < r1 then
      bd (mo_of th x2 4 h1) fun r2 h2 =>
      bd (mo_of th p1 4 h2) fun r3 h3 =>
      if r2 = r3 then
        some (x2, h3)
      else
        mo_unitOf_b33 th p1 k2 x2 h3
    else
      mo_unitOf_b33 th p1 k2 x2 h1
  else
    some (p1, h)
def mo_unitOf (th : Nat) (p1 : Int) (h : Hp) : O Int :=
  iter1 (mo_unitOf_f2 th p1) fuel 0 h
def mo_laysUnits_b151 (th : Nat) (k2 : Int → Hp → O Unit) (x1 s0 s1 : Int) (h : Hp) : O Unit :=
  ix s1 16 (lt (hu h (th + 6) s1 s0) fun h1 =>
  ck (x1 + 1) (
  k2 (x1 + 1) h1))
def mo_laysUnits_b136 (th : Nat) (k2 : Int → Hp → O Unit) (x1 s0 : Int) (h : Hp) : O Unit :=
  bd (mo_of th x1 5 h) fun r1 h1 =>
  mo_laysUnits_b151 th k2 x1 r1 s0 h1
def mo_laysUnits_b110 (th : Nat) (k2 : Int → Hp → O Unit) (x1 x2 s0 s1 : Int) (h : Hp) : O Unit :=
  ix s1 16 (lt (hu h (th + 5) s1 s0) fun h1 =>
  if x2 = x1 then
    mo_laysUnits_b136 th k2 x1 x2 h1
  else
    bd (mo_of th x1 5 h1) fun r2 h2 =>
    ix x2 16 (
    if h2 (th + 6) x2 < r2 then
      mo_laysUnits_b136 th k2 x1 x2 h2
    else
      ix x2 16 (
      mo_laysUnits_b151 th k2 x1 (h2 (th + 6) x2) x2 h2)))
def mo_laysUnits_b96 (th : Nat) (k2 : Int → Hp → O Unit) (x1 x2 s0 : Int) (h : Hp) : O Unit :=
  bd (mo_to th x1 h) fun r1 h1 =>
  mo_laysUnits_b110 th k2 x1 x2 r1 s0 h1
def mo_laysUnits_b71 (th : Nat) (k2 : Int → Hp → O Unit) (x1 x2 s0 s1 : Int) (h : Hp) : O Unit :=
  ix s1 16 (lt (hu h (th + 4) s1 s0) fun h1 =>
  if x2 = x1 then
    mo_laysUnits_b96 th k2 x1 x2 x2 h1
  else
    bd (mo_to th x1 h1) fun r2 h2 =>
    ix x2 16 (
    if h2 (th + 5) x2 < r2 then
      mo_laysUnits_b96 th k2 x1 x2 x2 h2
    else
      ix x2 16 (
      mo_laysUnits_b110 th k2 x1 x2 (h2 (th + 5) x2) x2 h2)))
def mo_laysUnits_b57 (th : Nat) (k2 : Int → Hp → O Unit) (x1 x2 s0 : Int) (h : Hp) : O Unit :=
  bd (mo_from th x1 h) fun r1 h1 =>
  mo_laysUnits_b71 th k2 x1 x2 r1 s0 h1
def mo_laysUnits_f2 (th : Nat) (k2 : Int → Hp → O Unit) (x1 : Int) (h : Hp) : O Unit :=
  ix 13 1120 (
  if x1 < h (th + 1) 13 then
    bd (mo_unitOf th x1 h) fun r1 h1 =>
    ix x1 16 (lt (hu h1 (th + 3) x1 r1) fun h2 =>
    ix x1 16 (bz 0 (lt (hu h2 (th + 8) x1 0) fun h3 =>
    if r1 = x1 then
      mo_laysUnits_b57 th k2 x1 r1 r1 h3
    else
      bd (mo_from th x1 h3) fun r4 h4 =>
      ix r1 16 (
      if r4 < h4 (th + 4) r1 then
        mo_laysUnits_b57 th k2 x1 r1 r1 h4
      else
        ix r1 16 (
        mo_laysUnits_b71 th k2 x1 r1 (h4 (th + 4) r1) r1 h4)))))
  else
    some ((), h))
def mo_laysUnits (th : Nat) (h : Hp) : O Unit :=
  iter1 (mo_laysUnits_f2 th) fuel 0 h
def mo_isUnit_b15 (th : Nat) (p1 : Int) (s0 : Int) (h : Hp) : O Int :=
  bz s0 (some (s0, h))
def mo_isUnit (th : Nat) (p1 : Int) (h : Hp) : O Int :=
  ix p1 16 (
  if h (th + 3) p1 = p1 then
    mo_isUnit_b15 th p1 1 h
  else
    mo_isUnit_b15 th p1 0 h)
def mo_isSooner_b97 (th : Nat) (p1 : Int) (p2 : Int) (s0 : Int) (h : Hp) : O Int :=
  bz s0 (some (s0, h))
def mo_isSooner (th : Nat) (p1 : Int) (p2 : Int) (h : Hp) : O Int :=
  ix p1 16 (
  ix p1 16 (
  ck ((h (th + 5) p1) - (h (th + 4) p1)) (
  ix p2 16 (
  ix p2 16 (
  ck ((h (th + 5) p2) - (h (th + 4) p2)) (
  if (h (th + 5) p1) - (h (th + 4) p1) = (h (th + 5) p2) - (h (th + 4) p2) then
    ix p1 16 (
    ix p2 16 (
    if h (th + 4) p1 = h (th + 4) p2 then
      if p1 < p2 then
        mo_isSooner_b97 th p1 p2 1 h
      else
        mo_isSooner_b97 th p1 p2 0 h
    else
      ix p1 16 (
      ix p2 16 (
      if h (th + 4) p1 < h (th + 4) p2 then
        mo_isSooner_b97 th p1 p2 1 h
      else
        mo_isSooner_b97 th p1 p2 0 h))))
  else
    if (h (th + 5) p1) - (h (th + 4) p1) < (h (th + 5) p2) - (h (th + 4) p2) then
      mo_isSooner_b97 th p1 p2 1 h
    else
      mo_isSooner_b97 th p1 p2 0 h))))))
def mo_nextUnit_b55 (th : Nat) (k6 : Int → Int → Hp → O Int) (x2 s0 : Int) (h : Hp) : O Int :=
  ck (x2 + 1) (
  k6 s0 (x2 + 1) h)
def mo_nextUnit_b54 (th : Nat) (k6 : Int → Int → Hp → O Int) (x1 x2 : Int) (h : Hp) : O Int :=
  mo_nextUnit_b55 th k6 x2 x1 h
def mo_nextUnit_b50 (th : Nat) (k6 : Int → Int → Hp → O Int) (x2 : Int) (h : Hp) : O Int :=
  mo_nextUnit_b55 th k6 x2 x2 h
def mo_nextUnit_f6 (th : Nat) (k6 : Int → Int → Hp → O Int) (x1 x2 : Int) (h : Hp) : O Int :=
  ix 13 1120 (
  if x2 < h (th + 1) 13 then
    bd (mo_isUnit th x2 h) fun r1 h1 =>
    if r1 = 0 then
      mo_nextUnit_b54 th k6 x1 x2 h1
    else
      ix x2 16 (
      if h1 (th + 8) x2 = 0 then
        if x1 = (-999) then
          mo_nextUnit_b50 th k6 x2 h1
        else
          bd (mo_isSooner th x2 x1 h1) fun r2 h2 =>
          if r2 = 0 then
            mo_nextUnit_b54 th k6 x1 x2 h2
          else
            mo_nextUnit_b50 th k6 x2 h2
      else
        mo_nextUnit_b54 th k6 x1 x2 h1)
  else
    some (x1, h))
def mo_nextUnit (th : Nat) (h : Hp) : O Int :=
  iter2 (mo_nextUnit_f6 th) fuel (-999) 0 h
def mo_covers_b35 (th : Nat) (p1 : Int) (p2 : Int) (s0 : Int) (h : Hp) : O Int :=
  bz s0 (some (s0, h))
def mo_covers_b34 (th : Nat) (p1 : Int) (p2 : Int) (h : Hp) : O Int :=
  mo_covers_b35 th p1 p2 0 h
def mo_covers (th : Nat) (p1 : Int) (p2 : Int) (h : Hp) : O Int :=
  ix p1 16 (
  ix p2 16 (
  if h (th + 4) p2 < h (th + 4) p1 then
    mo_covers_b34 th p1 p2 h
  else
    ix p2 16 (
    ix p1 16 (
    if h (th + 5) p1 < h (th + 5) p2 then
      mo_covers_b34 th p1 p2 h
    else
      mo_covers_b35 th p1 p2 1 h))))
def mo_meets_b132 (th : Nat) (p1 : Int) (p2 : Int) (k5 : Int → Int → Hp → O Int) (x3 x4 : Int) (h : Hp) : O Int :=
  ck (x4 + 1) (
  k5 x3 (x4 + 1) h)
def mo_meets_b125 (th : Nat) (p1 : Int) (p2 : Int) (k20 : Int → Int → Int → Hp → O Int) (x4 x5 s0 : Int) (h : Hp) : O Int :=
  ck (x5 + 1) (
  k20 s0 x4 (x5 + 1) h)
def mo_meets_b124 (th : Nat) (p1 : Int) (p2 : Int) (k20 : Int → Int → Int → Hp → O Int) (x4 x5 : Int) (h : Hp) : O Int :=
  mo_meets_b125 th p1 p2 k20 x4 x5 0 h
def mo_meets_b120 (th : Nat) (p1 : Int) (p2 : Int) (k20 : Int → Int → Int → Hp → O Int) (x4 x5 : Int) (h : Hp) : O Int :=
  mo_meets_b125 th p1 p2 k20 x4 x5 1 h
def mo_meets_b79 (th : Nat) (p1 : Int) (p2 : Int) (k20 : Int → Int → Int → Hp → O Int) (x3 x4 x5 s0 : Int) (h : Hp) : O Int :=
  if x3 = 0 then
    if s0 = 0 then
      mo_meets_b124 th p1 p2 k20 x4 x5 h
    else
      bd (mo_begins th x4 h) fun r1 h1 =>
      bd (mo_reaches th x5 h1) fun r2 h2 =>
      if r2 < r1 then
        mo_meets_b124 th p1 p2 k20 x4 x5 h2
      else
        bd (mo_begins th x5 h2) fun r3 h3 =>
        bd (mo_reaches th x4 h3) fun r4 h4 =>
        if r4 < r3 then
          mo_meets_b124 th p1 p2 k20 x4 x5 h4
        else
          mo_meets_b120 th p1 p2 k20 x4 x5 h4
  else
    mo_meets_b120 th p1 p2 k20 x4 x5 h
def mo_meets_b78 (th : Nat) (p1 : Int) (p2 : Int) (k20 : Int → Int → Int → Hp → O Int) (x3 x4 x5 : Int) (h : Hp) : O Int :=
  mo_meets_b79 th p1 p2 k20 x3 x4 x5 0 h
def mo_meets_f20 (th : Nat) (p1 : Int) (p2 : Int) (k5 : Int → Int → Hp → O Int) (k20 : Int → Int → Int → Hp → O Int) (x3 x4 x5 : Int) (h : Hp) : O Int :=
  ix 13 1120 (
  if x5 < h (th + 1) 13 then
    ix x4 16 (
    if h (th + 3) x4 = p1 then
      ix x5 16 (
      ix (h (th + 3) x5) 16 (
      if h (th + 8) (h (th + 3) x5) = 0 then
        mo_meets_b78 th p1 p2 k20 x3 x4 x5 h
      else
        ix x5 16 (
        ix (h (th + 3) x5) 16 (
        if h (th + 7) (h (th + 3) x5) = p2 then
          mo_meets_b79 th p1 p2 k20 x3 x4 x5 1 h
        else
          mo_meets_b78 th p1 p2 k20 x3 x4 x5 h))))
    else
      mo_meets_b132 th p1 p2 k5 x3 x4 h)
  else
    mo_meets_b132 th p1 p2 k5 x3 x4 h)
def mo_meets_f5 (th : Nat) (p1 : Int) (p2 : Int) (k5 : Int → Int → Hp → O Int) (x3 x4 : Int) (h : Hp) : O Int :=
  ix 13 1120 (
  if x4 < h (th + 1) 13 then
    iter3 (mo_meets_f20 th p1 p2 k5) fuel x3 x4 0 h
  else
    bz x3 (some (x3, h)))
def mo_meets (th : Nat) (p1 : Int) (p2 : Int) (h : Hp) : O Int :=
  iter2 (mo_meets_f5 th p1 p2) fuel 0 0 h
def mo_laysLanes_f91 (th : Nat) (k9 : Int → Hp → O Unit) (k91 : Int → Int → Hp → O Unit) (x1 x2 : Int) (h : Hp) : O Unit :=
  bd (mo_meets th x1 x2 h) fun r1 h1 =>
  if r1 = 0 then
    ix x1 16 (lt (hu h1 (th + 7) x1 x2) fun h2 =>
    ix x1 16 (bz 1 (lt (hu h2 (th + 8) x1 1) fun h3 =>
    bd (mo_nextUnit th h3) fun r4 h4 =>
    k9 r4 h4)))
  else
    ck (x2 + 1) (
    k91 x1 (x2 + 1) h1)
def mo_laysLanes_b84 (th : Nat) (k25 : Int → Int → Int → Hp → O Unit) (x1 x3 s0 : Int) (h : Hp) : O Unit :=
  ck (x3 + 1) (
  k25 x1 s0 (x3 + 1) h)
def mo_laysLanes_b83 (th : Nat) (k25 : Int → Int → Int → Hp → O Unit) (x1 x2 x3 : Int) (h : Hp) : O Unit :=
  mo_laysLanes_b84 th k25 x1 x3 x2 h
def mo_laysLanes_f25 (th : Nat) (k9 : Int → Hp → O Unit) (k25 : Int → Int → Int → Hp → O Unit) (x1 x2 x3 : Int) (h : Hp) : O Unit :=
  ix 13 1120 (
  if x3 < h (th + 1) 13 then
    bd (mo_isUnit th x3 h) fun r1 h1 =>
    if r1 = 0 then
      mo_laysLanes_b83 th k25 x1 x2 x3 h1
    else
      ix x3 16 (
      if h1 (th + 8) x3 = 0 then
        mo_laysLanes_b83 th k25 x1 x2 x3 h1
      else
        bd (mo_covers th x1 x3 h1) fun r2 h2 =>
        if r2 = 0 then
          mo_laysLanes_b83 th k25 x1 x2 x3 h2
        else
          ix x3 16 (
          if h2 (th + 7) x3 < x2 then
            mo_laysLanes_b83 th k25 x1 x2 x3 h2
          else
            ix x3 16 (
            ck ((h2 (th + 7) x3) + 1) (
            mo_laysLanes_b84 th k25 x1 x3 ((h2 (th + 7) x3) + 1) h2))))
  else
    iter2 (mo_laysLanes_f91 th k9) fuel x1 x2 h)
def mo_laysLanes_f9 (th : Nat) (k9 : Int → Hp → O Unit) (x1 : Int) (h : Hp) : O Unit :=
  if x1 = (-999) then
    some ((), h)
  else
    ix x1 16 (
    iter3 (mo_laysLanes_f25 th k9) fuel x1 (h (th + 6) x1) 0 h)
def mo_laysLanes (th : Nat) (h : Hp) : O Unit :=
  bd (mo_laysUnits th h) fun _ h1 =>
  bd (mo_nextUnit th h1) fun r2 h2 =>
  iter1 (mo_laysLanes_f9 th) fuel r2 h2
def mo_laneOf (th : Nat) (p1 : Int) (h : Hp) : O Int :=
  ix p1 16 (
  ix (h (th + 3) p1) 16 (
  some (h (th + 7) (h (th + 3) p1), h)))
def mo_lanes_b35 (th : Nat) (k4 : Int → Int → Hp → O Int) (x2 s0 : Int) (h : Hp) : O Int :=
  ck (x2 + 1) (
  k4 s0 (x2 + 1) h)
def mo_lanes_f4 (th : Nat) (k4 : Int → Int → Hp → O Int) (x1 x2 : Int) (h : Hp) : O Int :=
  ix 13 1120 (
  if x2 < h (th + 1) 13 then
    bd (mo_laneOf th x2 h) fun r1 h1 =>
    if r1 < x1 then
      mo_lanes_b35 th k4 x2 x1 h1
    else
      bd (mo_laneOf th x2 h1) fun r2 h2 =>
      ck (r2 + 1) (
      mo_lanes_b35 th k4 x2 (r2 + 1) h2)
  else
    some (x1, h))
def mo_lanes (th : Nat) (h : Hp) : O Int :=
  iter2 (mo_lanes_f4 th) fuel 0 0 h
def mo_witness_b67 (th : Nat) (p1 : Int) (k6 : Int → Int → Hp → O Int) (x3 s0 : Int) (h : Hp) : O Int :=
  ck (x3 + 1) (
  k6 s0 (x3 + 1) h)
def mo_witness_b66 (th : Nat) (p1 : Int) (k6 : Int → Int → Hp → O Int) (x2 x3 : Int) (h : Hp) : O Int :=
  mo_witness_b67 th p1 k6 x3 x2 h
def mo_witness_b42 (th : Nat) (p1 : Int) (k6 : Int → Int → Hp → O Int) (x2 x3 s0 : Int) (h : Hp) : O Int :=
  if s0 = 0 then
    mo_witness_b66 th p1 k6 x2 x3 h
  else
    bd (mo_laneOf th x3 h) fun r1 h1 =>
    if x2 < r1 then
      bd (mo_laneOf th x3 h1) fun r2 h2 =>
      mo_witness_b67 th p1 k6 x3 r2 h2
    else
      mo_witness_b66 th p1 k6 x2 x3 h1
def mo_witness_b37 (th : Nat) (p1 : Int) (k6 : Int → Int → Hp → O Int) (x2 x3 : Int) (h : Hp) : O Int :=
  mo_witness_b42 th p1 k6 x2 x3 1 h
def mo_witness_f6 (th : Nat) (p1 : Int) (k6 : Int → Int → Hp → O Int) (x2 x3 : Int) (h : Hp) : O Int :=
  ix 13 1120 (
  if x3 < h (th + 1) 13 then
    bd (mo_of th x3 0 h) fun r1 h1 =>
    if r1 = p1 then
      mo_witness_b37 th p1 k6 x2 x3 h1
    else
      bd (mo_of th x3 1 h1) fun r2 h2 =>
      if r2 = p1 then
        mo_witness_b37 th p1 k6 x2 x3 h2
      else
        mo_witness_b42 th p1 k6 x2 x3 0 h2
  else
    some (x2, h))
def mo_witness (th : Nat) (p1 : Int) (h : Hp) : O Int :=
  iter2 (mo_witness_f6 th p1) fuel (-999) 0 h
def mo_crosses_b44 (th : Nat) (p1 : Int) (p2 : Int) (s0 : Int) (h : Hp) : O Int :=
  bz s0 (some (s0, h))
def mo_crosses_b43 (th : Nat) (p1 : Int) (p2 : Int) (h : Hp) : O Int :=
  mo_crosses_b44 th p1 p2 0 h
def mo_crosses (th : Nat) (p1 : Int) (p2 : Int) (h : Hp) : O Int :=
  bd (mo_laneOf th p2 h) fun r1 h1 =>
  bd (mo_witness th p1 h1) fun r2 h2 =>
  if r1 < r2 then
    bd (mo_position th p1 h2) fun r3 h3 =>
    bd (mo_from th p2 h3) fun r4 h4 =>
    if r4 < r3 then
      bd (mo_position th p1 h4) fun r5 h5 =>
      bd (mo_to th p2 h5) fun r6 h6 =>
      if r5 < r6 then
        mo_crosses_b44 th p1 p2 1 h6
      else
        mo_crosses_b43 th p1 p2 h6
    else
      mo_crosses_b43 th p1 p2 h4
  else
    mo_crosses_b43 th p1 p2 h2
def mo_crossings_b86 (th : Nat) (p1 : Int) (p2 : Int) (k19 : Int → Int → Int → Hp → O Int) (x4 x5 s0 s1 : Int) (h : Hp) : O Int :=
  ck (s1 + s0) (
  ck (x5 + 1) (
  k19 (s1 + s0) x4 (x5 + 1) h))
def mo_crossings_b85 (th : Nat) (p1 : Int) (p2 : Int) (k19 : Int → Int → Int → Hp → O Int) (x4 x5 s0 : Int) (h : Hp) : O Int :=
  mo_crossings_b86 th p1 p2 k19 x4 x5 0 s0 h
def mo_crossings_b62 (th : Nat) (p1 : Int) (p2 : Int) (k19 : Int → Int → Int → Hp → O Int) (x3 x4 x5 s0 : Int) (h : Hp) : O Int :=
  if s0 = 0 then
    mo_crossings_b85 th p1 p2 k19 x4 x5 x3 h
  else
    bd (mo_crosses th x4 x5 h) fun r1 h1 =>
    if r1 = 0 then
      mo_crossings_b85 th p1 p2 k19 x4 x5 x3 h1
    else
      mo_crossings_b86 th p1 p2 k19 x4 x5 1 x3 h1
def mo_crossings_b61 (th : Nat) (p1 : Int) (p2 : Int) (k19 : Int → Int → Int → Hp → O Int) (x3 x4 x5 : Int) (h : Hp) : O Int :=
  mo_crossings_b62 th p1 p2 k19 x3 x4 x5 0 h
def mo_crossings_b57 (th : Nat) (p1 : Int) (p2 : Int) (k19 : Int → Int → Int → Hp → O Int) (x3 x4 x5 : Int) (h : Hp) : O Int :=
  mo_crossings_b62 th p1 p2 k19 x3 x4 x5 1 h
def mo_crossings_b44 (th : Nat) (p1 : Int) (p2 : Int) (k19 : Int → Int → Int → Hp → O Int) (x3 x4 x5 : Int) (h : Hp) : O Int :=
  if p2 = (-999) then
    mo_crossings_b57 th p1 p2 k19 x3 x4 x5 h
  else
    if p2 = x5 then
      mo_crossings_b57 th p1 p2 k19 x3 x4 x5 h
    else
      mo_crossings_b61 th p1 p2 k19 x3 x4 x5 h
def mo_crossings_f19 (th : Nat) (p1 : Int) (p2 : Int) (k5 : Int → Int → Hp → O Int) (k19 : Int → Int → Int → Hp → O Int) (x3 x4 x5 : Int) (h : Hp) : O Int :=
  ix 13 1120 (
  if x5 < h (th + 1) 13 then
    if p1 = (-999) then
      mo_crossings_b44 th p1 p2 k19 x3 x4 x5 h
    else
      if p1 = x4 then
        mo_crossings_b44 th p1 p2 k19 x3 x4 x5 h
      else
        mo_crossings_b61 th p1 p2 k19 x3 x4 x5 h
  else
    ck (x4 + 1) (
    k5 x3 (x4 + 1) h))
def mo_crossings_f5 (th : Nat) (p1 : Int) (p2 : Int) (k5 : Int → Int → Hp → O Int) (x3 x4 : Int) (h : Hp) : O Int :=
  ix 0 1120 (
  if x4 < h (th + 1) 0 then
    iter3 (mo_crossings_f19 th p1 p2 k5) fuel x3 x4 0 h
  else
    some (x3, h))
def mo_crossings (th : Nat) (p1 : Int) (p2 : Int) (h : Hp) : O Int :=
  iter2 (mo_crossings_f5 th p1 p2) fuel 0 0 h
def mo_bounds_b40 (th : Nat) (p1 : Int) (p2 : Int) (p3 : Int) (s0 s1 : Int) (h : Hp) : O Unit :=
  ix s1 144 (lt (hu h (th + 9) s1 s0) fun h1 =>
  some ((), h1))
def mo_bounds (th : Nat) (p1 : Int) (p2 : Int) (p3 : Int) (h : Hp) : O Unit :=
  ck (12 * p1) (
  ck ((12 * p1) + p2) (
  ck (12 * p1) (
  ck ((12 * p1) + p2) (
  ix ((12 * p1) + p2) 144 (
  if p3 < h (th + 9) ((12 * p1) + p2) then
    mo_bounds_b40 th p1 p2 p3 p3 ((12 * p1) + p2) h
  else
    ck (12 * p1) (
    ck ((12 * p1) + p2) (
    ix ((12 * p1) + p2) 144 (
    mo_bounds_b40 th p1 p2 p3 (h (th + 9) ((12 * p1) + p2)) ((12 * p1) + p2) h))))))))
def mo_laysDistances_b229 (th : Nat) (p1 : Int) (p2 : Int) (k154 : Int → Int → Hp → O Unit) (x3 x4 : Int) (h : Hp) : O Unit :=
  ck (x4 + 1) (
  k154 x3 (x4 + 1) h)
def mo_laysDistances_f154 (th : Nat) (p1 : Int) (p2 : Int) (k141 : Int → Hp → O Unit) (k154 : Int → Int → Hp → O Unit) (x3 x4 : Int) (h : Hp) : O Unit :=
  if x4 < 144 then
    dv x4 12 (
    ck ((x4 / 12) * 12) (
    ck (((x4 / 12) * 12) + x3) (
    ix (((x4 / 12) * 12) + x3) 144 (
    ck (12 * x3) (
    dv x4 12 (
    ck ((12 * x3) + (x4 % 12)) (
    ix ((12 * x3) + (x4 % 12)) 144 (
    if h (th + 9) (((x4 / 12) * 12) + x3) = 1000000 then
      mo_laysDistances_b229 th p1 p2 k154 x3 x4 h
    else
      if h (th + 9) ((12 * x3) + (x4 % 12)) = 1000000 then
        mo_laysDistances_b229 th p1 p2 k154 x3 x4 h
      else
        dv x4 12 (
        dv x4 12 (
        ck ((h (th + 9) (((x4 / 12) * 12) + x3)) + (h (th + 9) ((12 * x3) + (x4 % 12)))) (
        bd (mo_bounds th (x4 / 12) (x4 % 12) ((h (th + 9) (((x4 / 12) * 12) + x3)) + (h (th + 9) ((12 * x3) + (x4 % 12)))) h) fun _ h1 =>
        mo_laysDistances_b229 th p1 p2 k154 x3 x4 h1)))))))))))
  else
    ck (x3 + 1) (
    k141 (x3 + 1) h)
def mo_laysDistances_f141 (th : Nat) (p1 : Int) (p2 : Int) (k141 : Int → Hp → O Unit) (x3 : Int) (h : Hp) : O Unit :=
  ix 0 1120 (
  if x3 < h (th + 1) 0 then
    iter2 (mo_laysDistances_f154 th p1 p2 k141) fuel x3 0 h
  else
    some ((), h))
def mo_laysDistances_b133 (th : Nat) (p1 : Int) (p2 : Int) (k40 : Int → Hp → O Unit) (x3 : Int) (h : Hp) : O Unit :=
  ck (x3 + 1) (
  k40 (x3 + 1) h)
def mo_laysDistances_b124 (th : Nat) (p1 : Int) (p2 : Int) (k40 : Int → Hp → O Unit) (x3 s0 s1 s2 : Int) (h : Hp) : O Unit :=
  bd (mo_value th x3 h) fun r1 h1 =>
  ck (s0 - r1) (
  bd (mo_bounds th s2 s1 (s0 - r1) h1) fun _ h2 =>
  mo_laysDistances_b133 th p1 p2 k40 x3 h2)
def mo_laysDistances_b92 (th : Nat) (p1 : Int) (p2 : Int) (k40 : Int → Hp → O Unit) (x3 s0 s1 s2 s3 : Int) (h : Hp) : O Unit :=
  ck (s1 + s0) (
  bd (mo_bounds th s3 s2 (s1 + s0) h) fun _ h1 =>
  bd (mo_of th x3 1 h1) fun r2 h2 =>
  bd (mo_of th x3 0 h2) fun r3 h3 =>
  if x3 = p2 then
    mo_laysDistances_b124 th p1 p2 k40 x3 0 r3 r2 h3
  else
    bd (mo_of th x3 2 h3) fun r4 h4 =>
    mo_laysDistances_b124 th p1 p2 k40 x3 r4 r3 r2 h4)
def mo_laysDistances_f40 (th : Nat) (p1 : Int) (p2 : Int) (k40 : Int → Hp → O Unit) (x3 : Int) (h : Hp) : O Unit :=
  ix 13 1120 (
  if x3 < h (th + 1) 13 then
    shc p1 x3 (
    if (p1 / pw2 x3) % 2 = 0 then
      bd (mo_of th x3 0 h) fun r1 h1 =>
      bd (mo_of th x3 1 h1) fun r2 h2 =>
      bd (mo_value th x3 h2) fun r3 h3 =>
      if x3 = p2 then
        mo_laysDistances_b92 th p1 p2 k40 x3 0 r3 r2 r1 h3
      else
        bd (mo_of th x3 3 h3) fun r4 h4 =>
        mo_laysDistances_b92 th p1 p2 k40 x3 r4 r3 r2 r1 h4
    else
      mo_laysDistances_b133 th p1 p2 k40 x3 h)
  else
    iter1 (mo_laysDistances_f141 th p1 p2) fuel 0 h)
def mo_laysDistances_b31 (th : Nat) (p1 : Int) (p2 : Int) (k2 : Int → Hp → O Unit) (x3 s0 s1 : Int) (h : Hp) : O Unit :=
  ix s1 144 (lt (hu h (th + 9) s1 s0) fun h1 =>
  ck (x3 + 1) (
  k2 (x3 + 1) h1))
def mo_laysDistances_f2 (th : Nat) (p1 : Int) (p2 : Int) (k2 : Int → Hp → O Unit) (x3 : Int) (h : Hp) : O Unit :=
  if x3 < 144 then
    dv x3 12 (
    dv x3 12 (
    if x3 / 12 = x3 % 12 then
      mo_laysDistances_b31 th p1 p2 k2 x3 0 x3 h
    else
      mo_laysDistances_b31 th p1 p2 k2 x3 1000000 x3 h))
  else
    iter1 (mo_laysDistances_f40 th p1 p2) fuel 0 h
def mo_laysDistances (th : Nat) (p1 : Int) (p2 : Int) (h : Hp) : O Unit :=
  iter1 (mo_laysDistances_f2 th p1 p2) fuel 0 h
def mo_areBound_b21 (th : Nat) (p1 : Int) (p2 : Int) (s0 : Int) (h : Hp) : O Int :=
  bz s0 (some (s0, h))
def mo_areBound (th : Nat) (p1 : Int) (p2 : Int) (h : Hp) : O Int :=
  ck (12 * p1) (
  ck ((12 * p1) + p2) (
  ix ((12 * p1) + p2) 144 (
  if h (th + 9) ((12 * p1) + p2) = 1000000 then
    mo_areBound_b21 th p1 p2 0 h
  else
    mo_areBound_b21 th p1 p2 1 h)))
def mo_range (th : Nat) (p1 : Int) (p2 : Int) (h : Hp) : O Int :=
  ck (12 * p1) (
  ck ((12 * p1) + p2) (
  ix ((12 * p1) + p2) 144 (
  ck (12 * p2) (
  ck ((12 * p2) + p1) (
  ix ((12 * p2) + p1) 144 (
  ck ((h (th + 9) ((12 * p1) + p2)) + (h (th + 9) ((12 * p2) + p1))) (
  some ((h (th + 9) ((12 * p1) + p2)) + (h (th + 9) ((12 * p2) + p1)), h))))))))
def mo_isSuperfluous_b97 (th : Nat) (p1 : Int) (p2 : Int) (s0 : Int) (h : Hp) : O Int :=
  bz s0 (some (s0, h))
def mo_isSuperfluous_b96 (th : Nat) (p1 : Int) (p2 : Int) (h : Hp) : O Int :=
  mo_isSuperfluous_b97 th p1 p2 0 h
def mo_isSuperfluous (th : Nat) (p1 : Int) (p2 : Int) (h : Hp) : O Int :=
  shc 1 p1 (ck (pw2 p1) (
  orc p2 (pw2 p1) (
  bd (mo_laysDistances th (orI p2 (pw2 p1)) (-999) h) fun _ h1 =>
  bd (mo_of th p1 0 h1) fun r2 h2 =>
  bd (mo_of th p1 1 h2) fun r3 h3 =>
  bd (mo_areBound th r2 r3 h3) fun r4 h4 =>
  if r4 = 0 then
    mo_isSuperfluous_b96 th p1 p2 h4
  else
    ck (12 * r2) (
    ck ((12 * r2) + r3) (
    ix ((12 * r2) + r3) 144 (
    bd (mo_value th p1 h4) fun r5 h5 =>
    bd (mo_of th p1 3 h5) fun r6 h6 =>
    ck (r5 + r6) (
    if r5 + r6 < h4 (th + 9) ((12 * r2) + r3) then
      mo_isSuperfluous_b96 th p1 p2 h6
    else
      ck (12 * r3) (
      ck ((12 * r3) + r2) (
      ix ((12 * r3) + r2) 144 (
      ck (-(h6 (th + 9) ((12 * r3) + r2))) (
      bd (mo_value th p1 h6) fun r7 h7 =>
      bd (mo_of th p1 2 h7) fun r8 h8 =>
      ck (r7 - r8) (
      if -(h6 (th + 9) ((12 * r3) + r2)) < r7 - r8 then
        mo_isSuperfluous_b96 th p1 p2 h8
      else
        mo_isSuperfluous_b97 th p1 p2 1 h8))))))))))))
def mo_isFirst_b27 (th : Nat) (p1 : Int) (k4 : Int → Int → Hp → O Int) (x3 s0 : Int) (h : Hp) : O Int :=
  ck (x3 + 1) (
  k4 s0 (x3 + 1) h)
def mo_isFirst_b26 (th : Nat) (p1 : Int) (k4 : Int → Int → Hp → O Int) (x3 : Int) (h : Hp) : O Int :=
  mo_isFirst_b27 th p1 k4 x3 0 h
def mo_isFirst_f4 (th : Nat) (p1 : Int) (k4 : Int → Int → Hp → O Int) (x2 x3 : Int) (h : Hp) : O Int :=
  if x3 < p1 then
    if x2 = 0 then
      mo_isFirst_b26 th p1 k4 x3 h
    else
      bd (mo_areBound th x3 p1 h) fun r1 h1 =>
      if r1 = 0 then
        mo_isFirst_b27 th p1 k4 x3 1 h1
      else
        mo_isFirst_b26 th p1 k4 x3 h1
  else
    bz x2 (some (x2, h))
def mo_isFirst (th : Nat) (p1 : Int) (h : Hp) : O Int :=
  iter2 (mo_isFirst_f4 th p1) fuel 1 0 h
def mo_groupOfFirst_b23 (th : Nat) (p1 : Int) (k4 : Int → Int → Hp → O Int) (x3 s0 s1 : Int) (h : Hp) : O Int :=
  ck (s1 + s0) (
  ck (x3 + 1) (
  k4 (s1 + s0) (x3 + 1) h))
def mo_groupOfFirst_f4 (th : Nat) (p1 : Int) (k4 : Int → Int → Hp → O Int) (x2 x3 : Int) (h : Hp) : O Int :=
  if x3 < p1 then
    bd (mo_isFirst th x3 h) fun r1 h1 =>
    if r1 = 0 then
      mo_groupOfFirst_b23 th p1 k4 x3 0 x2 h1
    else
      mo_groupOfFirst_b23 th p1 k4 x3 1 x2 h1
  else
    some (x2, h)
def mo_groupOfFirst (th : Nat) (p1 : Int) (h : Hp) : O Int :=
  iter2 (mo_groupOfFirst_f4 th p1) fuel 0 0 h
def mo_group_b51 (th : Nat) (p1 : Int) (k32 : Int → Int → Hp → O Int) (x3 s0 s1 : Int) (h : Hp) : O Int :=
  ck (s1 + s0) (
  ck (x3 + 1) (
  k32 (s1 + s0) (x3 + 1) h))
def mo_group_f32 (th : Nat) (p1 : Int) (k32 : Int → Int → Hp → O Int) (x2 x3 : Int) (h : Hp) : O Int :=
  if x3 < p1 then
    bd (mo_isFirst th x3 h) fun r1 h1 =>
    if r1 = 0 then
      mo_group_b51 th p1 k32 x3 0 x2 h1
    else
      mo_group_b51 th p1 k32 x3 1 x2 h1
  else
    some (x2, h)
def mo_group_f4 (th : Nat) (p1 : Int) (k4 : Int → Int → Hp → O Int) (x2 x3 : Int) (h : Hp) : O Int :=
  if x3 < p1 then
    bd (mo_areBound th x3 p1 h) fun r1 h1 =>
    if r1 = 0 then
      ck (x3 + 1) (
      k4 x2 (x3 + 1) h1)
    else
      bd (mo_groupOfFirst th x3 h1) fun r2 h2 =>
      some (r2, h2)
  else
    iter2 (mo_group_f32 th p1) fuel x2 0 h
def mo_group (th : Nat) (p1 : Int) (h : Hp) : O Int :=
  iter2 (mo_group_f4 th p1) fuel 0 0 h
def mo_point_b86 (th : Nat) (p1 : Int) (p2 : Int) (s0 : Int) (h : Hp) : O Int :=
  some (s0, h)
def mo_point_b41 (th : Nat) (p1 : Int) (p2 : Int) (s0 : Int) (h : Hp) : O Int :=
  some (s0, h)
def mo_point_b17 (th : Nat) (p1 : Int) (p2 : Int) (h : Hp) : O Int :=
  some ((-1), h)
def mo_point (th : Nat) (p1 : Int) (p2 : Int) (h : Hp) : O Int :=
  bd (mo_isPoint th p1 h) fun r1 h1 =>
  if r1 = 0 then
    mo_point_b17 th p1 p2 h1
  else
    bd (mo_in p2 0 4 h1) fun r2 h2 =>
    if r2 = 0 then
      mo_point_b17 th p1 p2 h2
    else
      if p2 < 2 then
        if p2 = 0 then
          bd (mo_position th p1 h2) fun r3 h3 =>
          mo_point_b41 th p1 p2 r3 h3
        else
          bd (mo_ends th p1 h2) fun r4 h4 =>
          mo_point_b41 th p1 p2 r4 h4
      else
        if p2 = 4 then
          bd (mo_laysDistances th 0 (-999) h2) fun _ h5 =>
          bd (mo_group th p1 h5) fun r6 h6 =>
          some (r6, h6)
        else
          bd (mo_laysLanes th h2) fun _ h7 =>
          if p2 = 2 then
            bd (mo_witness th p1 h7) fun r8 h8 =>
            mo_point_b86 th p1 p2 r8 h8
          else
            bd (mo_crossings th p1 (-999) h7) fun r9 h9 =>
            mo_point_b86 th p1 p2 r9 h9
def mo_placeOf (p0 : Int) (h : Hp) : O Int :=
  swt p0 3 [
    some (2, h),
    some (3, h),
    some (4, h)] (
    some (5, h))
def mo_dimension_b153 (th : Nat) (p1 : Int) (p2 : Int) (h : Hp) : O Int :=
  bd (mo_placeOf p2 h) fun r1 h1 =>
  bd (mo_of th p1 r1 h1) fun r2 h2 =>
  some (r2, h2)
def mo_dimension_b143 (th : Nat) (p1 : Int) (p2 : Int) (s0 : Int) (h : Hp) : O Int :=
  some (s0, h)
def mo_dimension_b92 (th : Nat) (p1 : Int) (p2 : Int) (h : Hp) : O Int :=
  bd (mo_of th p1 p2 h) fun r1 h1 =>
  some (r1, h1)
def mo_dimension_b18 (th : Nat) (p1 : Int) (p2 : Int) (h : Hp) : O Int :=
  some ((-1), h)
def mo_dimension (th : Nat) (p1 : Int) (p2 : Int) (h : Hp) : O Int :=
  bd (mo_isDimension th p1 h) fun r1 h1 =>
  if r1 = 0 then
    mo_dimension_b18 th p1 p2 h1
  else
    bd (mo_in p2 0 12 h1) fun r2 h2 =>
    if r2 = 0 then
      mo_dimension_b18 th p1 p2 h2
    else
      bd (mo_laysLanes th h2) fun _ h3 =>
      swt p2 0 [
        mo_dimension_b92 th p1 p2 h3,
        mo_dimension_b92 th p1 p2 h3,
        bd (mo_value th p1 h3) fun r4 h4 =>
        some (r4, h4),
        mo_dimension_b153 th p1 p2 h3,
        mo_dimension_b153 th p1 p2 h3,
        mo_dimension_b153 th p1 p2 h3,
        mo_dimension_b153 th p1 p2 h3,
        bd (mo_form th p1 h3) fun r5 h5 =>
        some (r5, h5),
        bd (mo_begins th p1 h3) fun r6 h6 =>
        some (r6, h6),
        bd (mo_reaches th p1 h3) fun r7 h7 =>
        some (r7, h7),
        bd (mo_laneOf th p1 h3) fun r8 h8 =>
        some (r8, h8),
        bd (mo_isSuperfluous th p1 0 h3) fun r9 h9 =>
        if r9 = 0 then
          mo_dimension_b143 th p1 p2 0 h9
        else
          mo_dimension_b143 th p1 p2 1 h9,
        bd (mo_crossings th (-999) p1 h3) fun r10 h10 =>
        some (r10, h10)] (
        mo_dimension_b153 th p1 p2 h3)
def mo_at_b63 (th : Nat) (p1 : Int) (p2 : Int) (k24 : Int → Hp → O Int) (x3 : Int) (h : Hp) : O Int :=
  ck (x3 + 1) (
  k24 (x3 + 1) h)
def mo_at_f24 (th : Nat) (p1 : Int) (p2 : Int) (k24 : Int → Hp → O Int) (x3 : Int) (h : Hp) : O Int :=
  ix 13 1120 (
  if x3 < h (th + 1) 13 then
    bd (mo_laneOf th x3 h) fun r1 h1 =>
    if r1 = p1 then
      bd (mo_begins th x3 h1) fun r2 h2 =>
      bd (mo_reaches th x3 h2) fun r3 h3 =>
      bd (mo_in p2 r2 r3 h3) fun r4 h4 =>
      if r4 = 0 then
        mo_at_b63 th p1 p2 k24 x3 h4
      else
        some (x3, h4)
    else
      mo_at_b63 th p1 p2 k24 x3 h1
  else
    some ((-999), h))
def mo_at_b16 (th : Nat) (p1 : Int) (p2 : Int) (h : Hp) : O Int :=
  some ((-1), h)
def mo_at (th : Nat) (p1 : Int) (p2 : Int) (h : Hp) : O Int :=
  if p1 < 0 then
    mo_at_b16 th p1 p2 h
  else
    bd (mo_in p2 (-9) 400 h) fun r1 h1 =>
    if r1 = 0 then
      mo_at_b16 th p1 p2 h1
    else
      bd (mo_laysLanes th h1) fun _ h2 =>
      iter1 (mo_at_f24 th p1 p2) fuel 0 h2
def mo_arePoints_b26 (th : Nat) (p1 : Int) (p2 : Int) (s0 : Int) (h : Hp) : O Int :=
  bz s0 (some (s0, h))
def mo_arePoints_b25 (th : Nat) (p1 : Int) (p2 : Int) (h : Hp) : O Int :=
  mo_arePoints_b26 th p1 p2 0 h
def mo_arePoints (th : Nat) (p1 : Int) (p2 : Int) (h : Hp) : O Int :=
  bd (mo_isPoint th p1 h) fun r1 h1 =>
  if r1 = 0 then
    mo_arePoints_b25 th p1 p2 h1
  else
    bd (mo_isPoint th p2 h1) fun r2 h2 =>
    if r2 = 0 then
      mo_arePoints_b25 th p1 p2 h2
    else
      if p1 = p2 then
        mo_arePoints_b25 th p1 p2 h2
      else
        mo_arePoints_b26 th p1 p2 1 h2
def mo_distance_b62 (th : Nat) (p1 : Int) (p2 : Int) (p3 : Int) (s0 : Int) (h : Hp) : O Int :=
  some (s0, h)
def mo_distance (th : Nat) (p1 : Int) (p2 : Int) (p3 : Int) (h : Hp) : O Int :=
  bd (mo_arePoints th p1 p2 h) fun r1 h1 =>
  if r1 = 0 then
    some ((-1), h1)
  else
    bd (mo_laysDistances th 0 (-999) h1) fun _ h2 =>
    bd (mo_areBound th p1 p2 h2) fun r3 h3 =>
    if r3 = 0 then
      some ((-999), h3)
    else
      if p3 = 0 then
        ck (12 * p2) (
        ck ((12 * p2) + p1) (
        ix ((12 * p2) + p1) 144 (
        ck (-(h3 (th + 9) ((12 * p2) + p1))) (
        mo_distance_b62 th p1 p2 p3 (-(h3 (th + 9) ((12 * p2) + p1))) h3))))
      else
        ck (12 * p1) (
        ck ((12 * p1) + p2) (
        ix ((12 * p1) + p2) 144 (
        mo_distance_b62 th p1 p2 p3 (h3 (th + 9) ((12 * p1) + p2)) h3)))
def mo_adds (th : Nat) (p1 : Int) (p2 : Int) (p3 : Int) (h : Hp) : O Int :=
  bd (mo_laysDistances th 0 (-999) h) fun _ h1 =>
  bd (mo_range th p2 p3 h1) fun r2 h2 =>
  bd (mo_laysDistances th 0 p1 h2) fun _ h3 =>
  bd (mo_range th p2 p3 h3) fun r4 h4 =>
  ck (r2 - r4) (
  some (r2 - r4, h4))
def mo_ifExact_b49 (th : Nat) (p1 : Int) (p2 : Int) (p3 : Int) (s0 : Int) (h : Hp) : O Int :=
  some (s0, h)
def mo_ifExact_b17 (th : Nat) (p1 : Int) (p2 : Int) (p3 : Int) (h : Hp) : O Int :=
  some ((-1), h)
def mo_ifExact (th : Nat) (p1 : Int) (p2 : Int) (p3 : Int) (h : Hp) : O Int :=
  bd (mo_isDimension th p1 h) fun r1 h1 =>
  if r1 = 0 then
    mo_ifExact_b17 th p1 p2 p3 h1
  else
    bd (mo_arePoints th p2 p3 h1) fun r2 h2 =>
    if r2 = 0 then
      mo_ifExact_b17 th p1 p2 p3 h2
    else
      bd (mo_laysDistances th 0 (-999) h2) fun _ h3 =>
      bd (mo_areBound th p2 p3 h3) fun r4 h4 =>
      if r4 = 0 then
        mo_ifExact_b49 th p1 p2 p3 (-999) h4
      else
        bd (mo_adds th p1 p2 p3 h4) fun r5 h5 =>
        mo_ifExact_b49 th p1 p2 p3 r5 h5
def mo_critical_b109 (th : Nat) (p1 : Int) (p2 : Int) (k42 : Int → Int → Int → Hp → O Int) (x3 x5 s0 : Int) (h : Hp) : O Int :=
  ck (x5 + 1) (
  k42 x3 s0 (x5 + 1) h)
def mo_critical_b96 (th : Nat) (p1 : Int) (p2 : Int) (k42 : Int → Int → Int → Hp → O Int) (x4 x5 x6 x7 s0 : Int) (h : Hp) : O Int :=
  if x7 = 0 then
    mo_critical_b109 th p1 p2 k42 s0 x5 x4 h
  else
    mo_critical_b109 th p1 p2 k42 s0 x5 x6 h
def mo_critical_b83 (th : Nat) (p1 : Int) (p2 : Int) (k42 : Int → Int → Int → Hp → O Int) (x3 x4 x5 x6 s0 : Int) (h : Hp) : O Int :=
  if s0 = 0 then
    mo_critical_b96 th p1 p2 k42 x4 x5 x6 s0 x3 h
  else
    mo_critical_b96 th p1 p2 k42 x4 x5 x6 s0 x5 h
def mo_critical_b78 (th : Nat) (p1 : Int) (p2 : Int) (k42 : Int → Int → Int → Hp → O Int) (x3 x4 x5 x6 : Int) (h : Hp) : O Int :=
  mo_critical_b83 th p1 p2 k42 x3 x4 x5 x6 1 h
def mo_critical_f42 (th : Nat) (p1 : Int) (p2 : Int) (k42 : Int → Int → Int → Hp → O Int) (x3 x4 x5 : Int) (h : Hp) : O Int :=
  ix 13 1120 (
  if x5 < h (th + 1) 13 then
    bd (mo_adds th x5 p1 p2 h) fun r1 h1 =>
    if x3 = (-999) then
      mo_critical_b78 th p1 p2 k42 x3 x4 x5 r1 h1
    else
      if x4 < r1 then
        mo_critical_b78 th p1 p2 k42 x3 x4 x5 r1 h1
      else
        mo_critical_b83 th p1 p2 k42 x3 x4 x5 r1 0 h1
  else
    some (x3, h))
def mo_critical (th : Nat) (p1 : Int) (p2 : Int) (h : Hp) : O Int :=
  bd (mo_arePoints th p1 p2 h) fun r1 h1 =>
  if r1 = 0 then
    some ((-1), h1)
  else
    bd (mo_laysDistances th 0 (-999) h1) fun _ h2 =>
    bd (mo_areBound th p1 p2 h2) fun r3 h3 =>
    if r3 = 0 then
      some ((-999), h3)
    else
      iter3 (mo_critical_f42 th p1 p2) fuel (-999) 0 0 h3
def mo_needed_b96 (th : Nat) (k12 : Int → Int → Int → Hp → O Int) (x1 x2 x3 : Int) (h : Hp) : O Int :=
  k12 x1 x2 x3 h
def mo_needed_b88 (th : Nat) (k29 : Int → Int → Int → Int → Hp → O Int) (x1 x3 x4 s0 s1 : Int) (h : Hp) : O Int :=
  ck (s1 - s0) (
  ck (x4 + (-1)) (
  k29 x1 (s1 - s0) x3 (x4 + (-1)) h))
def mo_needed_b76 (th : Nat) (k29 : Int → Int → Int → Int → Hp → O Int) (x2 x3 x4 s0 s1 : Int) (h : Hp) : O Int :=
  orc s1 s0 (
  if x3 = 0 then
    mo_needed_b88 th k29 (orI s1 s0) x3 x4 0 x2 h
  else
    mo_needed_b88 th k29 (orI s1 s0) x3 x4 1 x2 h)
def mo_needed_b62 (th : Nat) (k29 : Int → Int → Int → Int → Hp → O Int) (x1 x2 x4 s0 : Int) (h : Hp) : O Int :=
  if s0 = 0 then
    mo_needed_b76 th k29 x2 s0 x4 0 x1 h
  else
    shc 1 x4 (ck (pw2 x4) (
    mo_needed_b76 th k29 x2 s0 x4 (pw2 x4) x1 h))
def mo_needed_b61 (th : Nat) (k29 : Int → Int → Int → Int → Hp → O Int) (x1 x2 x4 : Int) (h : Hp) : O Int :=
  mo_needed_b62 th k29 x1 x2 x4 0 h
def mo_needed_f29 (th : Nat) (k12 : Int → Int → Int → Hp → O Int) (k29 : Int → Int → Int → Int → Hp → O Int) (x1 x2 x3 x4 : Int) (h : Hp) : O Int :=
  if x4 < 0 then
    mo_needed_b96 th k12 x1 x2 x3 h
  else
    if x3 = 0 then
      shc x1 x4 (
      if (x1 / pw2 x4) % 2 = 0 then
        bd (mo_isSuperfluous th x4 x1 h) fun r1 h1 =>
        if r1 = 0 then
          mo_needed_b61 th k29 x1 x2 x4 h1
        else
          mo_needed_b62 th k29 x1 x2 x4 1 h1
      else
        mo_needed_b61 th k29 x1 x2 x4 h)
    else
      mo_needed_b96 th k12 x1 x2 x3 h
def mo_needed_f12 (th : Nat) (k12 : Int → Int → Int → Hp → O Int) (x1 x2 x3 : Int) (h : Hp) : O Int :=
  if x3 = 0 then
    some (x2, h)
  else
    ix 13 1120 (
    ck ((h (th + 1) 13) - 1) (
    iter4 (mo_needed_f29 th k12) fuel x1 x2 0 ((h (th + 1) 13) - 1) h))
def mo_needed (th : Nat) (h : Hp) : O Int :=
  ix 13 1120 (
  iter3 (mo_needed_f12 th) fuel 0 (h (th + 1) 13) 1 h)
def mo_sumOf_b75 (th : Nat) (p1 : Int) (p2 : Int) (k5 : Int → Int → Hp → O Int) (x4 s0 s1 : Int) (h : Hp) : O Int :=
  ck (s1 + s0) (
  ck (x4 + 1) (
  k5 (s1 + s0) (x4 + 1) h))
def mo_sumOf_b55 (th : Nat) (p1 : Int) (p2 : Int) (k5 : Int → Int → Hp → O Int) (x3 x4 s0 : Int) (h : Hp) : O Int :=
  bd (mo_of th x4 4 h) fun r1 h1 =>
  if r1 = p1 then
    mo_sumOf_b75 th p1 p2 k5 x4 s0 x3 h1
  else
    mo_sumOf_b75 th p1 p2 k5 x4 0 x3 h1
def mo_sumOf_b52 (th : Nat) (p1 : Int) (p2 : Int) (k5 : Int → Int → Hp → O Int) (x3 x4 s0 s1 : Int) (h : Hp) : O Int :=
  bd (mo_of th s1 s0 h) fun r1 h1 =>
  mo_sumOf_b55 th p1 p2 k5 x3 x4 r1 h1
def mo_sumOf_f5 (th : Nat) (p1 : Int) (p2 : Int) (k5 : Int → Int → Hp → O Int) (x3 x4 : Int) (h : Hp) : O Int :=
  ix 13 1120 (
  if x4 < h (th + 1) 13 then
    if p2 = 0 then
      mo_sumOf_b55 th p1 p2 k5 x3 x4 1 h
    else
      if p2 = 4 then
        bd (mo_value th x4 h) fun r1 h1 =>
        mo_sumOf_b55 th p1 p2 k5 x3 x4 r1 h1
      else
        if p2 = 5 then
          mo_sumOf_b52 th p1 p2 k5 x3 x4 2 x4 h
        else
          mo_sumOf_b52 th p1 p2 k5 x3 x4 3 x4 h
  else
    some (x3, h))
def mo_sumOf (th : Nat) (p1 : Int) (p2 : Int) (h : Hp) : O Int :=
  iter2 (mo_sumOf_f5 th p1 p2) fuel 0 0 h
def mo_endOf_b79 (th : Nat) (p1 : Int) (p2 : Int) (k7 : Int → Int → Hp → O Int) (x4 s0 : Int) (h : Hp) : O Int :=
  ck (x4 + 1) (
  k7 s0 (x4 + 1) h)
def mo_endOf_b78 (th : Nat) (p1 : Int) (p2 : Int) (k7 : Int → Int → Hp → O Int) (x3 x4 : Int) (h : Hp) : O Int :=
  mo_endOf_b79 th p1 p2 k7 x4 x3 h
def mo_endOf_b73 (th : Nat) (p1 : Int) (p2 : Int) (k7 : Int → Int → Hp → O Int) (x4 x5 : Int) (h : Hp) : O Int :=
  mo_endOf_b79 th p1 p2 k7 x4 x5 h
def mo_endOf_b31 (th : Nat) (p1 : Int) (p2 : Int) (k7 : Int → Int → Hp → O Int) (x3 x4 s0 s1 : Int) (h : Hp) : O Int :=
  bd (mo_of th s1 s0 h) fun r1 h1 =>
  bd (mo_of th x4 4 h1) fun r2 h2 =>
  if r2 = p1 then
    if x3 = (-999) then
      mo_endOf_b73 th p1 p2 k7 x4 r1 h2
    else
      if p2 = 0 then
        if r1 < x3 then
          mo_endOf_b73 th p1 p2 k7 x4 r1 h2
        else
          mo_endOf_b78 th p1 p2 k7 x3 x4 h2
      else
        if x3 < r1 then
          mo_endOf_b73 th p1 p2 k7 x4 r1 h2
        else
          mo_endOf_b78 th p1 p2 k7 x3 x4 h2
  else
    mo_endOf_b78 th p1 p2 k7 x3 x4 h2
def mo_endOf_f7 (th : Nat) (p1 : Int) (p2 : Int) (k7 : Int → Int → Hp → O Int) (x3 x4 : Int) (h : Hp) : O Int :=
  ix 13 1120 (
  if x4 < h (th + 1) 13 then
    if p2 = 0 then
      mo_endOf_b31 th p1 p2 k7 x3 x4 0 x4 h
    else
      mo_endOf_b31 th p1 p2 k7 x3 x4 1 x4 h
  else
    some (x3, h))
def mo_endOf (th : Nat) (p1 : Int) (p2 : Int) (h : Hp) : O Int :=
  iter2 (mo_endOf_f7 th p1 p2) fuel (-999) 0 h
def mo_isClosed_b165 (th : Nat) (p1 : Int) (s0 : Int) (h : Hp) : O Int :=
  bz s0 (some (s0, h))
def mo_isClosed_b146 (th : Nat) (p1 : Int) (k12 : Int → Int → Int → Hp → O Int) (x3 x4 s0 : Int) (h : Hp) : O Int :=
  k12 s0 x3 x4 h
def mo_isClosed_b128 (th : Nat) (p1 : Int) (k12 : Int → Int → Int → Hp → O Int) (x2 x4 x5 s0 s1 : Int) (h : Hp) : O Int :=
  ck (s1 + s0) (
  if x4 = 0 then
    mo_isClosed_b146 th p1 k12 (s1 + s0) x4 x2 h
  else
    bd (mo_of th x5 1 h) fun r1 h1 =>
    mo_isClosed_b146 th p1 k12 (s1 + s0) x4 r1 h1)
def mo_isClosed_b115 (th : Nat) (p1 : Int) (k12 : Int → Int → Int → Hp → O Int) (x2 x3 x5 s0 : Int) (h : Hp) : O Int :=
  if s0 = 0 then
    mo_isClosed_b128 th p1 k12 x2 s0 x5 0 x3 h
  else
    mo_isClosed_b128 th p1 k12 x2 s0 x5 1 x3 h
def mo_isClosed_b95 (th : Nat) (p1 : Int) (k28 : Int → Int → Int → Int → Int → Hp → O Int) (x2 x3 x5 x7 s0 s1 : Int) (h : Hp) : O Int :=
  ck (s1 + s0) (
  ck (x7 + 1) (
  k28 x2 x3 x5 (s1 + s0) (x7 + 1) h))
def mo_isClosed_b81 (th : Nat) (p1 : Int) (k28 : Int → Int → Int → Int → Int → Hp → O Int) (x2 x3 x6 x7 x8 s0 : Int) (h : Hp) : O Int :=
  if x8 = 0 then
    mo_isClosed_b95 th p1 k28 x2 x3 s0 x7 0 x6 h
  else
    mo_isClosed_b95 th p1 k28 x2 x3 s0 x7 1 x6 h
def mo_isClosed_b67 (th : Nat) (p1 : Int) (k28 : Int → Int → Int → Int → Int → Hp → O Int) (x2 x3 x5 x6 x7 s0 : Int) (h : Hp) : O Int :=
  if s0 = 0 then
    mo_isClosed_b81 th p1 k28 x2 x3 x6 x7 s0 x5 h
  else
    mo_isClosed_b81 th p1 k28 x2 x3 x6 x7 s0 x7 h
def mo_isClosed_b66 (th : Nat) (p1 : Int) (k28 : Int → Int → Int → Int → Int → Hp → O Int) (x2 x3 x5 x6 x7 : Int) (h : Hp) : O Int :=
  mo_isClosed_b67 th p1 k28 x2 x3 x5 x6 x7 0 h
def mo_isClosed_f28 (th : Nat) (p1 : Int) (k12 : Int → Int → Int → Hp → O Int) (k28 : Int → Int → Int → Int → Int → Hp → O Int) (x2 x3 x5 x6 x7 : Int) (h : Hp) : O Int :=
  ix 13 1120 (
  if x7 < h (th + 1) 13 then
    bd (mo_of th x7 4 h) fun r1 h1 =>
    if r1 = p1 then
      bd (mo_of th x7 0 h1) fun r2 h2 =>
      if r2 = x2 then
        mo_isClosed_b67 th p1 k28 x2 x3 x5 x6 x7 1 h2
      else
        mo_isClosed_b66 th p1 k28 x2 x3 x5 x6 x7 h2
    else
      mo_isClosed_b66 th p1 k28 x2 x3 x5 x6 x7 h1
  else
    if x6 = 1 then
      mo_isClosed_b115 th p1 k12 x2 x3 x5 1 h
    else
      mo_isClosed_b115 th p1 k12 x2 x3 x5 0 h)
def mo_isClosed_f12 (th : Nat) (p1 : Int) (k12 : Int → Int → Int → Hp → O Int) (x2 x3 x4 : Int) (h : Hp) : O Int :=
  if x4 = 0 then
    bd (mo_sumOf th p1 0 h) fun r1 h1 =>
    if x3 = r1 then
      mo_isClosed_b165 th p1 1 h1
    else
      mo_isClosed_b165 th p1 0 h1
  else
    iter5 (mo_isClosed_f28 th p1 k12) fuel x2 x3 (-999) 0 0 h
def mo_isClosed (th : Nat) (p1 : Int) (h : Hp) : O Int :=
  bd (mo_endOf th p1 0 h) fun r1 h1 =>
  iter3 (mo_isClosed_f12 th p1) fuel r1 0 1 h1
def mo_over_b55 (th : Nat) (p1 : Int) (k2 : Int → Hp → O Int) (x2 : Int) (h : Hp) : O Int :=
  ck (x2 + 1) (
  k2 (x2 + 1) h)
def mo_over_f2 (th : Nat) (p1 : Int) (k2 : Int → Hp → O Int) (x2 : Int) (h : Hp) : O Int :=
  ix 13 1120 (
  if x2 < h (th + 1) 13 then
    bd (mo_of th x2 4 h) fun r1 h1 =>
    if r1 = p1 then
      mo_over_b55 th p1 k2 x2 h1
    else
      bd (mo_of th x2 0 h1) fun r2 h2 =>
      bd (mo_endOf th p1 0 h2) fun r3 h3 =>
      if r2 = r3 then
        bd (mo_of th x2 1 h3) fun r4 h4 =>
        bd (mo_endOf th p1 1 h4) fun r5 h5 =>
        if r4 = r5 then
          some (x2, h5)
        else
          mo_over_b55 th p1 k2 x2 h5
      else
        mo_over_b55 th p1 k2 x2 h3
  else
    some ((-999), h))
def mo_over (th : Nat) (p1 : Int) (h : Hp) : O Int :=
  iter1 (mo_over_f2 th p1) fuel 0 h
def mo_laneOfChain_f6 (th : Nat) (p1 : Int) (k6 : Int → Hp → O Int) (x2 : Int) (h : Hp) : O Int :=
  bd (mo_of th x2 4 h) fun r1 h1 =>
  if r1 = p1 then
    bd (mo_laneOf th x2 h1) fun r2 h2 =>
    some (r2, h2)
  else
    ck (x2 + 1) (
    k6 (x2 + 1) h1)
def mo_laneOfChain (th : Nat) (p1 : Int) (h : Hp) : O Int :=
  bd (mo_laysLanes th h) fun _ h1 =>
  iter1 (mo_laneOfChain_f6 th p1) fuel 0 h1
def mo_chain_b142 (th : Nat) (p1 : Int) (p2 : Int) (h : Hp) : O Int :=
  bd (mo_laneOfChain th p1 h) fun r1 h1 =>
  some (r1, h1)
def mo_chain_b135 (th : Nat) (p1 : Int) (p2 : Int) (s0 : Int) (h : Hp) : O Int :=
  some (s0, h)
def mo_chain_b35 (th : Nat) (p1 : Int) (p2 : Int) (h : Hp) : O Int :=
  bd (mo_sumOf th p1 p2 h) fun r1 h1 =>
  some (r1, h1)
def mo_chain_b19 (th : Nat) (p1 : Int) (p2 : Int) (h : Hp) : O Int :=
  some ((-1), h)
def mo_chain (th : Nat) (p1 : Int) (p2 : Int) (h : Hp) : O Int :=
  bd (mo_in p1 1 5 h) fun r1 h1 =>
  if r1 = 0 then
    mo_chain_b19 th p1 p2 h1
  else
    bd (mo_in p2 0 8 h1) fun r2 h2 =>
    if r2 = 0 then
      mo_chain_b19 th p1 p2 h2
    else
      if p2 = 0 then
        mo_chain_b35 th p1 p2 h2
      else
        bd (mo_in p2 4 6 h2) fun r3 h3 =>
        if r3 = 0 then
          bd (mo_sumOf th p1 0 h3) fun r4 h4 =>
          if r4 = 0 then
            some ((-999), h4)
          else
            swt p2 1 [
              bd (mo_endOf th p1 0 h4) fun r5 h5 =>
              bd (mo_position th r5 h5) fun r6 h6 =>
              some (r6, h6),
              bd (mo_endOf th p1 1 h4) fun r7 h7 =>
              bd (mo_position th r7 h7) fun r8 h8 =>
              some (r8, h8),
              bd (mo_isClosed th p1 h4) fun r9 h9 =>
              if r9 = 0 then
                mo_chain_b135 th p1 p2 0 h9
              else
                mo_chain_b135 th p1 p2 1 h9,
              mo_chain_b142 th p1 p2 h4,
              mo_chain_b142 th p1 p2 h4,
              mo_chain_b142 th p1 p2 h4,
              bd (mo_over th p1 h4) fun r10 h10 =>
              some (r10, h10)] (
              mo_chain_b142 th p1 p2 h4)
        else
          mo_chain_b35 th p1 p2 h3
def mo_ifArrow (th : Nat) (p1 : Int) (h : Hp) : O Int :=
  bd (mo_in p1 1 9 h) fun r1 h1 =>
  if r1 = 0 then
    some ((-1), h1)
  else
    ix 111 1120 (
    ix 111 1120 (lt (hu h1 (th + 1) 111 p1) fun h2 =>
    bd (mo_laysLanes th h2) fun _ h3 =>
    ix 111 1120 (lt (hu h3 (th + 1) 111 (h1 (th + 1) 111)) fun h4 =>
    bd (mo_lanes th h4) fun r5 h5 =>
    some (r5, h5))))
def mo_units_b30 (th : Nat) (k4 : Int → Int → Hp → O Int) (x2 s0 s1 : Int) (h : Hp) : O Int :=
  ck (s1 + s0) (
  ck (x2 + 1) (
  k4 (s1 + s0) (x2 + 1) h))
def mo_units_f4 (th : Nat) (k4 : Int → Int → Hp → O Int) (x1 x2 : Int) (h : Hp) : O Int :=
  ix 13 1120 (
  if x2 < h (th + 1) 13 then
    bd (mo_unitOf th x2 h) fun r1 h1 =>
    if r1 = x2 then
      mo_units_b30 th k4 x2 1 x1 h1
    else
      mo_units_b30 th k4 x2 0 x1 h1
  else
    some (x1, h))
def mo_units (th : Nat) (h : Hp) : O Int :=
  iter2 (mo_units_f4 th) fuel 0 0 h
def mo_groups_b36 (th : Nat) (k12 : Int → Int → Hp → O Int) (x2 s0 s1 : Int) (h : Hp) : O Int :=
  ck (s1 + s0) (
  ck (x2 + 1) (
  k12 (s1 + s0) (x2 + 1) h))
def mo_groups_f12 (th : Nat) (k12 : Int → Int → Hp → O Int) (x1 x2 : Int) (h : Hp) : O Int :=
  ix 0 1120 (
  if x2 < h (th + 1) 0 then
    bd (mo_isFirst th x2 h) fun r1 h1 =>
    if r1 = 0 then
      mo_groups_b36 th k12 x2 0 x1 h1
    else
      mo_groups_b36 th k12 x2 1 x1 h1
  else
    some (x1, h))
def mo_groups (th : Nat) (h : Hp) : O Int :=
  bd (mo_laysDistances th 0 (-999) h) fun _ h1 =>
  iter2 (mo_groups_f12 th) fuel 0 0 h1
def mo_superfluous_b30 (th : Nat) (k4 : Int → Int → Hp → O Int) (x2 s0 s1 : Int) (h : Hp) : O Int :=
  ck (s1 + s0) (
  ck (x2 + 1) (
  k4 (s1 + s0) (x2 + 1) h))
def mo_superfluous_f4 (th : Nat) (k4 : Int → Int → Hp → O Int) (x1 x2 : Int) (h : Hp) : O Int :=
  ix 13 1120 (
  if x2 < h (th + 1) 13 then
    bd (mo_isSuperfluous th x2 0 h) fun r1 h1 =>
    if r1 = 0 then
      mo_superfluous_b30 th k4 x2 0 x1 h1
    else
      mo_superfluous_b30 th k4 x2 1 x1 h1
  else
    some (x1, h))
def mo_superfluous (th : Nat) (h : Hp) : O Int :=
  iter2 (mo_superfluous_f4 th) fuel 0 0 h
def mo_count (th : Nat) (p1 : Int) (h : Hp) : O Int :=
  bd (mo_laysLanes th h) fun _ h1 =>
  swt p1 0 [
    ix 0 1120 (
    some (h1 (th + 1) 0, h1)),
    ix 13 1120 (
    some (h1 (th + 1) 13, h1)),
    bd (mo_units th h1) fun r2 h2 =>
    some (r2, h2),
    bd (mo_lanes th h1) fun r3 h3 =>
    some (r3, h3),
    bd (mo_crossings th (-999) (-999) h1) fun r4 h4 =>
    some (r4, h4),
    bd (mo_groups th h1) fun r5 h5 =>
    some (r5, h5),
    bd (mo_superfluous th h1) fun r6 h6 =>
    some (r6, h6),
    ix 110 1120 (
    some (h1 (th + 1) 110, h1)),
    ix 111 1120 (
    some (h1 (th + 1) 111, h1)),
    some (h1 th 3, h1),
    some (h1 th 1, h1)] (
    some ((-1), h1))
def mo_mixes (th : Nat) (p1 : Int) (h : Hp) : O Unit :=
  lt (hu h th 15 ((31 * (h th 15)) + p1)) fun h1 =>
  some ((), h1)
def mo_digest_f193 (th : Nat) (k186 : Int → Hp → O Int) (k193 : Int → Int → Hp → O Int) (x1 x2 : Int) (h : Hp) : O Int :=
  if x2 < 9 then
    bd (mo_chain th x1 x2 h) fun r1 h1 =>
    bd (mo_mixes th r1 h1) fun _ h2 =>
    ck (x2 + 1) (
    k193 x1 (x2 + 1) h2)
  else
    ck (x1 + 1) (
    k186 (x1 + 1) h)
def mo_digest_f186 (th : Nat) (k186 : Int → Hp → O Int) (x1 : Int) (h : Hp) : O Int :=
  if 5 < x1 then
    bd (mo_needed th h) fun r1 h1 =>
    bd (mo_mixes th r1 h1) fun _ h2 =>
    some (h2 th 15, h2)
  else
    iter2 (mo_digest_f193 th k186) fuel x1 0 h
def mo_digest_f130 (th : Nat) (k116 : Int → Hp → O Int) (k130 : Int → Int → Hp → O Int) (x1 x2 : Int) (h : Hp) : O Int :=
  ix 0 1120 (
  if x2 < h (th + 1) 0 then
    bd (mo_distance th x1 x2 0 h) fun r1 h1 =>
    bd (mo_mixes th r1 h1) fun _ h2 =>
    bd (mo_distance th x1 x2 1 h2) fun r3 h3 =>
    bd (mo_mixes th r3 h3) fun _ h4 =>
    bd (mo_critical th x1 x2 h4) fun r5 h5 =>
    bd (mo_mixes th r5 h5) fun _ h6 =>
    ck (x2 + 1) (
    k130 x1 (x2 + 1) h6)
  else
    ck (x1 + 1) (
    k116 (x1 + 1) h))
def mo_digest_f116 (th : Nat) (k116 : Int → Hp → O Int) (x1 : Int) (h : Hp) : O Int :=
  ix 0 1120 (
  if x1 < h (th + 1) 0 then
    ck (x1 + 1) (
    iter2 (mo_digest_f130 th k116) fuel x1 (x1 + 1) h)
  else
    iter1 (mo_digest_f186 th) fuel 1 h)
def mo_digest_f86 (th : Nat) (k73 : Int → Hp → O Int) (k86 : Int → Int → Hp → O Int) (x1 x2 : Int) (h : Hp) : O Int :=
  if x2 < 13 then
    bd (mo_dimension th x1 x2 h) fun r1 h1 =>
    bd (mo_mixes th r1 h1) fun _ h2 =>
    ck (x2 + 1) (
    k86 x1 (x2 + 1) h2)
  else
    ck (x1 + 1) (
    k73 (x1 + 1) h)
def mo_digest_f73 (th : Nat) (k73 : Int → Hp → O Int) (x1 : Int) (h : Hp) : O Int :=
  ix 13 1120 (
  if x1 < h (th + 1) 13 then
    iter2 (mo_digest_f86 th k73) fuel x1 0 h
  else
    iter1 (mo_digest_f116 th) fuel 0 h)
def mo_digest_f44 (th : Nat) (k32 : Int → Hp → O Int) (k44 : Int → Int → Hp → O Int) (x1 x2 : Int) (h : Hp) : O Int :=
  if x2 < 5 then
    bd (mo_point th x1 x2 h) fun r1 h1 =>
    bd (mo_mixes th r1 h1) fun _ h2 =>
    ck (x2 + 1) (
    k44 x1 (x2 + 1) h2)
  else
    ck (x1 + 1) (
    k32 (x1 + 1) h)
def mo_digest_f32 (th : Nat) (k32 : Int → Hp → O Int) (x1 : Int) (h : Hp) : O Int :=
  ix 0 1120 (
  if x1 < h (th + 1) 0 then
    iter2 (mo_digest_f44 th k32) fuel x1 0 h
  else
    iter1 (mo_digest_f73 th) fuel 0 h)
def mo_digest_f9 (th : Nat) (k9 : Int → Hp → O Int) (x1 : Int) (h : Hp) : O Int :=
  if x1 < 11 then
    bd (mo_count th x1 h) fun r1 h1 =>
    bd (mo_mixes th r1 h1) fun _ h2 =>
    ck (x1 + 1) (
    k9 (x1 + 1) h2)
  else
    iter1 (mo_digest_f32 th) fuel 0 h
def mo_digest (th : Nat) (h : Hp) : O Int :=
  lt (hu h th 15 18841) fun h1 =>
  iter1 (mo_digest_f9 th) fuel 0 h1

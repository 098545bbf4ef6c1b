def lw_lanes_b430 (q0 : Nat) (x1 : Int) (q2 : Nat) (s0 : Int) (h : Hp) : O Int :=
  bz s0 (some (s0, h))
def lw_lanes_b429 (q0 : Nat) (x1 : Int) (q2 : Nat) (h : Hp) : O Int :=
  lw_lanes_b430 q0 x1 q2 0 h
def lw_lanes_f372 (q0 : Nat) (x1 : Int) (q2 : Nat) (x4 x5 : Int) (k372 : Int → Hp → O Int) (x6 : Int) (h : Hp) : O Int :=
  if x6 < x1 then
    bd (dl_dimension q0 x6 10 h) fun r1 h1 =>
    bd (lw_unit q0 x6 h1) fun r2 h2 =>
    ix r2 16 (
    if r1 = h2 q2 r2 then
      ck (x6 + 1) (
      k372 (x6 + 1) h2)
    else
      some (0, h2))
  else
    bd (dl_count q0 2 h) fun r3 h3 =>
    if r3 = x4 then
      bd (dl_count q0 3 h3) fun r4 h4 =>
      if r4 = x5 then
        lw_lanes_b430 q0 x1 q2 1 h4
      else
        lw_lanes_b429 q0 x1 q2 h4
    else
      lw_lanes_b429 q0 x1 q2 h3
def lw_lanes_b361 (q0 : Nat) (x1 : Int) (q2 : Nat) (k58 : Int → Int → Int → Hp → O Int) (x3 x4 x6 s0 : Int) (h : Hp) : O Int :=
  ck (x6 + 1) (
  k58 x3 s0 (x6 + 1) h)
def lw_lanes_f311 (q0 : Nat) (x1 : Int) (q2 : Nat) (k58 : Int → Int → Int → Hp → O Int) (x3 x4 x5 x6 x7 : Int) (k311 : Int → Hp → O Int) (x9 : Int) (h : Hp) : O Int :=
  bd (lw_isTaken q0 x7 x9 x3 q2 16 h) fun r1 h1 =>
  if r1 = 0 then
    ix x7 16 (lt (hu h1 q2 x7 x9) fun h2 =>
    shc 1 x7 (ck (pw2 x7) (
    orc x3 (pw2 x7) (
    ck (x9 + 1) (
    if x5 < x9 + 1 then
      ck (x9 + 1) (
      lw_lanes_b361 q0 x1 q2 k58 (orI x3 (pw2 x7)) x4 x6 (x9 + 1) h2)
    else
      lw_lanes_b361 q0 x1 q2 k58 (orI x3 (pw2 x7)) x4 x6 x5 h2)))))
  else
    ck (x9 + 1) (
    k311 (x9 + 1) h1)
def lw_lanes_b303 (q0 : Nat) (x1 : Int) (q2 : Nat) (k221 : Int → Int → Hp → O Int) (x3 x4 x5 x6 x7 x10 s0 : Int) (h : Hp) : O Int :=
  ck (x10 + 1) (
  k221 s0 (x10 + 1) h)
def lw_lanes_b301 (q0 : Nat) (x1 : Int) (q2 : Nat) (k221 : Int → Int → Hp → O Int) (x3 x4 x5 x6 x7 x9 x10 : Int) (h : Hp) : O Int :=
  lw_lanes_b303 q0 x1 q2 k221 x3 x4 x5 x6 x7 x10 x9 h
def lw_lanes_b276 (q0 : Nat) (x1 : Int) (q2 : Nat) (k221 : Int → Int → Hp → O Int) (x3 x4 x5 x6 x7 x9 x10 s0 : Int) (h : Hp) : O Int :=
  if s0 = 0 then
    lw_lanes_b301 q0 x1 q2 k221 x3 x4 x5 x6 x7 x9 x10 h
  else
    ix x10 16 (
    if h q2 x10 < x9 then
      lw_lanes_b301 q0 x1 q2 k221 x3 x4 x5 x6 x7 x9 x10 h
    else
      ix x10 16 (
      ck ((h q2 x10) + 1) (
      lw_lanes_b303 q0 x1 q2 k221 x3 x4 x5 x6 x7 x10 ((h q2 x10) + 1) h)))
def lw_lanes_b275 (q0 : Nat) (x1 : Int) (q2 : Nat) (k221 : Int → Int → Hp → O Int) (x3 x4 x5 x6 x7 x9 x10 : Int) (h : Hp) : O Int :=
  lw_lanes_b276 q0 x1 q2 k221 x3 x4 x5 x6 x7 x9 x10 0 h
def lw_lanes_f221 (q0 : Nat) (x1 : Int) (q2 : Nat) (k58 : Int → Int → Int → Hp → O Int) (x3 x4 x5 x6 x7 : Int) (k221 : Int → Int → Hp → O Int) (x9 x10 : Int) (h : Hp) : O Int :=
  if x10 < x1 then
    shc x3 x10 (
    if (x3 / pw2 x10) % 2 = 1 then
      bd (lw_span q0 x7 0 h) fun r1 h1 =>
      bd (lw_span q0 x10 0 h1) fun r2 h2 =>
      if r2 < r1 then
        lw_lanes_b275 q0 x1 q2 k221 x3 x4 x5 x6 x7 x9 x10 h2
      else
        bd (lw_span q0 x7 1 h2) fun r3 h3 =>
        bd (lw_span q0 x10 1 h3) fun r4 h4 =>
        if r3 < r4 then
          lw_lanes_b275 q0 x1 q2 k221 x3 x4 x5 x6 x7 x9 x10 h4
        else
          lw_lanes_b276 q0 x1 q2 k221 x3 x4 x5 x6 x7 x9 x10 1 h4
    else
      lw_lanes_b275 q0 x1 q2 k221 x3 x4 x5 x6 x7 x9 x10 h)
  else
    iter1 (lw_lanes_f311 q0 x1 q2 k58 x3 x4 x5 x6 x7) fuel x9 h
def lw_lanes_b203 (q0 : Nat) (x1 : Int) (q2 : Nat) (k74 : Int → Int → Int → Hp → O Int) (x3 x4 x5 x6 x7 x8 x9 : Int) (h : Hp) : O Int :=
  ck (x9 + 1) (
  k74 x7 x8 (x9 + 1) h)
def lw_lanes_b201 (q0 : Nat) (x1 : Int) (q2 : Nat) (k74 : Int → Int → Int → Hp → O Int) (x3 x4 x5 x6 x8 x9 s0 : Int) (h : Hp) : O Int :=
  lw_lanes_b203 q0 x1 q2 k74 x3 x4 x5 x6 s0 x8 x9 h
def lw_lanes_b199 (q0 : Nat) (x1 : Int) (q2 : Nat) (k74 : Int → Int → Int → Hp → O Int) (x3 x4 x5 x6 x7 x8 x9 : Int) (h : Hp) : O Int :=
  lw_lanes_b201 q0 x1 q2 k74 x3 x4 x5 x6 x8 x9 x7 h
def lw_lanes_b194 (q0 : Nat) (x1 : Int) (q2 : Nat) (k74 : Int → Int → Int → Hp → O Int) (x3 x4 x5 x6 x8 x9 : Int) (h : Hp) : O Int :=
  lw_lanes_b201 q0 x1 q2 k74 x3 x4 x5 x6 x8 x9 x9 h
def lw_lanes_b148 (q0 : Nat) (x1 : Int) (q2 : Nat) (k74 : Int → Int → Int → Hp → O Int) (x3 x4 x5 x6 x7 x9 x10 s0 : Int) (h : Hp) : O Int :=
  if x7 < 0 then
    lw_lanes_b194 q0 x1 q2 k74 x3 x4 x5 x6 s0 x9 h
  else
    if x10 = s0 then
      bd (lw_span q0 x7 1 h) fun r1 h1 =>
      bd (lw_span q0 x7 0 h1) fun r2 h2 =>
      ck (r1 - r2) (
      ck (1000 * (r1 - r2)) (
      bd (lw_span q0 x7 0 h2) fun r3 h3 =>
      ck ((1000 * (r1 - r2)) + r3) (
      if x10 < (1000 * (r1 - r2)) + r3 then
        lw_lanes_b194 q0 x1 q2 k74 x3 x4 x5 x6 s0 x9 h3
      else
        lw_lanes_b199 q0 x1 q2 k74 x3 x4 x5 x6 x7 s0 x9 h3)))
    else
      lw_lanes_b199 q0 x1 q2 k74 x3 x4 x5 x6 x7 s0 x9 h
def lw_lanes_b141 (q0 : Nat) (x1 : Int) (q2 : Nat) (k74 : Int → Int → Int → Hp → O Int) (x3 x4 x5 x6 x7 x9 x10 : Int) (h : Hp) : O Int :=
  lw_lanes_b148 q0 x1 q2 k74 x3 x4 x5 x6 x7 x9 x10 x10 h
def lw_lanes_f74 (q0 : Nat) (x1 : Int) (q2 : Nat) (k58 : Int → Int → Int → Hp → O Int) (x3 x4 x5 x6 : Int) (k74 : Int → Int → Int → Hp → O Int) (x7 x8 x9 : Int) (h : Hp) : O Int :=
  if x9 < x1 then
    bd (lw_unit q0 x9 h) fun r1 h1 =>
    if r1 = x9 then
      shc x3 x9 (
      if (x3 / pw2 x9) % 2 = 0 then
        bd (lw_span q0 x9 1 h1) fun r2 h2 =>
        bd (lw_span q0 x9 0 h2) fun r3 h3 =>
        ck (r2 - r3) (
        ck (1000 * (r2 - r3)) (
        bd (lw_span q0 x9 0 h3) fun r4 h4 =>
        ck ((1000 * (r2 - r3)) + r4) (
        if x7 < 0 then
          lw_lanes_b141 q0 x1 q2 k74 x3 x4 x5 x6 x7 x9 ((1000 * (r2 - r3)) + r4) h4
        else
          if (1000 * (r2 - r3)) + r4 < x8 then
            lw_lanes_b141 q0 x1 q2 k74 x3 x4 x5 x6 x7 x9 ((1000 * (r2 - r3)) + r4) h4
          else
            lw_lanes_b148 q0 x1 q2 k74 x3 x4 x5 x6 x7 x9 ((1000 * (r2 - r3)) + r4) x8 h4)))
      else
        lw_lanes_b203 q0 x1 q2 k74 x3 x4 x5 x6 x7 x8 x9 h1)
    else
      lw_lanes_b203 q0 x1 q2 k74 x3 x4 x5 x6 x7 x8 x9 h1
  else
    bd (lw_span q0 x7 2 h) fun r5 h5 =>
    iter2 (lw_lanes_f221 q0 x1 q2 k58 x3 x4 x5 x6 x7) fuel r5 0 h5
def lw_lanes_f58 (q0 : Nat) (x1 : Int) (q2 : Nat) (x4 : Int) (k58 : Int → Int → Int → Hp → O Int) (x3 x5 x6 : Int) (h : Hp) : O Int :=
  if x6 < x4 then
    iter3 (lw_lanes_f74 q0 x1 q2 k58 x3 x4 x5 x6) fuel (-1) 0 0 h
  else
    iter1 (lw_lanes_f372 q0 x1 q2 x4 x5) fuel 0 h
def lw_lanes_b43 (q0 : Nat) (x1 : Int) (q2 : Nat) (k19 : Int → Int → Hp → O Int) (x3 x5 s0 s1 : Int) (h : Hp) : O Int :=
  ck (s1 + s0) (
  ck (x5 + 1) (
  k19 (s1 + s0) (x5 + 1) h))
def lw_lanes_f19 (q0 : Nat) (x1 : Int) (q2 : Nat) (x3 : Int) (k19 : Int → Int → Hp → O Int) (x4 x5 : Int) (h : Hp) : O Int :=
  if x5 < x1 then
    bd (lw_unit q0 x5 h) fun r1 h1 =>
    if r1 = x5 then
      lw_lanes_b43 q0 x1 q2 k19 x3 x5 1 x4 h1
    else
      lw_lanes_b43 q0 x1 q2 k19 x3 x5 0 x4 h1
  else
    iter3 (lw_lanes_f58 q0 x1 q2 x4) fuel x3 0 0 h
def lw_lanes_b11 (q0 : Nat) (x1 : Int) (q2 : Nat) (h : Hp) : O Int :=
  iter2 (lw_lanes_f19 q0 x1 q2 0) fuel 0 0 h
def lw_witnesses_b310 (q0 : Nat) (q2 : Nat) (s0 : Int) (h : Hp) : O Int :=
  bz s0 (some (s0, h))
def lw_witnesses_f266 (q0 : Nat) (q2 : Nat) (x1 : Int) (k266 : Int → Hp → O Int) (x3 : Int) (h : Hp) : O Int :=
  bd (dl_count q0 1 h) fun r1 h1 =>
  if x3 < r1 then
    bd (dl_dimension q0 x3 12 h1) fun r2 h2 =>
    ix x3 16 (
    if r2 = h2 q2 x3 then
      ck (x3 + 1) (
      k266 (x3 + 1) h2)
    else
      some (0, h2))
  else
    bd (dl_count q0 4 h1) fun r3 h3 =>
    if r3 = x1 then
      lw_witnesses_b310 q0 q2 1 h3
    else
      lw_witnesses_b310 q0 q2 0 h3
def lw_witnesses_b256 (q0 : Nat) (q2 : Nat) (h : Hp) : O Int :=
  some (0, h)
def lw_witnesses_b210 (q0 : Nat) (q2 : Nat) (k128 : Int → Int → Hp → O Int) (x1 x3 x4 x5 x6 x7 s0 s1 s2 : Int) (h : Hp) : O Int :=
  ck (s1 + s0) (
  ix s2 16 (lt (hu h q2 s2 (s1 + s0)) fun h1 =>
  ck (x7 + 1) (
  k128 x6 (x7 + 1) h1)))
def lw_witnesses_b192 (q0 : Nat) (q2 : Nat) (k128 : Int → Int → Hp → O Int) (x1 x3 x4 x5 x7 x8 s0 s1 : Int) (h : Hp) : O Int :=
  ck (s1 + s0) (
  ix x7 16 (
  if x8 = 0 then
    lw_witnesses_b210 q0 q2 k128 x1 x3 x4 x5 (s1 + s0) x7 0 (h q2 x7) x7 h
  else
    lw_witnesses_b210 q0 q2 k128 x1 x3 x4 x5 (s1 + s0) x7 1 (h q2 x7) x7 h))
def lw_witnesses_b178 (q0 : Nat) (q2 : Nat) (k128 : Int → Int → Hp → O Int) (x1 x3 x4 x5 x6 x7 s0 : Int) (h : Hp) : O Int :=
  if s0 = 0 then
    lw_witnesses_b192 q0 q2 k128 x1 x3 x4 x5 x7 s0 0 x6 h
  else
    lw_witnesses_b192 q0 q2 k128 x1 x3 x4 x5 x7 s0 1 x6 h
def lw_witnesses_b177 (q0 : Nat) (q2 : Nat) (k128 : Int → Int → Hp → O Int) (x1 x3 x4 x5 x6 x7 : Int) (h : Hp) : O Int :=
  lw_witnesses_b178 q0 q2 k128 x1 x3 x4 x5 x6 x7 0 h
def lw_witnesses_f128 (q0 : Nat) (q2 : Nat) (k9 : Int → Int → Hp → O Int) (x1 x3 x4 x5 : Int) (k128 : Int → Int → Hp → O Int) (x6 x7 : Int) (h : Hp) : O Int :=
  bd (dl_count q0 1 h) fun r1 h1 =>
  if x7 < r1 then
    bd (dl_dimension q0 x7 10 h1) fun r2 h2 =>
    if r2 < x5 then
      bd (dl_dimension q0 x7 0 h2) fun r3 h3 =>
      if r3 < x3 then
        bd (dl_dimension q0 x7 1 h3) fun r4 h4 =>
        if x3 < r4 then
          lw_witnesses_b178 q0 q2 k128 x1 x3 x4 x5 x6 x7 1 h4
        else
          lw_witnesses_b177 q0 q2 k128 x1 x3 x4 x5 x6 x7 h4
      else
        lw_witnesses_b177 q0 q2 k128 x1 x3 x4 x5 x6 x7 h3
    else
      lw_witnesses_b177 q0 q2 k128 x1 x3 x4 x5 x6 x7 h2
  else
    ck (x1 + x6) (
    bd (dl_point q0 x3 1 h1) fun r5 h5 =>
    if r5 = x4 then
      bd (dl_point q0 x3 2 h5) fun r6 h6 =>
      if r6 = x5 then
        bd (dl_point q0 x3 3 h6) fun r7 h7 =>
        if r7 = x6 then
          ck (x3 + 1) (
          k9 (x1 + x6) (x3 + 1) h7)
        else
          lw_witnesses_b256 q0 q2 h7
      else
        lw_witnesses_b256 q0 q2 h6
    else
      lw_witnesses_b256 q0 q2 h5)
def lw_witnesses_b114 (q0 : Nat) (q2 : Nat) (k29 : Int → Int → Int → Hp → O Int) (x1 x3 x4 x6 s0 : Int) (h : Hp) : O Int :=
  ck (x6 + 1) (
  k29 x4 s0 (x6 + 1) h)
def lw_witnesses_b112 (q0 : Nat) (q2 : Nat) (k29 : Int → Int → Int → Hp → O Int) (x1 x3 x4 x5 x6 : Int) (h : Hp) : O Int :=
  lw_witnesses_b114 q0 q2 k29 x1 x3 x4 x6 x5 h
def lw_witnesses_b80 (q0 : Nat) (q2 : Nat) (k29 : Int → Int → Int → Hp → O Int) (x1 x3 x5 x6 x7 s0 s1 : Int) (h : Hp) : O Int :=
  ck (s1 + s0) (
  if x7 = 0 then
    lw_witnesses_b112 q0 q2 k29 x1 x3 (s1 + s0) x5 x6 h
  else
    bd (dl_dimension q0 x6 10 h) fun r1 h1 =>
    if x5 < r1 then
      bd (dl_dimension q0 x6 10 h1) fun r2 h2 =>
      lw_witnesses_b114 q0 q2 k29 x1 x3 (s1 + s0) x6 r2 h2
    else
      lw_witnesses_b112 q0 q2 k29 x1 x3 (s1 + s0) x5 x6 h1)
def lw_witnesses_b66 (q0 : Nat) (q2 : Nat) (k29 : Int → Int → Int → Hp → O Int) (x1 x3 x4 x5 x6 s0 : Int) (h : Hp) : O Int :=
  if s0 = 0 then
    lw_witnesses_b80 q0 q2 k29 x1 x3 x5 x6 s0 0 x4 h
  else
    lw_witnesses_b80 q0 q2 k29 x1 x3 x5 x6 s0 1 x4 h
def lw_witnesses_b61 (q0 : Nat) (q2 : Nat) (k29 : Int → Int → Int → Hp → O Int) (x1 x3 x4 x5 x6 : Int) (h : Hp) : O Int :=
  lw_witnesses_b66 q0 q2 k29 x1 x3 x4 x5 x6 1 h
def lw_witnesses_f29 (q0 : Nat) (q2 : Nat) (k9 : Int → Int → Hp → O Int) (x1 x3 : Int) (k29 : Int → Int → Int → Hp → O Int) (x4 x5 x6 : Int) (h : Hp) : O Int :=
  bd (dl_count q0 1 h) fun r1 h1 =>
  if x6 < r1 then
    bd (dl_dimension q0 x6 0 h1) fun r2 h2 =>
    if r2 = x3 then
      lw_witnesses_b61 q0 q2 k29 x1 x3 x4 x5 x6 h2
    else
      bd (dl_dimension q0 x6 1 h2) fun r3 h3 =>
      if r3 = x3 then
        lw_witnesses_b61 q0 q2 k29 x1 x3 x4 x5 x6 h3
      else
        lw_witnesses_b66 q0 q2 k29 x1 x3 x4 x5 x6 0 h3
  else
    iter2 (lw_witnesses_f128 q0 q2 k9 x1 x3 x4 x5) fuel 0 0 h1
def lw_witnesses_f9 (q0 : Nat) (q2 : Nat) (k9 : Int → Int → Hp → O Int) (x1 x3 : Int) (h : Hp) : O Int :=
  bd (dl_count q0 0 h) fun r1 h1 =>
  if x3 < r1 then
    iter3 (lw_witnesses_f29 q0 q2 k9 x1 x3) fuel 0 (-999) 0 h1
  else
    iter1 (lw_witnesses_f266 q0 q2 x1) fuel 0 h1
def lw_witnesses_b7 (q0 : Nat) (q2 : Nat) (x1 : Int) (h : Hp) : O Int :=
  iter2 (lw_witnesses_f9 q0 q2) fuel x1 0 h
def lw_isSuperfluous_b93 (q0 : Nat) (x1 : Int) (q2 : Nat) (s0 : Int) (h : Hp) : O Int :=
  bz s0 (some (s0, h))
def lw_isSuperfluous_b92 (q0 : Nat) (x1 : Int) (q2 : Nat) (h : Hp) : O Int :=
  lw_isSuperfluous_b93 q0 x1 q2 0 h
def lw_isSuperfluous_b5 (q0 : Nat) (x1 : Int) (q2 : Nat) (h : Hp) : O Int :=
  bd (dl_dimension q0 x1 0 h) fun r1 h1 =>
  bd (dl_dimension q0 x1 1 h1) fun r2 h2 =>
  bd (lw_reach q0 r1 x1 (-1) q2 12 h2) fun _ h3 =>
  ix r2 12 (
  bd (lw_reach q0 r2 x1 (-1) q2 12 h3) fun _ h4 =>
  if h3 q2 r2 < 1000000 then
    bd (dl_dimension q0 x1 2 h4) fun r5 h5 =>
    bd (dl_dimension q0 x1 4 h5) fun r6 h6 =>
    ck (r5 + r6) (
    if r5 + r6 < h3 q2 r2 then
      lw_isSuperfluous_b92 q0 x1 q2 h6
    else
      ix r1 12 (
      ck (-(h6 q2 r1)) (
      bd (dl_dimension q0 x1 2 h6) fun r7 h7 =>
      bd (dl_dimension q0 x1 3 h7) fun r8 h8 =>
      ck (r7 - r8) (
      if -(h6 q2 r1) < r7 - r8 then
        lw_isSuperfluous_b92 q0 x1 q2 h8
      else
        lw_isSuperfluous_b93 q0 x1 q2 1 h8))))
  else
    lw_isSuperfluous_b92 q0 x1 q2 h4)
def lw_tolerances_b567 (q0 : Nat) (x1 : Int) (x2 : Int) (q3 : Nat) (q4 : Nat) (q5 : Nat) (x6 : Int) (s0 : Int) (h : Hp) : O Int :=
  bz s0 (some (s0, h))
def lw_tolerances_b541 (q0 : Nat) (x1 : Int) (x2 : Int) (q3 : Nat) (q4 : Nat) (q5 : Nat) (x6 : Int) (h : Hp) : O Int :=
  some (0, h)
def lw_tolerances_b519 (q0 : Nat) (x1 : Int) (x2 : Int) (q3 : Nat) (q4 : Nat) (q5 : Nat) (x6 : Int) (k426 : Int → Int → Int → Hp → O Int) (x8 x9 x10 x12 x13 s0 : Int) (h : Hp) : O Int :=
  bd (dl_ifExact q0 x12 x8 x9 h) fun r1 h1 =>
  if r1 = x13 then
    if x13 < 0 then
      lw_tolerances_b541 q0 x1 x2 q3 q4 q5 x6 h1
    else
      ck (x12 + 1) (
      k426 x10 s0 (x12 + 1) h1)
  else
    lw_tolerances_b541 q0 x1 x2 q3 q4 q5 x6 h1
def lw_tolerances_b503 (q0 : Nat) (x1 : Int) (x2 : Int) (q3 : Nat) (q4 : Nat) (q5 : Nat) (x6 : Int) (k426 : Int → Int → Int → Hp → O Int) (x8 x9 x11 x12 x13 s0 : Int) (h : Hp) : O Int :=
  if x11 < x13 then
    lw_tolerances_b519 q0 x1 x2 q3 q4 q5 x6 k426 x8 x9 s0 x12 x13 x13 h
  else
    lw_tolerances_b519 q0 x1 x2 q3 q4 q5 x6 k426 x8 x9 s0 x12 x13 x11 h
def lw_tolerances_f426 (q0 : Nat) (x1 : Int) (x2 : Int) (q3 : Nat) (q4 : Nat) (q5 : Nat) (x6 : Int) (x8 x9 : Int) (k426 : Int → Int → Int → Hp → O Int) (x10 x11 x12 : Int) (h : Hp) : O Int :=
  bd (dl_count q0 1 h) fun r1 h1 =>
  if x12 < r1 then
    bd (lw_reach q0 x8 (-1) x12 q3 12 h1) fun _ h2 =>
    bd (lw_reach q0 x9 (-1) x12 q5 12 h2) fun _ h3 =>
    bd (dl_distance q0 x8 x9 1 h3) fun r4 h4 =>
    bd (dl_distance q0 x8 x9 0 h4) fun r5 h5 =>
    ck (r4 - r5) (
    ix x9 12 (
    ck ((r4 - r5) - (h5 q3 x9)) (
    ix x8 12 (
    ck (((r4 - r5) - (h5 q3 x9)) - (h5 q5 x8)) (
    if x11 < ((r4 - r5) - (h5 q3 x9)) - (h5 q5 x8) then
      lw_tolerances_b503 q0 x1 x2 q3 q4 q5 x6 k426 x8 x9 x11 x12 (((r4 - r5) - (h5 q3 x9)) - (h5 q5 x8)) x12 h5
    else
      lw_tolerances_b503 q0 x1 x2 q3 q4 q5 x6 k426 x8 x9 x11 x12 (((r4 - r5) - (h5 q3 x9)) - (h5 q5 x8)) x10 h5)))))
  else
    bd (dl_critical q0 x8 x9 h1) fun r6 h6 =>
    if r6 = x10 then
      lw_tolerances_b567 q0 x1 x2 q3 q4 q5 x6 1 h6
    else
      lw_tolerances_b567 q0 x1 x2 q3 q4 q5 x6 0 h6
def lw_tolerances_b414 (q0 : Nat) (x1 : Int) (x2 : Int) (q3 : Nat) (q4 : Nat) (q5 : Nat) (x6 : Int) (s0 : Int) (h : Hp) : O Int :=
  bz s0 (some (s0, h))
def lw_tolerances_b406 (q0 : Nat) (x1 : Int) (x2 : Int) (q3 : Nat) (q4 : Nat) (q5 : Nat) (x6 : Int) (s0 s1 : Int) (h : Hp) : O Int :=
  if s1 = s0 then
    lw_tolerances_b414 q0 x1 x2 q3 q4 q5 x6 1 h
  else
    lw_tolerances_b414 q0 x1 x2 q3 q4 q5 x6 0 h
def lw_tolerances_b384 (q0 : Nat) (x1 : Int) (x2 : Int) (q3 : Nat) (q4 : Nat) (q5 : Nat) (x6 : Int) (x8 x9 : Int) (h : Hp) : O Int :=
  bd (dl_critical q0 x8 x9 h) fun r1 h1 =>
  if x8 = x9 then
    lw_tolerances_b406 q0 x1 x2 q3 q4 q5 x6 (-1) r1 h1
  else
    lw_tolerances_b406 q0 x1 x2 q3 q4 q5 x6 (-999) r1 h1
def lw_tolerances_b344 (q0 : Nat) (x1 : Int) (x2 : Int) (q3 : Nat) (q4 : Nat) (q5 : Nat) (x6 : Int) (h : Hp) : O Int :=
  some (0, h)
def lw_tolerances_b291 (q0 : Nat) (x1 : Int) (x2 : Int) (q3 : Nat) (q4 : Nat) (q5 : Nat) (x6 : Int) (k97 : Int → Int → Hp → O Int) (x8 s0 s1 : Int) (h : Hp) : O Int :=
  ck (s1 + s0) (
  ck (x8 + 1) (
  k97 (s1 + s0) (x8 + 1) h))
def lw_tolerances_b274 (q0 : Nat) (x1 : Int) (x2 : Int) (q3 : Nat) (q4 : Nat) (q5 : Nat) (x6 : Int) (k97 : Int → Int → Hp → O Int) (x7 x8 x9 s0 s1 : Int) (h : Hp) : O Int :=
  if s1 = s0 then
    if x9 < 0 then
      lw_tolerances_b291 q0 x1 x2 q3 q4 q5 x6 k97 x8 1 x7 h
    else
      lw_tolerances_b291 q0 x1 x2 q3 q4 q5 x6 k97 x8 0 x7 h
  else
    some (0, h)
def lw_tolerances_b249 (q0 : Nat) (x1 : Int) (x2 : Int) (q3 : Nat) (q4 : Nat) (q5 : Nat) (x6 : Int) (k118 : Int → Int → Hp → O Int) (x7 x8 x9 x10 : Int) (h : Hp) : O Int :=
  ck (x10 + 1) (
  k118 x9 (x10 + 1) h)
def lw_tolerances_b247 (q0 : Nat) (x1 : Int) (x2 : Int) (q3 : Nat) (q4 : Nat) (q5 : Nat) (x6 : Int) (h : Hp) : O Int :=
  some (0, h)
def lw_tolerances_b244 (q0 : Nat) (x1 : Int) (x2 : Int) (q3 : Nat) (q4 : Nat) (q5 : Nat) (x6 : Int) (k118 : Int → Int → Hp → O Int) (x7 x8 x9 x10 s0 s1 : Int) (h : Hp) : O Int :=
  if s1 = s0 then
    lw_tolerances_b249 q0 x1 x2 q3 q4 q5 x6 k118 x7 x8 x9 x10 h
  else
    lw_tolerances_b247 q0 x1 x2 q3 q4 q5 x6 h
def lw_tolerances_b215 (q0 : Nat) (x1 : Int) (x2 : Int) (q3 : Nat) (q4 : Nat) (q5 : Nat) (x6 : Int) (k118 : Int → Int → Hp → O Int) (x7 x8 x9 x10 x11 s0 s1 : Int) (h : Hp) : O Int :=
  if s1 = s0 then
    bd (dl_distance q0 x8 x10 0 h) fun r1 h1 =>
    if x11 = 0 then
      lw_tolerances_b244 q0 x1 x2 q3 q4 q5 x6 k118 x7 x8 x9 x10 (-999) r1 h1
    else
      ix x8 12 (
      ck (-(h1 q4 x8)) (
      lw_tolerances_b244 q0 x1 x2 q3 q4 q5 x6 k118 x7 x8 x9 x10 (-(h1 q4 x8)) r1 h1))
  else
    lw_tolerances_b247 q0 x1 x2 q3 q4 q5 x6 h
def lw_tolerances_b189 (q0 : Nat) (x1 : Int) (x2 : Int) (q3 : Nat) (q4 : Nat) (q5 : Nat) (x6 : Int) (k118 : Int → Int → Hp → O Int) (x7 x8 x10 x11 s0 : Int) (h : Hp) : O Int :=
  bd (dl_distance q0 x8 x10 1 h) fun r1 h1 =>
  if x11 = 0 then
    lw_tolerances_b215 q0 x1 x2 q3 q4 q5 x6 k118 x7 x8 s0 x10 x11 (-999) r1 h1
  else
    ix x10 12 (
    lw_tolerances_b215 q0 x1 x2 q3 q4 q5 x6 k118 x7 x8 s0 x10 x11 (h1 q3 x10) r1 h1)
def lw_tolerances_b187 (q0 : Nat) (x1 : Int) (x2 : Int) (q3 : Nat) (q4 : Nat) (q5 : Nat) (x6 : Int) (k118 : Int → Int → Hp → O Int) (x7 x8 x9 x10 x11 : Int) (h : Hp) : O Int :=
  lw_tolerances_b189 q0 x1 x2 q3 q4 q5 x6 k118 x7 x8 x10 x11 x9 h
def lw_tolerances_b158 (q0 : Nat) (x1 : Int) (x2 : Int) (q3 : Nat) (q4 : Nat) (q5 : Nat) (x6 : Int) (k118 : Int → Int → Hp → O Int) (x7 x8 x9 x10 s0 : Int) (h : Hp) : O Int :=
  if s0 = 0 then
    lw_tolerances_b187 q0 x1 x2 q3 q4 q5 x6 k118 x7 x8 x9 x10 s0 h
  else
    if x10 < x8 then
      if x9 < 0 then
        bd (dl_point q0 x10 4 h) fun r1 h1 =>
        lw_tolerances_b189 q0 x1 x2 q3 q4 q5 x6 k118 x7 x8 x10 s0 r1 h1
      else
        lw_tolerances_b187 q0 x1 x2 q3 q4 q5 x6 k118 x7 x8 x9 x10 s0 h
    else
      lw_tolerances_b187 q0 x1 x2 q3 q4 q5 x6 k118 x7 x8 x9 x10 s0 h
def lw_tolerances_f118 (q0 : Nat) (x1 : Int) (x2 : Int) (q3 : Nat) (q4 : Nat) (q5 : Nat) (x6 : Int) (k97 : Int → Int → Hp → O Int) (x7 x8 : Int) (k118 : Int → Int → Hp → O Int) (x9 x10 : Int) (h : Hp) : O Int :=
  if x10 < x2 then
    if x8 = x10 then
      lw_tolerances_b249 q0 x1 x2 q3 q4 q5 x6 k118 x7 x8 x9 x10 h
    else
      bd (lw_reach q0 x10 (-1) (-1) q4 12 h) fun _ h1 =>
      ix x10 12 (
      if h1 q3 x10 < 1000000 then
        lw_tolerances_b158 q0 x1 x2 q3 q4 q5 x6 k118 x7 x8 x9 x10 1 h1
      else
        lw_tolerances_b158 q0 x1 x2 q3 q4 q5 x6 k118 x7 x8 x9 x10 0 h1)
  else
    bd (dl_point q0 x8 4 h) fun r2 h2 =>
    if x9 < 0 then
      lw_tolerances_b274 q0 x1 x2 q3 q4 q5 x6 k97 x7 x8 x9 x7 r2 h2
    else
      lw_tolerances_b274 q0 x1 x2 q3 q4 q5 x6 k97 x7 x8 x9 x9 r2 h2
def lw_tolerances_f97 (q0 : Nat) (x1 : Int) (x2 : Int) (q3 : Nat) (q4 : Nat) (q5 : Nat) (x6 : Int) (k97 : Int → Int → Hp → O Int) (x7 x8 : Int) (h : Hp) : O Int :=
  if x8 < x2 then
    bd (lw_reach q0 x8 (-1) (-1) q3 12 h) fun _ h1 =>
    iter2 (lw_tolerances_f118 q0 x1 x2 q3 q4 q5 x6 k97 x7 x8) fuel (-1) 0 h1
  else
    bd (dl_count q0 5 h) fun r2 h2 =>
    if r2 = x7 then
      bd (dl_count q0 6 h2) fun r3 h3 =>
      if r3 = x6 then
        bd (dl_needed q0 h3) fun r4 h4 =>
        ck (x2 - x7) (
        if r4 < x2 - x7 then
          lw_tolerances_b344 q0 x1 x2 q3 q4 q5 x6 h4
        else
          bd (dl_needed q0 h4) fun r5 h5 =>
          bd (dl_count q0 1 h5) fun r6 h6 =>
          if r6 < r5 then
            lw_tolerances_b344 q0 x1 x2 q3 q4 q5 x6 h6
          else
            bd (lw_low x1 x2 h6) fun r7 h7 =>
            bd (lw_low (x1 / 16) x2 h7) fun r8 h8 =>
            if r7 = r8 then
              lw_tolerances_b384 q0 x1 x2 q3 q4 q5 x6 r7 r8 h8
            else
              bd (dl_distance q0 r7 r8 1 h8) fun r9 h9 =>
              if r9 = (-999) then
                lw_tolerances_b384 q0 x1 x2 q3 q4 q5 x6 r7 r8 h9
              else
                iter3 (lw_tolerances_f426 q0 x1 x2 q3 q4 q5 x6 r7 r8) fuel (-999) (-1) 0 h9)
      else
        lw_tolerances_b344 q0 x1 x2 q3 q4 q5 x6 h3
    else
      lw_tolerances_b344 q0 x1 x2 q3 q4 q5 x6 h2
def lw_tolerances_b91 (q0 : Nat) (x1 : Int) (x2 : Int) (q3 : Nat) (q4 : Nat) (q5 : Nat) (x6 : Int) (h : Hp) : O Int :=
  iter2 (lw_tolerances_f97 q0 x1 x2 q3 q4 q5 x6) fuel 0 0 h
def lw_tol2_b80 (q0 : Nat) (x1 : Int) (x2 : Int) (q3 : Nat) (q4 : Nat) (q5 : Nat) (k29 : Int → Int → Hp → O Int) (x6 x7 s0 s1 : Int) (h : Hp) : O Int :=
  if s1 = s0 then
    ck (x7 + 1) (
    k29 x6 (x7 + 1) h)
  else
    some (0, h)
def lw_tol2_b59 (q0 : Nat) (x1 : Int) (x2 : Int) (q3 : Nat) (q4 : Nat) (q5 : Nat) (k29 : Int → Int → Hp → O Int) (x7 x8 s0 s1 : Int) (h : Hp) : O Int :=
  ck (s1 + s0) (
  bd (dl_dimension q0 x7 11 h) fun r1 h1 =>
  if x8 = 0 then
    lw_tol2_b80 q0 x1 x2 q3 q4 q5 k29 (s1 + s0) x7 0 r1 h1
  else
    lw_tol2_b80 q0 x1 x2 q3 q4 q5 k29 (s1 + s0) x7 1 r1 h1)
def lw_tol2_b45 (q0 : Nat) (x1 : Int) (x2 : Int) (q3 : Nat) (q4 : Nat) (q5 : Nat) (k29 : Int → Int → Hp → O Int) (x6 x7 s0 : Int) (h : Hp) : O Int :=
  if s0 = 0 then
    lw_tol2_b59 q0 x1 x2 q3 q4 q5 k29 x7 s0 0 x6 h
  else
    lw_tol2_b59 q0 x1 x2 q3 q4 q5 k29 x7 s0 1 x6 h
def lw_law_f111 (X : Nat) (L : Nat) (xs : Nat → Int32) (k136 : Hp → O Int) (k111 : Int → Hp → O Int) (x3 : Int) (h : Hp) : O Int :=
  bd (dl_count X 1 h) fun r1 h1 =>
  if x3 < r1 then
    bd (lw_fitted X x3 h1) fun r2 h2 =>
    if r2 = 0 then
      some (0, h2)
    else
      ck (x3 + 1) (
      k111 (x3 + 1) h2)
  else
    k136 h1
def lw_law_b109 (X : Nat) (L : Nat) (xs : Nat → Int32) (k136 : Hp → O Int) (h : Hp) : O Int :=
  iter1 (lw_law_f111 X L xs k136) fuel 0 h
def lw_law_b107 (X : Nat) (L : Nat) (xs : Nat → Int32) (h : Hp) : O Int :=
  some (0, h)
def lw_law_b77 (X : Nat) (L : Nat) (xs : Nat → Int32) (k136 : Hp → O Int) (x2 : Int) (h : Hp) : O Int :=
  bd (lw_low (x2 / 64) 3 h) fun r1 h1 =>
  if r1 = 0 then
    bd (lw_low (x2 / 256) 9 h1) fun r2 h2 =>
    ck (1 + r2) (
    bd (dl_setLetter X (1 + r2) h2) fun r3 h3 =>
    if r3 = 4 then
      lw_law_b109 X L xs k136 h3
    else
      lw_law_b107 X L xs h3)
  else
    lw_law_b109 X L xs k136 h1
def lw_law_b8 (X : Nat) (L : Nat) (xs : Nat → Int32) (k136 : Hp → O Int) (h : Hp) : O Int :=
  bd (lw_cell L xs 0 h) fun r1 h1 =>
  bd (lw_low r1 5 h1) fun r2 h2 =>
  ck (2 + r2) (
  bd (lw_cell L xs 0 h2) fun r3 h3 =>
  bd (lw_low (r3 / 16) 8 h3) fun r4 h4 =>
  ck (1 + r4) (
  bd (lw_drawing X L xs 1 (2 + r2) (1 + r4) h4) fun r5 h5 =>
  if r5 = 0 then
    some (0, h5)
  else
    bd (lw_cell L xs 30 h5) fun r6 h6 =>
    bd (lw_low r6 3 h6) fun r7 h7 =>
    if r7 = 0 then
      bd (lw_low (r6 / 4) 9 h7) fun r8 h8 =>
      ck (1 + r8) (
      bd (dl_setArrow X (1 + r8) h8) fun r9 h9 =>
      if r9 = 3 then
        lw_law_b77 X L xs k136 r6 h9
      else
        lw_law_b107 X L xs h9)
    else
      lw_law_b77 X L xs k136 r6 h7))
def lw_law_b289 (X : Nat) (L : Nat) (xs : Nat → Int32) (s0 : Int) (h : Hp) : O Int :=
  some (s0, h)
def lw_law_b288 (X : Nat) (L : Nat) (xs : Nat → Int32) (h : Hp) : O Int :=
  lw_law_b289 X L xs 0 h
def lw_law_b252 (X : Nat) (L : Nat) (xs : Nat → Int32) (k179 : Int → Hp → O Int) (x3 x4 : Int) (h : Hp) : O Int :=
  ck (x4 + (-1)) (
  k179 (x4 + (-1)) h)
def lw_law_b250 (X : Nat) (L : Nat) (xs : Nat → Int32) (h : Hp) : O Int :=
  some (0, h)
def lw_law_b201 (X : Nat) (L : Nat) (xs : Nat → Int32) (k179 : Int → Hp → O Int) (x3 x4 s0 : Int) (h : Hp) : O Int :=
  bd (dl_count X 0 h) fun r1 h1 =>
  ck (r1 - 1) (
  bd (dl_distance X 0 (r1 - 1) 1 h1) fun r2 h2 =>
  if s0 = 0 then
    lw_law_b252 X L xs k179 x3 x4 h2
  else
    bd (dl_drop X x4 h2) fun r3 h3 =>
    if r3 < 0 then
      lw_law_b250 X L xs h3
    else
      bd (dl_count X 0 h3) fun r4 h4 =>
      ck (r4 - 1) (
      bd (dl_distance X 0 (r4 - 1) 1 h4) fun r5 h5 =>
      if r5 = r2 then
        lw_law_b252 X L xs k179 x3 x4 h5
      else
        lw_law_b250 X L xs h5))
def lw_law_f179 (X : Nat) (L : Nat) (xs : Nat → Int32) (x3 : Int) (k179 : Int → Hp → O Int) (x4 : Int) (h : Hp) : O Int :=
  if x4 < 0 then
    bd (dl_count X 1 h) fun r1 h1 =>
    if r1 = x3 then
      bd (dl_count X 6 h1) fun r2 h2 =>
      if r2 = 0 then
        bd (dl_needed X h2) fun r3 h3 =>
        if r3 = x3 then
          lw_law_b289 X L xs 1 h3
        else
          lw_law_b288 X L xs h3
      else
        lw_law_b288 X L xs h2
    else
      lw_law_b288 X L xs h1
  else
    bd (dl_dimension X x4 11 h) fun r4 h4 =>
    if r4 = 1 then
      lw_law_b201 X L xs k179 x3 x4 1 h4
    else
      lw_law_b201 X L xs k179 x3 x4 0 h4
def lw_law_b165 (X : Nat) (L : Nat) (xs : Nat → Int32) (h : Hp) : O Int :=
  bd (dl_needed X h) fun r1 h1 =>
  bd (dl_count X 1 h1) fun r2 h2 =>
  ck (r2 - 1) (
  iter1 (lw_law_f179 X L xs r1) fuel (r2 - 1) h2)

def lw_cell_b19 (L : Nat) (xs : Nat → Int32) (p1 : Int) (s0 : Int) (h : Hp) : O Int :=
  some (s0, h)
def lw_cell (L : Nat) (xs : Nat → Int32) (p1 : Int) (h : Hp) : O Int :=
  if p1 < (L : Int) then
    ix p1 L (
    lw_cell_b19 L xs p1 ((xs p1.toNat).toInt) h)
  else
    lw_cell_b19 L xs p1 (wr ((wr (86028157 * p1)) + 32452843)) h
def lw_low (p0 : Int) (p1 : Int) (h : Hp) : O Int :=
  dv (p0 % 2147483648) p1 (
  some ((p0 % 2147483648) % p1, h))
def lw_drawing_b432 (q0 : Nat) (L : Nat) (xs : Nat → Int32) (p2 : Int) (p3 : Int) (p4 : Int) (s0 : Int) (h : Hp) : O Int :=
  bz s0 (some (s0, h))
def lw_drawing_b431 (q0 : Nat) (L : Nat) (xs : Nat → Int32) (p2 : Int) (p3 : Int) (p4 : Int) (h : Hp) : O Int :=
  lw_drawing_b432 q0 L xs p2 p3 p4 0 h
def lw_drawing_b401 (q0 : Nat) (L : Nat) (xs : Nat → Int32) (p2 : Int) (p3 : Int) (p4 : Int) (k181 : Int → Int → Hp → O Int) (x6 x7 x8 : Int) (h : Hp) : O Int :=
  ck (x8 + 1) (
  k181 x7 (x8 + 1) h)
def lw_drawing_b396 (q0 : Nat) (L : Nat) (xs : Nat → Int32) (p2 : Int) (p3 : Int) (p4 : Int) (h : Hp) : O Int :=
  some (0, h)
def lw_drawing_b390 (q0 : Nat) (L : Nat) (xs : Nat → Int32) (p2 : Int) (p3 : Int) (p4 : Int) (k181 : Int → Int → Hp → O Int) (x6 x7 x8 s0 s1 : Int) (h : Hp) : O Int :=
  bd (dl_setLeast q0 s1 s0 h) fun r1 h1 =>
  if r1 = 0 then
    ck (x7 + 1) (
    lw_drawing_b401 q0 L xs p2 p3 p4 k181 x6 (x7 + 1) x8 h1)
  else
    lw_drawing_b396 q0 L xs p2 p3 p4 h1
def lw_drawing_b310 (q0 : Nat) (L : Nat) (xs : Nat → Int32) (p2 : Int) (p3 : Int) (p4 : Int) (k181 : Int → Int → Hp → O Int) (x6 x7 x8 x9 s0 : Int) (h : Hp) : O Int :=
  bd (lw_low (x9 / 32768) 6 h) fun r1 h1 =>
  bd (dl_setTolerance q0 x7 s0 r1 h1) fun r2 h2 =>
  if r2 = 0 then
    bd (lw_low (x9 / 262144) 2 h2) fun r3 h3 =>
    bd (lw_low (x9 / 524288) 3 h3) fun r4 h4 =>
    ck (r3 * r4) (
    bd (dl_setChain q0 x7 (r3 * r4) h4) fun r5 h5 =>
    if r5 = 0 then
      bd (lw_low (x9 / 4194304) 6 h5) fun r6 h6 =>
      if r6 = 0 then
        bd (lw_low (x9 / 16777216) 4 h6) fun r7 h7 =>
        lw_drawing_b390 q0 L xs p2 p3 p4 k181 x6 x7 x8 r7 x7 h7
      else
        lw_drawing_b390 q0 L xs p2 p3 p4 k181 x6 x7 x8 0 x7 h6
    else
      lw_drawing_b396 q0 L xs p2 p3 p4 h5)
  else
    lw_drawing_b396 q0 L xs p2 p3 p4 h2
def lw_drawing_b264 (q0 : Nat) (L : Nat) (xs : Nat → Int32) (p2 : Int) (p3 : Int) (p4 : Int) (k181 : Int → Int → Hp → O Int) (x6 x7 x8 x9 x10 x11 s0 s1 : Int) (h : Hp) : O Int :=
  if s1 = s0 then
    if x10 = x11 then
      lw_drawing_b401 q0 L xs p2 p3 p4 k181 x6 x7 x8 h
    else
      bd (lw_low (x9 / 1024) 3 h) fun r1 h1 =>
      if r1 = 0 then
        bd (lw_low (x9 / 4096) 21 h1) fun r2 h2 =>
        lw_drawing_b310 q0 L xs p2 p3 p4 k181 x6 x7 x8 x9 r2 h2
      else
        bd (lw_low (x9 / 4096) 4 h1) fun r3 h3 =>
        lw_drawing_b310 q0 L xs p2 p3 p4 k181 x6 x7 x8 x9 r3 h3
  else
    some (0, h)
def lw_drawing_b241 (q0 : Nat) (L : Nat) (xs : Nat → Int32) (p2 : Int) (p3 : Int) (p4 : Int) (k181 : Int → Int → Hp → O Int) (x6 x7 x8 x9 x10 s0 : Int) (h : Hp) : O Int :=
  bd (dl_add q0 x10 s0 h) fun r1 h1 =>
  if x10 = s0 then
    lw_drawing_b264 q0 L xs p2 p3 p4 k181 x6 x7 x8 x9 x10 s0 (-1) r1 h1
  else
    lw_drawing_b264 q0 L xs p2 p3 p4 k181 x6 x7 x8 x9 x10 s0 x7 r1 h1
def lw_drawing_f181 (q0 : Nat) (L : Nat) (xs : Nat → Int32) (p2 : Int) (p3 : Int) (p4 : Int) (x6 : Int) (k181 : Int → Int → Hp → O Int) (x7 x8 : Int) (h : Hp) : O Int :=
  if x8 < p4 then
    ck (p2 + 13) (
    ck ((p2 + 13) + x8) (
    bd (lw_cell L xs ((p2 + 13) + x8) h) fun r1 h1 =>
    bd (lw_low r1 x6 h1) fun r2 h2 =>
    bd (lw_low (r1 / 16) 3 h2) fun r3 h3 =>
    if r3 = 0 then
      bd (lw_low (r1 / 64) x6 h3) fun r4 h4 =>
      lw_drawing_b241 q0 L xs p2 p3 p4 k181 x6 x7 x8 r1 r2 r4 h4
    else
      ck (r2 + 1) (
      dv (r2 + 1) x6 (
      lw_drawing_b241 q0 L xs p2 p3 p4 k181 x6 x7 x8 r1 r2 ((r2 + 1) % x6) h3))))
  else
    bd (dl_count q0 0 h) fun r5 h5 =>
    if r5 = x6 then
      bd (dl_count q0 1 h5) fun r6 h6 =>
      if r6 = x7 then
        lw_drawing_b432 q0 L xs p2 p3 p4 1 h6
      else
        lw_drawing_b431 q0 L xs p2 p3 p4 h6
    else
      lw_drawing_b431 q0 L xs p2 p3 p4 h5
def lw_drawing_b175 (q0 : Nat) (L : Nat) (xs : Nat → Int32) (p2 : Int) (p3 : Int) (p4 : Int) (x6 : Int) (h : Hp) : O Int :=
  iter2 (lw_drawing_f181 q0 L xs p2 p3 p4 x6) fuel 0 0 h
def lw_drawing_b166 (q0 : Nat) (L : Nat) (xs : Nat → Int32) (p2 : Int) (p3 : Int) (p4 : Int) (k13 : Int → Int → Hp → O Int) (x5 x7 s0 s1 : Int) (h : Hp) : O Int :=
  ck (s1 + s0) (
  ck (x7 + 1) (
  k13 (s1 + s0) (x7 + 1) h))
def lw_drawing_b149 (q0 : Nat) (L : Nat) (xs : Nat → Int32) (p2 : Int) (p3 : Int) (p4 : Int) (k13 : Int → Int → Hp → O Int) (x5 x6 x7 x11 s0 s1 : Int) (h : Hp) : O Int :=
  if s1 = s0 then
    if x11 = 0 then
      lw_drawing_b166 q0 L xs p2 p3 p4 k13 x5 x7 1 x6 h
    else
      lw_drawing_b166 q0 L xs p2 p3 p4 k13 x5 x7 0 x6 h
  else
    some (0, h)
def lw_drawing_b123 (q0 : Nat) (L : Nat) (xs : Nat → Int32) (p2 : Int) (p3 : Int) (p4 : Int) (k72 : Int → Int → Int → Hp → O Int) (x5 x6 x7 x9 x10 x12 s0 : Int) (h : Hp) : O Int :=
  ck (x12 + 1) (
  k72 x10 s0 (x12 + 1) h)
def lw_drawing_b118 (q0 : Nat) (L : Nat) (xs : Nat → Int32) (p2 : Int) (p3 : Int) (p4 : Int) (k72 : Int → Int → Int → Hp → O Int) (x5 x6 x7 x9 x10 x12 : Int) (h : Hp) : O Int :=
  lw_drawing_b123 q0 L xs p2 p3 p4 k72 x5 x6 x7 x9 x10 x12 1 h
def lw_drawing_b98 (q0 : Nat) (L : Nat) (xs : Nat → Int32) (p2 : Int) (p3 : Int) (p4 : Int) (k72 : Int → Int → Int → Hp → O Int) (x5 x6 x7 x9 x11 x12 s0 s1 : Int) (h : Hp) : O Int :=
  ck (s1 + s0) (
  if x11 = 0 then
    bd (dl_point q0 x12 0 h) fun r1 h1 =>
    if r1 = x9 then
      lw_drawing_b118 q0 L xs p2 p3 p4 k72 x5 x6 x7 x9 (s1 + s0) x12 h1
    else
      lw_drawing_b123 q0 L xs p2 p3 p4 k72 x5 x6 x7 x9 (s1 + s0) x12 0 h1
  else
    lw_drawing_b118 q0 L xs p2 p3 p4 k72 x5 x6 x7 x9 (s1 + s0) x12 h)
def lw_drawing_f72 (q0 : Nat) (L : Nat) (xs : Nat → Int32) (p2 : Int) (p3 : Int) (p4 : Int) (k13 : Int → Int → Hp → O Int) (x5 x6 x7 x9 : Int) (k72 : Int → Int → Int → Hp → O Int) (x10 x11 x12 : Int) (h : Hp) : O Int :=
  if x12 < x6 then
    bd (dl_point q0 x12 0 h) fun r1 h1 =>
    if r1 < x9 then
      lw_drawing_b98 q0 L xs p2 p3 p4 k72 x5 x6 x7 x9 x11 x12 1 x10 h1
    else
      lw_drawing_b98 q0 L xs p2 p3 p4 k72 x5 x6 x7 x9 x11 x12 0 x10 h1
  else
    bd (dl_addPoint q0 x9 h) fun r2 h2 =>
    if x11 = 0 then
      lw_drawing_b149 q0 L xs p2 p3 p4 k13 x5 x6 x7 x11 x10 r2 h2
    else
      lw_drawing_b149 q0 L xs p2 p3 p4 k13 x5 x6 x7 x11 (-2) r2 h2
def lw_drawing_b58 (q0 : Nat) (L : Nat) (xs : Nat → Int32) (p2 : Int) (p3 : Int) (p4 : Int) (k13 : Int → Int → Hp → O Int) (x5 x6 x7 s0 s1 : Int) (h : Hp) : O Int :=
  bd (lw_low s1 s0 h) fun r1 h1 =>
  iter3 (lw_drawing_f72 q0 L xs p2 p3 p4 k13 x5 x6 x7 r1) fuel 0 0 0 h1
def lw_drawing_f13 (q0 : Nat) (L : Nat) (xs : Nat → Int32) (p2 : Int) (p3 : Int) (p4 : Int) (x5 : Int) (k13 : Int → Int → Hp → O Int) (x6 x7 : Int) (h : Hp) : O Int :=
  ck (2 * p3) (
  if x7 < 2 * p3 then
    if x6 < p3 then
      ck (p2 + 1) (
      ck ((p2 + 1) + x7) (
      bd (lw_cell L xs ((p2 + 1) + x7) h) fun r1 h1 =>
      bd (lw_low x5 3 h1) fun r2 h2 =>
      if r2 = 0 then
        lw_drawing_b58 q0 L xs p2 p3 p4 k13 x5 x6 x7 301 r1 h2
      else
        lw_drawing_b58 q0 L xs p2 p3 p4 k13 x5 x6 x7 50 r1 h2))
    else
      lw_drawing_b175 q0 L xs p2 p3 p4 x6 h
  else
    lw_drawing_b175 q0 L xs p2 p3 p4 x6 h)
def lw_drawing (q0 : Nat) (L : Nat) (xs : Nat → Int32) (p2 : Int) (p3 : Int) (p4 : Int) (h : Hp) : O Int :=
  bd (lw_cell L xs p2 h) fun r1 h1 =>
  iter2 (lw_drawing_f13 q0 L xs p2 p3 p4 r1) fuel 0 0 h1
def lw_position (q0 : Nat) (p1 : Int) (p2 : Int) (h : Hp) : O Int :=
  bd (dl_dimension q0 p1 p2 h) fun r1 h1 =>
  bd (dl_point q0 r1 0 h1) fun r2 h2 =>
  some (r2, h2)
def lw_fitted_b183 (q0 : Nat) (p1 : Int) (s0 : Int) (h : Hp) : O Int :=
  bz s0 (some (s0, h))
def lw_fitted_b182 (q0 : Nat) (p1 : Int) (h : Hp) : O Int :=
  lw_fitted_b183 q0 p1 0 h
def lw_fitted_b174 (q0 : Nat) (p1 : Int) (s0 s1 s2 : Int) (h : Hp) : O Int :=
  ck (s1 + s0) (
  if s2 = s1 + s0 then
    lw_fitted_b183 q0 p1 1 h
  else
    lw_fitted_b182 q0 p1 h)
def lw_fitted_b107 (q0 : Nat) (p1 : Int) (x2 x3 x4 x6 x8 s0 : Int) (h : Hp) : O Int :=
  if 0 < x4 then
    bd (dl_dimension q0 p1 2 h) fun r1 h1 =>
    if r1 = x4 then
      bd (dl_dimension q0 p1 7 h1) fun r2 h2 =>
      if r2 = x8 then
        bd (dl_dimension q0 p1 8 h2) fun r3 h3 =>
        ck (x2 - s0) (
        if r3 = x2 - s0 then
          bd (dl_dimension q0 p1 9 h3) fun r4 h4 =>
          ck (x3 + s0) (
          if x8 = 2 then
            lw_fitted_b174 q0 p1 x6 (x3 + s0) r4 h4
          else
            lw_fitted_b174 q0 p1 0 (x3 + s0) r4 h4)
        else
          lw_fitted_b182 q0 p1 h3)
      else
        lw_fitted_b182 q0 p1 h2
    else
      lw_fitted_b182 q0 p1 h1
  else
    lw_fitted_b182 q0 p1 h
def lw_fitted_b94 (q0 : Nat) (p1 : Int) (x2 x3 x4 x6 x7 s0 : Int) (h : Hp) : O Int :=
  if s0 = 0 then
    lw_fitted_b107 q0 p1 x2 x3 x4 x6 s0 0 h
  else
    lw_fitted_b107 q0 p1 x2 x3 x4 x6 s0 x7 h
def lw_fitted_f29 (q0 : Nat) (p1 : Int) (x2 x3 x4 : Int) (k29 : Int → Int → Hp → O Int) (x5 x6 : Int) (h : Hp) : O Int :=
  if 0 < x6 then
    ck (x5 + 1) (
    dv x6 10 (
    k29 (x5 + 1) (x6 / 10) h))
  else
    bd (dl_count q0 7 h) fun r1 h1 =>
    ck (x5 * r1) (
    bd (dl_count q0 8 h1) fun r2 h2 =>
    ck (2 * r2) (
    ck ((x5 * r1) + (2 * r2)) (
    if x4 < (x5 * r1) + (2 * r2) then
      if x4 < x5 * r1 then
        lw_fitted_b94 q0 p1 x2 x3 x4 (x5 * r1) r2 2 h2
      else
        lw_fitted_b94 q0 p1 x2 x3 x4 (x5 * r1) r2 1 h2
    else
      lw_fitted_b94 q0 p1 x2 x3 x4 (x5 * r1) r2 0 h2)))
def lw_fitted (q0 : Nat) (p1 : Int) (h : Hp) : O Int :=
  bd (lw_position q0 p1 0 h) fun r1 h1 =>
  bd (lw_position q0 p1 1 h1) fun r2 h2 =>
  ck (r2 - r1) (
  dv (r2 - r1) 10 (
  iter2 (lw_fitted_f29 q0 p1 r1 r2 (r2 - r1)) fuel 1 ((r2 - r1) / 10) h2))
def lw_unit_b37 (q0 : Nat) (p1 : Int) (x3 : Int) (h : Hp) : O Int :=
  some (x3, h)
def lw_unit_b31 (q0 : Nat) (p1 : Int) (k9 : Int → Hp → O Int) (x2 x3 : Int) (h : Hp) : O Int :=
  ck (x3 + 1) (
  k9 (x3 + 1) h)
def lw_unit_f9 (q0 : Nat) (p1 : Int) (x2 : Int) (k9 : Int → Hp → O Int) (x3 : Int) (h : Hp) : O Int :=
  if 0 < x2 then
    bd (dl_dimension q0 x3 5 h) fun r1 h1 =>
    if r1 = x2 then
      lw_unit_b37 q0 p1 x3 h1
    else
      lw_unit_b31 q0 p1 k9 x2 x3 h1
  else
    if x3 = p1 then
      lw_unit_b37 q0 p1 x3 h
    else
      lw_unit_b31 q0 p1 k9 x2 x3 h
def lw_unit (q0 : Nat) (p1 : Int) (h : Hp) : O Int :=
  bd (dl_dimension q0 p1 5 h) fun r1 h1 =>
  iter1 (lw_unit_f9 q0 p1 r1) fuel 0 h1
def lw_span_b92 (q0 : Nat) (p1 : Int) (p2 : Int) (k15 : Int → Int → Hp → O Int) (x3 x4 : Int) (h : Hp) : O Int :=
  ck (x4 + 1) (
  k15 x3 (x4 + 1) h)
def lw_span_b91 (q0 : Nat) (p1 : Int) (p2 : Int) (k15 : Int → Int → Hp → O Int) (x4 s0 : Int) (h : Hp) : O Int :=
  lw_span_b92 q0 p1 p2 k15 s0 x4 h
def lw_span_b58 (q0 : Nat) (p1 : Int) (p2 : Int) (k15 : Int → Int → Hp → O Int) (x3 x4 s0 : Int) (h : Hp) : O Int :=
  if p2 = 0 then
    if s0 < x3 then
      lw_span_b91 q0 p1 p2 k15 x4 s0 h
    else
      lw_span_b91 q0 p1 p2 k15 x4 x3 h
  else
    if x3 < s0 then
      lw_span_b91 q0 p1 p2 k15 x4 s0 h
    else
      lw_span_b91 q0 p1 p2 k15 x4 x3 h
def lw_span_f15 (q0 : Nat) (p1 : Int) (p2 : Int) (k15 : Int → Int → Hp → O Int) (x3 x4 : Int) (h : Hp) : O Int :=
  bd (dl_count q0 1 h) fun r1 h1 =>
  if x4 < r1 then
    bd (lw_unit q0 x4 h1) fun r2 h2 =>
    if r2 = p1 then
      if p2 = 2 then
        bd (dl_dimension q0 x4 6 h2) fun r3 h3 =>
        lw_span_b58 q0 p1 p2 k15 x3 x4 r3 h3
      else
        bd (lw_position q0 x4 p2 h2) fun r4 h4 =>
        lw_span_b58 q0 p1 p2 k15 x3 x4 r4 h4
    else
      lw_span_b92 q0 p1 p2 k15 x3 x4 h2
  else
    some (x3, h1)
def lw_span_b11 (q0 : Nat) (p1 : Int) (p2 : Int) (s0 : Int) (h : Hp) : O Int :=
  iter2 (lw_span_f15 q0 p1 p2) fuel s0 0 h
def lw_span (q0 : Nat) (p1 : Int) (p2 : Int) (h : Hp) : O Int :=
  if p2 = 0 then
    lw_span_b11 q0 p1 p2 1000 h
  else
    lw_span_b11 q0 p1 p2 0 h
def lw_isTaken_b126 (q0 : Nat) (p1 : Int) (p2 : Int) (p3 : Int) (q4 : Nat) (n4 : Nat) (k19 : Int → Int → Hp → O Int) (x6 x7 s0 : Int) (h : Hp) : O Int :=
  ck (x7 + 1) (
  k19 s0 (x7 + 1) h)
def lw_isTaken_b125 (q0 : Nat) (p1 : Int) (p2 : Int) (p3 : Int) (q4 : Nat) (n4 : Nat) (k19 : Int → Int → Hp → O Int) (x6 x7 : Int) (h : Hp) : O Int :=
  lw_isTaken_b126 q0 p1 p2 p3 q4 n4 k19 x6 x7 0 h
def lw_isTaken_b121 (q0 : Nat) (p1 : Int) (p2 : Int) (p3 : Int) (q4 : Nat) (n4 : Nat) (k19 : Int → Int → Hp → O Int) (x6 x7 : Int) (h : Hp) : O Int :=
  lw_isTaken_b126 q0 p1 p2 p3 q4 n4 k19 x6 x7 1 h
def lw_isTaken_b71 (q0 : Nat) (p1 : Int) (p2 : Int) (p3 : Int) (q4 : Nat) (n4 : Nat) (k19 : Int → Int → Hp → O Int) (x5 x6 x7 s0 : Int) (h : Hp) : O Int :=
  if x5 = 0 then
    if s0 = 0 then
      lw_isTaken_b125 q0 p1 p2 p3 q4 n4 k19 x6 x7 h
    else
      bd (dl_dimension q0 x6 8 h) fun r1 h1 =>
      bd (dl_dimension q0 x7 9 h1) fun r2 h2 =>
      if r2 < r1 then
        lw_isTaken_b125 q0 p1 p2 p3 q4 n4 k19 x6 x7 h2
      else
        bd (dl_dimension q0 x7 8 h2) fun r3 h3 =>
        bd (dl_dimension q0 x6 9 h3) fun r4 h4 =>
        if r4 < r3 then
          lw_isTaken_b125 q0 p1 p2 p3 q4 n4 k19 x6 x7 h4
        else
          lw_isTaken_b121 q0 p1 p2 p3 q4 n4 k19 x6 x7 h4
  else
    lw_isTaken_b121 q0 p1 p2 p3 q4 n4 k19 x6 x7 h
def lw_isTaken_b70 (q0 : Nat) (p1 : Int) (p2 : Int) (p3 : Int) (q4 : Nat) (n4 : Nat) (k19 : Int → Int → Hp → O Int) (x5 x6 x7 : Int) (h : Hp) : O Int :=
  lw_isTaken_b71 q0 p1 p2 p3 q4 n4 k19 x5 x6 x7 0 h
def lw_isTaken_f19 (q0 : Nat) (p1 : Int) (p2 : Int) (p3 : Int) (q4 : Nat) (n4 : Nat) (k6 : Int → Int → Hp → O Int) (x6 : Int) (k19 : Int → Int → Hp → O Int) (x5 x7 : Int) (h : Hp) : O Int :=
  bd (dl_count q0 1 h) fun r1 h1 =>
  if x7 < r1 then
    bd (lw_unit q0 x7 h1) fun r2 h2 =>
    bd (lw_unit q0 x6 h2) fun r3 h3 =>
    if r3 = p1 then
      shc p3 r2 (
      if (p3 / pw2 r2) % 2 = 1 then
        ix r2 n4 (
        if h3 q4 r2 = p2 then
          lw_isTaken_b71 q0 p1 p2 p3 q4 n4 k19 x5 x6 x7 1 h3
        else
          lw_isTaken_b70 q0 p1 p2 p3 q4 n4 k19 x5 x6 x7 h3)
      else
        lw_isTaken_b70 q0 p1 p2 p3 q4 n4 k19 x5 x6 x7 h3)
    else
      lw_isTaken_b70 q0 p1 p2 p3 q4 n4 k19 x5 x6 x7 h3
  else
    ck (x6 + 1) (
    k6 x5 (x6 + 1) h1)
def lw_isTaken_f6 (q0 : Nat) (p1 : Int) (p2 : Int) (p3 : Int) (q4 : Nat) (n4 : Nat) (k6 : Int → Int → Hp → O Int) (x5 x6 : Int) (h : Hp) : O Int :=
  bd (dl_count q0 1 h) fun r1 h1 =>
  if x6 < r1 then
    iter2 (lw_isTaken_f19 q0 p1 p2 p3 q4 n4 k6 x6) fuel x5 0 h1
  else
    bz x5 (some (x5, h1))
def lw_isTaken (q0 : Nat) (p1 : Int) (p2 : Int) (p3 : Int) (q4 : Nat) (n4 : Nat) (h : Hp) : O Int :=
  iter2 (lw_isTaken_f6 q0 p1 p2 p3 q4 n4) fuel 0 0 h
def lw_reach_b219 (q0 : Nat) (p1 : Int) (p2 : Int) (p3 : Int) (q4 : Nat) (n4 : Nat) (k49 : Int → Hp → O Unit) (x5 x6 : Int) (h : Hp) : O Unit :=
  ck (x6 + 1) (
  k49 (x6 + 1) h)
def lw_reach_b218 (q0 : Nat) (p1 : Int) (p2 : Int) (p3 : Int) (q4 : Nat) (n4 : Nat) (k49 : Int → Hp → O Unit) (x5 x6 s0 s1 : Int) (h : Hp) : O Unit :=
  ix s1 n4 (lt (hu h q4 s1 s0) fun h1 =>
  lw_reach_b219 q0 p1 p2 p3 q4 n4 k49 x5 x6 h1)
def lw_reach_b213 (q0 : Nat) (p1 : Int) (p2 : Int) (p3 : Int) (q4 : Nat) (n4 : Nat) (k49 : Int → Hp → O Unit) (x5 x6 x7 s0 : Int) (h : Hp) : O Unit :=
  ix x7 n4 (
  lw_reach_b218 q0 p1 p2 p3 q4 n4 k49 x5 x6 (h q4 x7) s0 h)
def lw_reach_b183 (q0 : Nat) (p1 : Int) (p2 : Int) (p3 : Int) (q4 : Nat) (n4 : Nat) (k49 : Int → Hp → O Unit) (x5 x6 x7 x8 x10 s0 s1 : Int) (h : Hp) : O Unit :=
  ix s1 n4 (lt (hu h q4 s1 s0) fun h1 =>
  ix x8 n4 (
  if h1 q4 x8 < 1000000 then
    ix x7 n4 (
    if x10 < h1 q4 x7 then
      lw_reach_b218 q0 p1 p2 p3 q4 n4 k49 x5 x6 x10 x7 h1
    else
      lw_reach_b213 q0 p1 p2 p3 q4 n4 k49 x5 x6 x7 x7 h1)
  else
    lw_reach_b213 q0 p1 p2 p3 q4 n4 k49 x5 x6 x7 x7 h1))
def lw_reach_b178 (q0 : Nat) (p1 : Int) (p2 : Int) (p3 : Int) (q4 : Nat) (n4 : Nat) (k49 : Int → Hp → O Unit) (x5 x6 x7 x8 x10 s0 : Int) (h : Hp) : O Unit :=
  ix x8 n4 (
  lw_reach_b183 q0 p1 p2 p3 q4 n4 k49 x5 x6 x7 x8 x10 (h q4 x8) s0 h)
def lw_reach_b146 (q0 : Nat) (p1 : Int) (p2 : Int) (p3 : Int) (q4 : Nat) (n4 : Nat) (k49 : Int → Hp → O Unit) (x5 x6 x7 x8 x9 s0 s1 : Int) (h : Hp) : O Unit :=
  ck (s1 + s0) (
  ix x7 n4 (
  if h q4 x7 < 1000000 then
    ix x8 n4 (
    if x9 < h q4 x8 then
      lw_reach_b183 q0 p1 p2 p3 q4 n4 k49 x5 x6 x7 x8 (s1 + s0) x9 x8 h
    else
      lw_reach_b178 q0 p1 p2 p3 q4 n4 k49 x5 x6 x7 x8 (s1 + s0) x8 h)
  else
    lw_reach_b178 q0 p1 p2 p3 q4 n4 k49 x5 x6 x7 x8 (s1 + s0) x8 h))
def lw_reach_b113 (q0 : Nat) (p1 : Int) (p2 : Int) (p3 : Int) (q4 : Nat) (n4 : Nat) (k49 : Int → Hp → O Unit) (x5 x6 x7 x8 s0 s1 : Int) (h : Hp) : O Unit :=
  ck (s1 + s0) (
  ix x8 n4 (
  bd (dl_dimension q0 x6 2 h) fun r1 h1 =>
  ck ((h q4 x8) - r1) (
  if x6 = p3 then
    lw_reach_b146 q0 p1 p2 p3 q4 n4 k49 x5 x6 x7 x8 (s1 + s0) 0 ((h q4 x8) - r1) h1
  else
    bd (dl_dimension q0 x6 3 h1) fun r2 h2 =>
    lw_reach_b146 q0 p1 p2 p3 q4 n4 k49 x5 x6 x7 x8 (s1 + s0) r2 ((h q4 x8) - r1) h2)))
def lw_reach_f49 (q0 : Nat) (p1 : Int) (p2 : Int) (p3 : Int) (q4 : Nat) (n4 : Nat) (k36 : Int → Hp → O Unit) (x5 : Int) (k49 : Int → Hp → O Unit) (x6 : Int) (h : Hp) : O Unit :=
  bd (dl_count q0 1 h) fun r1 h1 =>
  if x6 < r1 then
    if x6 = p2 then
      lw_reach_b219 q0 p1 p2 p3 q4 n4 k49 x5 x6 h1
    else
      bd (dl_dimension q0 x6 0 h1) fun r2 h2 =>
      bd (dl_dimension q0 x6 1 h2) fun r3 h3 =>
      ix r2 n4 (
      bd (dl_dimension q0 x6 2 h3) fun r4 h4 =>
      ck ((h3 q4 r2) + r4) (
      if x6 = p3 then
        lw_reach_b113 q0 p1 p2 p3 q4 n4 k49 x5 x6 r2 r3 0 ((h3 q4 r2) + r4) h4
      else
        bd (dl_dimension q0 x6 4 h4) fun r5 h5 =>
        lw_reach_b113 q0 p1 p2 p3 q4 n4 k49 x5 x6 r2 r3 r5 ((h3 q4 r2) + r4) h5))
  else
    ck (x5 + 1) (
    k36 (x5 + 1) h1)
def lw_reach_f36 (q0 : Nat) (p1 : Int) (p2 : Int) (p3 : Int) (q4 : Nat) (n4 : Nat) (k36 : Int → Hp → O Unit) (x5 : Int) (h : Hp) : O Unit :=
  bd (dl_count q0 0 h) fun r1 h1 =>
  if x5 < r1 then
    iter1 (lw_reach_f49 q0 p1 p2 p3 q4 n4 k36 x5) fuel 0 h1
  else
    some ((), h1)
def lw_reach_b26 (q0 : Nat) (p1 : Int) (p2 : Int) (p3 : Int) (q4 : Nat) (n4 : Nat) (k3 : Int → Hp → O Unit) (x5 s0 s1 : Int) (h : Hp) : O Unit :=
  ix s1 n4 (lt (hu h q4 s1 s0) fun h1 =>
  ck (x5 + 1) (
  k3 (x5 + 1) h1))
def lw_reach_f3 (q0 : Nat) (p1 : Int) (p2 : Int) (p3 : Int) (q4 : Nat) (n4 : Nat) (k3 : Int → Hp → O Unit) (x5 : Int) (h : Hp) : O Unit :=
  if x5 < 12 then
    if x5 = p1 then
      lw_reach_b26 q0 p1 p2 p3 q4 n4 k3 x5 0 x5 h
    else
      lw_reach_b26 q0 p1 p2 p3 q4 n4 k3 x5 1000000 x5 h
  else
    iter1 (lw_reach_f36 q0 p1 p2 p3 q4 n4) fuel 0 h
def lw_reach (q0 : Nat) (p1 : Int) (p2 : Int) (p3 : Int) (q4 : Nat) (n4 : Nat) (h : Hp) : O Unit :=
  iter1 (lw_reach_f3 q0 p1 p2 p3 q4 n4) fuel 0 h

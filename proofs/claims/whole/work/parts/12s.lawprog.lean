def lw_b857 (X : Nat) (M : Nat) (L : Nat) (xs : Nat → Int32) (k18 : Int → Hp → O Int) (x3 : Int) (h : Hp) : O Int :=
  ck (x3 + 4) (
  k18 (x3 + 4) h)
def lw_b654 (X : Nat) (M : Nat) (L : Nat) (xs : Nat → Int32) (k18 : Int → Hp → O Int) (x3 s0 s1 s2 s4 : Int) (h : Hp) : O Int :=
  bd (mo_distance M s2 s1 s0 h) fun r1 h1 =>
  if s4 = r1 then
    lw_b857 X M L xs k18 x3 h1
  else
    some (0, h1)
def lw_b627 (X : Nat) (M : Nat) (L : Nat) (xs : Nat → Int32) (k18 : Int → Hp → O Int) (x3 s0 s1 s2 : Int) (h : Hp) : O Int :=
  bd (dl_distance X s2 s1 s0 h) fun r1 h1 =>
  ck (x3 + 1) (
  ix (x3 + 1) L (
  ck (x3 + 2) (
  ix (x3 + 2) L (
  ck (x3 + 3) (
  ix (x3 + 3) L (
  if (xs (x3 + 3).toNat).toInt = 0 then
    lw_b654 X M L xs k18 x3 0 ((xs (x3 + 2).toNat).toInt) ((xs (x3 + 1).toNat).toInt) r1 h1
  else
    lw_b654 X M L xs k18 x3 1 ((xs (x3 + 2).toNat).toInt) ((xs (x3 + 1).toNat).toInt) r1 h1))))))
def lw_f18 (X : Nat) (M : Nat) (L : Nat) (xs : Nat → Int32) (k18 : Int → Hp → O Int) (x3 : Int) (h : Hp) : O Int :=
  ck ((L : Int) - 4) (
  if (L : Int) - 4 < x3 then
    some (1, h)
  else
    ix x3 L (
    swt (((xs x3.toNat).toInt) % 32) 0 [
      ck (x3 + 1) (
      ix (x3 + 1) L (
      bd (dl_type X ((xs (x3 + 1).toNat).toInt) h) fun r1 h1 =>
      ck (x3 + 1) (
      ix (x3 + 1) L (
      bd (mo_type M ((xs (x3 + 1).toNat).toInt) h1) fun r2 h2 =>
      if r1 = r2 then
        lw_b857 X M L xs k18 x3 h2
      else
        some (0, h2))))),
      bd (dl_clearText X h) fun r3 h3 =>
      bd (mo_clearText M h3) fun r4 h4 =>
      if r3 = r4 then
        lw_b857 X M L xs k18 x3 h4
      else
        some (0, h4),
      bd (dl_load X h) fun r5 h5 =>
      bd (mo_load M h5) fun r6 h6 =>
      if r5 = r6 then
        lw_b857 X M L xs k18 x3 h6
      else
        some (0, h6),
      bd (dl_faultKind X h) fun r7 h7 =>
      bd (mo_faultKind M h7) fun r8 h8 =>
      if r7 = r8 then
        lw_b857 X M L xs k18 x3 h8
      else
        some (0, h8),
      ck (x3 + 1) (
      ix (x3 + 1) L (
      bd (dl_addPoint X ((xs (x3 + 1).toNat).toInt) h) fun r9 h9 =>
      ck (x3 + 1) (
      ix (x3 + 1) L (
      bd (mo_addPoint M ((xs (x3 + 1).toNat).toInt) h9) fun r10 h10 =>
      if r9 = r10 then
        lw_b857 X M L xs k18 x3 h10
      else
        some (0, h10))))),
      ck (x3 + 1) (
      ix (x3 + 1) L (
      ck (x3 + 2) (
      ix (x3 + 2) L (
      bd (dl_movePoint X ((xs (x3 + 1).toNat).toInt) ((xs (x3 + 2).toNat).toInt) h) fun r11 h11 =>
      ck (x3 + 1) (
      ix (x3 + 1) L (
      ck (x3 + 2) (
      ix (x3 + 2) L (
      bd (mo_movePoint M ((xs (x3 + 1).toNat).toInt) ((xs (x3 + 2).toNat).toInt) h11) fun r12 h12 =>
      if r11 = r12 then
        lw_b857 X M L xs k18 x3 h12
      else
        some (0, h12))))))))),
      ck (x3 + 1) (
      ix (x3 + 1) L (
      bd (dl_dropPoint X ((xs (x3 + 1).toNat).toInt) h) fun r13 h13 =>
      ck (x3 + 1) (
      ix (x3 + 1) L (
      bd (mo_dropPoint M ((xs (x3 + 1).toNat).toInt) h13) fun r14 h14 =>
      if r13 = r14 then
        lw_b857 X M L xs k18 x3 h14
      else
        some (0, h14))))),
      ck (x3 + 1) (
      ix (x3 + 1) L (
      ck (x3 + 2) (
      ix (x3 + 2) L (
      bd (dl_add X ((xs (x3 + 1).toNat).toInt) ((xs (x3 + 2).toNat).toInt) h) fun r15 h15 =>
      ck (x3 + 1) (
      ix (x3 + 1) L (
      ck (x3 + 2) (
      ix (x3 + 2) L (
      bd (mo_add M ((xs (x3 + 1).toNat).toInt) ((xs (x3 + 2).toNat).toInt) h15) fun r16 h16 =>
      if r15 = r16 then
        lw_b857 X M L xs k18 x3 h16
      else
        some (0, h16))))))))),
      ck (x3 + 1) (
      ix (x3 + 1) L (
      bd (dl_drop X ((xs (x3 + 1).toNat).toInt) h) fun r17 h17 =>
      ck (x3 + 1) (
      ix (x3 + 1) L (
      bd (mo_drop M ((xs (x3 + 1).toNat).toInt) h17) fun r18 h18 =>
      if r17 = r18 then
        lw_b857 X M L xs k18 x3 h18
      else
        some (0, h18))))),
      ck (x3 + 1) (
      ix (x3 + 1) L (
      ck (x3 + 2) (
      ix (x3 + 2) L (
      ck (x3 + 3) (
      ix (x3 + 3) L (
      bd (dl_setTolerance X ((xs (x3 + 1).toNat).toInt) ((xs (x3 + 2).toNat).toInt) ((xs (x3 + 3).toNat).toInt) h) fun r19 h19 =>
      ck (x3 + 1) (
      ix (x3 + 1) L (
      ck (x3 + 2) (
      ix (x3 + 2) L (
      ck (x3 + 3) (
      ix (x3 + 3) L (
      bd (mo_setTolerance M ((xs (x3 + 1).toNat).toInt) ((xs (x3 + 2).toNat).toInt) ((xs (x3 + 3).toNat).toInt) h19) fun r20 h20 =>
      if r19 = r20 then
        lw_b857 X M L xs k18 x3 h20
      else
        some (0, h20))))))))))))),
      ck (x3 + 1) (
      ix (x3 + 1) L (
      ck (x3 + 2) (
      ix (x3 + 2) L (
      bd (dl_setChain X ((xs (x3 + 1).toNat).toInt) ((xs (x3 + 2).toNat).toInt) h) fun r21 h21 =>
      ck (x3 + 1) (
      ix (x3 + 1) L (
      ck (x3 + 2) (
      ix (x3 + 2) L (
      bd (mo_setChain M ((xs (x3 + 1).toNat).toInt) ((xs (x3 + 2).toNat).toInt) h21) fun r22 h22 =>
      if r21 = r22 then
        lw_b857 X M L xs k18 x3 h22
      else
        some (0, h22))))))))),
      ck (x3 + 1) (
      ix (x3 + 1) L (
      ck (x3 + 2) (
      ix (x3 + 2) L (
      bd (dl_setLeast X ((xs (x3 + 1).toNat).toInt) ((xs (x3 + 2).toNat).toInt) h) fun r23 h23 =>
      ck (x3 + 1) (
      ix (x3 + 1) L (
      ck (x3 + 2) (
      ix (x3 + 2) L (
      bd (mo_setLeast M ((xs (x3 + 1).toNat).toInt) ((xs (x3 + 2).toNat).toInt) h23) fun r24 h24 =>
      if r23 = r24 then
        lw_b857 X M L xs k18 x3 h24
      else
        some (0, h24))))))))),
      ck (x3 + 1) (
      ix (x3 + 1) L (
      bd (dl_setLetter X ((xs (x3 + 1).toNat).toInt) h) fun r25 h25 =>
      ck (x3 + 1) (
      ix (x3 + 1) L (
      bd (mo_setLetter M ((xs (x3 + 1).toNat).toInt) h25) fun r26 h26 =>
      if r25 = r26 then
        lw_b857 X M L xs k18 x3 h26
      else
        some (0, h26))))),
      ck (x3 + 1) (
      ix (x3 + 1) L (
      bd (dl_setArrow X ((xs (x3 + 1).toNat).toInt) h) fun r27 h27 =>
      ck (x3 + 1) (
      ix (x3 + 1) L (
      bd (mo_setArrow M ((xs (x3 + 1).toNat).toInt) h27) fun r28 h28 =>
      if r27 = r28 then
        lw_b857 X M L xs k18 x3 h28
      else
        some (0, h28))))),
      ck (x3 + 1) (
      ix (x3 + 1) L (
      ck (x3 + 2) (
      ix (x3 + 2) L (
      bd (dl_point X ((xs (x3 + 1).toNat).toInt) ((xs (x3 + 2).toNat).toInt) h) fun r29 h29 =>
      ck (x3 + 1) (
      ix (x3 + 1) L (
      ck (x3 + 2) (
      ix (x3 + 2) L (
      bd (mo_point M ((xs (x3 + 1).toNat).toInt) ((xs (x3 + 2).toNat).toInt) h29) fun r30 h30 =>
      if r29 = r30 then
        lw_b857 X M L xs k18 x3 h30
      else
        some (0, h30))))))))),
      ck (x3 + 1) (
      ix (x3 + 1) L (
      ck (x3 + 2) (
      ix (x3 + 2) L (
      bd (dl_dimension X ((xs (x3 + 1).toNat).toInt) ((xs (x3 + 2).toNat).toInt) h) fun r31 h31 =>
      ck (x3 + 1) (
      ix (x3 + 1) L (
      ck (x3 + 2) (
      ix (x3 + 2) L (
      bd (mo_dimension M ((xs (x3 + 1).toNat).toInt) ((xs (x3 + 2).toNat).toInt) h31) fun r32 h32 =>
      if r31 = r32 then
        lw_b857 X M L xs k18 x3 h32
      else
        some (0, h32))))))))),
      ck (x3 + 1) (
      ix (x3 + 1) L (
      ck (x3 + 2) (
      ix (x3 + 2) L (
      bd (dl_at X ((xs (x3 + 1).toNat).toInt) ((xs (x3 + 2).toNat).toInt) h) fun r33 h33 =>
      ck (x3 + 1) (
      ix (x3 + 1) L (
      ck (x3 + 2) (
      ix (x3 + 2) L (
      bd (mo_at M ((xs (x3 + 1).toNat).toInt) ((xs (x3 + 2).toNat).toInt) h33) fun r34 h34 =>
      if r33 = r34 then
        lw_b857 X M L xs k18 x3 h34
      else
        some (0, h34))))))))),
      ck (x3 + 1) (
      ix (x3 + 1) L (
      ck (x3 + 2) (
      ix (x3 + 2) L (
      ck (x3 + 3) (
      ix (x3 + 3) L (
      if (xs (x3 + 3).toNat).toInt = 0 then
        lw_b627 X M L xs k18 x3 0 ((xs (x3 + 2).toNat).toInt) ((xs (x3 + 1).toNat).toInt) h
      else
        lw_b627 X M L xs k18 x3 1 ((xs (x3 + 2).toNat).toInt) ((xs (x3 + 1).toNat).toInt) h)))))),
      ck (x3 + 1) (
      ix (x3 + 1) L (
      ck (x3 + 2) (
      ix (x3 + 2) L (
      ck (x3 + 3) (
      ix (x3 + 3) L (
      bd (dl_ifExact X ((xs (x3 + 1).toNat).toInt) ((xs (x3 + 2).toNat).toInt) ((xs (x3 + 3).toNat).toInt) h) fun r35 h35 =>
      ck (x3 + 1) (
      ix (x3 + 1) L (
      ck (x3 + 2) (
      ix (x3 + 2) L (
      ck (x3 + 3) (
      ix (x3 + 3) L (
      bd (mo_ifExact M ((xs (x3 + 1).toNat).toInt) ((xs (x3 + 2).toNat).toInt) ((xs (x3 + 3).toNat).toInt) h35) fun r36 h36 =>
      if r35 = r36 then
        lw_b857 X M L xs k18 x3 h36
      else
        some (0, h36))))))))))))),
      ck (x3 + 1) (
      ix (x3 + 1) L (
      ck (x3 + 2) (
      ix (x3 + 2) L (
      bd (dl_critical X ((xs (x3 + 1).toNat).toInt) ((xs (x3 + 2).toNat).toInt) h) fun r37 h37 =>
      ck (x3 + 1) (
      ix (x3 + 1) L (
      ck (x3 + 2) (
      ix (x3 + 2) L (
      bd (mo_critical M ((xs (x3 + 1).toNat).toInt) ((xs (x3 + 2).toNat).toInt) h37) fun r38 h38 =>
      if r37 = r38 then
        lw_b857 X M L xs k18 x3 h38
      else
        some (0, h38))))))))),
      bd (dl_needed X h) fun r39 h39 =>
      bd (mo_needed M h39) fun r40 h40 =>
      if r39 = r40 then
        lw_b857 X M L xs k18 x3 h40
      else
        some (0, h40),
      ck (x3 + 1) (
      ix (x3 + 1) L (
      ck (x3 + 2) (
      ix (x3 + 2) L (
      bd (dl_chain X ((xs (x3 + 1).toNat).toInt) ((xs (x3 + 2).toNat).toInt) h) fun r41 h41 =>
      ck (x3 + 1) (
      ix (x3 + 1) L (
      ck (x3 + 2) (
      ix (x3 + 2) L (
      bd (mo_chain M ((xs (x3 + 1).toNat).toInt) ((xs (x3 + 2).toNat).toInt) h41) fun r42 h42 =>
      if r41 = r42 then
        lw_b857 X M L xs k18 x3 h42
      else
        some (0, h42))))))))),
      ck (x3 + 1) (
      ix (x3 + 1) L (
      bd (dl_ifArrow X ((xs (x3 + 1).toNat).toInt) h) fun r43 h43 =>
      ck (x3 + 1) (
      ix (x3 + 1) L (
      bd (mo_ifArrow M ((xs (x3 + 1).toNat).toInt) h43) fun r44 h44 =>
      if r43 = r44 then
        lw_b857 X M L xs k18 x3 h44
      else
        some (0, h44))))),
      bd (dl_undo X h) fun r45 h45 =>
      bd (mo_undo M h45) fun r46 h46 =>
      if r45 = r46 then
        lw_b857 X M L xs k18 x3 h46
      else
        some (0, h46),
      ck (x3 + 1) (
      ix (x3 + 1) L (
      bd (dl_count X ((xs (x3 + 1).toNat).toInt) h) fun r47 h47 =>
      ck (x3 + 1) (
      ix (x3 + 1) L (
      bd (mo_count M ((xs (x3 + 1).toNat).toInt) h47) fun r48 h48 =>
      if r47 = r48 then
        lw_b857 X M L xs k18 x3 h48
      else
        some (0, h48))))),
      bd (dl_digest X h) fun r49 h49 =>
      bd (mo_digest M h49) fun r50 h50 =>
      if r49 = r50 then
      lw_b857 X M L xs k18 x3 h50
      else none] (
      lw_b857 X M L xs k18 x3 h)))

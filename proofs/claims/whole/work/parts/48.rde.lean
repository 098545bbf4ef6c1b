section RDE
theorem FE.ft {hc hc' hm : Hp} (f : FE hc hm) (k : FT hc hc') : FE hc' hm := ⟨by rw [k.2.1]; exact f.1, by rw [k.2.1]; exact f.2.1, by rw [k.2.2.1]; exact f.2.2.1, by rw [k.2.2.1]; exact f.2.2.2.1, k.1⟩
def b52r (a b : Int) (h : Hp) : O Unit := bd (dr_append 77 a b h) fun r2 h2 => bd (tr_accept 75 43 h2) fun r3 h3 => if r3 = 0 then tr_readDimension_b90 75 r2 h3 else bd (tr_readUpTo 75 20 2 h3) fun r4 h4 => ix r2 16 (lt (hu h4 82 r2 r4) fun h5 => tr_readDimension_b90 75 r2 h5)
theorem b52_eq (a b s : Int) (h : Hp) : tr_readDimension_b52 75 a b s h = b52r a b (hfl (ng s) 2 (h 75 6) h) := by
  simp only [tr_readDimension_b52, Nat.reduceAdd]
  rw [bd_eq (tr_demand_eq s)]
  rfl
theorem b52r_no {h : Hp} (hc : CR h) (hf : h 75 3 ≠ 0) (hm : 0 ≤ h 77 8 ∧ h 77 8 < 16) (a b : Int) : ∃ h', b52r a b h = some ((), h') ∧ FT h h' := by
  have := b52_no hc hf hm a b 1
  rw [b52_eq, show ng 1 = 0 from rfl, hfl_0] at this
  exact this
/-- the three that may stand behind -/
theorem rest_both {D : Dr} {c v1 v2 : Int} {hc hm : Hp} (g : GN c hc hm) (hK : AtK D hc) (hA : AtM D hm 0) (hw : WF D) (h16 : D 7 1 < 16) (hv : 0 ≤ v1 ∧ v1 < v2 ∧ v2 < D 7 0) :
    ∃ hc', b52r v1 v2 hc = some ((), hc') ∧ FRM hc hc' ∧ ∃ s hm', (bd (mo_readsBehind 132 43 2 0 20 hm) fun r4 h4 => if r4 = 0 then some (0, h4) else bd (mo_readsBehind 132 45 2 0 20 h4) fun r5 h5 => if r5 = 0 then some (0, h5) else bd (mo_readsBehind 132 99 1 0 5 h5) fun r6 h6 => if r6 = 0 then some (0, h6) else bd (mo_lays 132 v1 v2 (h5 132 7) (h4 132 7) (h6 132 7) h6) fun _ h7 => some ((1 : Int), h7)) = some (s, hm') ∧ MFR hm hm' ∧ ((s = 0 ∧ FE hc' hm') ∨ (s = 1 ∧ ∃ D' c', GR D' c' hc' hm' ∧ D' 7 1 = D 7 1 + 1 ∧ lets D D')) := by
  have w1 := hw.2.1
  have w0 := hw.1
  have e8 : hc 77 8 = D 7 1 := hK.1.2.symm
  have kx := hadd_ft g.1.2.2 v1 v2
  have ap := dr_append_eq (h := hc) (th := 77) (by omega) v1 v2
  rw [e8] at ap
  generalize hX : hadd hc 77 v1 v2 = X at *
  have gX : GN c X hm := by
    obtain ⟨⟨g1, g2, g3⟩, m1, m2, m3, m4⟩ := g
    have e75 : X 75 = hc 75 := by rw [← hX]; exact funext fun j => by unfold hadd; rw [if_neg (by omega), if_neg (by omega)]
    refine ⟨⟨by rw [e75]; exact g1, by rw [e75]; exact g2, kx.1⟩, m1, m2, by rw [e75]; exact m3, by rw [kx.2.2.2.2.1]; exact m4⟩
  have xz : ∀ w, 81 ≤ w → w ≤ 83 → X w (D 7 1) = 0 := fun w a b => by
    rw [← hX]; unfold hadd; rw [if_neg (by omega), if_pos ⟨by omega, by omega, by omega⟩, if_neg (by omega), if_neg (by omega)]
  have frm : ∀ {h1 h2 : Hp} {w : Nat} {m v : Int}, 77 ≤ w → w < 85 → (∀ c, c ≠ 75 → h2 c = hu h1 w m v c) → h2 75 2 = h1 75 2 → FRM h1 h2 := fun a b e e2 => ⟨fun c g => by rw [e c (by omega)]; exact funext fun j => hu_o (by omega) j, by rw [e 76 (by decide)]; exact funext fun j => hu_o (by omega) j, e2⟩
  obtain ⟨hc4, pl, s4, hm4, a1, a2, a3, a4, a5, a6, a7⟩ := beh_both gX (x := 43) (hi := 20) (m := D 7 1) (w := 82) (k := 2) (by decide) (by decide) (by decide) (by omega) (xz 82 (by decide) (by decide)) (by decide) (fun h => tr_readDimension_b90 75 (D 7 1) h)
  have eC : b52r v1 v2 hc = tr_readDimension_b90 75 (D 7 1) hc4 := by
    unfold b52r
    rw [bd_eq ap]
    exact a1
  have f4 := frm (by decide) (by decide) a5 a6
  rw [show ((2 : Nat) : Int) = 2 from rfl] at a2
  rw [bd_eq a2]
  have fX : FRM hc hc4 := kx.2.2.2.trans f4
  rcases a7 with ⟨rfl, fe⟩ | ⟨rfl, plb, ep, e4, g4⟩
  · exact ⟨hc4, by rw [eC, b90_no fe.2.1], fX, 0, hm4, by rw [if_pos rfl], a3, Or.inl ⟨rfl, fe⟩⟩
  have z4 : hc4 81 (D 7 1) = 0 := by rw [a5 81 (by decide), hu_o (by decide)]; exact xz 81 (by decide) (by decide)
  obtain ⟨hc5, mi, s5, hm5, b1, b2, b3, b4, b5, b6, b7⟩ := beh_both g4 (x := 45) (hi := 20) (m := D 7 1) (w := 81) (k := 2) (by decide) (by decide) (by decide) (by omega) z4 (by decide) (fun h => tr_readDimension_b115 75 (D 7 1) h)
  have eC5 : tr_readDimension_b90 75 (D 7 1) hc4 = tr_readDimension_b115 75 (D 7 1) hc5 := by
    unfold tr_readDimension_b90
    exact b1
  have f5 := frm (by decide) (by decide) b5 b6
  rw [show ((2 : Nat) : Int) = 2 from rfl] at b2
  rw [if_neg (by decide), bd_eq b2]
  rcases b7 with ⟨rfl, fe⟩ | ⟨rfl, mib, em, e5, g5⟩
  · exact ⟨hc5, by rw [eC, eC5, b115_no fe.2.1], fX.trans f5, 0, hm5, by rw [if_pos rfl], a3.trans b3, Or.inl ⟨rfl, fe⟩⟩
  have z5 : hc5 83 (D 7 1) = 0 := by rw [b5 83 (by decide), hu_o (by decide), a5 83 (by decide), hu_o (by decide)]; exact xz 83 (by decide) (by decide)
  obtain ⟨hc6, ch, s6, hm6, d1, d2, d3, d4, d5, d6, d7⟩ := beh_both g5 (x := 99) (hi := 5) (m := D 7 1) (w := 83) (k := 1) (by decide) (by decide) (by decide) (by omega) z5 (by decide) (fun h => tr_readDimension_b139 75 h)
  have eC6 : tr_readDimension_b115 75 (D 7 1) hc5 = some ((), hc6) := by
    unfold tr_readDimension_b115
    exact d1
  have f6 := frm (by decide) (by decide) d5 d6
  rw [show ((1 : Nat) : Int) = 1 from rfl] at d2
  rw [if_neg (by decide), bd_eq d2]
  rcases d7 with ⟨rfl, fe⟩ | ⟨rfl, chb, ec, e6, g6⟩
  · exact ⟨hc6, by rw [eC, eC5, eC6], (fX.trans f5).trans f6, 0, hm6, by rw [if_pos rfl], (a3.trans b3).trans d3, Or.inl ⟨rfl, fe⟩⟩
  have hA6 : AtM D hm6 0 := by
    unfold AtM at *
    rw [d4, b4, a4]
    exact hA
  obtain ⟨l1, l2, l3⟩ := mo_lays_eq hA6 (by omega) w0 v1 v2 mi pl ch
  rw [if_neg (by decide), em, ep, ec, bd_eq l1]
  have wl := hw.lay (a := v1) (b := v2) (mi := mi) (pl := pl) (ch := ch) (by omega) hv mib plb chb
  generalize hl : hlay hm6 (D 7 1) v1 v2 mi pl ch = hm7 at *
  refine ⟨hc6, by rw [eC, eC5, eC6], (fX.trans f5).trans f6, 1, hm7, rfl, ((a3.trans b3).trans d3).trans ⟨fun c x y => l3.1 c y, fun j x => by rw [l3.1 132 (by decide)], l3.2⟩, Or.inr ⟨rfl, dLay D v1 v2 mi pl ch, e6, ⟨⟨g6.1.1, g6.1.2.1, g6.1.2.2, ?_, wl⟩, by rw [l3.1 132 (by decide)]; exact g6.2.1, by rw [l3.1 132 (by decide)]; exact g6.2.2.1, by rw [l3.1 132 (by decide)]; exact g6.2.2.2.1, by rw [l3.1 134 (by decide)]; exact g6.2.2.2.2, l2⟩, ?_, ?_⟩⟩
  · have cc : ∀ c, c ≠ 75 → ∀ j, hc6 c j = if c = 83 ∧ j = D 7 1 then ch else if c = 81 ∧ j = D 7 1 then mi else if c = 82 ∧ j = D 7 1 then pl else X c j := fun c z j => by
      rw [d5 c z]
      unfold hu
      rw [b5 c z]
      unfold hu
      rw [a5 c z]
      unfold hu
      rfl
    obtain ⟨⟨k1, k2⟩, k3, k4⟩ := hK
    have n0 : dLay D v1 v2 mi pl ch 7 0 = D 7 0 := by unfold dLay; grind
    have n1 : dLay D v1 v2 mi pl ch 7 1 = D 7 1 + 1 := by unfold dLay; grind
    refine ⟨⟨?_, ?_⟩, fun i i0 i1 => ?_, fun d d0 d1' => ?_⟩
    · rw [n0, cc 77 (by decide), ← hX]; unfold hadd; grind
    · rw [n1, cc 77 (by decide), ← hX]; unfold hadd; grind
    · rw [n0] at i1
      have := k3 i i0 i1
      rw [cc 78 (by decide), ← hX]; unfold hadd dLay; grind
    · rw [n1] at d1'
      rw [cc 79 (by decide), cc 80 (by decide), cc 81 (by decide), cc 82 (by decide), cc 83 (by decide), cc 84 (by decide), ← hX]
      by_cases q : d = D 7 1
      · unfold hadd dLay
        subst q
        refine ⟨?_, ?_, ?_, ?_, ?_, ?_⟩ <;> grind
      · obtain ⟨r1, r2, r3, r4, r5, r6⟩ := k4 d d0 (by omega)
        unfold hadd dLay
        refine ⟨?_, ?_, ?_, ?_, ?_, ?_⟩ <;> grind
  · unfold dLay; grind
  · unfold lets dLay; grind
end RDE

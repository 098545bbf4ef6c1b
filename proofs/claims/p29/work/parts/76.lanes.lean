section LANES
variable {D : Dr} {a : Int} {h : Hp} {th : Nat}
noncomputable def hWt (D : Dr) (a : Int) (h : Hp) (th : Nat) : Nat → Hp
  | 0 => h
  | p + 1 => hcc D a (htp D a (hWt D a h th p) th p (D 7 1).toNat) th p (D 7 1).toNat
theorem hWt_is (e5 : ∀ d, 0 ≤ d → d < D 7 1 → h (th + 5) d = 0) (e8 : h th 8 = 0) : ∀ k : Nat, (∀ c, c ≠ th → c ≠ th + 5 → c ≠ th + 6 → c ≠ th + 7 → hWt D a h th k c = h c) ∧ (∀ j, j ≠ 8 → hWt D a h th k th j = h th j) ∧ (∀ p : Int, 0 ≤ p → p < k → hWt D a h th k (th + 7) p = wt D a p ∧ hWt D a h th k (th + 6) p = cPn D a p (D 7 1).toNat) ∧ (∀ d, 0 ≤ d → d < D 7 1 → hWt D a h th k (th + 5) d = cDn D a d k) ∧ hWt D a h th k th 8 = cAn D a k
  | 0 => ⟨fun _ _ _ _ _ => rfl, fun _ _ => rfl, fun p a b => by omega, e5, e8⟩
  | k + 1 => by
    obtain ⟨i1, i2, i3, i4, i5⟩ := hWt_is e5 e8 k
    have e : ∀ c j, hWt D a h th (k + 1) c j = if c = th + 6 ∧ j = k then cPn D a k (D 7 1).toNat else if c = th + 5 ∧ 0 ≤ j ∧ j < ((D 7 1).toNat : Int) then hWt D a h th k (th + 5) j + yn (crs D a k j) else if c = th ∧ j = 8 then hWt D a h th k th 8 + cPn D a k (D 7 1).toNat else if c = th + 7 ∧ j = k then wt D a k else hWt D a h th k c j := fun c j => by
      show hcc D a (htp D a (hWt D a h th k) th k (D 7 1).toNat) th k (D 7 1).toNat c j = _
      unfold hcc htp
      rw [hu_o (show th + 5 ≠ th + 7 by omega), hu_o (show th ≠ th + 7 by omega)]
      rfl
    refine ⟨fun c n0 n5 n6 n7 => funext fun j => ?_, fun j n8 => ?_, fun p p0 p1 => ?_, fun d d0 d1 => ?_, ?_⟩
    · rw [e, if_neg (fun z => n6 z.1), if_neg (fun z => n5 z.1), if_neg (fun z => n0 z.1), if_neg (fun z => n7 z.1), i1 c n0 n5 n6 n7]
    · rw [e, if_neg (by omega), if_neg (by omega), if_neg (fun z => n8 z.2), if_neg (by omega), i2 j n8]
    · rw [e, e, if_neg (by omega), if_neg (by omega), if_neg (by omega)]
      by_cases q : p = k
      · rw [if_pos ⟨rfl, q⟩, if_pos ⟨rfl, q⟩, q]
        exact ⟨rfl, rfl⟩
      · rw [if_neg (fun z => q z.2), if_neg (fun z => q z.2), if_neg (by omega), if_neg (by omega), if_neg (by omega)]
        exact i3 p p0 (by omega)
    · rw [e, if_neg (by omega), if_pos ⟨rfl, d0, by omega⟩, i4 d d0 d1, cDn_s]
    · rw [e, if_neg (by omega), if_neg (by omega), if_pos ⟨rfl, rfl⟩, i5, cAn_s]
theorem la_draw_eq (ha : AtC D h 1) (w : WF D) (hth : 9 ≤ th) (e15 : h th 15 = D 7 1) (e4 : ∀ d, 0 ≤ d → d < D 7 1 → h (th + 4) d = lnD D a d) : la_drawWitnessLines th 1 h = some ((), hWt D a (hfil (hu h th 8 0) (th + 5) ((16 : Nat) : Int) 0) th (D 7 0).toNat) := by
  have w0 := w.1
  have w1 := w.2.1
  unfold la_drawWitnessLines
  rw [lt_eq, bd_eq (ja_fill_eq (n := 16) (by omega))]
  generalize hg : hfil (hu h th 8 0) (th + 5) ((16 : Nat) : Int) 0 = g
  have g5 : ∀ d, 0 ≤ d → d < D 7 1 → g (th + 5) d = 0 := fun d d0 d1 => by
    rw [← hg]
    unfold hfil
    rw [if_pos ⟨rfl, d0, by omega⟩]
  have g8 : g th 8 = 0 := by
    rw [← hg]
    unfold hfil
    rw [if_neg (by omega), hu_s]
  have gc : ∀ c, c ≠ th → c ≠ th + 5 → g c = h c := fun c n0 n5 => by
    rw [← hg]
    funext j
    unfold hfil
    rw [if_neg (fun z => n5 z.1), hu_o n0]
  have gt : ∀ j, j ≠ 8 → g th j = h th j := fun j n => by
    rw [← hg]
    unfold hfil hu
    rw [if_neg (by omega), if_neg (fun z => n z.2)]
  have hW := fun k => hWt_is (a := a) g5 g8 k
  refine it1_seq (F := la_drawWitnessLines_f15 th 1) (fun k => (k : Int)) (fun k => hWt D a g th k) (D 7 0).toNat (fun k x hx => ?_) (fun k => ?_) fuel 0 (Nat.zero_le _) (by unfold fuel; omega)
  · obtain ⟨i1, i2, i3, i4, i5⟩ := hW x
    have ca := cAn_b (D := D) (a := a) w1 x
    rw [draw_in (a := a) (ha.keep (fun c c0 c1 => by rw [i1 c (by omega) (by omega) (by omega) (by omega), gc c (by omega) (by omega)])) w hth (by omega) (by rw [i2 15 (by omega), gt 15 (by omega), e15]) (fun d d0 d1 => by rw [i1 (th + 4) (by omega) (by omega) (by omega) (by omega), gc (th + 4) (by omega) (by omega)]; exact e4 d d0 d1) (fun d d0 d1 => by
      have := cDn_b (D := D) (a := a) (d := d) x
      rw [i4 d d0 d1]
      omega) (by omega)]
    rfl
  · obtain ⟨i1, i2, i3, i4, i5⟩ := hW (D 7 0).toNat
    simp only [la_drawWitnessLines_f15, Nat.reduceAdd]
    rw [i1 1 (by omega) (by omega) (by omega) (by omega), gc 1 (by omega) (by omega), show h 1 7 = D 7 0 from ha.1.1.symm, if_neg (by omega)]
/-- what is laid out -/
def LANES (D : Dr) (a : Int) (th : Nat) (h : Hp) : Prop := (h th 6 = uc D (D 7 1).toNat ∧ h th 7 = lcn D a (uc D (D 7 1).toNat).toNat ∧ h th 8 = cAn D a (D 7 0).toNat ∧ h th 15 = D 7 1) ∧ (∀ d, 0 ≤ d → d < D 7 1 → h (th + 1) d = fD D a d ∧ h (th + 2) d = bD D a d ∧ h (th + 3) d = eD D a d ∧ h (th + 4) d = lnD D a d ∧ h (th + 5) d = cDn D a d (D 7 0).toNat) ∧ ∀ p, 0 ≤ p → p < D 7 0 → h (th + 6) p = cPn D a p (D 7 1).toNat ∧ h (th + 7) p = wt D a p
theorem LANES.keep (g : LANES D a th h) {h' : Hp} (e : ∀ c, th ≤ c → c < th + 8 → h' c = h c) : LANES D a th h' := by
  unfold LANES at *
  rw [e th (by omega) (by omega), e (th + 1) (by omega) (by omega), e (th + 2) (by omega) (by omega), e (th + 3) (by omega) (by omega), e (th + 4) (by omega) (by omega), e (th + 5) (by omega) (by omega), e (th + 6) (by omega) (by omega), e (th + 7) (by omega) (by omega)]
  exact g
theorem la_layOut_wp (ha : AtC D h 1) (w : WF D) (hth : 9 ≤ th) (ab : 1 ≤ a ∧ a ≤ 9) : wp (la_layOut th 1 a h) (fun _ h' => LANES D a th h' ∧ ∀ c, (c < th ∨ th + 12 < c) → h' c = h c) := by
  have w0 := w.1
  have w1 := w.2.1
  have ub := uc_b (D := D) (D 7 1).toNat
  have em : h 1 8 = D 7 1 := ha.1.2.1.symm
  have mm : (((D 7 1).toNat : Nat) : Int) = D 7 1 := by omega
  unfold la_layOut
  rw [lt_eq, lt_eq, lt_eq, em]
  generalize hg : hu (hu (hu h th 15 (D 7 1)) th 6 0) th 7 0 = g
  have gc : ∀ c, c ≠ th → g c = h c := fun c n => by
    rw [← hg]
    funext j
    rw [hu_o n, hu_o n, hu_o n]
  have g6 : g th 6 = 0 := by
    rw [← hg, hu_j _ (by decide), hu_s]
  have g7 : g th 7 = 0 := by
    rw [← hg, hu_s]
  have g15 : g th 15 = D 7 1 := by
    rw [← hg, hu_j _ (by decide), hu_j _ (by decide), hu_s]
  have hA : AtC D g 1 := ha.keep (fun c c0 c1 => gc c (by omega))
  rw [la_first_eq hA w hth ab g6 g15]
  have dm := hstN_dim (D := D) (h := g) (a := a) (th := th) (D 7 1).toNat
  have tt := hstN_t (D := D) (a := a) g6 (D 7 1).toNat
  have oo := hstN_ord (D := D) (a := a) g6 (D 7 1).toNat
  have fo : ∀ c, (c < th ∨ th + 12 < c) → hstN D a g th (D 7 1).toNat c = h c := fun c z => by
    rw [hstN_o z, gc c (by omega)]
  generalize hstN D a g th (D 7 1).toNat = H at *
  have hP : PC D a th 0 H := by
    refine ⟨⟨by rw [tt.2 15 (by decide), g15], tt.1, fun d d0 d1 => ?_⟩, by rw [mm] at oo; exact oo, fun j j0 j1 => by omega, fun j j0 j1 => rfl, fun d d0 d1 => ?_, by rw [tt.2 7 (by decide), g7]; rfl⟩
    · obtain ⟨x1, x2, x3, x4, x5, x6⟩ := dm d d0 (by omega)
      exact ⟨x1, x2, x3, x5, x6⟩
    · obtain ⟨x1, x2, x3, x4, x5, x6⟩ := dm d d0 (by omega)
      rw [x4]
      rfl
  refine wp_it1 (fun x h' => ∃ i : Nat, x = i ∧ (i : Int) ≤ uc D (D 7 1).toNat ∧ PC D a th i h' ∧ ∀ c, (c < th ∨ th + 12 < c) → h' c = h c) (fun x _ => (uc D (D 7 1).toNat - x).toNat) (fun x h' hI k hk => ?_) fuel _ _ ⟨0, rfl, by omega, hP, fo⟩ (by unfold fuel; omega)
  obtain ⟨i, ex, hi, g', gf⟩ := hI
  subst ex
  unfold la_layOut_f56
  rw [g'.1.2.1]
  by_cases q : (i : Int) < uc D (D 7 1).toNat
  · rw [if_pos q]
    refine wp_bd (la_place_wp w g' q) (fun _ h3 h3q => ?_)
    rw [ck_in ⟨by omega, by omega⟩]
    exact hk _ _ ⟨i + 1, rfl, by omega, h3q.1, fun c z => by rw [h3q.2 c z, gf c z]⟩ (by omega)
  · rw [if_neg q]
    have ei : i = (uc D (D 7 1).toNat).toNat := by omega
    obtain ⟨gL, gO, gp, gq, gl, gg7⟩ := g'
    have e4 : ∀ d, 0 ≤ d → d < D 7 1 → h' (th + 4) d = lnD D a d := fun d d0 d1 => by
      have lx := (ld_is (D := D) d0).1
      rw [gl d d0 d1, ei, if_pos (aP_end w lx.1 (by omega) (ld_ld d0))]
      rfl
    rw [bd_eq (la_draw_eq (a := a) (ha.keep (fun c c0 c1 => gf c (by omega))) w hth gL.1 e4)]
    have wi := hWt_is (D := D) (a := a) (h := hfil (hu h' th 8 0) (th + 5) ((16 : Nat) : Int) 0) (th := th) (fun d d0 d1 => by
      unfold hfil
      rw [if_pos ⟨rfl, d0, by omega⟩]) (by
      unfold hfil
      rw [if_neg (by omega), hu_s]) (D 7 0).toNat
    have gc' : ∀ c, c ≠ th → c ≠ th + 5 → hfil (hu h' th 8 0) (th + 5) ((16 : Nat) : Int) 0 c = h' c := fun c n0 n5 => by
      funext j
      unfold hfil
      rw [if_neg (fun z => n5 z.1), hu_o n0]
    have gt' : ∀ j, j ≠ 8 → hfil (hu h' th 8 0) (th + 5) ((16 : Nat) : Int) 0 th j = h' th j := fun j n => by
      unfold hfil hu
      rw [if_neg (by omega), if_neg (fun z => n z.2)]
    generalize hfil (hu h' th 8 0) (th + 5) ((16 : Nat) : Int) 0 = G at *
    obtain ⟨i1, i2, i3, i4, i5⟩ := wi
    refine wp_ret ⟨⟨⟨by rw [i2 6 (by decide), gt' 6 (by decide)]; exact gL.2.1, by rw [i2 7 (by decide), gt' 7 (by decide), gg7, ei], i5, by rw [i2 15 (by decide), gt' 15 (by decide)]; exact gL.1⟩, fun d d0 d1 => ?_, fun p p0 p1 => ⟨(i3 p p0 (by omega)).2, (i3 p p0 (by omega)).1⟩⟩, fun c z => by rw [i1 c (by omega) (by omega) (by omega) (by omega), gc' c (by omega) (by omega), gf c z]⟩
    obtain ⟨x1, x2, x3, -⟩ := gL.2.2 d d0 d1
    rw [i1 (th + 1) (by omega) (by omega) (by omega) (by omega), i1 (th + 2) (by omega) (by omega) (by omega) (by omega), i1 (th + 3) (by omega) (by omega) (by omega) (by omega), i1 (th + 4) (by omega) (by omega) (by omega) (by omega), gc' (th + 1) (by omega) (by omega), gc' (th + 2) (by omega) (by omega), gc' (th + 3) (by omega) (by omega), gc' (th + 4) (by omega) (by omega)]
    exact ⟨x1, x2, x3, e4 d d0 d1, i4 d d0 d1⟩
end LANES

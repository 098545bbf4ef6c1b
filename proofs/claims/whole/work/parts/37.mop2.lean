section MOQ
variable {D : Dr} {K : Int} {B : Int → Dr} {h : Hp}
/-- there is a point with this position -/
def hasX (D : Dr) (x : Int) : Prop := cntB (D 0) x (D 7 0).toNat < D 7 0 ∧ D 0 (cntB (D 0) x (D 7 0).toNat) = x
theorem hasX_uniq (hw : WF D) {x i : Int} (h0 : 0 ≤ i) (h1 : i < D 7 0) (e : D 0 i = x) : hasX D x ∧ cntB (D 0) x (D 7 0).toNat = i := by
  have hb := cntB_b (D 0) x (D 7 0).toNat
  have hs : ∀ i : Int, 0 ≤ i → i < D 7 0 → (D 0 i < x ↔ i < cntB (D 0) x (D 7 0).toNat) := fun i g0 g1 => cntB_lt (n := (D 7 0).toNat) (fun i j a b c => hw.2.2.2.2.2.1 i j a b (by omega)) i g0 (by omega)
  have h2 := hs i h0 h1
  have e2 : cntB (D 0) x (D 7 0).toNat = i := by
    rcases Int.lt_trichotomy (cntB (D 0) x (D 7 0).toNat) i with q | q | q
    · have h3 := hs (cntB (D 0) x (D 7 0).toNat) hb.1 (by omega)
      have h4 := hw.2.2.2.2.2.1 (cntB (D 0) x (D 7 0).toNat) i hb.1 q h1
      omega
    · exact q
    · omega
  exact ⟨⟨by omega, by rw [e2]; exact e⟩, e2⟩
theorem mo_movePoint_eq (hS : SM D K B h) (hO : OKS D K B) (p x : Int) :
    (¬ (0 ≤ p ∧ p < D 7 0) ∨ ¬ (0 ≤ x ∧ x ≤ 300) → mo_movePoint 132 p x h = some (-1, h)) ∧
    (0 ≤ p ∧ p < D 7 0 → 0 ≤ x ∧ x ≤ 300 → (hasX D x ∧ D 0 p ≠ x → mo_movePoint 132 p x h = some (-2, h)) ∧
      (¬ (hasX D x ∧ D 0 p ≠ x) → MChg D K B h (mo_movePoint 132 p x h) (mvC D p x) (dMv D p x))) := by
  have hA := hS.1
  have hw := hO.1
  have w0 := hw.1
  have hb := cntB_b (D 0) x (D 7 0).toNat
  refine ⟨fun c => ?_, fun c1 c2 => ⟨fun c3 => ?_, fun c3 => ?_⟩⟩
  · unfold mo_movePoint mo_movePoint_b19
    rw [bd_eq (mo_isPoint_eq hA hw p)]
    by_cases c1 : 0 ≤ p ∧ p < D 7 0
    · rw [yn_t c1, if_neg (by decide), bd_eq (mo_in_eq x 0 300), yn_f (c.elim (fun q => absurd c1 q) id), if_pos rfl]
    · rw [yn_f c1, if_pos rfl]
  · unfold mo_movePoint
    rw [bd_eq (mo_isPoint_eq hA hw p), yn_t c1, if_neg (by decide), bd_eq (mo_in_eq x 0 300), yn_t c2, if_neg (by decide), bd_eq (mo_pointWith_eq hA hw x), if_pos (show cntB (D 0) x (D 7 0).toNat < D 7 0 ∧ D 0 (cntB (D 0) x (D 7 0).toNat) = x from c3.1), if_neg (by omega), if_neg]
    intro e
    rw [← e] at c3
    exact c3.2 c3.1.2
  · have hne : ∀ i, 0 ≤ i → i < D 7 0 → i ≠ p → D 0 i ≠ x := by
      intro i g0 g1 g2 e
      obtain ⟨u1, u2⟩ := hasX_uniq hw g0 g1 e
      refine c3 ⟨u1, fun e2 => ?_⟩
      have u3 := (hasX_uniq hw c1.1 c1.2 e2).2
      omega
    have key := mo_movePoint_b42_eq hS hO c1.1 c1.2 c2 hne
    have e : mo_movePoint 132 p x h = mo_movePoint_b42 132 p x h := by
      unfold mo_movePoint
      rw [bd_eq (mo_isPoint_eq hA hw p), yn_t c1, if_neg (by decide), bd_eq (mo_in_eq x 0 300), yn_t c2, if_neg (by decide), bd_eq (mo_pointWith_eq hA hw x)]
      by_cases q : cntB (D 0) x (D 7 0).toNat < D 7 0 ∧ D 0 (cntB (D 0) x (D 7 0).toNat) = x
      · have e3 : D 0 p = x := Classical.byContradiction fun z => c3 ⟨q, z⟩
        have u3 := (hasX_uniq hw c1.1 c1.2 e3).2
        rw [if_pos q, if_neg (by omega), if_pos u3]
      · rw [if_neg q, if_pos rfl]
    rw [e]
    exact key
theorem mo_ends_eq (hA : AtM D h 0) (hw : WF D) (p : Int) : mo_ends 132 p h = some (cntE (D 1) (D 2) p (D 7 1).toNat, h) := by
  have w1 := hw.2.1
  unfold mo_ends
  refine it2_seq (fun k => cntE (D 1) (D 2) p k) (fun k => (k : Int)) (fun _ => h) (D 7 1).toNat (fun k i hi => ?_) (fun k => ?_) fuel 0 (Nat.zero_le _) (by unfold fuel; omega)
  · have hb := cntE_b (D 1) (D 2) p i
    have e : cntE (D 1) (D 2) p (i + 1) = cntE (D 1) (D 2) p i + yn (D 1 i = p ∨ D 2 i = p) := rfl
    obtain ⟨r1, r2, -⟩ := hA.dim (d := (i : Int)) (by omega) (by omega)
    simp only [mo_ends_f4, mo_ends_b36, mo_ends_b41, Nat.reduceAdd]
    rw [ix_in (by omega) (by omega), hA.m, if_pos (by omega), bd_eq (mo_of_raw (by omega) (by omega)), r1]
    by_cases c1 : D 1 i = p
    · rw [if_pos c1, e, yn_t (Or.inl c1), ck_in ⟨by omega, by omega⟩, ck_in ⟨by omega, by omega⟩]; rfl
    · rw [if_neg c1, bd_eq (mo_of_raw (by omega) (by omega)), r2]
      by_cases c2 : D 2 i = p
      · rw [if_pos c2, e, yn_t (Or.inr c2), ck_in ⟨by omega, by omega⟩, ck_in ⟨by omega, by omega⟩]; rfl
      · rw [if_neg c2, e, yn_f (fun q => q.elim c1 c2), ck_in ⟨by omega, by omega⟩, ck_in ⟨by omega, by omega⟩]; rfl
  · simp only [mo_ends_f4, Nat.reduceAdd]
    rw [ix_in (by omega) (by omega), hA.m, if_neg (by omega)]
theorem mo_dropPoint_eq (hS : SM D K B h) (hO : OKS D K B) (p : Int) :
    (¬ (0 ≤ p ∧ p < D 7 0) → mo_dropPoint 132 p h = some (-1, h)) ∧
    (0 ≤ p ∧ p < D 7 0 → (0 < cntE (D 1) (D 2) p (D 7 1).toNat → mo_dropPoint 132 p h = some (-2, h)) ∧
      (¬ 0 < cntE (D 1) (D 2) p (D 7 1).toNat → MChg D K B h (mo_dropPoint 132 p h) (D 7 0 - 1) (dGo D p))) := by
  have hA := hS.1
  have hw := hO.1
  refine ⟨fun c => ?_, fun c1 => ⟨fun c2 => ?_, fun c2 => ?_⟩⟩
  · unfold mo_dropPoint
    rw [bd_eq (mo_isPoint_eq hA hw p), yn_f c, if_pos rfl]
  · unfold mo_dropPoint
    rw [bd_eq (mo_isPoint_eq hA hw p), yn_t c1, if_neg (by decide), bd_eq (mo_ends_eq hA hw p), if_pos c2]
  · refine mchg_of hS hO (fun h3 => bd (mo_goes 132 p h3) fun _ h4 => ix 0 1120 (some (h4 133 0, h4))) ?_ (fun h1 hA1 => ?_)
    · simp only [mo_dropPoint, Nat.reduceAdd]
      rw [bd_eq (mo_isPoint_eq hA hw p), yn_t c1, if_neg (by decide), bd_eq (mo_ends_eq hA hw p), if_neg c2]
    · obtain ⟨h2, f1, f2, f3⟩ := mo_goes_eq hA1 hw c1.1 c1.2
      refine ⟨h2, ?_, f2, f3⟩
      rw [bd_eq f1, ix_in (by omega) (by omega), f2.n]
      rfl
theorem mo_add_eq (hS : SM D K B h) (hO : OKS D K B) (a b : Int) :
    (¬ ((0 ≤ a ∧ a < D 7 0) ∧ (0 ≤ b ∧ b < D 7 0) ∧ a ≠ b) → mo_add 132 a b h = some (-1, h)) ∧
    (((0 ≤ a ∧ a < D 7 0) ∧ (0 ≤ b ∧ b < D 7 0) ∧ a ≠ b) → (D 7 1 = 16 → mo_add 132 a b h = some (-3, h)) ∧
      (D 7 1 ≠ 16 → MChg D K B h (mo_add 132 a b h) (D 7 1) (dLay D (min a b) (max a b) 0 0 0))) := by
  have hA := hS.1
  have hw := hO.1
  have w0 := hw.1
  have w1 := hw.2.1
  refine ⟨fun c => ?_, fun ⟨c1, c2, c3⟩ => ⟨fun c4 => ?_, fun c4 => ?_⟩⟩
  · unfold mo_add mo_add_b21
    rw [bd_eq (mo_isPoint_eq hA hw a)]
    by_cases c1 : 0 ≤ a ∧ a < D 7 0
    · rw [yn_t c1, if_neg (by decide), bd_eq (mo_isPoint_eq hA hw b)]
      by_cases c2 : 0 ≤ b ∧ b < D 7 0
      · rw [yn_t c2, if_neg (by decide), if_pos (Classical.byContradiction fun q => c ⟨c1, c2, q⟩)]
      · rw [yn_f c2, if_pos rfl]
    · rw [yn_f c1, if_pos rfl]
  · simp only [mo_add, Nat.reduceAdd]
    rw [bd_eq (mo_isPoint_eq hA hw a), yn_t c1, if_neg (by decide), bd_eq (mo_isPoint_eq hA hw b), yn_t c2, if_neg (by decide), if_neg c3, ix_in (by omega) (by omega), hA.m, if_pos c4]
  · refine mchg_of hS hO (fun h3 => if a < b then mo_add_b53 132 a b a h3 else mo_add_b53 132 a b b h3) ?_ (fun h1 hA1 => ?_)
    · simp only [mo_add, Nat.reduceAdd]
      rw [bd_eq (mo_isPoint_eq hA hw a), yn_t c1, if_neg (by decide), bd_eq (mo_isPoint_eq hA hw b), yn_t c2, if_neg (by decide), if_neg c3, ix_in (by omega) (by omega), hA.m, if_neg c4]
    · obtain ⟨f1, f2, f3⟩ := mo_lays_eq hA1 ⟨w1.1, by omega⟩ w0 (min a b) (max a b) 0 0 0
      refine ⟨_, ?_, f2, f3⟩
      have e63 : mo_add_b63 132 a b (max a b) (min a b) h1 = some (D 7 1, hlay h1 (D 7 1) (min a b) (max a b) 0 0 0) := by
        simp only [mo_add_b63, Nat.reduceAdd]
        have em : hlay h1 (D 7 1) (min a b) (max a b) 0 0 0 133 13 = D 7 1 + 1 := f2.m
        rw [bd_eq f1, ix_in (by omega) (by omega), em, ck_in ⟨by omega, by omega⟩, show D 7 1 + 1 - 1 = D 7 1 by omega]
      unfold mo_add_b53
      by_cases q : a < b
      · rw [if_pos q, if_pos q]
        rw [Int.min_eq_left (by omega), Int.max_eq_right (by omega)] at e63
        rw [Int.min_eq_left (by omega), Int.max_eq_right (by omega)]
        exact e63
      · rw [if_neg q, if_neg q]
        rw [Int.min_eq_right (by omega), Int.max_eq_left (by omega)] at e63
        rw [Int.min_eq_right (by omega), Int.max_eq_left (by omega)]
        exact e63
def hdrp (h : Hp) (lo hi : Int) : Hp := fun c j => if c = 133 ∧ lo ≤ j ∧ j < hi then h 133 (j + 6) else h c j
theorem mo_drop_eq (hS : SM D K B h) (hO : OKS D K B) (d : Int) :
    (¬ (0 ≤ d ∧ d < D 7 1) → mo_drop 132 d h = some (-1, h)) ∧
    (0 ≤ d ∧ d < D 7 1 → MChg D K B h (mo_drop 132 d h) (D 7 1 - 1) (dDel D d)) := by
  have hA := hS.1
  have hw := hO.1
  have w0 := hw.1
  have w1 := hw.2.1
  refine ⟨fun c => ?_, fun c => ?_⟩
  · unfold mo_drop
    rw [bd_eq (mo_isDimension_eq hA hw d), yn_f c, if_pos rfl]
  · refine mchg_of hS hO (fun h2 => ix 13 1120 (ck ((h2 133 13) - 1) (ix 13 1120 (lt (hu h2 133 13 ((h2 133 13) - 1)) fun h3 => ck (6 * d) (ck (14 + (6 * d)) (iter1 (mo_drop_f33 132 d) fuel (14 + (6 * d)) h3)))))) ?_ (fun h1 hA1 => ?_)
    · simp only [mo_drop, Nat.reduceAdd]
      rw [bd_eq (mo_isDimension_eq hA hw d), yn_t c, if_neg (by decide)]
    · have em := hA1.m
      refine ⟨hdrp (hu h1 133 13 (D 7 1 - 1)) (14 + 6 * d) (14 + 6 * (D 7 1 - 1)), ?_, ?_, ?_⟩
      · rw [ix_in (by omega) (by omega), em, ck_in ⟨by omega, by omega⟩, ix_in (by omega) (by omega), lt_eq, ck_in ⟨by omega, by omega⟩, ck_in ⟨by omega, by omega⟩]
        have key := it1_seq (F := mo_drop_f33 132 d) (fun k => 14 + 6 * d + (k : Int)) (fun k => hdrp (hu h1 133 13 (D 7 1 - 1)) (14 + 6 * d) (14 + 6 * d + (k : Int))) (6 * (D 7 1 - 1 - d)).toNat (R := some (D 7 1 - 1, hdrp (hu h1 133 13 (D 7 1 - 1)) (14 + 6 * d) (14 + 6 * (D 7 1 - 1)))) (fun k i hi => ?_) (fun k => ?_) fuel 0 (Nat.zero_le _) (by unfold fuel; omega)
        · have e0 : hdrp (hu h1 133 13 (D 7 1 - 1)) (14 + 6 * d) (14 + 6 * d + ((0 : Nat) : Int)) = hu h1 133 13 (D 7 1 - 1) := by
            funext a j
            unfold hdrp
            rw [if_neg (by omega)]
          rw [e0, show 14 + 6 * d + ((0 : Nat) : Int) = 14 + 6 * d by omega] at key
          exact key
        · have e13 : hdrp (hu h1 133 13 (D 7 1 - 1)) (14 + 6 * d) (14 + 6 * d + (i : Int)) 133 13 = D 7 1 - 1 := by
            unfold hdrp
            rw [if_neg (by omega)]
            exact hu_s
          simp only [mo_drop_f33, Nat.reduceAdd]
          rw [ix_in (by omega) (by omega), e13, ck_in ⟨by omega, by omega⟩, ck_in ⟨by omega, by omega⟩, if_pos (by omega), ck_in ⟨by omega, by omega⟩, ix_in (by omega) (by omega), ix_in (by omega) (by omega), lt_eq, ck_in ⟨by omega, by omega⟩]
          rw [show 14 + 6 * d + (i : Int) + 1 = 14 + 6 * d + ((i + 1 : Nat) : Int) by rw [nc_s]; omega]
          refine congrArg (k _) ?_
          funext a j
          unfold hdrp
          rw [nc_s]
          unfold hu
          grind
        · have e13 : hdrp (hu h1 133 13 (D 7 1 - 1)) (14 + 6 * d) (14 + 6 * (D 7 1 - 1)) 133 13 = D 7 1 - 1 := by
            unfold hdrp
            rw [if_neg (by omega)]
            exact hu_s
          simp only [mo_drop_f33, Nat.reduceAdd]
          rw [show 14 + 6 * d + (((6 * (D 7 1 - 1 - d)).toNat : Nat) : Int) = 14 + 6 * (D 7 1 - 1) by omega, ix_in (by omega) (by omega), e13, ck_in ⟨by omega, by omega⟩, ck_in ⟨by omega, by omega⟩, if_neg (by omega), ix_in (by omega) (by omega)]
      · obtain ⟨⟨a0, a1, a2, a3⟩, hp, hr⟩ := hA1
        refine ⟨⟨?_, ?_, ?_, ?_⟩, fun i g0 g1 => ?_, fun e g0 g1 => ?_⟩
        · unfold hdrp hu dDel; grind
        · unfold hdrp hu dDel; grind
        · unfold hdrp hu dDel; grind
        · unfold hdrp hu dDel; grind
        · have := hp i g0 (by unfold dDel at g1; grind)
          unfold dDel at g1
          unfold hdrp hu dDel; grind
        · have g1' : e < D 7 1 - 1 := by unfold dDel at g1; grind
          by_cases q : e < d
          · obtain ⟨r1, r2, r3, r4, r5, r6⟩ := hr e g0 (by omega)
            unfold hdrp hu dDel
            refine ⟨?_, ?_, ?_, ?_, ?_, ?_⟩ <;> grind
          · obtain ⟨r1, r2, r3, r4, r5, r6⟩ := hr (e + 1) (by omega) (by omega)
            unfold hdrp hu dDel
            refine ⟨?_, ?_, ?_, ?_, ?_, ?_⟩ <;> grind
      · refine ⟨fun a g => funext fun j => ?_, fun j g => ?_⟩
        · unfold hdrp hu; grind
        · unfold hdrp hu; grind
theorem AtM.set {r : Nat} {k v : Int} (ha : AtM D h 0) (hw : WF D) (h0 : 0 ≤ k) (h1 : k < D 7 1) (hr1 : 3 ≤ r) (hr2 : r ≤ 6) : AtM (dSet D r k v) (hu h 133 (14 + 6 * k + ((r : Int) - 1)) v) 0 := by
  have w0 := hw.1
  obtain ⟨⟨a0, a1, a2, a3⟩, hp, hr⟩ := ha
  refine ⟨⟨?_, ?_, ?_, ?_⟩, fun i g0 g1 => ?_, fun e g0 g1 => ?_⟩
  · unfold hu dSet; grind
  · unfold hu dSet; grind
  · unfold hu dSet; grind
  · unfold hu dSet; grind
  · have := hp i g0 (by unfold dSet at g1; grind)
    unfold dSet at g1
    unfold hu dSet; grind
  · have g1' : e < D 7 1 := by unfold dSet at g1; grind
    obtain ⟨r1, r2, r3, r4, r5, r6⟩ := hr e g0 g1'
    rcases (by omega : r = 3 ∨ r = 4 ∨ r = 5 ∨ r = 6) with q | q | q | q <;> subst q <;> unfold hu dSet <;> refine ⟨?_, ?_, ?_, ?_, ?_, ?_⟩ <;> grind
theorem dSet_wf_n {r : Nat} {k v : Int} (hr : r ≠ 7) : dSet D r k v 7 0 = D 7 0 ∧ dSet D r k v 7 1 = D 7 1 := by
  unfold dSet
  grind
theorem mo_becomes_eq (hS : SM D K B h) (hO : OKS D K B) {d w v : Int} (h0 : 0 ≤ d) (h1 : d < D 7 1) (r : Nat) (hr1 : 3 ≤ r) (hr2 : r ≤ 6) (hrw : (r : Int) - 1 = w) : MChg D K B h (mo_becomes 132 d w v h) (D r d) (dSet D r d v) := by
  have hw := hO.1
  have w1 := hw.2.1
  subst hrw
  refine mchg_of hS hO (fun h1' => bd (mo_of 132 d ((r : Int) - 1) h1') fun r2 h2 => bd (mo_sets 132 d ((r : Int) - 1) v h2) fun _ h3 => some (r2, h3)) rfl (fun h1' hA1 => ?_)
  refine ⟨hu h1' 133 (14 + 6 * d + ((r : Int) - 1)) v, ?_, hA1.set hw h0 h1 hr1 hr2, pf_hu (by omega)⟩
  rw [bd_eq (mo_of_raw (by omega) (by omega)), bd_eq (mo_sets_raw (by omega) (by omega))]
  obtain ⟨r1, r2, r3, r4, r5, r6⟩ := hA1.dim h0 h1
  rcases (by omega : r = 3 ∨ r = 4 ∨ r = 5 ∨ r = 6) with q | q | q | q <;> subst q
  · rw [show ((3 : Nat) : Int) - 1 = 2 by omega, r3]
  · rw [show ((4 : Nat) : Int) - 1 = 3 by omega, r4]
  · rw [show ((5 : Nat) : Int) - 1 = 4 by omega, r5]
  · rw [show ((6 : Nat) : Int) - 1 = 5 by omega, r6]
theorem mo_setChain_eq (hS : SM D K B h) (hO : OKS D K B) (d v : Int) :
    (¬ ((0 ≤ d ∧ d < D 7 1) ∧ (0 ≤ v ∧ v ≤ 5)) → mo_setChain 132 d v h = some (-1, h)) ∧ ((0 ≤ d ∧ d < D 7 1) ∧ (0 ≤ v ∧ v ≤ 5) → MChg D K B h (mo_setChain 132 d v h) (D 5 d) (dSet D 5 d v)) := by
  have hA := hS.1
  have hw := hO.1
  refine ⟨fun c => ?_, fun ⟨c1, c2⟩ => ?_⟩
  · unfold mo_setChain mo_setChain_b27 mo_setChain_b28
    rw [bd_eq (mo_isDimension_eq hA hw d)]
    by_cases c1 : 0 ≤ d ∧ d < D 7 1
    · rw [yn_t c1, if_neg (by decide), bd_eq (mo_in_eq v 0 5), yn_f (fun q => c ⟨c1, q⟩), if_pos rfl]
    · rw [yn_f c1, if_pos rfl]
  · obtain ⟨h', e1, e2, e3⟩ := mo_becomes_eq hS hO c1.1 c1.2 (v := v) (w := 4) 5 (by omega) (by omega) (by omega)
    refine ⟨h', ?_, e2, e3⟩
    unfold mo_setChain mo_setChain_b28
    rw [bd_eq (mo_isDimension_eq hA hw d), yn_t c1, if_neg (by decide), bd_eq (mo_in_eq v 0 5), yn_t c2, if_neg (by decide), bd_eq e1]
theorem mo_setLeast_eq (hS : SM D K B h) (hO : OKS D K B) (d v : Int) :
    (¬ ((0 ≤ d ∧ d < D 7 1) ∧ (0 ≤ v ∧ v ≤ 9)) → mo_setLeast 132 d v h = some (-1, h)) ∧ ((0 ≤ d ∧ d < D 7 1) ∧ (0 ≤ v ∧ v ≤ 9) → MChg D K B h (mo_setLeast 132 d v h) (D 6 d) (dSet D 6 d v)) := by
  have hA := hS.1
  have hw := hO.1
  refine ⟨fun c => ?_, fun ⟨c1, c2⟩ => ?_⟩
  · unfold mo_setLeast mo_setLeast_b28 mo_setLeast_b29
    rw [bd_eq (mo_isDimension_eq hA hw d)]
    by_cases c1 : 0 ≤ d ∧ d < D 7 1
    · rw [yn_t c1, if_neg (by decide), bd_eq (mo_in_eq v 0 9), yn_f (fun q => c ⟨c1, q⟩), if_pos rfl]
    · rw [yn_f c1, if_pos rfl]
  · obtain ⟨h', e1, e2, e3⟩ := mo_becomes_eq hS hO c1.1 c1.2 (v := v) (w := 5) 6 (by omega) (by omega) (by omega)
    refine ⟨h', ?_, e2, e3⟩
    unfold mo_setLeast mo_setLeast_b29
    rw [bd_eq (mo_isDimension_eq hA hw d), yn_t c1, if_neg (by decide), bd_eq (mo_in_eq v 0 9), yn_t c2, if_neg (by decide), bd_eq e1]
theorem mo_setTolerance_eq (hS : SM D K B h) (hO : OKS D K B) (d u v : Int) :
    (¬ ((0 ≤ d ∧ d < D 7 1) ∧ (0 ≤ u ∧ u ≤ 20) ∧ (0 ≤ v ∧ v ≤ 20)) → mo_setTolerance 132 d u v h = some (-1, h)) ∧ ((0 ≤ d ∧ d < D 7 1) ∧ (0 ≤ u ∧ u ≤ 20) ∧ (0 ≤ v ∧ v ≤ 20) → MChg D K B h (mo_setTolerance 132 d u v h) (100 * D 3 d + D 4 d) (dSet (dSet D 3 d u) 4 d v)) := by
  have hA := hS.1
  have hw := hO.1
  have w1 := hw.2.1
  refine ⟨fun c => ?_, fun ⟨c1, c2, c3⟩ => ?_⟩
  · unfold mo_setTolerance mo_setTolerance_b28
    rw [bd_eq (mo_isDimension_eq hA hw d)]
    by_cases c1 : 0 ≤ d ∧ d < D 7 1
    · rw [yn_t c1, if_neg (by decide), bd_eq (mo_in_eq u 0 20)]
      by_cases c2 : 0 ≤ u ∧ u ≤ 20
      · rw [yn_t c2, if_neg (by decide), bd_eq (mo_in_eq v 0 20), yn_f (fun q => c ⟨c1, c2, q⟩), if_pos rfl]
      · rw [yn_f c2, if_pos rfl]
    · rw [yn_f c1, if_pos rfl]
  · have hd := hw.2.2.2.2.2.2 d c1.1 c1.2
    refine mchg_of hS hO (fun h4 => bd (mo_of 132 d 2 h4) fun r5 h5 => ck (100 * r5) (bd (mo_of 132 d 3 h5) fun r6 h6 => ck ((100 * r5) + r6) (bd (mo_sets 132 d 2 u h6) fun _ h7 => bd (mo_sets 132 d 3 v h7) fun _ h8 => some ((100 * r5) + r6, h8)))) ?_ (fun h1' hA1 => ?_)
    · unfold mo_setTolerance
      rw [bd_eq (mo_isDimension_eq hA hw d), yn_t c1, if_neg (by decide), bd_eq (mo_in_eq u 0 20), yn_t c2, if_neg (by decide), bd_eq (mo_in_eq v 0 20), yn_t c3, if_neg (by decide)]
    · obtain ⟨r1, r2, r3, r4, r5, r6⟩ := hA1.dim c1.1 c1.2
      have hA2 := hA1.set (r := 3) (v := u) hw c1.1 c1.2 (by omega) (by omega)
      have hw2 : WF (dSet D 3 d u) := by
        obtain ⟨v1, v2, v3, v4, v5, v6, v7⟩ := hw
        refine ⟨?_, ?_, ?_, ?_, fun i g0 g1 => ?_, fun i j g0 g1 g2 => ?_, fun e g0 g1 => ?_⟩
        · unfold dSet; grind
        · unfold dSet; grind
        · unfold dSet; grind
        · unfold dSet; grind
        · unfold dSet at g1 ⊢; grind
        · unfold dSet at g2 ⊢; grind
        · unfold dSet at g1 ⊢; grind
      have hA3 := hA2.set (r := 4) (v := v) hw2 c1.1 (by rw [(dSet_wf_n (by decide)).2]; exact c1.2) (by omega) (by omega)
      refine ⟨_, ?_, hA3, (pf_hu (by omega)).trans (pf_hu (by omega))⟩
      rw [bd_eq (mo_of_raw (by omega) (by omega)), r3, ck_in ⟨by omega, by omega⟩, bd_eq (mo_of_raw (by omega) (by omega)), r4, ck_in ⟨by omega, by omega⟩, bd_eq (mo_sets_raw (by omega) (by omega)), bd_eq (mo_sets_raw (by omega) (by omega))]
      rfl
theorem mo_setting_eq (hS : SM D K B h) (hO : OKS D K B) (v : Int) (q a : Int) (hq : (q = 2 ∧ a = 110) ∨ (q = 3 ∧ a = 111)) :
    (¬ (1 ≤ v ∧ v ≤ 9) → mo_setting 132 a v h = some (-1, h)) ∧ ((1 ≤ v ∧ v ≤ 9) → MChg D K B h (mo_setting 132 a v h) (D 7 q) (dSet D 7 q v)) := by
  have hA := hS.1
  have hw := hO.1
  have w0 := hw.1
  have w1 := hw.2.1
  refine ⟨fun c => ?_, fun c => ?_⟩
  · unfold mo_setting
    rw [bd_eq (mo_in_eq v 1 9), yn_f c, if_pos rfl]
  · refine mchg_of hS hO (fun h2 => ix a 1120 (ix a 1120 (lt (hu h2 133 a v) fun h3 => some (h2 133 a, h3)))) ?_ (fun h1' hA1 => ?_)
    · simp only [mo_setting, Nat.reduceAdd]
      rw [bd_eq (mo_in_eq v 1 9), yn_t c, if_neg (by decide)]
    · refine ⟨hu h1' 133 a v, ?_, ?_, pf_hu (by omega)⟩
      · rw [ix_in (by omega) (by omega), ix_in (by omega) (by omega), lt_eq]
        obtain ⟨⟨a0, a1, a2, a3⟩, -⟩ := hA1
        rcases hq with ⟨rfl, rfl⟩ | ⟨rfl, rfl⟩
        · rw [a2]; rfl
        · rw [a3]; rfl
      · obtain ⟨⟨a0, a1, a2, a3⟩, hp, hr⟩ := hA1
        refine ⟨⟨?_, ?_, ?_, ?_⟩, fun i g0 g1 => ?_, fun e g0 g1 => ?_⟩
        · unfold hu dSet; grind
        · unfold hu dSet; grind
        · unfold hu dSet; grind
        · unfold hu dSet; grind
        · have g1' : i < D 7 0 := by unfold dSet at g1; grind
          have := hp i g0 g1'
          unfold hu dSet; grind
        · have g1' : e < D 7 1 := by unfold dSet at g1; grind
          obtain ⟨r1, r2, r3, r4, r5, r6⟩ := hr e g0 g1'
          unfold hu dSet
          refine ⟨?_, ?_, ?_, ?_, ?_, ?_⟩ <;> grind
end MOQ

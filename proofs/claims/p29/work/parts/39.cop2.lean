section COQ
variable {D : Dr} {K : Int} {B : Int → Dr} {h : Hp}
/-- insertPoint's drawing ahead of the move: the new point stands last -/
def dNew (D : Dr) (x : Int) : Dr := fun r i => if r = 0 ∧ i = D 7 0 then x else if r = 7 ∧ i = 0 then D 7 0 + 1 else D r i
theorem dIns_shift (hw : WF D) {x c : Int} (h0 : 0 ≤ c) (h1 : c ≤ D 7 0) : Eqv (dIns D x c) (dShift (dNew D x) (D 7 0) x c) := by
  rw [Eqv_iff]
  refine ⟨⟨rfl, rfl, rfl, rfl⟩, fun i g0 g1 => ?_, fun d g0 g1 => ?_⟩
  · have g1' : i < D 7 0 + 1 := g1
    show (if i < c then D 0 i else if i = c then x else D 0 (i - 1)) = (if i = c then x else if D 7 0 ≤ i ∧ i < c then dNew D x 0 (i + 1) else if c < i ∧ i ≤ D 7 0 then dNew D x 0 (i - 1) else dNew D x 0 i)
    by_cases q : i = c
    · rw [if_neg (show ¬ i < c by omega), if_pos q, if_pos q]
    · by_cases q2 : i < c
      · have e : dNew D x 0 i = D 0 i := by
          unfold dNew
          rw [if_neg (by omega), if_neg (by omega)]
        rw [if_pos q2, if_neg q, if_neg (show ¬ (D 7 0 ≤ i ∧ i < c) by omega), if_neg (show ¬ (c < i ∧ i ≤ D 7 0) by omega), e]
      · have e : dNew D x 0 (i - 1) = D 0 (i - 1) := by
          unfold dNew
          rw [if_neg (by omega), if_neg (by omega)]
        rw [if_neg q2, if_neg q, if_neg q, if_neg (show ¬ (D 7 0 ≤ i ∧ i < c) by omega), if_pos (show c < i ∧ i ≤ D 7 0 by omega), e]
  · have g1' : d < D 7 1 := g1
    have hd := (hw.2.2.2.2.2.2 d g0 g1').1
    have key : ∀ f : Int, f < D 7 0 → (if c ≤ f then f + 1 else f) = ren f (D 7 0) c := by
      intro f hf
      unfold ren
      rw [if_neg (show ¬ f = D 7 0 by omega), if_neg (show ¬ (D 7 0 < f ∧ f ≤ c) by omega)]
      by_cases q : c ≤ f
      · rw [if_pos q, if_pos (show c ≤ f ∧ f < D 7 0 by omega)]
      · rw [if_neg q, if_neg (show ¬ (c ≤ f ∧ f < D 7 0) by omega)]
    have k1 := key (D 1 d) (by omega)
    have k2 := key (D 2 d) (by omega)
    refine ⟨?_, ?_, rfl, rfl, rfl, rfl⟩
    · show (if c ≤ D 1 d then D 1 d + 1 else D 1 d) = min (ren (D 1 d) (D 7 0) c) (ren (D 2 d) (D 7 0) c)
      rw [← k1, ← k2]
      split <;> split <;> omega
    · show (if c ≤ D 2 d then D 2 d + 1 else D 2 d) = max (ren (D 1 d) (D 7 0) c) (ren (D 2 d) (D 7 0) c)
      rw [← k1, ← k2]
      split <;> split <;> omega
theorem dl_addPoint_eq (hS : CS D K B h) (hO : OKS D K B) (x : Int) :
    (¬ (0 ≤ x ∧ x ≤ 300) → dl_addPoint 0 x h = some (-1, h)) ∧
    (0 ≤ x ∧ x ≤ 300 → (hasX D x → dl_addPoint 0 x h = some (-2, h)) ∧
      (¬ hasX D x → (D 7 0 = 12 → dl_addPoint 0 x h = some (-3, h)) ∧
        (D 7 0 ≠ 12 → CChg D K B h (dl_addPoint 0 x h) (cntB (D 0) x (D 7 0).toNat) (dIns D x (cntB (D 0) x (D 7 0).toNat))))) := by
  have hA := hS.1
  have hw := hO.1
  have hW := hA.wf hw
  have w0 := hw.1
  have en : h 1 7 = D 7 0 := hA.1.1.symm
  have hX : yn (cntB (h (1 + 1)) x (h 1 7).toNat < h 1 7 ∧ h (1 + 1) (cntB (h (1 + 1)) x (h 1 7).toNat) = x) = yn (cntB (D 0) x (D 7 0).toNat < D 7 0 ∧ D 0 (cntB (D 0) x (D 7 0).toNat) = x) := yn_congr (atC_hasX hA hw x)
  have hb := cntB_b (D 0) x (D 7 0).toNat
  refine ⟨fun c => ?_, fun c => ⟨fun c2 => ?_, fun c2 => ⟨fun c3 => ?_, fun c3 => ?_⟩⟩⟩
  · unfold dl_addPoint
    rw [bd_eq (dl_isWithin_eq x 0 300), yn_f c, if_pos rfl]
  · simp only [dl_addPoint, Nat.reduceAdd]
    rw [bd_eq (dl_isWithin_eq x 0 300), yn_t c, if_neg (by decide), bd_eq (dr_hasPointAt_eq hW x), hX, yn_t (show cntB (D 0) x (D 7 0).toNat < D 7 0 ∧ D 0 (cntB (D 0) x (D 7 0).toNat) = x from c2), if_neg (by decide)]
  · simp only [dl_addPoint, Nat.reduceAdd]
    rw [bd_eq (dl_isWithin_eq x 0 300), yn_t c, if_neg (by decide), bd_eq (dr_hasPointAt_eq hW x), hX, yn_f (show ¬ (cntB (D 0) x (D 7 0).toNat < D 7 0 ∧ D 0 (cntB (D 0) x (D 7 0).toNat) = x) from c2), if_pos rfl, en, if_pos c3]
  · refine cchg_of hS hO (fun h3 => bd (dr_insertPoint 1 x h3) fun r4 h4 => some (r4, h4)) ?_ (fun h1 hA1 => ?_)
    · simp only [dl_addPoint, Nat.reduceAdd]
      rw [bd_eq (dl_isWithin_eq x 0 300), yn_t c, if_neg (by decide), bd_eq (dr_hasPointAt_eq hW x), hX, yn_f (show ¬ (cntB (D 0) x (D 7 0).toNat < D 7 0 ∧ D 0 (cntB (D 0) x (D 7 0).toNat) = x) from c2), if_pos rfl, en, if_neg c3]
    · obtain ⟨q1, q2, q3⟩ := hA1.raw hw
      have en1 : h1 1 7 = D 7 0 := hA1.1.1.symm
      have hA2 : AtC (dNew D x) (hu (hu h1 1 7 (D 7 0 + 1)) 2 (D 7 0) x) 1 := by
        obtain ⟨⟨a0, a1, a2, a3⟩, hp, hr⟩ := hA1
        refine ⟨⟨?_, ?_, ?_, ?_⟩, fun i g0 g1 => ?_, fun d g0 g1 => ?_⟩
        · rw [hu_o (by decide), hu_s]; rfl
        · rw [hu_o (by decide), hu_j 1 (by decide)]; exact a1
        · rw [hu_o (by decide), hu_j 1 (by decide)]; exact a2
        · rw [hu_o (by decide), hu_j 1 (by decide)]; exact a3
        · have g1' : i < D 7 0 + 1 := g1
          by_cases q : i = D 7 0
          · subst q
            show (if (0 : Nat) = 0 ∧ D 7 0 = D 7 0 then x else _) = hu (hu h1 1 7 (D 7 0 + 1)) 2 (D 7 0) x 2 (D 7 0)
            rw [hu_s, if_pos ⟨rfl, rfl⟩]
          · have := hp i g0 (by omega)
            show dNew D x 0 i = hu (hu h1 1 7 (D 7 0 + 1)) 2 (D 7 0) x 2 i
            rw [hu_j 2 q, hu_o (by decide)]
            unfold dNew
            rw [if_neg (fun z => q z.2), if_neg (by omega)]
            exact this
        · have g1' : d < D 7 1 := g1
          obtain ⟨r1, r2, r3, r4, r5, r6⟩ := hr d g0 g1'
          refine ⟨?_, ?_, ?_, ?_, ?_, ?_⟩ <;> rw [hu_o (by decide), hu_o (by decide)] <;> assumption
      have e7 : hu (hu h1 1 7 (D 7 0 + 1)) 2 (D 7 0) x 1 7 = D 7 0 + 1 := by rw [hu_o (by decide), hu_s]
      have e8 : hu (hu h1 1 7 (D 7 0 + 1)) 2 (D 7 0) x 1 8 = h1 1 8 := by rw [hu_o (by decide), hu_j 1 (by decide)]
      have epl : plOf (hu (hu h1 1 7 (D 7 0 + 1)) 2 (D 7 0) x) 1 (D 7 0) x = cntB (D 0) x (D 7 0).toNat := by
        unfold plOf
        rw [show (1 + 1 : Nat) = 2 from rfl, hu_s, if_neg (by omega), e7, show (D 7 0 + 1).toNat = (D 7 0).toNat + 1 by omega]
        show cntB _ x (D 7 0).toNat + yn (hu (hu h1 1 7 (D 7 0 + 1)) 2 (D 7 0) x 2 (((D 7 0).toNat : Nat) : Int) < x) = _
        rw [Int.toNat_of_nonneg w0.1, hu_s, yn_f (by omega), Int.add_zero]
        refine cntB_congr (fun i a b => ?_)
        rw [hu_j 2 (by omega), hu_o (by decide)]
        exact (hA1.2.1 i a (by omega)).symm
      have e5 := dr_shiftPoint_eq (h := hu (hu h1 1 7 (D 7 0 + 1)) 2 (D 7 0) x) (th := 1) (by rw [e7]; omega) (by rw [e8]; exact q2) (fun d a b => by
        rw [e8] at b
        rw [hu_o (by decide), hu_o (by decide), hu_o (by decide), hu_o (by decide)]
        exact q3 d a b) (p := D 7 0) (x := x) w0.1 (by omega) (by rw [epl]; omega)
      rw [epl] at e5
      refine ⟨hshift (hu (hu h1 1 7 (D 7 0 + 1)) 2 (D 7 0) x) 1 (D 7 0) x (cntB (D 0) x (D 7 0).toNat), ?_, ?_, ?_⟩
      · simp only [dr_insertPoint, Nat.reduceAdd]
        rw [en1, ck_in ⟨by omega, by omega⟩, lt_eq, hu_s, ck_in ⟨by omega, by omega⟩, show D 7 0 + 1 - 1 = D 7 0 by omega, ix_in (by omega) (by omega), lt_eq, e7, ck_in ⟨by omega, by omega⟩, show D 7 0 + 1 - 1 = D 7 0 by omega, bd_eq e5]
        rfl
      · exact (hA2.shift hw.2.1 ⟨w0.1, by show D 7 0 < D 7 0 + 1; omega⟩ ⟨hb.1, by show _ < D 7 0 + 1; omega⟩).eqv (dIns_shift hw hb.1 (by omega))
      · intro c' g
        rw [cf_shift c' g]
        funext j
        rw [hu_o (by omega), hu_o (by omega)]
theorem dl_areTwoPoints_eq (hA : AtC D h 1) (a b : Int) : dl_areTwoPoints 0 a b h = some (yn ((0 ≤ a ∧ a < D 7 0) ∧ (0 ≤ b ∧ b < D 7 0) ∧ a ≠ b), h) := by
  have en : h 1 7 = D 7 0 := hA.1.1.symm
  simp only [dl_areTwoPoints, dl_areTwoPoints_b31, dl_areTwoPoints_b32, Nat.reduceAdd]
  rw [bd_eq (dr_hasPoint_eq a), en]
  by_cases c1 : 0 ≤ a ∧ a < D 7 0
  · rw [yn_t c1, if_neg (by decide), bd_eq (dr_hasPoint_eq b), en]
    by_cases c2 : 0 ≤ b ∧ b < D 7 0
    · rw [yn_t c2, if_neg (by decide)]
      by_cases c3 : a = b
      · rw [if_pos c3, yn_f (fun q => q.2.2 c3)]; rfl
      · rw [if_neg c3, yn_t ⟨c1, c2, c3⟩]; rfl
    · rw [yn_f c2, if_pos rfl, yn_f (fun q => c2 q.2.1)]; rfl
  · rw [yn_f c1, if_pos rfl, yn_f (fun q => c1 q.1)]; rfl
theorem dl_add_eq (hS : CS D K B h) (hO : OKS D K B) (a b : Int) :
    (¬ ((0 ≤ a ∧ a < D 7 0) ∧ (0 ≤ b ∧ b < D 7 0) ∧ a ≠ b) → dl_add 0 a b h = some (-1, h)) ∧
    (((0 ≤ a ∧ a < D 7 0) ∧ (0 ≤ b ∧ b < D 7 0) ∧ a ≠ b) → (D 7 1 = 16 → dl_add 0 a b h = some (-3, h)) ∧
      (D 7 1 ≠ 16 → CChg D K B h (dl_add 0 a b h) (D 7 1) (dLay D (min a b) (max a b) 0 0 0))) := by
  have hA := hS.1
  have hw := hO.1
  have w1 := hw.2.1
  have em : h 1 8 = D 7 1 := hA.1.2.1.symm
  refine ⟨fun c => ?_, fun c => ⟨fun c4 => ?_, fun c4 => ?_⟩⟩
  · unfold dl_add
    rw [bd_eq (dl_areTwoPoints_eq hA a b), yn_f c, if_pos rfl]
  · simp only [dl_add, Nat.reduceAdd]
    rw [bd_eq (dl_areTwoPoints_eq hA a b), yn_t c, if_neg (by decide), em, if_pos c4]
  · refine cchg_of hS hO (fun h2 => bd (dr_append 1 (min a b) (max a b) h2) fun r3 h3 => some (r3, h3)) ?_ (fun h1 hA1 => ?_)
    · simp only [dl_add, Nat.reduceAdd]
      rw [bd_eq (dl_areTwoPoints_eq hA a b), yn_t c, if_neg (by decide), em, if_neg c4]
    · have em1 : h1 1 8 = D 7 1 := hA1.1.2.1.symm
      refine ⟨hadd h1 1 (min a b) (max a b), ?_, ?_, ?_⟩
      · rw [bd_eq (dr_append_eq (by rw [em1]; omega) _ _), em1]
      · obtain ⟨⟨a0, a1, a2, a3⟩, hp, hr⟩ := hA1
        refine ⟨⟨?_, ?_, ?_, ?_⟩, fun i g0 g1 => ?_, fun d g0 g1 => ?_⟩
        · unfold hadd dLay; grind
        · unfold hadd dLay; grind
        · unfold hadd dLay; grind
        · unfold hadd dLay; grind
        · have g1' : i < D 7 0 := by unfold dLay at g1; grind
          have := hp i g0 g1'
          unfold hadd dLay; grind
        · have g1' : d < D 7 1 + 1 := by unfold dLay at g1; grind
          by_cases q : d = D 7 1
          · subst q
            unfold hadd dLay
            refine ⟨?_, ?_, ?_, ?_, ?_, ?_⟩ <;> grind
          · obtain ⟨r1, r2, r3, r4, r5, r6⟩ := hr d g0 (by omega)
            unfold hadd dLay
            refine ⟨?_, ?_, ?_, ?_, ?_, ?_⟩ <;> grind
      · intro c' g
        funext j
        unfold hadd
        rw [if_neg (by omega), if_neg (by omega)]
theorem dl_drop_eq (hS : CS D K B h) (hO : OKS D K B) (d : Int) :
    (¬ (0 ≤ d ∧ d < D 7 1) → dl_drop 0 d h = some (-1, h)) ∧
    (0 ≤ d ∧ d < D 7 1 → CChg D K B h (dl_drop 0 d h) (D 7 1 - 1) (dDel D d)) := by
  have hA := hS.1
  have hw := hO.1
  have w1 := hw.2.1
  have em : h 1 8 = D 7 1 := hA.1.2.1.symm
  refine ⟨fun c => ?_, fun c => ?_⟩
  · simp only [dl_drop, Nat.reduceAdd]
    rw [bd_eq (dr_hasDimension_eq d), em, yn_f c, if_pos rfl]
  · refine cchg_of hS hO (fun h2 => bd (dr_removeDimension 1 d h2) fun _ h3 => some (h3 1 8, h3)) ?_ (fun h1 hA1 => ?_)
    · simp only [dl_drop, Nat.reduceAdd]
      rw [bd_eq (dr_hasDimension_eq d), em, yn_t c, if_neg (by decide)]
    · have em1 : h1 1 8 = D 7 1 := hA1.1.2.1.symm
      refine ⟨hdel h1 1 d, ?_, ?_, ?_⟩
      · rw [bd_eq (dr_removeDimension_eq (by rw [em1]; exact w1) c.1 (by rw [em1]; exact c.2))]
        unfold hdel
        rw [if_pos ⟨rfl, rfl⟩, em1]
      · obtain ⟨⟨a0, a1, a2, a3⟩, hp, hr⟩ := hA1
        refine ⟨⟨?_, ?_, ?_, ?_⟩, fun i g0 g1 => ?_, fun e g0 g1 => ?_⟩
        · unfold hdel dDel; grind
        · unfold hdel dDel; grind
        · unfold hdel dDel; grind
        · unfold hdel dDel; grind
        · have g1' : i < D 7 0 := by unfold dDel at g1; grind
          have := hp i g0 g1'
          unfold hdel dDel; grind
        · have g1' : e < D 7 1 - 1 := by unfold dDel at g1; grind
          by_cases q : e < d
          · obtain ⟨r1, r2, r3, r4, r5, r6⟩ := hr e g0 (by omega)
            unfold hdel dDel
            refine ⟨?_, ?_, ?_, ?_, ?_, ?_⟩ <;> grind
          · obtain ⟨r1, r2, r3, r4, r5, r6⟩ := hr (e + 1) (by omega) (by omega)
            unfold hdel dDel
            refine ⟨?_, ?_, ?_, ?_, ?_, ?_⟩ <;> grind
      · intro c' g
        funext j
        unfold hdel
        rw [if_neg (by omega), if_neg (by omega)]
theorem AtC.set {r : Nat} {k v : Int} (ha : AtC D h 1) (hr1 : 3 ≤ r) (hr2 : r ≤ 6) : AtC (dSet D r k v) (hu h (r + 2) k v) 1 := by
  obtain ⟨⟨a0, a1, a2, a3⟩, hp, hr⟩ := ha
  refine ⟨⟨?_, ?_, ?_, ?_⟩, fun i g0 g1 => ?_, fun e g0 g1 => ?_⟩
  · unfold hu dSet; grind
  · unfold hu dSet; grind
  · unfold hu dSet; grind
  · unfold hu dSet; grind
  · have := hp i g0 (by unfold dSet at g1; grind)
    unfold dSet at g1
    unfold hu dSet; grind
  · have g1' : e < D 7 1 := by unfold dSet at g1; grind
    obtain ⟨r1, r2, r3, r4, r5, r6⟩ := hr e g0 g1'
    rcases (by omega : r = 3 ∨ r = 4 ∨ r = 5 ∨ r = 6) with q | q | q | q <;> subst q <;> unfold hu dSet <;> refine ⟨?_, ?_, ?_, ?_, ?_, ?_⟩ <;> grind
theorem cf_hu {c : Nat} {j v : Int} (g0 : 1 ≤ c) (g1 : c < 9) : CF h (hu h c j v) := fun c' g => funext fun i => hu_o (by omega) i
theorem dl_setTolerance_eq (hS : CS D K B h) (hO : OKS D K B) (d u v : Int) :
    (¬ ((0 ≤ d ∧ d < D 7 1) ∧ (0 ≤ u ∧ u ≤ 20) ∧ (0 ≤ v ∧ v ≤ 20)) → dl_setTolerance 0 d u v h = some (-1, h)) ∧ ((0 ≤ d ∧ d < D 7 1) ∧ (0 ≤ u ∧ u ≤ 20) ∧ (0 ≤ v ∧ v ≤ 20) → CChg D K B h (dl_setTolerance 0 d u v h) (100 * D 3 d + D 4 d) (dSet (dSet D 3 d u) 4 d v)) := by
  have hA := hS.1
  have hw := hO.1
  have w1 := hw.2.1
  have em : h 1 8 = D 7 1 := hA.1.2.1.symm
  refine ⟨fun c => ?_, fun ⟨c1, c2, c3⟩ => ?_⟩
  · simp only [dl_setTolerance, dl_setTolerance_b31, Nat.reduceAdd]
    rw [bd_eq (dr_hasDimension_eq d), em]
    by_cases c1 : 0 ≤ d ∧ d < D 7 1
    · rw [yn_t c1, if_neg (by decide), bd_eq (dl_isWithin_eq u 0 20)]
      by_cases c2 : 0 ≤ u ∧ u ≤ 20
      · rw [yn_t c2, if_neg (by decide), bd_eq (dl_isWithin_eq v 0 20), yn_f (fun q => c ⟨c1, c2, q⟩), if_pos rfl]
      · rw [yn_f c2, if_pos rfl]
    · rw [yn_f c1, if_pos rfl]
  · have hd := hw.2.2.2.2.2.2 d c1.1 c1.2
    obtain ⟨r1, r2, r3, r4, r5, r6⟩ := hA.2.2 d c1.1 c1.2
    have e5 : h 5 d = D 3 d := r3.symm
    have e6 : h 6 d = D 4 d := r4.symm
    refine cchg_of hS hO (fun h4 => ix d 16 (lt (hu h4 5 d u) fun h5 => ix d 16 (lt (hu h5 6 d v) fun h6 => some (100 * D 3 d + D 4 d, h6)))) ?_ (fun h1 hA1 => ?_)
    · simp only [dl_setTolerance, Nat.reduceAdd]
      rw [bd_eq (dr_hasDimension_eq d), em, yn_t c1, if_neg (by decide), bd_eq (dl_isWithin_eq u 0 20), yn_t c2, if_neg (by decide), bd_eq (dl_isWithin_eq v 0 20), yn_t c3, if_neg (by decide), ix_in (by omega) (by omega), e5, ck_in ⟨by omega, by omega⟩, ix_in (by omega) (by omega), e6, ck_in ⟨by omega, by omega⟩]
    · refine ⟨hu (hu h1 5 d u) 6 d v, ?_, (hA1.set (r := 3) (by decide) (by decide)).set (r := 4) (by decide) (by decide), fun c' g => funext fun j => by rw [hu_o (by omega), hu_o (by omega)]⟩
      rw [ix_in (by omega) (by omega), lt_eq, ix_in (by omega) (by omega), lt_eq]
theorem dl_setChain_eq (hS : CS D K B h) (hO : OKS D K B) (d v : Int) :
    (¬ ((0 ≤ d ∧ d < D 7 1) ∧ (0 ≤ v ∧ v ≤ 5)) → dl_setChain 0 d v h = some (-1, h)) ∧ ((0 ≤ d ∧ d < D 7 1) ∧ (0 ≤ v ∧ v ≤ 5) → CChg D K B h (dl_setChain 0 d v h) (D 5 d) (dSet D 5 d v)) := by
  have hA := hS.1
  have hw := hO.1
  have w1 := hw.2.1
  have em : h 1 8 = D 7 1 := hA.1.2.1.symm
  refine ⟨fun c => ?_, fun ⟨c1, c2⟩ => ?_⟩
  · simp only [dl_setChain, dl_setChain_b20, Nat.reduceAdd]
    rw [bd_eq (dr_hasDimension_eq d), em]
    by_cases c1 : 0 ≤ d ∧ d < D 7 1
    · rw [yn_t c1, if_neg (by decide), bd_eq (dl_isWithin_eq v 0 5), yn_f (fun q => c ⟨c1, q⟩), if_pos rfl]
    · rw [yn_f c1, if_pos rfl]
  · obtain ⟨r1, r2, r3, r4, r5, r6⟩ := hA.2.2 d c1.1 c1.2
    have e5 : h 7 d = D 5 d := r5.symm
    refine cchg_of hS hO (fun h3 => ix d 16 (lt (hu h3 7 d v) fun h4 => some (D 5 d, h4))) ?_ (fun h1 hA1 => ?_)
    · simp only [dl_setChain, Nat.reduceAdd]
      rw [bd_eq (dr_hasDimension_eq d), em, yn_t c1, if_neg (by decide), bd_eq (dl_isWithin_eq v 0 5), yn_t c2, if_neg (by decide), ix_in (by omega) (by omega), e5]
    · refine ⟨hu h1 7 d v, ?_, hA1.set (r := 5) (by decide) (by decide), cf_hu (by decide) (by decide)⟩
      rw [ix_in (by omega) (by omega), lt_eq]
theorem dl_setLeast_eq (hS : CS D K B h) (hO : OKS D K B) (d v : Int) :
    (¬ ((0 ≤ d ∧ d < D 7 1) ∧ (0 ≤ v ∧ v ≤ 9)) → dl_setLeast 0 d v h = some (-1, h)) ∧ ((0 ≤ d ∧ d < D 7 1) ∧ (0 ≤ v ∧ v ≤ 9) → CChg D K B h (dl_setLeast 0 d v h) (D 6 d) (dSet D 6 d v)) := by
  have hA := hS.1
  have hw := hO.1
  have w1 := hw.2.1
  have em : h 1 8 = D 7 1 := hA.1.2.1.symm
  refine ⟨fun c => ?_, fun ⟨c1, c2⟩ => ?_⟩
  · simp only [dl_setLeast, dl_setLeast_b21, Nat.reduceAdd]
    rw [bd_eq (dr_hasDimension_eq d), em]
    by_cases c1 : 0 ≤ d ∧ d < D 7 1
    · rw [yn_t c1, if_neg (by decide), bd_eq (dl_isWithin_eq v 0 9), yn_f (fun q => c ⟨c1, q⟩), if_pos rfl]
    · rw [yn_f c1, if_pos rfl]
  · obtain ⟨r1, r2, r3, r4, r5, r6⟩ := hA.2.2 d c1.1 c1.2
    have e5 : h 8 d = D 6 d := r6.symm
    refine cchg_of hS hO (fun h3 => ix d 16 (lt (hu h3 8 d v) fun h4 => some (D 6 d, h4))) ?_ (fun h1 hA1 => ?_)
    · simp only [dl_setLeast, Nat.reduceAdd]
      rw [bd_eq (dr_hasDimension_eq d), em, yn_t c1, if_neg (by decide), bd_eq (dl_isWithin_eq v 0 9), yn_t c2, if_neg (by decide), ix_in (by omega) (by omega), e5]
    · refine ⟨hu h1 8 d v, ?_, hA1.set (r := 6) (by decide) (by decide), cf_hu (by decide) (by decide)⟩
      rw [ix_in (by omega) (by omega), lt_eq]
theorem AtC.setS {q a v : Int} (hq : (q = 2 ∧ a = 9) ∨ (q = 3 ∧ a = 10)) (ha : AtC D h 1) : AtC (dSet D 7 q v) (hu h 1 a v) 1 := by
  obtain ⟨⟨a0, a1, a2, a3⟩, hp, hr⟩ := ha
  refine ⟨⟨?_, ?_, ?_, ?_⟩, fun i g0 g1 => ?_, fun e g0 g1 => ?_⟩
  · unfold hu dSet; grind
  · unfold hu dSet; grind
  · unfold hu dSet; grind
  · unfold hu dSet; grind
  · have g1' : i < D 7 0 := by unfold dSet at g1; grind
    have := hp i g0 g1'
    unfold hu dSet; grind
  · have g1' : e < D 7 1 := by unfold dSet at g1; grind
    obtain ⟨r1, r2, r3, r4, r5, r6⟩ := hr e g0 g1'
    unfold hu dSet
    refine ⟨?_, ?_, ?_, ?_, ?_, ?_⟩ <;> grind
theorem dl_setLetter_eq (hS : CS D K B h) (hO : OKS D K B) (v : Int) :
    (¬ (1 ≤ v ∧ v ≤ 9) → dl_setLetter 0 v h = some (-1, h)) ∧ ((1 ≤ v ∧ v ≤ 9) → CChg D K B h (dl_setLetter 0 v h) (D 7 2) (dSet D 7 2 v)) := by
  have e : h 1 9 = D 7 2 := hS.1.1.2.2.1.symm
  refine ⟨fun c => ?_, fun c => ?_⟩
  · unfold dl_setLetter
    rw [bd_eq (dl_isWithin_eq v 1 9), yn_f c, if_pos rfl]
  · refine cchg_of hS hO (fun h2 => lt (hu h2 1 9 v) fun h3 => some (D 7 2, h3)) ?_ (fun h1 hA1 => ⟨hu h1 1 9 v, rfl, hA1.setS (Or.inl ⟨rfl, rfl⟩), cf_hu (by decide) (by decide)⟩)
    simp only [dl_setLetter, Nat.reduceAdd]
    rw [bd_eq (dl_isWithin_eq v 1 9), yn_t c, if_neg (by decide), e]
theorem dl_setArrow_eq (hS : CS D K B h) (hO : OKS D K B) (v : Int) :
    (¬ (1 ≤ v ∧ v ≤ 9) → dl_setArrow 0 v h = some (-1, h)) ∧ ((1 ≤ v ∧ v ≤ 9) → CChg D K B h (dl_setArrow 0 v h) (D 7 3) (dSet D 7 3 v)) := by
  have e : h 1 10 = D 7 3 := hS.1.1.2.2.2.symm
  refine ⟨fun c => ?_, fun c => ?_⟩
  · unfold dl_setArrow
    rw [bd_eq (dl_isWithin_eq v 1 9), yn_f c, if_pos rfl]
  · refine cchg_of hS hO (fun h2 => lt (hu h2 1 10 v) fun h3 => some (D 7 3, h3)) ?_ (fun h1 hA1 => ⟨hu h1 1 10 v, rfl, hA1.setS (Or.inr ⟨rfl, rfl⟩), cf_hu (by decide) (by decide)⟩)
    simp only [dl_setArrow, Nat.reduceAdd]
    rw [bd_eq (dl_isWithin_eq v 1 9), yn_t c, if_neg (by decide), e]
end COQ

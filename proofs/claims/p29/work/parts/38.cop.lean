section COP
def CS (D : Dr) (K : Int) (B : Int → Dr) (h : Hp) : Prop := AtC D h 1 ∧ HistC K B h
def CF (h h' : Hp) : Prop := ∀ c, (c < 1 ∨ 9 ≤ c) → h' c = h c
def CChg (D : Dr) (K : Int) (B : Int → Dr) (h : Hp) (o : O Int) (r : Int) (D' : Dr) : Prop := ∃ h', o = some (r, h') ∧ CS D' (min (K + 1) 8) (pushB D B) h' ∧ h' 0 6 = 0 ∧ h' 0 7 = 0 ∧ ∀ c, 75 ≤ c → h' c = h c
variable {D : Dr} {K : Int} {B : Int → Dr} {h : Hp}
theorem HistC.keep (hH : HistC K B h) {h' : Hp} (e : ∀ c, 9 ≤ c → c < 75 → h' c = h c) : HistC K B h' := by
  obtain ⟨h1, h2, h3, h4⟩ := hH
  have e9 := e 9 (by decide) (by decide)
  refine ⟨by rw [e9]; exact h1, h2, by rw [e9]; exact h3, fun k g0 g1 => ?_⟩
  rw [e9]
  have hs := sl_b (h 9 1) k
  exact ⟨(h4 k g0 g1).1, (h4 k g0 g1).2.keep (fun c a b => e c (by omega) (by omega))⟩
theorem dl_beginChange_eq (hS : CS D K B h) (hw : WF D) : ∃ h', dl_beginChange 0 h = some ((), h') ∧ CS D (min (K + 1) 8) (pushB D B) h' ∧ h' 0 6 = 0 ∧ h' 0 7 = 0 ∧ (∀ c, 75 ≤ c → h' c = h c) := by
  obtain ⟨h1, e1, e2, e3⟩ := hi_record_eq hS.2 hS.1 hw
  refine ⟨hu (hu h1 0 6 0) 0 7 0, ?_, ⟨?_, e2.keep (fun c a b => funext fun j => by rw [hu_o (by omega), hu_o (by omega)])⟩, ?_, hu_s, fun c a => ?_⟩
  · simp only [dl_beginChange, Nat.reduceAdd]
    rw [bd_eq e1]
    rfl
  · exact hS.1.keep (fun c a b => by rw [← e3 c (by omega)]; exact funext fun j => by rw [hu_o (by omega), hu_o (by omega)])
  · rw [hu_j 0 (by decide), hu_s]
  · rw [← e3 c (by omega)]
    exact funext fun j => by rw [hu_o (by omega), hu_o (by omega)]
theorem cchg_of (hS : CS D K B h) (hO : OKS D K B) {o : O Int} {r : Int} {D' : Dr} (F : Hp → O Int) (ho : o = bd (dl_beginChange 0 h) (fun _ h1 => F h1)) (hF : ∀ h1, AtC D h1 1 → ∃ h2, F h1 = some (r, h2) ∧ AtC D' h2 1 ∧ CF h1 h2) : CChg D K B h o r D' := by
  obtain ⟨h1, e1, e2, e3, e4, e5⟩ := dl_beginChange_eq hS hO.1
  obtain ⟨h2, f1, f2, f3⟩ := hF h1 e2.1
  exact ⟨h2, by rw [ho, bd_eq e1, f1], ⟨f2, e2.2.keep (fun c a b => f3 c (by omega))⟩, by rw [f3 0 (by omega)]; exact e3, by rw [f3 0 (by omega)]; exact e4, fun c a => (f3 c (by omega)).trans (e5 c a)⟩
theorem cntB_congr {p q : Int → Int} {x : Int} {n : Nat} (h : ∀ i : Int, 0 ≤ i → i < n → p i = q i) : cntB p x n = cntB q x n := sumI_congr (fun i a b => by rw [h i a b])
theorem cntE_congr {f g f' g' : Int → Int} {x : Int} {n : Nat} (h : ∀ i : Int, 0 ≤ i → i < n → f i = f' i ∧ g i = g' i) : cntE f g x n = cntE f' g' x n := sumI_congr (fun i a b => by rw [(h i a b).1, (h i a b).2])
theorem AtC.cnt (hA : AtC D h 1) (x : Int) : cntB (h 2) x (h 1 7).toNat = cntB (D 0) x (D 7 0).toNat := by
  rw [← hA.1.1]
  exact cntB_congr (fun i a b => (hA.2.1 i a (by omega)).symm)
theorem AtC.ends (hA : AtC D h 1) (p : Int) : cntE (h 3) (h 4) p (h 1 8).toNat = cntE (D 1) (D 2) p (D 7 1).toNat := by
  rw [← hA.1.2.1]
  exact cntE_congr (fun i a b => by
    obtain ⟨r1, r2, -⟩ := hA.2.2 i a (by omega)
    exact ⟨r1.symm, r2.symm⟩)
theorem atC_hasX (hA : AtC D h 1) (hw : WF D) (x : Int) : (cntB (h 2) x (h 1 7).toNat < h 1 7 ∧ h 2 (cntB (h 2) x (h 1 7).toNat) = x) ↔ hasX D x := by
  have hb := cntB_b (D 0) x (D 7 0).toNat
  rw [hA.cnt x, ← hA.1.1]
  unfold hasX
  constructor
  · intro ⟨a, b⟩
    exact ⟨a, by rw [hA.2.1 _ hb.1 a]; exact b⟩
  · intro ⟨a, b⟩
    exact ⟨a, by have := hA.2.1 _ hb.1 a; rw [b] at this; exact this.symm⟩
/-- shiftPoint on a drawing -/
def dShift (E : Dr) (p x pl : Int) : Dr := fun r i => if r = 0 then (if i = pl then x else if p ≤ i ∧ i < pl then E 0 (i + 1) else if pl < i ∧ i ≤ p then E 0 (i - 1) else E 0 i)
  else if r = 1 then min (ren (E 1 i) p pl) (ren (E 2 i) p pl) else if r = 2 then max (ren (E 1 i) p pl) (ren (E 2 i) p pl) else E r i
theorem AtC.shift {E : Dr} {p x pl : Int} (hA : AtC E h 1) (hm : 0 ≤ E 7 1 ∧ E 7 1 ≤ 16) (h0 : 0 ≤ p ∧ p < E 7 0) (h1 : 0 ≤ pl ∧ pl < E 7 0) : AtC (dShift E p x pl) (hshift h 1 p x pl) 1 := by
  obtain ⟨⟨a0, a1, a2, a3⟩, hp, hr⟩ := hA
  have eo : ∀ c j, c ≠ 2 → c ≠ 3 → c ≠ 4 → hshift h 1 p x pl c j = h c j := fun c j g2 g3 g4 => by
    unfold hshift hdn
    rw [hu_o g2]
    unfold hmvr
    rw [if_neg (fun q => g2 q.1)]
    unfold hup hmvl
    rw [if_neg (fun q => g2 q.1), hren_o g3 g4]
  refine ⟨⟨?_, ?_, ?_, ?_⟩, fun i g0 g1 => ?_, fun d g0 g1 => ?_⟩
  · rw [eo 1 _ (by decide) (by decide) (by decide)]; exact a0
  · rw [eo 1 _ (by decide) (by decide) (by decide)]; exact a1
  · rw [eo 1 _ (by decide) (by decide) (by decide)]; exact a2
  · rw [eo 1 _ (by decide) (by decide) (by decide)]; exact a3
  · have g1' : i < E 7 0 := g1
    have hp' : ∀ i, 0 ≤ i → i < E 7 0 → hren h 1 p pl (h 1 8).toNat 2 i = E 0 i := fun i q0 q1 => by rw [hren_o (by decide) (by decide)]; exact (hp i q0 q1).symm
    have b0 := hp' i g0 g1'
    have b1 := fun q => hp' (i + 1) (by omega) q
    have b2 := fun q => hp' (i - 1) q (by omega)
    show (if i = pl then x else if p ≤ i ∧ i < pl then E 0 (i + 1) else if pl < i ∧ i ≤ p then E 0 (i - 1) else E 0 i) = hdn (hup (hren h 1 p pl (h 1 8).toNat) 1 pl p) 1 pl p x 2 i
    unfold hdn
    by_cases q : i = pl
    · rw [if_pos q, q]
      exact hu_s.symm
    · rw [hu_j 2 q]
      by_cases q1 : p ≤ i ∧ i < pl
      · have z1 : hmvr (hup (hren h 1 p pl (h 1 8).toNat) 1 pl p) (1 + 1) pl p 2 i = hup (hren h 1 p pl (h 1 8).toNat) 1 pl p 2 i := by
          unfold hmvr
          rw [if_neg (by omega)]
        have z2 : hup (hren h 1 p pl (h 1 8).toNat) 1 pl p 2 i = hren h 1 p pl (h 1 8).toNat 2 (i + 1) := by
          unfold hup hmvl
          rw [if_pos ⟨rfl, q1⟩]
        rw [z1, z2, if_neg q, if_pos q1]
        exact (b1 (by omega)).symm
      · by_cases q2 : pl < i ∧ i ≤ p
        · have z1 : hmvr (hup (hren h 1 p pl (h 1 8).toNat) 1 pl p) (1 + 1) pl p 2 i = hup (hren h 1 p pl (h 1 8).toNat) 1 pl p 2 (i - 1) := by
            unfold hmvr
            rw [if_pos ⟨rfl, q2⟩]
          have z2 : hup (hren h 1 p pl (h 1 8).toNat) 1 pl p 2 (i - 1) = hren h 1 p pl (h 1 8).toNat 2 (i - 1) := by
            unfold hup hmvl
            rw [if_neg (by omega)]
          rw [z1, z2, if_neg q, if_neg q1, if_pos q2]
          exact (b2 (by omega)).symm
        · have z1 : hmvr (hup (hren h 1 p pl (h 1 8).toNat) 1 pl p) (1 + 1) pl p 2 i = hup (hren h 1 p pl (h 1 8).toNat) 1 pl p 2 i := by
            unfold hmvr
            rw [if_neg (by omega)]
          have z2 : hup (hren h 1 p pl (h 1 8).toNat) 1 pl p 2 i = hren h 1 p pl (h 1 8).toNat 2 i := by
            unfold hup hmvl
            rw [if_neg (by omega)]
          rw [z1, z2, if_neg q, if_neg q1, if_neg q2]
          exact b0.symm
  · have g1' : d < E 7 1 := g1
    obtain ⟨r1, r2, r3, r4, r5, r6⟩ := hr d g0 g1'
    have e3 : hshift h 1 p x pl 3 d = min (ren (h 3 d) p pl) (ren (h 4 d) p pl) := by
      unfold hshift hdn
      rw [hu_o (by decide)]
      unfold hmvr
      rw [if_neg (fun q => absurd q.1 (by decide))]
      unfold hup hmvl
      rw [if_neg (fun q => absurd q.1 (by decide))]
      unfold hren
      rw [if_pos ⟨rfl, g0, by omega⟩]
    have e4 : hshift h 1 p x pl 4 d = max (ren (h 3 d) p pl) (ren (h 4 d) p pl) := by
      unfold hshift hdn
      rw [hu_o (by decide)]
      unfold hmvr
      rw [if_neg (fun q => absurd q.1 (by decide))]
      unfold hup hmvl
      rw [if_neg (fun q => absurd q.1 (by decide))]
      unfold hren
      rw [if_neg (fun q => absurd q.1 (by decide)), if_pos ⟨rfl, g0, by omega⟩]
    have f1 : E 1 d = h 3 d := r1
    have f2 : E 2 d = h 4 d := r2
    refine ⟨?_, ?_, ?_, ?_, ?_, ?_⟩
    · show min (ren (E 1 d) p pl) (ren (E 2 d) p pl) = hshift h 1 p x pl 3 d
      rw [e3, f1, f2]
    · show max (ren (E 1 d) p pl) (ren (E 2 d) p pl) = hshift h 1 p x pl 4 d
      rw [e4, f1, f2]
    · show E 3 d = _
      rw [eo 5 _ (by decide) (by decide) (by decide)]; exact r3
    · show E 4 d = _
      rw [eo 6 _ (by decide) (by decide) (by decide)]; exact r4
    · show E 5 d = _
      rw [eo 7 _ (by decide) (by decide) (by decide)]; exact r5
    · show E 6 d = _
      rw [eo 8 _ (by decide) (by decide) (by decide)]; exact r6
theorem cf_shift {p x pl : Int} : CF h (hshift h 1 p x pl) := fun c g => funext fun j => by
  unfold hshift hdn
  rw [hu_o (by omega)]
  unfold hmvr
  rw [if_neg (by omega)]
  unfold hup hmvl
  rw [if_neg (by omega), hren_o (by omega) (by omega)]
theorem AtC.eqv {E : Dr} (hA : AtC D h 1) (he : Eqv E D) : AtC E h 1 := atC_iff.mpr (he.trans (atC_iff.mp hA))
theorem AtC.raw (hA : AtC D h 1) (hw : WF D) : (0 ≤ h 1 7 ∧ h 1 7 ≤ 12) ∧ (0 ≤ h 1 8 ∧ h 1 8 ≤ 16) ∧ ∀ d, 0 ≤ d → d < h 1 8 → (0 ≤ h 3 d ∧ h 3 d ≤ 1000) ∧ 0 ≤ h 4 d ∧ h 4 d ≤ 1000 := by
  have w := hA.wf hw
  refine ⟨w.1, w.2.1, fun d a b => ?_⟩
  have q1 : 0 ≤ h 3 d ∧ h 3 d < h 4 d ∧ h 4 d < h 1 7 := (w.2.2.2.2.2.2 d a b).1
  have q2 := w.1
  omega
end COP

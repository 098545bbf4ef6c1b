section COP
def CS (D : Dr) (K : Int) (B : Int → Dr) (h : Hp) : Prop := AtC D h 1 ∧ HistC K B h
def CF (h h' : Hp) : Prop := ∀ c, (c < 1 ∨ 9 ≤ c) → h' c = h c
def CChg (D : Dr) (K : Int) (B : Int → Dr) (h : Hp) (o : O Int) (r : Int) (D' : Dr) : Prop := ∃ h', o = some (r, h') ∧ CS D' (min (K + 1) 8) (pushB D B) h' ∧ h' 0 6 = 0 ∧ h' 0 7 = 0 ∧ ∀ c, 75 ≤ c → h' c = h c
variable {D : Dr} {K : Int} {B : Int → Dr} {h : Hp}
theorem HistC.keep (hH : HistC K B h) {h' : Hp} (e : ∀ c, 9 ≤ c → c < 75 → h' c = h c) : HistC K B h' := by
  obtain ⟨h1, h2, h3, h4⟩ := hH
  have e9 := e 9 (by decide) (by decide)
  refine ⟨by rw [e9]; exact h1, h2, by rw [e9]; exact h3, fun k g0 g1 => ?_⟩
  rw [e9]
  have hs := sl_b (h 9 1) k
  exact ⟨(h4 k g0 g1).1, (h4 k g0 g1).2.keep (fun c a b => e c (by omega) (by omega))⟩
theorem dl_beginChange_eq (hS : CS D K B h) (hw : WF D) : ∃ h', dl_beginChange 0 h = some ((), h') ∧ CS D (min (K + 1) 8) (pushB D B) h' ∧ h' 0 6 = 0 ∧ h' 0 7 = 0 ∧ (∀ c, 75 ≤ c → h' c = h c) := by
  obtain ⟨h1, e1, e2, e3⟩ := hi_record_eq hS.2 hS.1 hw
  refine ⟨hu (hu h1 0 6 0) 0 7 0, ?_, ⟨?_, e2.keep (fun c a b => funext fun j => by rw [hu_o (by omega), hu_o (by omega)])⟩, ?_, hu_s, fun c a => ?_⟩
  · simp only [dl_beginChange, Nat.reduceAdd]
    rw [bd_eq e1]
    rfl
  · exact hS.1.keep (fun c a b => by rw [← e3 c (by omega)]; exact funext fun j => by rw [hu_o (by omega), hu_o (by omega)])
  · rw [hu_j 0 (by decide), hu_s]
  · rw [← e3 c (by omega)]
    exact funext fun j => by rw [hu_o (by omega), hu_o (by omega)]
theorem cchg_of (hS : CS D K B h) (hO : OKS D K B) {o : O Int} {r : Int} {D' : Dr} (F : Hp → O Int) (ho : o = bd (dl_beginChange 0 h) (fun _ h1 => F h1)) (hF : ∀ h1, AtC D h1 1 → ∃ h2, F h1 = some (r, h2) ∧ AtC D' h2 1 ∧ CF h1 h2) : CChg D K B h o r D' := by
  obtain ⟨h1, e1, e2, e3, e4, e5⟩ := dl_beginChange_eq hS hO.1
  obtain ⟨h2, f1, f2, f3⟩ := hF h1 e2.1
  exact ⟨h2, by rw [ho, bd_eq e1, f1], ⟨f2, e2.2.keep (fun c a b => f3 c (by omega))⟩, by rw [f3 0 (by omega)]; exact e3, by rw [f3 0 (by omega)]; exact e4, fun c a => (f3 c (by omega)).trans (e5 c a)⟩
theorem cntB_congr {p q : Int → Int} {x : Int} {n : Nat} (h : ∀ i : Int, 0 ≤ i → i < n → p i = q i) : cntB p x n = cntB q x n := sumI_congr (fun i a b => by rw [h i a b])
theorem cntE_congr {f g f' g' : Int → Int} {x : Int} {n : Nat} (h : ∀ i : Int, 0 ≤ i → i < n → f i = f' i ∧ g i = g' i) : cntE f g x n = cntE f' g' x n := sumI_congr (fun i a b => by rw [(h i a b).1, (h i a b).2])
theorem AtC.cnt (hA : AtC D h 1) (x : Int) : cntB (h 2) x (h 1 7).toNat = cntB (D 0) x (D 7 0).toNat := by
  rw [← hA.1.1]
  exact cntB_congr (fun i a b => (hA.2.1 i a (by omega)).symm)
theorem AtC.ends (hA : AtC D h 1) (p : Int) : cntE (h 3) (h 4) p (h 1 8).toNat = cntE (D 1) (D 2) p (D 7 1).toNat := by
  rw [← hA.1.2.1]
  exact cntE_congr (fun i a b => by
    obtain ⟨r1, r2, -⟩ := hA.2.2 i a (by omega)
    exact ⟨r1.symm, r2.symm⟩)
theorem atC_hasX (hA : AtC D h 1) (hw : WF D) (x : Int) : (cntB (h 2) x (h 1 7).toNat < h 1 7 ∧ h 2 (cntB (h 2) x (h 1 7).toNat) = x) ↔ hasX D x := by
  have hb := cntB_b (D 0) x (D 7 0).toNat
  rw [hA.cnt x, ← hA.1.1]
  unfold hasX
  constructor
  · intro ⟨a, b⟩
    exact ⟨a, by rw [hA.2.1 _ hb.1 a]; exact b⟩
  · intro ⟨a, b⟩
    exact ⟨a, by have := hA.2.1 _ hb.1 a; rw [b] at this; exact this.symm⟩
/-- shiftPoint on a drawing -/
def dShift (E : Dr) (p x pl : Int) : Dr := fun r i => if r = 0 then (if i = pl then x else if p ≤ i ∧ i < pl then E 0 (i + 1) else if pl < i ∧ i ≤ p then E 0 (i - 1) else E 0 i)
  else if r = 1 then min (ren (E 1 i) p pl) (ren (E 2 i) p pl) else if r = 2 then max (ren (E 1 i) p pl) (ren (E 2 i) p pl) else E r i
theorem AtC.shift {E : Dr} {p x pl : Int} (hA : AtC E h 1) (hm : 0 ≤ E 7 1 ∧ E 7 1 ≤ 16) (h0 : 0 ≤ p ∧ p < E 7 0) (h1 : 0 ≤ pl ∧ pl < E 7 0) : AtC (dShift E p x pl) (hshift h 1 p x pl) 1 := by
  obtain ⟨⟨a0, a1, a2, a3⟩, hp, hr⟩ := hA
  have eo : ∀ c j, c ≠ 2 → c ≠ 3 → c ≠ 4 → hshift h 1 p x pl c j = h c j := fun c j g2 g3 g4 => by
    unfold hshift hdn
    rw [hu_o g2]
    unfold hmvr
    rw [if_neg (fun q => g2 q.1)]
    unfold hup hmvl
    rw [if_neg (fun q => g2 q.1), hren_o g3 g4]
  refine ⟨⟨?_, ?_, ?_, ?_⟩, fun i g0 g1 => ?_, fun d g0 g1 => ?_⟩
  · rw [eo 1 _ (by decide) (by decide) (by decide)]; exact a0
  · rw [eo 1 _ (by decide) (by decide) (by decide)]; exact a1
  · rw [eo 1 _ (by decide) (by decide) (by decide)]; exact a2
  · rw [eo 1 _ (by decide) (by decide) (by decide)]; exact a3
  · have g1' : i < E 7 0 := g1
    have hp' : ∀ i, 0 ≤ i → i < E 7 0 → hren h 1 p pl (h 1 8).toNat 2 i = E 0 i := fun i q0 q1 => by rw [hren_o (by decide) (by decide)]; exact (hp i q0 q1).symm
    have b0 := hp' i g0 g1'
    have b1 := fun q => hp' (i + 1) (by omega) q
    have b2 := fun q => hp' (i - 1) q (by omega)
    show (if i = pl then x else if p ≤ i ∧ i < pl then E 0 (i + 1) else if pl < i ∧ i ≤ p then E 0 (i - 1) else E 0 i) = hdn (hup (hren h 1 p pl (h 1 8).toNat) 1 pl p) 1 pl p x 2 i
    unfold hdn
    by_cases q : i = pl
    · rw [if_pos q, q]
      exact hu_s.symm
    · rw [hu_j 2 q]
      by_cases q1 : p ≤ i ∧ i < pl
      · have z1 : hmvr (hup (hren h 1 p pl (h 1 8).toNat) 1 pl p) (1 + 1) pl p 2 i = hup (hren h 1 p pl (h 1 8).toNat) 1 pl p 2 i := by
          unfold hmvr
          rw [if_neg (by omega)]
        have z2 : hup (hren h 1 p pl (h 1 8).toNat) 1 pl p 2 i = hren h 1 p pl (h 1 8).toNat 2 (i + 1) := by
          unfold hup hmvl
          rw [if_pos ⟨rfl, q1⟩]
        rw [z1, z2, if_neg q, if_pos q1]
        exact (b1 (by omega)).symm
      · by_cases q2 : pl < i ∧ i ≤ p
        · have z1 : hmvr (hup (hren h 1 p pl (h 1 8).toNat) 1 pl p) (1 + 1) pl p 2 i = hup (hren h 1 p pl (h 1 8).toNat) 1 pl p 2 (i - 1) := by
            unfold hmvr
            rw [if_pos ⟨rfl, q2⟩]
          have z2 : hup (hren h 1 p pl (h 1 8).toNat) 1 pl p 2 (i - 1) = hren h 1 p pl (h 1 8).toNat 2 (i - 1) := by
            unfold hup hmvl
            rw [if_neg (by omega)]
          rw [z1, z2, if_neg q, if_neg q1, if_pos q2]
          exact (b2 (by omega)).symm
        · have z1 : hmvr (hup (hren h 1 p pl (h 1 8).toNat) 1 pl p) (1 + 1) pl p 2 i = hup (hren h 1 p pl (h 1 8).toNat) 1 pl p 2 i := by
            unfold hmvr
            rw [if_neg (by omega)]
          have z2 : hup (hren h 1 p pl (h 1 8).toNat) 1 pl p 2 i = hren h 1 p pl (h 1 8).toNat 2 i := by
            unfold hup hmvl
            rw [if_neg (by omega)]
          rw [z1, z2, if_neg q, if_neg q1, if_neg q2]
          exact b0.symm
  · have g1' : d < E 7 1 := g1
    obtain ⟨r1, r2, r3, r4, r5, r6⟩ := hr d g0 g1'
    have e3 : hshift h 1 p x pl 3 d = min (ren (h 3 d) p pl) (ren (h 4 d) p pl) := by
      unfold hshift hdn
      rw [hu_o (by decide)]
      unfold hmvr
      rw [if_neg (fun q => absurd q.1 (by decide))]
      unfold hup hmvl
      rw [if_neg (fun q => absurd q.1 (by decide))]
      unfold hren
      rw [if_pos ⟨rfl, g0, by omega⟩]
    have e4 : hshift h 1 p x pl 4 d = max (ren (h 3 d) p pl) (ren (h 4 d) p pl) := by
      unfold hshift hdn
      rw [hu_o (by decide)]
      unfold hmvr
      rw [if_neg (fun q => absurd q.1 (by decide))]
      unfold hup hmvl
      rw [if_neg (fun q => absurd q.1 (by decide))]
      unfold hren
      rw [if_neg (fun q => absurd q.1 (by decide)), if_pos ⟨rfl, g0, by omega⟩]
    have f1 : E 1 d = h 3 d := r1
    have f2 : E 2 d = h 4 d := r2
    refine ⟨?_, ?_, ?_, ?_, ?_, ?_⟩
    · show min (ren (E 1 d) p pl) (ren (E 2 d) p pl) = hshift h 1 p x pl 3 d
      rw [e3, f1, f2]
    · show max (ren (E 1 d) p pl) (ren (E 2 d) p pl) = hshift h 1 p x pl 4 d
      rw [e4, f1, f2]
    · show E 3 d = _
      rw [eo 5 _ (by decide) (by decide) (by decide)]; exact r3
    · show E 4 d = _
      rw [eo 6 _ (by decide) (by decide) (by decide)]; exact r4
    · show E 5 d = _
      rw [eo 7 _ (by decide) (by decide) (by decide)]; exact r5
    · show E 6 d = _
      rw [eo 8 _ (by decide) (by decide) (by decide)]; exact r6
theorem cf_shift {p x pl : Int} : CF h (hshift h 1 p x pl) := fun c g => funext fun j => by
  unfold hshift hdn
  rw [hu_o (by omega)]
  unfold hmvr
  rw [if_neg (by omega)]
  unfold hup hmvl
  rw [if_neg (by omega), hren_o (by omega) (by omega)]
theorem AtC.eqv {E : Dr} (hA : AtC D h 1) (he : Eqv E D) : AtC E h 1 := atC_iff.mpr (he.trans (atC_iff.mp hA))
theorem cnt_uniq {q : Int → Int} {x c c' n : Int} (h0 : 0 ≤ c ∧ c ≤ n) (h0' : 0 ≤ c' ∧ c' ≤ n) (h1 : ∀ i, 0 ≤ i → i < n → (q i < x ↔ i < c)) (h2 : ∀ i, 0 ≤ i → i < n → (q i < x ↔ i < c')) : c = c' := by
  rcases Int.lt_trichotomy c c' with z | z | z
  · have a := h1 c h0.1 (by omega)
    have b := h2 c h0.1 (by omega)
    omega
  · exact z
  · have a := h1 c' h0'.1 (by omega)
    have b := h2 c' h0'.1 (by omega)
    omega
theorem mvC_eq (hw : WF D) {p x : Int} (h0 : 0 ≤ p) (h1 : p < D 7 0) : mvC D p x = (if D 0 p < x then cntB (D 0) x (D 7 0).toNat - 1 else cntB (D 0) x (D 7 0).toNat) ∧ 0 ≤ mvC D p x ∧ mvC D p x < D 7 0 := by
  have hb := cntB_b (D 0) x (D 7 0).toNat
  have hs : ∀ i : Int, 0 ≤ i → i < D 7 0 → (D 0 i < x ↔ i < cntB (D 0) x (D 7 0).toNat) := fun i g0 g1 => cntB_lt (n := (D 7 0).toNat) (fun i j a b c => hw.2.2.2.2.2.1 i j a b (by omega)) i g0 (by omega)
  have hb2 := cntB_b (dGo D p 0) x (D 7 0 - 1).toNat
  have hso := hw.2.2.2.2.2.1
  have hs2 : ∀ i : Int, 0 ≤ i → i < D 7 0 - 1 → (dGo D p 0 i < x ↔ i < cntB (dGo D p 0) x (D 7 0 - 1).toNat) := fun i g0 g1 => cntB_lt (n := (D 7 0 - 1).toNat) (fun i j a b c => by
    have c1 := hso i j a b (by omega)
    have c2 := hso (i + 1) (j + 1) (by omega) (by omega) (by omega)
    have c3 := hso i (j + 1) a (by omega) (by omega)
    unfold dGo
    rw [if_pos rfl, if_pos rfl]
    split <;> split <;> first | assumption | omega) i g0 (by omega)
  have hp := hs p h0 h1
  have e : mvC D p x = (if D 0 p < x then cntB (D 0) x (D 7 0).toNat - 1 else cntB (D 0) x (D 7 0).toNat) := by
    refine cnt_uniq (q := dGo D p 0) (x := x) (n := D 7 0 - 1) (by unfold mvC; omega) (by split <;> omega) hs2 (fun i g0 g1 => ?_)
    have c1 := hs i g0 (by omega)
    have c2 := hs (i + 1) (by omega) (by omega)
    unfold dGo
    rw [if_pos rfl]
    by_cases q : i < p
    · rw [if_pos q, c1]
      split <;> omega
    · rw [if_neg q, c2]
      split <;> omega
  refine ⟨e, ?_, ?_⟩
  · unfold mvC; omega
  · unfold mvC; omega
theorem dMv_shift (hw : WF D) {p x : Int} (h0 : 0 ≤ p) (h1 : p < D 7 0) : Eqv (dMv D p x) (dShift D p x (mvC D p x)) := by
  obtain ⟨-, hc0, hc1⟩ := mvC_eq hw (x := x) h0 h1
  generalize hcc : mvC D p x = c at hc0 hc1
  unfold dMv
  rw [hcc]
  rw [Eqv_iff]
  refine ⟨⟨?_, ?_, ?_, ?_⟩, fun i g0 g1 => ?_, fun d g0 g1 => ?_⟩
  · show D 7 0 - 1 + 1 = D 7 0
    omega
  · rfl
  · rfl
  · rfl
  · have g1' : i < D 7 0 := by
      have : i < D 7 0 - 1 + 1 := g1
      omega
    show (if i < c then (if i < p then D 0 i else D 0 (i + 1)) else if i = c then x else (if i - 1 < p then D 0 (i - 1) else D 0 (i - 1 + 1))) = (if i = c then x else if p ≤ i ∧ i < c then D 0 (i + 1) else if c < i ∧ i ≤ p then D 0 (i - 1) else D 0 i)
    have e9 : i - 1 + 1 = i := by omega
    rw [e9]
    by_cases q : i < c
    · rw [if_pos q, if_neg (show ¬ i = c by omega)]
      by_cases q2 : i < p
      · rw [if_pos q2, if_neg (show ¬ (p ≤ i ∧ i < c) by omega), if_neg (show ¬ (c < i ∧ i ≤ p) by omega)]
      · rw [if_neg q2, if_pos (show p ≤ i ∧ i < c by omega)]
    · rw [if_neg q]
      by_cases q3 : i = c
      · rw [if_pos q3, if_pos q3]
      · rw [if_neg q3, if_neg q3, if_neg (show ¬ (p ≤ i ∧ i < c) by omega)]
        by_cases q4 : i - 1 < p
        · rw [if_pos q4, if_pos (show c < i ∧ i ≤ p by omega)]
        · rw [if_neg q4, if_neg (show ¬ (c < i ∧ i ≤ p) by omega)]
  · have g1' : d < D 7 1 := g1
    have hd := (hw.2.2.2.2.2.2 d g0 g1').1
    have key : ∀ f : Int, 0 ≤ f → gonow c (if c ≤ gone p f then gone p f + 1 else gone p f) = ren f p c := by
      intro f hf
      unfold gonow gone ren
      by_cases q : f = p
      · subst q
        simp only [if_pos rfl, if_true]
        rw [if_neg (show ¬ c ≤ -1 by omega), if_pos rfl]
      · simp only [if_neg q]
        by_cases q2 : p < f
        · simp only [if_pos q2]
          by_cases q3 : c ≤ f - 1
          · rw [if_pos q3, if_neg (show ¬ f - 1 + 1 = -1 by omega), if_neg (show ¬ (p < f ∧ f ≤ c) by omega), if_neg (show ¬ (c ≤ f ∧ f < p) by omega)]
            omega
          · rw [if_neg q3, if_neg (show ¬ f - 1 = -1 by omega), if_pos (show p < f ∧ f ≤ c by omega)]
        · simp only [if_neg q2]
          by_cases q3 : c ≤ f
          · rw [if_pos q3, if_neg (show ¬ f + 1 = -1 by omega), if_neg (show ¬ (p < f ∧ f ≤ c) by omega), if_pos (show c ≤ f ∧ f < p by omega)]
          · rw [if_neg q3, if_neg (show ¬ f = -1 by omega), if_neg (show ¬ (p < f ∧ f ≤ c) by omega), if_neg (show ¬ (c ≤ f ∧ f < p) by omega)]
    have k1 := key (D 1 d) hd.1
    have k2 := key (D 2 d) (by omega)
    refine ⟨?_, ?_, rfl, rfl, rfl, rfl⟩
    · show min (gonow c (if c ≤ gone p (D 1 d) then gone p (D 1 d) + 1 else gone p (D 1 d))) (gonow c (if c ≤ gone p (D 2 d) then gone p (D 2 d) + 1 else gone p (D 2 d))) = min (ren (D 1 d) p c) (ren (D 2 d) p c)
      rw [k1, k2]
    · show max (gonow c (if c ≤ gone p (D 1 d) then gone p (D 1 d) + 1 else gone p (D 1 d))) (gonow c (if c ≤ gone p (D 2 d) then gone p (D 2 d) + 1 else gone p (D 2 d))) = max (ren (D 1 d) p c) (ren (D 2 d) p c)
      rw [k1, k2]
theorem AtC.raw (hA : AtC D h 1) (hw : WF D) : (0 ≤ h 1 7 ∧ h 1 7 ≤ 12) ∧ (0 ≤ h 1 8 ∧ h 1 8 ≤ 16) ∧ ∀ d, 0 ≤ d → d < h 1 8 → (0 ≤ h 3 d ∧ h 3 d ≤ 1000) ∧ 0 ≤ h 4 d ∧ h 4 d ≤ 1000 := by
  have w := hA.wf hw
  refine ⟨w.1, w.2.1, fun d a b => ?_⟩
  have q1 : 0 ≤ h 3 d ∧ h 3 d < h 4 d ∧ h 4 d < h 1 7 := (w.2.2.2.2.2.2 d a b).1
  have q2 := w.1
  omega
theorem dl_movePoint_eq (hS : CS D K B h) (hO : OKS D K B) (p x : Int) :
    (¬ (0 ≤ p ∧ p < D 7 0) ∨ ¬ (0 ≤ x ∧ x ≤ 300) → dl_movePoint 0 p x h = some (-1, h)) ∧
    (0 ≤ p ∧ p < D 7 0 → 0 ≤ x ∧ x ≤ 300 → (hasX D x ∧ D 0 p ≠ x → dl_movePoint 0 p x h = some (-2, h)) ∧
      (¬ (hasX D x ∧ D 0 p ≠ x) → CChg D K B h (dl_movePoint 0 p x h) (mvC D p x) (dMv D p x))) := by
  have hA := hS.1
  have hw := hO.1
  have hW := hA.wf hw
  have w0 := hw.1
  have en : h 1 7 = D 7 0 := hA.1.1.symm
  have hX : yn (cntB (h (1 + 1)) x (h 1 7).toNat < h 1 7 ∧ h (1 + 1) (cntB (h (1 + 1)) x (h 1 7).toNat) = x) = yn (cntB (D 0) x (D 7 0).toNat < D 7 0 ∧ D 0 (cntB (D 0) x (D 7 0).toNat) = x) := yn_congr (atC_hasX hA hw x)
  refine ⟨fun c => ?_, fun c1 c2 => ⟨fun c3 => ?_, fun c3 => ?_⟩⟩
  · simp only [dl_movePoint, dl_movePoint_b22, Nat.reduceAdd]
    rw [bd_eq (dr_hasPoint_eq p), en]
    by_cases c1 : 0 ≤ p ∧ p < D 7 0
    · rw [yn_t c1, if_neg (by decide), bd_eq (dl_isWithin_eq x 0 300), yn_f (c.elim (fun q => absurd c1 q) id), if_pos rfl]
    · rw [yn_f c1, if_pos rfl]
  · simp only [dl_movePoint, Nat.reduceAdd]
    have e3 : ¬ h 2 p = x := by rw [← hA.2.1 p c1.1 c1.2]; exact c3.2
    rw [bd_eq (dr_hasPoint_eq p), en, yn_t c1, if_neg (by decide), bd_eq (dl_isWithin_eq x 0 300), yn_t c2, if_neg (by decide), bd_eq (dr_hasPointAt_eq hW x), hX, yn_t (show cntB (D 0) x (D 7 0).toNat < D 7 0 ∧ D 0 (cntB (D 0) x (D 7 0).toNat) = x from c3.1), if_neg (by decide), ix_in (by omega) (by omega), if_neg e3]
  · have e51 : dl_movePoint 0 p x h = dl_movePoint_b51 0 p x h := by
      simp only [dl_movePoint, Nat.reduceAdd]
      rw [bd_eq (dr_hasPoint_eq p), en, yn_t c1, if_neg (by decide), bd_eq (dl_isWithin_eq x 0 300), yn_t c2, if_neg (by decide), bd_eq (dr_hasPointAt_eq hW x), hX]
      by_cases q : cntB (D 0) x (D 7 0).toNat < D 7 0 ∧ D 0 (cntB (D 0) x (D 7 0).toNat) = x
      · have e3 : h 2 p = x := by rw [← hA.2.1 p c1.1 c1.2]; exact Classical.byContradiction fun z => c3 ⟨q, z⟩
        rw [yn_t q, if_neg (by decide), ix_in (by omega) (by omega), if_pos e3]
      · rw [yn_f q, if_pos rfl]
    obtain ⟨m1, m2, m3⟩ := mvC_eq hw (x := x) c1.1 c1.2
    refine cchg_of hS hO (fun h1 => bd (dr_shiftPoint 1 p x h1) fun r2 h2 => some (r2, h2)) (by rw [e51]; rfl) (fun h1 hA1 => ?_)
    obtain ⟨q1, q2, q3⟩ := hA1.raw hw
    have epl : plOf h1 1 p x = mvC D p x := by
      rw [m1]
      unfold plOf
      rw [show (1 + 1 : Nat) = 2 from rfl, hA1.cnt x, ← hA1.2.1 p c1.1 c1.2]
    have e5 := dr_shiftPoint_eq (h := h1) (th := 1) q1 q2 q3 (p := p) (x := x) c1.1 (by omega) (by rw [epl]; omega)
    rw [epl] at e5
    refine ⟨hshift h1 1 p x (mvC D p x), by rw [bd_eq e5], ?_, cf_shift⟩
    exact (hA1.shift hw.2.1 c1 ⟨m2, m3⟩).eqv (dMv_shift hw c1.1 c1.2)
end COP

section MOP
/-- what is known of the reference's drawing and its history -/
def SM (D : Dr) (K : Int) (B : Int → Dr) (h : Hp) : Prop := AtM D h 0 ∧ HistM K B h
def OKS (D : Dr) (K : Int) (B : Int → Dr) : Prop := WF D ∧ (0 ≤ K ∧ K ≤ 8) ∧ ∀ k, 0 ≤ k → k < K → WF (B k)
def XF (h h' : Hp) : Prop := (∀ c, c ≠ 132 → c ≠ 133 → h' c = h c) ∧ ∀ j, j ≠ 1 → h' 132 j = h 132 j
/-- a change of the reference's: its answer, its drawing then -/
def MChg (D : Dr) (K : Int) (B : Int → Dr) (h : Hp) (o : O Int) (r : Int) (D' : Dr) : Prop := ∃ h', o = some (r, h') ∧ SM D' (min (K + 1) 8) (pushB D B) h' ∧ XF h h'
theorem pushB_wf {D : Dr} {K : Int} {B : Int → Dr} (h : OKS D K B) : ∀ k, 0 ≤ k → k < min (K + 1) 8 → WF (pushB D B k) := by
  intro k g0 g1
  unfold pushB
  by_cases q : k = 0
  · rw [if_pos q]; exact h.1
  · rw [if_neg q]; exact h.2.2 (k - 1) (by omega) (by omega)
theorem XF.pf {h h1 h2 : Hp} (a : XF h h1) (b : PF h1 h2) : XF h h2 := ⟨fun c g0 g1 => (b.1 c g1).trans (a.1 c g0 g1), fun j g => by rw [b.1 132 (by decide)]; exact a.2 j g⟩
variable {D : Dr} {K : Int} {B : Int → Dr} {h : Hp}
/-- a change: records(), then something on the page -/
theorem mchg_of (hS : SM D K B h) (hO : OKS D K B) {o : O Int} {r : Int} {D' : Dr} (F : Hp → O Int) (ho : o = bd (mo_records 132 h) (fun _ h1 => F h1)) (hF : ∀ h1, AtM D h1 0 → ∃ h2, F h1 = some (r, h2) ∧ AtM D' h2 0 ∧ PF h1 h2) : MChg D K B h o r D' := by
  obtain ⟨h1, e1, e2, e3, e4, e5⟩ := mo_records_eq hS.2 hO.2.2 hO.2.1 hS.1 hO.1
  have hA : AtM D h1 0 := hS.1.move hO.1 (fun i g0 g1 => e3 _ (Or.inl (by omega)))
  obtain ⟨h2, f1, f2, f3⟩ := hF h1 hA
  refine ⟨h2, by rw [ho, bd_eq e1, f1], ⟨f2, f3.hist e2 (pushB_wf hO)⟩, XF.pf ⟨e4, e5⟩ f3⟩
theorem mo_addPoint_eq (hS : SM D K B h) (hO : OKS D K B) (x : Int) :
    (¬ (0 ≤ x ∧ x ≤ 300) → mo_addPoint 132 x h = some (-1, h)) ∧
    (0 ≤ x ∧ x ≤ 300 → (cntB (D 0) x (D 7 0).toNat < D 7 0 ∧ D 0 (cntB (D 0) x (D 7 0).toNat) = x → mo_addPoint 132 x h = some (-2, h)) ∧
      (¬ (cntB (D 0) x (D 7 0).toNat < D 7 0 ∧ D 0 (cntB (D 0) x (D 7 0).toNat) = x) → (D 7 0 = 12 → mo_addPoint 132 x h = some (-3, h)) ∧
        (D 7 0 ≠ 12 → MChg D K B h (mo_addPoint 132 x h) (cntB (D 0) x (D 7 0).toNat) (dIns D x (cntB (D 0) x (D 7 0).toNat))))) := by
  have hA := hS.1
  have hw := hO.1
  have w0 := hw.1
  have hb := cntB_b (D 0) x (D 7 0).toNat
  have hs : ∀ i : Int, 0 ≤ i → i < D 7 0 → (D 0 i < x ↔ i < cntB (D 0) x (D 7 0).toNat) := fun i g0 g1 => cntB_lt (n := (D 7 0).toNat) (fun i j a b c => hw.2.2.2.2.2.1 i j a b (by omega)) i g0 (by omega)
  refine ⟨fun c => ?_, fun c => ⟨fun c2 => ?_, fun c2 => ⟨fun c3 => ?_, fun c3 => ?_⟩⟩⟩
  · unfold mo_addPoint
    rw [bd_eq (mo_in_eq x 0 300), yn_f c, if_pos rfl]
  · unfold mo_addPoint
    rw [bd_eq (mo_in_eq x 0 300), yn_t c, if_neg (by decide), bd_eq (mo_pointWith_eq hA hw x), if_pos c2, if_neg (by omega)]
  · simp only [mo_addPoint, Nat.reduceAdd]
    rw [bd_eq (mo_in_eq x 0 300), yn_t c, if_neg (by decide), bd_eq (mo_pointWith_eq hA hw x), if_neg c2, if_pos rfl, ix_in (by omega) (by omega), hA.n, if_pos c3]
  · refine mchg_of hS hO (fun h1 => bd (mo_comes 132 x h1) fun r4 h4 => some (r4, h4)) ?_ (fun h1 hA1 => ?_)
    · simp only [mo_addPoint, Nat.reduceAdd]
      rw [bd_eq (mo_in_eq x 0 300), yn_t c, if_neg (by decide), bd_eq (mo_pointWith_eq hA hw x), if_neg c2, if_pos rfl, ix_in (by omega) (by omega), hA.n, if_neg c3]
    · obtain ⟨h2, f1, f2, f3⟩ := mo_comes_eq hA1 hw.wk (by omega) c (fun i g0 g1 => fun e => by
        have h1' := hs i g0 g1
        rcases Int.lt_or_eq_of_le (show cntB (D 0) x (D 7 0).toNat ≤ i by omega) with q | q
        · have h3 := hw.2.2.2.2.2.1 (cntB (D 0) x (D 7 0).toNat) i hb.1 q (by omega)
          have h4 := hs (cntB (D 0) x (D 7 0).toNat) hb.1 (by omega)
          omega
        · exact c2 ⟨by omega, by rw [q]; exact e⟩)
      exact ⟨h2, by rw [bd_eq f1], f2, f3⟩
def gonow (c x : Int) : Int := if x = -1 then c else x
/-- ends set in their order again, that of the point which went for now being c -/
def dFin (D : Dr) (c : Int) : Dr := fun r i => if r = 1 then min (gonow c (D 1 i)) (gonow c (D 2 i)) else if r = 2 then max (gonow c (D 1 i)) (gonow c (D 2 i)) else D r i
def hfin (h : Hp) (c : Int) (k : Int) : Hp := fun a j => if a = 133 ∧ 14 ≤ j ∧ (j - 14) % 6 < 2 ∧ (j - 14) / 6 < k then
  (if (j - 14) % 6 = 0 then min (gonow c (h 133 j)) (gonow c (h 133 (j + 1))) else max (gonow c (h 133 (j - 1))) (gonow c (h 133 j))) else h a j
theorem hfin_s {h : Hp} {c k k' : Int} (h0 : 0 ≤ k) (e : k' = k + 1) : hu (hu (hfin h c k) 133 (14 + 6 * k + 0) (min (gonow c (h 133 (14 + 6 * k + 0))) (gonow c (h 133 (14 + 6 * k + 1))))) 133 (14 + 6 * k + 1) (max (gonow c (h 133 (14 + 6 * k + 0))) (gonow c (h 133 (14 + 6 * k + 1)))) = hfin h c k' := by
  funext a j
  by_cases q : a = 133 ∧ j = 14 + 6 * k + 0
  · obtain ⟨rfl, rfl⟩ := q
    rw [hu_j 133 (by omega), hu_s]
    unfold hfin
    rw [if_pos (by omega), if_pos (by omega)]
    congr 3
    omega
  · by_cases q2 : a = 133 ∧ j = 14 + 6 * k + 1
    · obtain ⟨rfl, rfl⟩ := q2
      rw [hu_s]
      unfold hfin
      rw [if_pos (by omega), if_neg (by omega)]
      congr 3
      omega
    · unfold hu
      rw [if_neg q2, if_neg q]
      unfold hfin
      by_cases z : a = 133 ∧ 14 ≤ j ∧ (j - 14) % 6 < 2 ∧ (j - 14) / 6 < k
      · have z' : a = 133 ∧ 14 ≤ j ∧ (j - 14) % 6 < 2 ∧ (j - 14) / 6 < k' := by omega
        rw [if_pos z, if_pos z']
      · have z' : ¬ (a = 133 ∧ 14 ≤ j ∧ (j - 14) % 6 < 2 ∧ (j - 14) / 6 < k') := by omega
        rw [if_neg z, if_neg z']
theorem mo_move61_eq {p x : Int} {h : Hp} {m c : Int} (hm : h 133 13 = m) (hmb : 0 ≤ m ∧ m ≤ 16) : iter2 (mo_movePoint_f61 132 p x) fuel c 0 h = some (c, hfin h c m) := by
  have e0 : hfin h c ((0 : Nat) : Int) = h := by
    funext a j
    unfold hfin
    rw [if_neg (by omega)]
  have key := it2_seq (F := mo_movePoint_f61 132 p x) (fun _ => c) (fun k => (k : Int)) (fun k => hfin h c (k : Int)) m.toNat (R := some (c, hfin h c m)) (fun k i hi => ?_) (fun k => ?_) fuel 0 (Nat.zero_le _) (by unfold fuel; omega)
  · rw [e0] at key
    exact key
  · have em : hfin h c (i : Int) 133 13 = m := by
      unfold hfin
      rw [if_neg (by omega)]
      exact hm
    have r0 : hfin h c (i : Int) 133 (14 + 6 * (i : Int) + 0) = h 133 (14 + 6 * (i : Int) + 0) := by
      unfold hfin
      rw [if_neg (by omega)]
    have r1 : hfin h c (i : Int) 133 (14 + 6 * (i : Int) + 1) = h 133 (14 + 6 * (i : Int) + 1) := by
      unfold hfin
      rw [if_neg (by omega)]
    have es := hfin_s (h := h) (c := c) (k := (i : Int)) (by omega) (nc_s (x := i))
    -- the two ends
    have h96 : ∀ s0 : Int, s0 = gonow c (h 133 (14 + 6 * (i : Int) + 0)) → mo_movePoint_b96 132 p x k c (i : Int) s0 (hfin h c (i : Int)) = k c ((i + 1 : Nat) : Int) (hfin h c ((i + 1 : Nat) : Int)) := by
      intro s0 hs0
      have h121 : ∀ s1 : Int, s1 = gonow c (h 133 (14 + 6 * (i : Int) + 1)) → mo_movePoint_b121 132 p x k c (i : Int) s0 s1 (hfin h c (i : Int)) = k c ((i + 1 : Nat) : Int) (hfin h c ((i + 1 : Nat) : Int)) := by
        intro s1 hs1
        rw [← es, ← hs0, ← hs1]
        simp only [mo_movePoint_b121, mo_movePoint_b141, mo_movePoint_b162]
        by_cases q : s0 < s1
        · rw [if_pos q, bd_eq (mo_sets_raw (by omega) (by omega)), if_pos q, bd_eq (mo_sets_raw (by omega) (by omega)), ck_in ⟨by omega, by omega⟩, Int.min_eq_left (by omega), Int.max_eq_right (by omega)]
          rfl
        · rw [if_neg q, bd_eq (mo_sets_raw (by omega) (by omega)), if_neg q, bd_eq (mo_sets_raw (by omega) (by omega)), ck_in ⟨by omega, by omega⟩, Int.min_eq_right (by omega), Int.max_eq_left (by omega)]
          rfl
      unfold mo_movePoint_b96
      rw [bd_eq (mo_of_raw (by omega) (by omega)), r1]
      by_cases q : h 133 (14 + 6 * (i : Int) + 1) = -1
      · rw [if_pos q]
        exact h121 c (by unfold gonow; rw [if_pos q])
      · rw [if_neg q, bd_eq (mo_of_raw (by omega) (by omega)), r1]
        exact h121 _ (by unfold gonow; rw [if_neg q])
    simp only [mo_movePoint_f61, Nat.reduceAdd]
    rw [em, ix_in (by omega) (by omega), if_pos (by omega), bd_eq (mo_of_raw (by omega) (by omega)), r0]
    by_cases q : h 133 (14 + 6 * (i : Int) + 0) = -1
    · rw [if_pos q]
      exact h96 c (by unfold gonow; rw [if_pos q])
    · rw [if_neg q, bd_eq (mo_of_raw (by omega) (by omega)), r0]
      exact h96 _ (by unfold gonow; rw [if_neg q])
  · have em : hfin h c ((m.toNat : Nat) : Int) 133 13 = m := by
      unfold hfin
      rw [if_neg (by omega)]
      exact hm
    simp only [mo_movePoint_f61, Nat.reduceAdd]
    rw [em, ix_in (by omega) (by omega), if_neg (by omega), show ((m.toNat : Nat) : Int) = m by omega]
theorem AtM.fin {c m : Int} (ha : AtM D h 0) (hn : D 7 0 ≤ 12) (hm : D 7 1 = m) (hm2 : m ≤ 16) : AtM (dFin D c) (hfin h c m) 0 := by
  obtain ⟨⟨a0, a1, a2, a3⟩, hp, hr⟩ := ha
  refine ⟨⟨?_, ?_, ?_, ?_⟩, fun i g0 g1 => ?_, fun d g0 g1 => ?_⟩
  · unfold hfin; rw [if_neg (by omega)]; exact a0
  · unfold hfin; rw [if_neg (by omega)]; exact a1
  · unfold hfin; rw [if_neg (by omega)]; exact a2
  · unfold hfin; rw [if_neg (by omega)]; exact a3
  · have g1' : i < D 7 0 := g1
    unfold hfin; rw [if_neg (by omega)]; exact hp i g0 g1
  · have g1' : d < D 7 1 := g1
    obtain ⟨r1, r2, r3, r4, r5, r6⟩ := hr d g0 g1
    unfold hfin dFin
    refine ⟨?_, ?_, ?_, ?_, ?_, ?_⟩
    · rw [if_pos rfl, if_pos (by omega), if_pos (by omega), r1, r2]
      congr 3; omega
    · rw [if_neg (by decide), if_pos rfl, if_pos (by omega), if_neg (by omega), r1, r2]
      congr 3; omega
    · rw [if_neg (by decide), if_neg (by decide), if_neg (by omega)]; exact r3
    · rw [if_neg (by decide), if_neg (by decide), if_neg (by omega)]; exact r4
    · rw [if_neg (by decide), if_neg (by decide), if_neg (by omega)]; exact r5
    · rw [if_neg (by decide), if_neg (by decide), if_neg (by omega)]; exact r6
theorem pf_fin {h : Hp} {c m : Int} (hm : m ≤ 16) : PF h (hfin h c m) := ⟨fun a g => funext fun j => by unfold hfin; rw [if_neg (by omega)], fun j g => by unfold hfin; rw [if_neg (by omega)]⟩
/-- where a moved point comes to lie -/
def mvC (D : Dr) (p x : Int) : Int := cntB (dGo D p 0) x (D 7 0 - 1).toNat
def dMv (D : Dr) (p x : Int) : Dr := dFin (dIns (dGo D p) x (mvC D p x)) (mvC D p x)
theorem mo_movePoint_b42_eq (hS : SM D K B h) (hO : OKS D K B) {p x : Int} (h0 : 0 ≤ p) (h1 : p < D 7 0) (hx : 0 ≤ x ∧ x ≤ 300) (hne : ∀ i, 0 ≤ i → i < D 7 0 → i ≠ p → D 0 i ≠ x) : MChg D K B h (mo_movePoint_b42 132 p x h) (mvC D p x) (dMv D p x) := by
  have hw := hO.1
  have w0 := hw.1
  have w1 := hw.2.1
  refine mchg_of hS hO (fun h1 => bd (mo_goes 132 p h1) fun _ h2 => bd (mo_comes 132 x h2) fun r3 h3 => iter2 (mo_movePoint_f61 132 p x) fuel r3 0 h3) rfl (fun h1' hA1 => ?_)
  obtain ⟨h2, f1, f2, f3⟩ := mo_goes_eq hA1 hw h0 h1
  have e70 : dGo D p 7 0 = D 7 0 - 1 := by unfold dGo; rfl
  have e71 : dGo D p 7 1 = D 7 1 := by unfold dGo; rfl
  have wk : WK (dGo D p) := by
    refine ⟨by rw [e70]; omega, by rw [e71]; omega, fun i g0 g1 => ?_, fun i j g0 g1 g2 => ?_, fun d g0 g1 => ?_⟩
    · rw [e70] at g1
      have a1 := hw.2.2.2.2.1 i g0 (by omega)
      have a2 := hw.2.2.2.2.1 (i + 1) (by omega) (by omega)
      unfold dGo
      rw [if_pos rfl]
      split <;> assumption
    · rw [e70] at g2
      have a1 := hw.2.2.2.2.2.1
      unfold dGo
      rw [if_pos rfl, if_pos rfl]
      have b1 := a1 i j g0 g1 (by omega)
      have b2 := a1 (i + 1) (j + 1) (by omega) (by omega) (by omega)
      have b3 := a1 i (j + 1) g0 (by omega) (by omega)
      split <;> split <;> first | assumption | omega
    · rw [e71] at g1
      have a1 := (hw.2.2.2.2.2.2 d g0 g1).1
      unfold dGo gone
      simp only [if_neg (show ¬ (1 : Nat) = 0 by decide), if_neg (show ¬ (2 : Nat) = 0 by decide), if_pos (show (1 : Nat) = 1 ∨ (1 : Nat) = 2 by decide), if_pos (show (2 : Nat) = 1 ∨ (2 : Nat) = 2 by decide)]
      constructor
      · split
        · omega
        · split <;> omega
      · split
        · omega
        · split <;> omega
  obtain ⟨h3, g1, g2, g3⟩ := mo_comes_eq f2 wk (by rw [e70]; omega) hx (fun i i0 i1 => by
    rw [e70] at i1
    unfold dGo
    rw [if_pos rfl]
    split
    · exact hne i i0 (by omega) (by omega)
    · exact hne (i + 1) (by omega) (by omega) (by omega))
  rw [e70] at g1 g2
  have em : h3 133 13 = D 7 1 := g2.m
  refine ⟨hfin h3 (mvC D p x) (D 7 1), ?_, ?_, (f3.trans g3).trans (pf_fin w1.2)⟩
  · rw [bd_eq f1, bd_eq g1]
    exact mo_move61_eq em w1
  · exact AtM.fin g2 (by show dGo D p 7 0 + 1 ≤ 12; rw [e70]; omega) rfl w1.2
end MOP

section MOE
/-- edits of a drawing -/
def dLay (D : Dr) (a b mi pl ch : Int) : Dr := fun r i => if r = 7 ∧ i = 1 then D 7 1 + 1 else if i = D 7 1 ∧ r = 1 then a else if i = D 7 1 ∧ r = 2 then b else if i = D 7 1 ∧ r = 3 then mi else if i = D 7 1 ∧ r = 4 then pl else if i = D 7 1 ∧ r = 5 then ch else if i = D 7 1 ∧ r = 6 then 0 else D r i
def dDel (D : Dr) (k : Int) : Dr := fun r i => if r = 7 then (if i = 1 then D 7 1 - 1 else D 7 i) else if r = 0 then D 0 i else if i < k then D r i else D r (i + 1)
def dSet (D : Dr) (r : Nat) (k v : Int) : Dr := fun r' i => if r' = r ∧ i = k then v else D r' i
def dIns (D : Dr) (x c : Int) : Dr := fun r i => if r = 0 then (if i < c then D 0 i else if i = c then x else D 0 (i - 1)) else if r = 1 ∨ r = 2 then (if c ≤ D r i then D r i + 1 else D r i) else if r = 7 ∧ i = 0 then D 7 0 + 1 else D r i
def gone (p x : Int) : Int := if x = p then -1 else if p < x then x - 1 else x
def dGo (D : Dr) (p : Int) : Dr := fun r i => if r = 0 then (if i < p then D 0 i else D 0 (i + 1)) else if r = 1 ∨ r = 2 then gone p (D r i) else if r = 7 ∧ i = 0 then D 7 0 - 1 else D r i
def PF (h h' : Hp) : Prop := (∀ c, c ≠ 133 → h' c = h c) ∧ ∀ j, 112 ≤ j → h' 133 j = h 133 j
theorem PF.refl (h : Hp) : PF h h := ⟨fun _ _ => rfl, fun _ _ => rfl⟩
theorem PF.trans {h h1 h2 : Hp} (a : PF h h1) (b : PF h1 h2) : PF h h2 := ⟨fun c g => (b.1 c g).trans (a.1 c g), fun j g => (b.2 j g).trans (a.2 j g)⟩
theorem PF.hist {h h' : Hp} (a : PF h h') {K : Int} {B : Int → Dr} (hH : HistM K B h) (hw : ∀ k, 0 ≤ k → k < K → WF (B k)) : HistM K B h' := ⟨by rw [a.1 132 (by decide)]; exact hH.1, fun k g0 g1 => (hH.2 k g0 g1).move (hw k g0 g1) (fun i i0 i1 => a.2 _ (by omega))⟩
theorem pf_hu {h : Hp} {i v : Int} (hi : i < 112) : PF h (hu h 133 i v) := ⟨fun c g => funext fun j => hu_o g j, fun j g => hu_j 133 (by omega)⟩
def hlay (h : Hp) (m a b mi pl ch : Int) : Hp := fun c j => if c = 133 then (if j = 13 then m + 1 else if j = 14 + 6 * m then a else if j = 15 + 6 * m then b else if j = 16 + 6 * m then mi else if j = 17 + 6 * m then pl else if j = 18 + 6 * m then ch else if j = 19 + 6 * m then 0 else h 133 j) else h c j
theorem mo_lays_eq {D : Dr} {h : Hp} (ha : AtM D h 0) (hm : 0 ≤ D 7 1 ∧ D 7 1 < 16) (hn : 0 ≤ D 7 0 ∧ D 7 0 ≤ 12) (a b mi pl ch : Int) : mo_lays 132 a b mi pl ch h = some ((), hlay h (D 7 1) a b mi pl ch) ∧ AtM (dLay D a b mi pl ch) (hlay h (D 7 1) a b mi pl ch) 0 ∧ PF h (hlay h (D 7 1) a b mi pl ch) := by
  have em := ha.m
  refine ⟨?_, ?_, ?_⟩
  · simp only [mo_lays, Nat.reduceAdd]
    rw [ix_in (by omega) (by omega), ix_in (by omega) (by omega), em, ck_in ⟨by omega, by omega⟩, ix_in (by omega) (by omega), lt_eq, bd_eq (mo_sets_raw (by omega) (by omega)), bd_eq (mo_sets_raw (by omega) (by omega)), bd_eq (mo_sets_raw (by omega) (by omega)), bd_eq (mo_sets_raw (by omega) (by omega)), bd_eq (mo_sets_raw (by omega) (by omega)), bd_eq (mo_sets_raw (by omega) (by omega))]
    refine congrArg (fun z => some ((), z)) ?_
    funext c j
    unfold hu hlay
    grind
  · obtain ⟨⟨a0, a1, a2, a3⟩, hp, hr⟩ := ha
    refine ⟨⟨?_, ?_, ?_, ?_⟩, fun i g0 g1 => ?_, fun d g0 g1 => ?_⟩
    · unfold dLay hlay; grind
    · unfold dLay hlay; grind
    · unfold dLay hlay; grind
    · unfold dLay hlay; grind
    · have g1' : i < D 7 0 := by unfold dLay at g1; grind
      have := hp i g0 g1'
      unfold dLay hlay; grind
    · have g1' : d < D 7 1 + 1 := by unfold dLay at g1; grind
      by_cases q : d = D 7 1
      · subst q
        unfold dLay hlay
        refine ⟨?_, ?_, ?_, ?_, ?_, ?_⟩ <;> grind
      · obtain ⟨r1, r2, r3, r4, r5, r6⟩ := hr d g0 (by omega)
        unfold dLay hlay
        refine ⟨?_, ?_, ?_, ?_, ?_, ?_⟩ <;> grind
  · refine ⟨fun c g => funext fun j => ?_, fun j g => ?_⟩
    · unfold hlay; grind
    · unfold hlay; grind
/-- ends named anew on the page: the first k of 2 * m places -/
def hrnm (h : Hp) (φ : Int → Int) (k : Int) : Hp := fun c j => if c = 133 ∧ 14 ≤ j ∧ (j - 14) % 6 < 2 ∧ 2 * ((j - 14) / 6) + (j - 14) % 6 < k then φ (h c j) else h c j
theorem hrnm_0 {h : Hp} {φ : Int → Int} : hrnm h φ 0 = h := by
  funext c j
  unfold hrnm
  rw [if_neg (by omega)]
theorem hrnm_s {h : Hp} {φ : Int → Int} {k k' : Int} (h0 : 0 ≤ k) (e : k' = k + 1) : hu (hrnm h φ k) 133 (14 + 6 * (k / 2) + k % 2) (φ (h 133 (14 + 6 * (k / 2) + k % 2))) = hrnm h φ k' := by
  funext c j
  unfold hu hrnm
  by_cases q : c = 133 ∧ j = 14 + 6 * (k / 2) + k % 2
  · obtain ⟨rfl, rfl⟩ := q
    rw [if_pos ⟨rfl, rfl⟩, if_pos (by omega)]
  · rw [if_neg q]
    by_cases z : c = 133 ∧ 14 ≤ j ∧ (j - 14) % 6 < 2 ∧ 2 * ((j - 14) / 6) + (j - 14) % 6 < k
    · rw [if_pos z, if_pos (by omega)]
    · rw [if_neg z, if_neg (by omega)]
theorem hrnm_at {h : Hp} {φ : Int → Int} {k : Int} (h0 : 0 ≤ k) : hrnm h φ k 133 (14 + 6 * (k / 2) + k % 2) = h 133 (14 + 6 * (k / 2) + k % 2) := by
  unfold hrnm
  rw [if_neg (by omega)]
theorem hrnm_o {h : Hp} {φ : Int → Int} {k : Int} {j : Int} (hj : j < 14) : hrnm h φ k 133 j = h 133 j := by
  unfold hrnm
  rw [if_neg (by omega)]
def bump (c x : Int) : Int := if c ≤ x then x + 1 else x
theorem mo_comes67_eq {h : Hp} {x c m : Int} (hm : h 133 13 = m) (hmb : 0 ≤ m ∧ m ≤ 16) (hf : ∀ d w, 0 ≤ d → d < m → 0 ≤ w → w < 2 → -100 ≤ h 133 (14 + 6 * d + w) ∧ h 133 (14 + 6 * d + w) ≤ 1000) : iter2 (mo_comes_f67 132 x) fuel c 0 h = some (c, hrnm h (bump c) (2 * m)) := by
  have key := it2_seq (F := mo_comes_f67 132 x) (fun _ => c) (fun k => (k : Int)) (fun k => hrnm h (bump c) (k : Int)) (2 * m).toNat (R := some (c, hrnm h (bump c) (2 * m))) (fun k i hi => ?_) (fun k => ?_) fuel 0 (Nat.zero_le _) (by unfold fuel; omega)
  · rw [show ((0 : Nat) : Int) = 0 from rfl, hrnm_0] at key
    exact key
  · have hb := hf ((i : Int) / 2) ((i : Int) % 2) (by omega) (by omega) (by omega) (by omega)
    simp only [mo_comes_f67, mo_comes_b114, Nat.reduceAdd]
    rw [hrnm_o (by omega), hm, ix_in (by omega) (by omega), ck_in ⟨by omega, by omega⟩, if_pos (by omega), dv_in (by omega) (by omega), dv_in (by omega) (by omega), bd_eq (mo_of_raw (by omega) (by omega)), dv_in (by omega) (by omega), dv_in (by omega) (by omega), hrnm_at (by omega)]
    have es := hrnm_s (h := h) (φ := bump c) (k := (i : Int)) (by omega) (nc_s (x := i))
    by_cases q : h 133 (14 + 6 * ((i : Int) / 2) + (i : Int) % 2) < c
    · have eb : bump c (h 133 (14 + 6 * ((i : Int) / 2) + (i : Int) % 2)) = h 133 (14 + 6 * ((i : Int) / 2) + (i : Int) % 2) := by unfold bump; rw [if_neg (by omega)]
      rw [eb] at es
      rw [if_pos q, bd_eq (mo_sets_raw (by omega) (by omega)), ck_in ⟨by omega, by omega⟩, es]
      rfl
    · have eb : bump c (h 133 (14 + 6 * ((i : Int) / 2) + (i : Int) % 2)) = h 133 (14 + 6 * ((i : Int) / 2) + (i : Int) % 2) + 1 := by unfold bump; rw [if_pos (by omega)]
      rw [eb] at es
      rw [if_neg q, ck_in ⟨by omega, by omega⟩, bd_eq (mo_sets_raw (by omega) (by omega)), ck_in ⟨by omega, by omega⟩, es]
      rfl
  · simp only [mo_comes_f67, Nat.reduceAdd]
    rw [hrnm_o (by omega), hm, ix_in (by omega) (by omega), ck_in ⟨by omega, by omega⟩, if_neg (by omega), show (((2 * m).toNat : Nat) : Int) = 2 * m by omega]
theorem AtM.rnm {D D' : Dr} {h : Hp} {φ : Int → Int} {m : Int} (ha : AtM D h 0) (hn : D 7 0 ≤ 12) (hm : D 7 1 = m) (hm2 : m ≤ 16) (e7 : ∀ i, D' 7 i = D 7 i) (e0 : ∀ i, D' 0 i = D 0 i) (e1 : ∀ i, D' 1 i = φ (D 1 i)) (e2 : ∀ i, D' 2 i = φ (D 2 i)) (e3 : ∀ r i, 3 ≤ r → r ≤ 6 → D' r i = D r i) : AtM D' (hrnm h φ (2 * m)) 0 := by
  obtain ⟨⟨a0, a1, a2, a3⟩, hp, hr⟩ := ha
  refine ⟨⟨?_, ?_, ?_, ?_⟩, fun i g0 g1 => ?_, fun d g0 g1 => ?_⟩
  · rw [e7, hrnm_o (by omega)]; exact a0
  · rw [e7, hrnm_o (by omega)]; exact a1
  · rw [e7]; unfold hrnm; rw [if_neg (by omega)]; exact a2
  · rw [e7]; unfold hrnm; rw [if_neg (by omega)]; exact a3
  · rw [e7] at g1
    rw [e0, hrnm_o (by omega)]
    exact hp i g0 g1
  · rw [e7] at g1
    obtain ⟨r1, r2, r3, r4, r5, r6⟩ := hr d g0 g1
    rw [e1, e2, e3 3 d (by omega) (by omega), e3 4 d (by omega) (by omega), e3 5 d (by omega) (by omega), e3 6 d (by omega) (by omega), r1, r2, r3, r4, r5, r6]
    unfold hrnm
    refine ⟨?_, ?_, ?_, ?_, ?_, ?_⟩
    · rw [if_pos (by omega)]
    · rw [if_pos (by omega)]
    · rw [if_neg (by omega)]
    · rw [if_neg (by omega)]
    · rw [if_neg (by omega)]
    · rw [if_neg (by omega)]
theorem pf_rnm {h : Hp} {φ : Int → Int} {m : Int} (hm : m ≤ 16) : PF h (hrnm h φ (2 * m)) := ⟨fun c g => funext fun j => by unfold hrnm; rw [if_neg (by omega)], fun j g => by unfold hrnm; rw [if_neg (by omega)]⟩
/-- a drawing good enough for a point to come -/
def WK (D : Dr) : Prop := (0 ≤ D 7 0 ∧ D 7 0 ≤ 12) ∧ (0 ≤ D 7 1 ∧ D 7 1 ≤ 16) ∧ (∀ i, 0 ≤ i → i < D 7 0 → 0 ≤ D 0 i ∧ D 0 i ≤ 300) ∧ (∀ i j, 0 ≤ i → i < j → j < D 7 0 → D 0 i < D 0 j) ∧ ∀ d, 0 ≤ d → d < D 7 1 → (-1 ≤ D 1 d ∧ D 1 d ≤ 12) ∧ -1 ≤ D 2 d ∧ D 2 d ≤ 12
theorem WF.wk {D : Dr} (w : WF D) : WK D := ⟨w.1, w.2.1, w.2.2.2.2.1, w.2.2.2.2.2.1, fun d g0 g1 => by have := (w.2.2.2.2.2.2 d g0 g1).1; have := w.1; omega⟩
theorem mo_comes_eq {D : Dr} {h : Hp} (ha : AtM D h 0) (w : WK D) (h12 : D 7 0 < 12) {x : Int} (hx : 0 ≤ x ∧ x ≤ 300) (hne : ∀ i, 0 ≤ i → i < D 7 0 → D 0 i ≠ x) : ∃ h', mo_comes 132 x h = some (cntB (D 0) x (D 7 0).toNat, h') ∧ AtM (dIns D x (cntB (D 0) x (D 7 0).toNat)) h' 0 ∧ PF h h' := by
  have hb := cntB_b (D 0) x (D 7 0).toNat
  have hs : ∀ i : Int, 0 ≤ i → i < D 7 0 → (D 0 i < x ↔ i < cntB (D 0) x (D 7 0).toNat) := fun i g0 g1 => cntB_lt (n := (D 7 0).toNat) (fun i j a b c => w.2.2.2.1 i j a b (by omega)) i g0 (by omega)
  generalize hc : cntB (D 0) x (D 7 0).toNat = c at hb hs ⊢
  have w0 := w.1
  have w1 := w.2.1
  have en := ha.n
  have em := ha.m
  -- the heap where the place is free, then the point
  have hA1 : AtM (fun r i => if r = 0 then (if i < c then D 0 i else if i = c then x else D 0 (i - 1)) else if r = 7 ∧ i = 0 then D 7 0 + 1 else D r i) (hu (hu (hmvr h 133 (1 + c) (1 + D 7 0)) 133 (1 + c) x) 133 0 (D 7 0 + 1)) 0 := by
    obtain ⟨⟨a0, a1, a2, a3⟩, hp, hr⟩ := ha
    refine ⟨⟨?_, ?_, ?_, ?_⟩, fun i g0 g1 => ?_, fun d g0 g1 => ?_⟩
    · unfold hu hmvr; grind
    · unfold hu hmvr; grind
    · unfold hu hmvr; grind
    · unfold hu hmvr; grind
    · have g1' : i < D 7 0 + 1 := by grind
      by_cases q1 : i < c
      · have := hp i g0 (by omega)
        unfold hu hmvr; grind
      · by_cases q2 : i = c
        · unfold hu hmvr; grind
        · have := hp (i - 1) (by omega) (by omega)
          unfold hu hmvr; grind
    · have g1' : d < D 7 1 := by grind
      obtain ⟨r1, r2, r3, r4, r5, r6⟩ := hr d g0 g1'
      unfold hu hmvr
      refine ⟨?_, ?_, ?_, ?_, ?_, ?_⟩ <;> grind
  have hP1 : PF h (hu (hu (hmvr h 133 (1 + c) (1 + D 7 0)) 133 (1 + c) x) 133 0 (D 7 0 + 1)) := by
    refine ⟨fun c' g => funext fun j => ?_, fun j g => ?_⟩
    · unfold hu hmvr; grind
    · unfold hu hmvr; grind
  generalize hg : hu (hu (hmvr h 133 (1 + c) (1 + D 7 0)) 133 (1 + c) x) 133 0 (D 7 0 + 1) = H1 at hA1 hP1
  refine ⟨hrnm H1 (bump c) (2 * D 7 1), ?_, ?_, hP1.trans (pf_rnm w1.2)⟩
  · have e46 : mo_comes_b46 132 x c (hmvr h 133 (1 + c) (1 + D 7 0)) = some (c, hrnm H1 (bump c) (2 * D 7 1)) := by
      have e00 : hu (hmvr h 133 (1 + c) (1 + D 7 0)) 133 (1 + c) x 133 0 = D 7 0 := by
        unfold hu hmvr; grind
      simp only [mo_comes_b46, Nat.reduceAdd]
      rw [ck_in ⟨by omega, by omega⟩, ix_in (by omega) (by omega), lt_eq, ix_in (by omega) (by omega), e00, ck_in ⟨by omega, by omega⟩, ix_in (by omega) (by omega), lt_eq, hg]
      refine mo_comes67_eq hA1.m w1 (fun d w0' g0 g1 g2 g3 => ?_)
      obtain ⟨r1, r2, -⟩ := hA1.dim (d := d) g0 g1
      have hfd := w.2.2.2.2 d g0 g1
      rcases (by omega : w0' = 0 ∨ w0' = 1) with q | q
      · subst q; rw [r1]; first | omega | (simp; omega)
      · subst q; rw [r2]; first | omega | (simp; omega)
    simp only [mo_comes, Nat.reduceAdd]
    rw [ix_in (by omega) (by omega), en]
    have key := it1_seq (F := mo_comes_f7 132 x) (fun k => D 7 0 - (k : Int)) (fun k => hmvr h 133 (1 + D 7 0 - (k : Int)) (1 + D 7 0)) (D 7 0 - c).toNat (R := some (c, hrnm H1 (bump c) (2 * D 7 1))) (fun k i hi => ?_) (fun k => ?_) fuel 0 (Nat.zero_le _) (by unfold fuel; omega)
    · rw [hmvr_0 (by omega), show D 7 0 - ((0 : Nat) : Int) = D 7 0 by omega] at key
      exact key
    · have ep : hmvr h 133 (1 + D 7 0 - (i : Int)) (1 + D 7 0) 133 (1 + (D 7 0 - (i : Int) - 1)) = D 0 (D 7 0 - (i : Int) - 1) := by
        have := ha.pos (i := D 7 0 - (i : Int) - 1) (by omega) (by omega)
        unfold hmvr
        rw [if_neg (by omega)]
        exact this
      have hlt := hs (D 7 0 - (i : Int) - 1) (by omega) (by omega)
      have hne' := hne (D 7 0 - (i : Int) - 1) (by omega) (by omega)
      simp only [mo_comes_f7, Nat.reduceAdd]
      rw [if_pos (by omega), ck_in ⟨by omega, by omega⟩, bd_eq (mo_position_raw (by omega)), ep, if_pos (by omega), ck_in ⟨by omega, by omega⟩, ck_in ⟨by omega, by omega⟩, ck_in ⟨by omega, by omega⟩, ix_in (by omega) (by omega), ix_in (by omega) (by omega), lt_eq, ck_in ⟨by omega, by omega⟩]
      rw [show 1 + (D 7 0 - (i : Int)) = 1 + D 7 0 - (i : Int) by omega, hmvr_s (by omega) rfl, show D 7 0 - (i : Int) + -1 = D 7 0 - ((i + 1 : Nat) : Int) by rw [nc_s]; omega, show 1 + D 7 0 - (i : Int) - 1 = 1 + D 7 0 - ((i + 1 : Nat) : Int) by rw [nc_s]; omega]
    · have ec : D 7 0 - (((D 7 0 - c).toNat : Nat) : Int) = c := by omega
      have ec2 : 1 + D 7 0 - (((D 7 0 - c).toNat : Nat) : Int) = 1 + c := by omega
      simp only [mo_comes_f7, Nat.reduceAdd]
      rw [ec, ec2]
      by_cases q : 0 < c
      · have ep : hmvr h 133 (1 + c) (1 + D 7 0) 133 (1 + (c - 1)) = D 0 (c - 1) := by
          have := ha.pos (i := c - 1) (by omega) (by omega)
          unfold hmvr
          rw [if_neg (by omega)]
          exact this
        have hlt := hs (c - 1) (by omega) (by omega)
        rw [if_pos q, ck_in ⟨by omega, by omega⟩, bd_eq (mo_position_raw (by omega)), ep, if_neg (by omega)]
        exact e46
      · rw [if_neg q]
        exact e46
  · refine AtM.rnm hA1 (by simp; omega) (by simp) w1.2 (fun i => ?_) (fun i => ?_) (fun i => ?_) (fun i => ?_) (fun r i g0 g1 => ?_)
    · unfold dIns; grind
    · unfold dIns; grind
    · unfold dIns bump; grind
    · unfold dIns bump; grind
    · unfold dIns; grind
theorem mo_goes48_eq {h : Hp} {p m : Int} (hm : h 133 13 = m) (hmb : 0 ≤ m ∧ m ≤ 16) (hf : ∀ d w, 0 ≤ d → d < m → 0 ≤ w → w < 2 → 0 ≤ h 133 (14 + 6 * d + w) ∧ h 133 (14 + 6 * d + w) ≤ 1000) : iter1 (mo_goes_f48 132 p) fuel 0 h = some ((), hrnm h (gone p) (2 * m)) := by
  have key := it1_seq (F := mo_goes_f48 132 p) (fun k => (k : Int)) (fun k => hrnm h (gone p) (k : Int)) (2 * m).toNat (R := some ((), hrnm h (gone p) (2 * m))) (fun k i hi => ?_) (fun k => ?_) fuel 0 (Nat.zero_le _) (by unfold fuel; omega)
  · rw [show ((0 : Nat) : Int) = 0 from rfl, hrnm_0] at key
    exact key
  · have hb := hf ((i : Int) / 2) ((i : Int) % 2) (by omega) (by omega) (by omega) (by omega)
    have es := hrnm_s (h := h) (φ := gone p) (k := (i : Int)) (by omega) (nc_s (x := i))
    simp only [mo_goes_f48, mo_goes_b100, Nat.reduceAdd]
    rw [hrnm_o (by omega), hm, ix_in (by omega) (by omega), ck_in ⟨by omega, by omega⟩, if_pos (by omega), dv_in (by omega) (by omega), dv_in (by omega) (by omega), bd_eq (mo_of_raw (by omega) (by omega)), dv_in (by omega) (by omega), dv_in (by omega) (by omega), hrnm_at (by omega)]
    unfold gone at es
    by_cases q : h 133 (14 + 6 * ((i : Int) / 2) + (i : Int) % 2) = p
    · rw [if_pos q] at es
      rw [if_pos q, bd_eq (mo_sets_raw (by omega) (by omega)), ck_in ⟨by omega, by omega⟩]
      exact congrArg (k _) es
    · rw [if_neg q] at es
      rw [if_neg q]
      by_cases q2 : p < h 133 (14 + 6 * ((i : Int) / 2) + (i : Int) % 2)
      · rw [if_pos q2] at es
        rw [if_pos q2, ck_in ⟨by omega, by omega⟩, bd_eq (mo_sets_raw (by omega) (by omega)), ck_in ⟨by omega, by omega⟩]
        exact congrArg (k _) es
      · rw [if_neg q2] at es
        rw [if_neg q2, bd_eq (mo_sets_raw (by omega) (by omega)), ck_in ⟨by omega, by omega⟩]
        exact congrArg (k _) es
  · simp only [mo_goes_f48, Nat.reduceAdd]
    rw [hrnm_o (by omega), hm, ix_in (by omega) (by omega), ck_in ⟨by omega, by omega⟩, if_neg (by omega), show (((2 * m).toNat : Nat) : Int) = 2 * m by omega]
theorem mo_goes_eq {D : Dr} {h : Hp} (ha : AtM D h 0) (w : WF D) {p : Int} (hp0 : 0 ≤ p) (hp1 : p < D 7 0) : ∃ h', mo_goes 132 p h = some ((), h') ∧ AtM (dGo D p) h' 0 ∧ PF h h' := by
  have w0 := w.1
  have w1 := w.2.1
  have en := ha.n
  have hA1 : AtM (fun r i => if r = 0 then (if i < p then D 0 i else D 0 (i + 1)) else if r = 7 ∧ i = 0 then D 7 0 - 1 else D r i) (hmvl (hu h 133 0 (D 7 0 - 1)) 133 (1 + p) (D 7 0)) 0 := by
    obtain ⟨⟨a0, a1, a2, a3⟩, hp, hr⟩ := ha
    refine ⟨⟨?_, ?_, ?_, ?_⟩, fun i g0 g1 => ?_, fun d g0 g1 => ?_⟩
    · unfold hu hmvl; grind
    · unfold hu hmvl; grind
    · unfold hu hmvl; grind
    · unfold hu hmvl; grind
    · have g1' : i < D 7 0 - 1 := by grind
      have h1 := hp i g0 (by omega)
      have h2 := hp (i + 1) (by omega) (by omega)
      unfold hu hmvl; grind
    · have g1' : d < D 7 1 := by grind
      obtain ⟨r1, r2, r3, r4, r5, r6⟩ := hr d g0 g1'
      unfold hu hmvl
      refine ⟨?_, ?_, ?_, ?_, ?_, ?_⟩ <;> grind
  have hP1 : PF h (hmvl (hu h 133 0 (D 7 0 - 1)) 133 (1 + p) (D 7 0)) := by
    refine ⟨fun c' g => funext fun j => ?_, fun j g => ?_⟩
    · unfold hu hmvl; grind
    · unfold hu hmvl; grind
  refine ⟨hrnm (hmvl (hu h 133 0 (D 7 0 - 1)) 133 (1 + p) (D 7 0)) (gone p) (2 * D 7 1), ?_, ?_, hP1.trans (pf_rnm w1.2)⟩
  · simp only [mo_goes, Nat.reduceAdd]
    rw [ix_in (by omega) (by omega), en, ck_in ⟨by omega, by omega⟩, ix_in (by omega) (by omega), lt_eq]
    have e48 := mo_goes48_eq (p := p) hA1.m w1 (fun d w0' g0 g1 g2 g3 => by
      obtain ⟨r1, r2, -⟩ := hA1.dim (d := d) g0 g1
      have hfd := (w.2.2.2.2.2.2 d g0 g1).1
      rcases (by omega : w0' = 0 ∨ w0' = 1) with q | q
      · subst q; rw [r1]; first | omega | (simp; omega)
      · subst q; rw [r2]; first | omega | (simp; omega))
    have key := it1_seq (F := mo_goes_f12 132 p) (fun k => p + (k : Int)) (fun k => hmvl (hu h 133 0 (D 7 0 - 1)) 133 (1 + p) (1 + p + (k : Int))) (D 7 0 - 1 - p).toNat (R := some ((), hrnm (hmvl (hu h 133 0 (D 7 0 - 1)) 133 (1 + p) (D 7 0)) (gone p) (2 * D 7 1))) (fun k i hi => ?_) (fun k => ?_) fuel 0 (Nat.zero_le _) (by unfold fuel; omega)
    · rw [hmvl_0 (by omega), show p + ((0 : Nat) : Int) = p by omega] at key
      exact key
    · have e00 : hmvl (hu h 133 0 (D 7 0 - 1)) 133 (1 + p) (1 + p + (i : Int)) 133 0 = D 7 0 - 1 := by
        unfold hmvl hu; grind
      simp only [mo_goes_f12, Nat.reduceAdd]
      rw [ix_in (by omega) (by omega), e00, if_pos (by omega), ck_in ⟨by omega, by omega⟩, ck_in ⟨by omega, by omega⟩, ck_in ⟨by omega, by omega⟩, ix_in (by omega) (by omega), ix_in (by omega) (by omega), lt_eq, ck_in ⟨by omega, by omega⟩]
      rw [show 1 + (p + (i : Int)) = 1 + p + (i : Int) by omega, hmvl_s (by omega) rfl, show p + (i : Int) + 1 = p + ((i + 1 : Nat) : Int) by rw [nc_s]; omega, show 1 + p + (i : Int) + 1 = 1 + p + ((i + 1 : Nat) : Int) by rw [nc_s]; omega]
    · have e00 : hmvl (hu h 133 0 (D 7 0 - 1)) 133 (1 + p) (D 7 0) 133 0 = D 7 0 - 1 := by
        unfold hmvl hu; grind
      simp only [mo_goes_f12, Nat.reduceAdd]
      rw [show 1 + p + (((D 7 0 - 1 - p).toNat : Nat) : Int) = D 7 0 by omega, e00, ix_in (by omega) (by omega), if_neg (by omega)]
      exact e48
  · refine AtM.rnm hA1 (by simp; omega) (by simp) w1.2 (fun i => ?_) (fun i => ?_) (fun i => ?_) (fun i => ?_) (fun r i g0 g1 => ?_)
    · unfold dGo; grind
    · unfold dGo; grind
    · unfold dGo; grind
    · unfold dGo; grind
    · unfold dGo; grind
end MOE

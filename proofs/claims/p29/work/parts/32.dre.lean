section DRE
def hmvl (h : Hp) (q : Nat) (lo hi : Int) : Hp := fun c j => if c = q ∧ lo ≤ j ∧ j < hi then h q (j + 1) else h c j
def hmvr (h : Hp) (q : Nat) (lo hi : Int) : Hp := fun c j => if c = q ∧ lo < j ∧ j ≤ hi then h q (j - 1) else h c j
theorem hmvl_0 {h : Hp} {q : Nat} {lo hi : Int} (e : hi ≤ lo) : hmvl h q lo hi = h := by
  funext c j
  unfold hmvl
  grind
theorem hmvr_0 {h : Hp} {q : Nat} {lo hi : Int} (e : hi ≤ lo) : hmvr h q lo hi = h := by
  funext c j
  unfold hmvr
  grind
theorem hmvl_s {h : Hp} {q : Nat} {lo m m' : Int} (e : lo ≤ m) (e2 : m' = m + 1) : hu (hmvl h q lo m) q m (hmvl h q lo m q m') = hmvl h q lo m' := by
  funext c j
  unfold hu hmvl
  grind
theorem hmvr_s {h : Hp} {q : Nat} {m hi m' : Int} (e : m ≤ hi) (e2 : m' = m - 1) : hu (hmvr h q m hi) q m (hmvr h q m hi q m') = hmvr h q m' hi := by
  funext c j
  unfold hu hmvr
  grind
def hdn (h : Hp) (th : Nat) (pl p x : Int) : Hp := hu (hmvr h (th + 1) pl p) (th + 1) pl x
def hup (h : Hp) (th : Nat) (pl p : Int) : Hp := hmvl h (th + 1) p pl
theorem hmvr_max {h : Hp} {q : Nat} {a b hi : Int} (e : a = b ∨ (hi ≤ a ∧ hi ≤ b)) : hmvr h q a hi = hmvr h q b hi := by
  rcases e with rfl | e
  · rfl
  · rw [hmvr_0 e.1, hmvr_0 e.2]
theorem hmvl_max {h : Hp} {q : Nat} {a b lo : Int} (e : a = b ∨ (a ≤ lo ∧ b ≤ lo)) : hmvl h q lo a = hmvl h q lo b := by
  rcases e with rfl | e
  · rfl
  · rw [hmvl_0 e.1, hmvl_0 e.2]
theorem dr_shift59_eq {h : Hp} {th : Nat} {pl p x : Int} (h0 : 0 ≤ pl) (h1 : pl < 12) (h2 : 0 ≤ p) (h3 : p < 12) : iter2 (dr_shiftPoint_f59 th p x) fuel pl p h = some (pl, hdn h th pl p x) := by
  have key := it2_seq (F := dr_shiftPoint_f59 th p x) (fun _ => pl) (fun k => p - (k : Int)) (fun k => hmvr h (th + 1) (p - (k : Int)) p) (p - pl).toNat (R := some (pl, hdn h th pl p x)) (fun k i hi => ?_) (fun k => ?_) fuel 0 (Nat.zero_le _) (by unfold fuel; omega)
  · rw [hmvr_0 (by omega), show p - ((0 : Nat) : Int) = p by omega] at key
    exact key
  · simp only [dr_shiftPoint_f59]
    rw [if_pos (by omega), ck_in ⟨by omega, by omega⟩, ix_in (by omega) (by omega), ix_in (by omega) (by omega), lt_eq, ck_in ⟨by omega, by omega⟩, hmvr_s (by omega) rfl]
    rw [show p - (i : Int) + -1 = p - ((i + 1 : Nat) : Int) by rw [nc_s]; omega, show p - (i : Int) - 1 = p - ((i + 1 : Nat) : Int) by rw [nc_s]; omega]
  · simp only [dr_shiftPoint_f59]
    rw [if_neg (by omega), ix_in h0 h1, lt_eq, hmvr_max (a := p - ((p - pl).toNat : Int)) (b := pl) (by omega)]
    rfl
theorem dr_shift28_eq {h : Hp} {th : Nat} {pl p x : Int} (h0 : 0 ≤ pl) (h1 : pl < 12) (h2 : 0 ≤ p) (h3 : p < 12) : iter2 (dr_shiftPoint_f28 th p x) fuel pl p h = some (pl, hdn (hup h th pl p) th pl p x) := by
  have key := it2_seq (F := dr_shiftPoint_f28 th p x) (fun _ => pl) (fun k => p + (k : Int)) (fun k => hmvl h (th + 1) p (p + (k : Int))) (pl - p).toNat (R := some (pl, hdn (hup h th pl p) th pl p x)) (fun k i hi => ?_) (fun k => ?_) fuel 0 (Nat.zero_le _) (by unfold fuel; omega)
  · rw [hmvl_0 (by omega), show p + ((0 : Nat) : Int) = p by omega] at key
    exact key
  · simp only [dr_shiftPoint_f28]
    rw [if_pos (by omega), ck_in ⟨by omega, by omega⟩, ix_in (by omega) (by omega), ix_in (by omega) (by omega), lt_eq, ck_in ⟨by omega, by omega⟩, hmvl_s (by omega) rfl]
    rw [show p + (i : Int) + 1 = p + ((i + 1 : Nat) : Int) by rw [nc_s]; omega]
  · simp only [dr_shiftPoint_f28]
    rw [if_neg (by omega), dr_shift59_eq h0 h1 h2 h3, hmvl_max (a := p + ((pl - p).toNat : Int)) (b := pl) (by omega)]
    rfl
theorem hren_o {h : Hp} {th : Nat} {a b : Int} {k : Nat} {c : Nat} (c1 : c ≠ th + 2) (c2 : c ≠ th + 3) (j : Int) : hren h th a b k c j = h c j := by
  unfold hren
  rw [if_neg (fun q => c1 q.1), if_neg (fun q => c2 q.1)]
/-- the whole of shiftPoint: where it comes to lie, the heap -/
def hshift (h : Hp) (th : Nat) (p x pl : Int) : Hp := hdn (hup (hren h th p pl (h th 8).toNat) th pl p) th pl p x
def plOf (h : Hp) (th : Nat) (p x : Int) : Int := if h (th + 1) p < x then cntB (h (th + 1)) x (h th 7).toNat - 1 else cntB (h (th + 1)) x (h th 7).toNat
theorem dr_shiftPoint_eq {h : Hp} {th : Nat} (hn : 0 ≤ h th 7 ∧ h th 7 ≤ 12) (hm : 0 ≤ h th 8 ∧ h th 8 ≤ 16) (hf : ∀ d, 0 ≤ d → d < h th 8 → (0 ≤ h (th + 2) d ∧ h (th + 2) d ≤ 1000) ∧ 0 ≤ h (th + 3) d ∧ h (th + 3) d ≤ 1000) {p x : Int} (h0 : 0 ≤ p) (h1 : p < 12) (hpl : 0 ≤ plOf h th p x ∧ plOf h th p x < 12) : dr_shiftPoint th p x h = some (plOf h th p x, hshift h th p x (plOf h th p x)) := by
  have hb := cntB_b (h (th + 1)) x (h th 7).toNat
  unfold dr_shiftPoint
  rw [bd_eq (dr_countPointsBefore_eq hn x), ix_in h0 h1]
  have e : ∀ pl : Int, 0 ≤ pl → pl < 12 → dr_shiftPoint_b19 th p x pl h = some (pl, hshift h th p x pl) := by
    intro pl g0 g1
    unfold dr_shiftPoint_b19
    rw [bd_eq (dr_renumberEnds_eq hm hf p pl), dr_shift28_eq g0 g1 h0 h1]
    rfl
  unfold plOf at hpl ⊢
  by_cases c : h (th + 1) p < x
  · rw [if_pos c] at hpl ⊢
    rw [if_pos c, ck_in ⟨by omega, by omega⟩]
    exact e _ hpl.1 hpl.2
  · rw [if_neg c] at hpl ⊢
    rw [if_neg c]
    exact e _ hpl.1 hpl.2
def hgap (h : Hp) (q : Nat) (p n : Int) : Hp := fun c j => if c = q ∧ p ≤ j ∧ j < n - 1 then h q (j + 1) else h c j
theorem dr_closeGap_eq {h : Hp} {q n0 : Nat} {p n : Int} (h0 : 0 ≤ p) (h1 : n ≤ n0) (h2 : n0 ≤ 1000) (h3 : p < n) : dr_closeGap q n0 p n h = some ((), hgap h q p n) := by
  unfold dr_closeGap
  rw [ck_in ⟨by omega, by omega⟩]
  have key := it1_seq (F := dr_closeGap_f4 q n0 p n) (fun k => p + 1 + (k : Int)) (fun k => hmvl h q p (p + (k : Int))) (n - 1 - p).toNat (R := some ((), hgap h q p n)) (fun k i hi => ?_) (fun k => ?_) fuel 0 (Nat.zero_le _) (by unfold fuel; omega)
  · rw [hmvl_0 (by omega), show p + 1 + ((0 : Nat) : Int) = p + 1 by omega] at key
    exact key
  · simp only [dr_closeGap_f4]
    rw [if_pos (by omega), ck_in ⟨by omega, by omega⟩, ix_in (by omega) (by omega), ix_in (by omega) (by omega), lt_eq, ck_in ⟨by omega, by omega⟩, show p + 1 + (i : Int) - 1 = p + (i : Int) by omega, hmvl_s (by omega) (by omega)]
    rw [show p + 1 + (i : Int) + 1 = p + 1 + ((i + 1 : Nat) : Int) by rw [nc_s]; omega, show p + 1 + (i : Int) = p + ((i + 1 : Nat) : Int) by rw [nc_s]; omega]
  · simp only [dr_closeGap_f4]
    rw [if_neg (by omega), show p + ((n - 1 - p).toNat : Int) = n - 1 by omega]
    rfl
theorem hgap_o {h : Hp} {q : Nat} {p n : Int} {c : Nat} (c1 : c ≠ q) (j : Int) : hgap h q p n c j = h c j := by
  unfold hgap
  rw [if_neg (fun q => c1 q.1)]
theorem hu_o {h : Hp} {a : Nat} {i v : Int} {c : Nat} (c1 : c ≠ a) (j : Int) : hu h a i v c j = h c j := by
  unfold hu
  rw [if_neg (fun q => c1 q.1)]
theorem hu_s {h : Hp} {a : Nat} {i v : Int} : hu h a i v a i = v := by
  unfold hu
  rw [if_pos ⟨rfl, rfl⟩]
theorem hu_j {h : Hp} {a : Nat} {i v : Int} {j : Int} (c : Nat) (cj : j ≠ i) : hu h a i v c j = h c j := by
  unfold hu
  rw [if_neg (fun q => cj q.2)]
def hdel (h : Hp) (th : Nat) (k : Int) : Hp := fun c j => if c = th ∧ j = 8 then h th 8 - 1 else if th + 2 ≤ c ∧ c ≤ th + 7 ∧ k ≤ j ∧ j < h th 8 - 1 then h c (j + 1) else h c j
theorem dr_removeDimension_eq {h : Hp} {th : Nat} (hm : 0 ≤ h th 8 ∧ h th 8 ≤ 16) {k : Int} (h0 : 0 ≤ k) (h1 : k < h th 8) : dr_removeDimension th k h = some ((), hdel h th k) := by
  unfold dr_removeDimension
  rw [bd_eq (dr_closeGap_eq h0 (by omega) (by omega) h1)]
  rw [hgap_o (by omega), bd_eq (dr_closeGap_eq h0 (by omega) (by omega) h1)]
  rw [hgap_o (by omega), hgap_o (by omega), bd_eq (dr_closeGap_eq h0 (by omega) (by omega) h1)]
  rw [hgap_o (by omega), hgap_o (by omega), hgap_o (by omega), bd_eq (dr_closeGap_eq h0 (by omega) (by omega) h1)]
  rw [hgap_o (by omega), hgap_o (by omega), hgap_o (by omega), hgap_o (by omega), bd_eq (dr_closeGap_eq h0 (by omega) (by omega) h1)]
  rw [hgap_o (by omega), hgap_o (by omega), hgap_o (by omega), hgap_o (by omega), hgap_o (by omega), bd_eq (dr_closeGap_eq h0 (by omega) (by omega) h1)]
  rw [hgap_o (by omega), hgap_o (by omega), hgap_o (by omega), hgap_o (by omega), hgap_o (by omega), hgap_o (by omega), ck_in ⟨by omega, by omega⟩, lt_eq]
  refine congrArg (fun z => some ((), z)) ?_
  funext c j
  unfold hdel hu
  by_cases c0 : c = th ∧ j = 8
  · rw [if_pos c0, if_pos c0]
  · rw [if_neg c0, if_neg c0]
    have hg : ∀ (h' : Hp) (q : Nat), c ≠ q → hgap h' q k (h th 8) c j = h' c j := fun h' q hq => hgap_o hq j
    by_cases cr : th + 2 ≤ c ∧ c ≤ th + 7
    · by_cases cj : k ≤ j ∧ j < h th 8 - 1
      · rw [if_pos ⟨cr.1, cr.2, cj⟩]
        have hs : ∀ (h' : Hp) (q : Nat), c = q → hgap h' q k (h th 8) c j = h' c (j + 1) := fun h' q hq => by
          unfold hgap
          rw [if_pos ⟨hq, cj⟩, hq]
        have hg' : ∀ (h' : Hp) (q : Nat), c ≠ q → hgap h' q k (h th 8) c (j + 1) = h' c (j + 1) := fun h' q hq => hgap_o hq _
        rcases (by omega : c = th + 2 ∨ c = th + 3 ∨ c = th + 4 ∨ c = th + 5 ∨ c = th + 6 ∨ c = th + 7) with q | q | q | q | q | q
        · rw [hg _ _ (by omega), hg _ _ (by omega), hg _ _ (by omega), hg _ _ (by omega), hg _ _ (by omega), hs _ _ q]
        · rw [hg _ _ (by omega), hg _ _ (by omega), hg _ _ (by omega), hg _ _ (by omega), hs _ _ q, hg' _ _ (by omega)]
        · rw [hg _ _ (by omega), hg _ _ (by omega), hg _ _ (by omega), hs _ _ q, hg' _ _ (by omega), hg' _ _ (by omega)]
        · rw [hg _ _ (by omega), hg _ _ (by omega), hs _ _ q, hg' _ _ (by omega), hg' _ _ (by omega), hg' _ _ (by omega)]
        · rw [hg _ _ (by omega), hs _ _ q, hg' _ _ (by omega), hg' _ _ (by omega), hg' _ _ (by omega), hg' _ _ (by omega)]
        · rw [hs _ _ q, hg' _ _ (by omega), hg' _ _ (by omega), hg' _ _ (by omega), hg' _ _ (by omega), hg' _ _ (by omega)]
      · rw [if_neg (fun q => cj q.2.2)]
        have hs : ∀ (h' : Hp) (q : Nat), hgap h' q k (h th 8) c j = h' c j := fun h' q => by
          unfold hgap
          rw [if_neg (fun z => cj z.2)]
        rw [hs, hs, hs, hs, hs, hs]
    · rw [if_neg (fun q => cr ⟨q.1, q.2.1⟩), hg _ _ (by omega), hg _ _ (by omega), hg _ _ (by omega), hg _ _ (by omega), hg _ _ (by omega), hg _ _ (by omega)]
def hadd (h : Hp) (th : Nat) (a b : Int) : Hp := fun c j => if c = th ∧ j = 8 then h th 8 + 1 else if th + 2 ≤ c ∧ c ≤ th + 7 ∧ j = h th 8 then (if c = th + 2 then a else if c = th + 3 then b else 0) else h c j
theorem dr_append_eq {h : Hp} {th : Nat} (hm : 0 ≤ h th 8 ∧ h th 8 < 16) (a b : Int) : dr_append th a b h = some (h th 8, hadd h th a b) := by
  unfold dr_append
  rw [ck_in ⟨by omega, by omega⟩]
  simp only [lt_eq, ix_in hm.1 hm.2]
  refine congrArg (fun z => some (h th 8, z)) ?_
  funext c j
  unfold hadd hu
  by_cases c0 : c = th
  · subst c0
    by_cases c8 : j = 8
    · rw [if_neg (by omega), if_neg (by omega), if_neg (by omega), if_neg (by omega), if_neg (by omega), if_neg (by omega), if_pos ⟨rfl, c8⟩, if_pos ⟨rfl, c8⟩]
    · rw [if_neg (by omega), if_neg (by omega), if_neg (by omega), if_neg (by omega), if_neg (by omega), if_neg (by omega), if_neg (by omega), if_neg (by omega), if_neg (by omega)]
  · by_cases cj : j = h th 8
    · by_cases cr : th + 2 ≤ c ∧ c ≤ th + 7
      · rw [if_neg (show ¬ (c = th ∧ j = 8) from fun q => c0 q.1), if_pos (show th + 2 ≤ c ∧ c ≤ th + 7 ∧ j = h th 8 from ⟨cr.1, cr.2, cj⟩)]
        rcases (by omega : c = th + 2 ∨ c = th + 3 ∨ c = th + 4 ∨ c = th + 5 ∨ c = th + 6 ∨ c = th + 7) with q | q | q | q | q | q <;> subst q <;> simp [cj]
      · rw [if_neg (by omega), if_neg (by omega), if_neg (by omega), if_neg (by omega), if_neg (by omega), if_neg (by omega), if_neg (by omega), if_neg (by omega), if_neg (by omega)]
    · rw [if_neg (fun q => cj q.2), if_neg (fun q => cj q.2), if_neg (fun q => cj q.2), if_neg (fun q => cj q.2), if_neg (fun q => cj q.2), if_neg (fun q => cj q.2), if_neg (fun q => c0 q.1), if_neg (fun q => c0 q.1), if_neg (fun q => cj q.2.2)]
end DRE

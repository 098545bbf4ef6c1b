section RDC
variable {h : Hp}
def ng (s : Int) : Int := if s = 0 then 1 else 0
theorem tr_demand_eq (s : Int) : tr_demand 75 s h = some ((), hfl (ng s) 2 (h 75 6) h) := by
  unfold tr_demand tr_demand_b13 ng
  by_cases q : s = 0
  · rw [if_pos q, if_pos q, bd_eq (tr_fail_eq 2 _)]
  · rw [if_neg q, if_neg q, hfl_0]
/-- the class's heap behind a number of at most k digits -/
def hrd (h : Hp) (k : Nat) : Hp := hfl (nbad (h 76) (h 75 2) (h 75 5) (nx (h 76) (h 75 2) k (h 75 5))) 1 (nx (h 76) (h 75 2) k (h 75 5)) (hnm h (nx (h 76) (h 75 2) k (h 75 5)))
theorem hrd_o {k c : Nat} {j : Int} (g : c ≠ 75 ∨ (j ≠ 3 ∧ j ≠ 4 ∧ j ≠ 5 ∧ j ≠ 6)) : hrd h k c j = h c j := by
  unfold hrd
  rw [hfl_o (by omega)]
  unfold hnm hu
  grind
theorem hrd_5 {k : Nat} : hrd h k 75 5 = nx (h 76) (h 75 2) k (h 75 5) := by
  unfold hrd
  rw [hfl_o (by omega)]
  exact hu_s
theorem hrd_6 {k : Nat} : hrd h k 75 6 = h 75 5 := by
  unfold hrd
  rw [hfl_o (by omega)]
  unfold hnm hu
  grind
theorem hfl_3 {p a b : Int} (ha : a ≠ 0) : hfl p a b h 75 3 = if p ≠ 0 ∧ h 75 3 = 0 then a else h 75 3 := by
  unfold hfl hu
  split <;> grind
theorem hfl_4 {p a b : Int} : hfl p a b h 75 4 = if p ≠ 0 ∧ h 75 3 = 0 then b else h 75 4 := by
  unfold hfl hu
  split <;> grind
theorem hrd_3 {k : Nat} : hrd h k 75 3 = if nbad (h 76) (h 75 2) (h 75 5) (nx (h 76) (h 75 2) k (h 75 5)) ≠ 0 ∧ h 75 3 = 0 then 1 else h 75 3 := by
  unfold hrd
  rw [hfl_3 (by decide)]
  have : hnm h (nx (h 76) (h 75 2) k (h 75 5)) 75 3 = h 75 3 := by unfold hnm hu; grind
  rw [this]
theorem hrd_4 {k : Nat} : hrd h k 75 4 = if nbad (h 76) (h 75 2) (h 75 5) (nx (h 76) (h 75 2) k (h 75 5)) ≠ 0 ∧ h 75 3 = 0 then nx (h 76) (h 75 2) k (h 75 5) else h 75 4 := by
  unfold hrd
  rw [hfl_4]
  have : hnm h (nx (h 76) (h 75 2) k (h 75 5)) 75 3 = h 75 3 := by unfold hnm hu; grind
  have e : hnm h (nx (h 76) (h 75 2) k (h 75 5)) 75 4 = h 75 4 := by unfold hnm hu; grind
  rw [this, e]
def CR (h : Hp) : Prop := (0 ≤ h 75 5 ∧ h 75 5 ≤ h 75 2) ∧ h 75 2 ≤ 80
theorem tr_rd_eq (hc : CR h) {k : Nat} (hk : k ≤ 3) : tr_readNumber 75 k h = some (va (h 76) (h 75 2) k (h 75 5) 0, hrd h k) := tr_readNumber_eq hk hc.1.1 hc.2
theorem hrd_cr (hc : CR h) {k : Nat} : CR (hrd h k) := by
  have := rn_b (h 76) (h 75 2) k (h 75 5)
  have := hc.1
  have := hc.2
  have e5 := hrd_5 (h := h) (k := k)
  have e2 : hrd h k 75 2 = h 75 2 := hrd_o (by omega)
  unfold nx at e5
  unfold CR
  rw [e5, e2]
  omega
theorem tr_accept_eq (hc : CR h) {x : Int} (hx : 0 ≤ x) : tr_accept 75 x h = if h 75 3 = 0 ∧ h 75 5 < h 75 2 ∧ h 76 (h 75 5) = x then some (1, hu h 75 5 (h 75 5 + 1)) else some (0, h) := by
  have h1 := hc.1
  have h2 := hc.2
  unfold tr_accept tr_accept_b15
  by_cases q : h 75 3 = 0
  · rw [if_pos q, bd_eq (tr_next_eq hc.1.1 hc.2)]
    by_cases q1 : h 75 5 < h 75 2
    · rw [if_pos q1]
      by_cases q2 : h 76 (h 75 5) = x
      · rw [if_pos q2, if_pos ⟨q, q1, q2⟩, ck_in ⟨by omega, by omega⟩, lt_eq]
      · rw [if_neg q2, if_neg (fun z => q2 z.2.2)]
    · rw [if_neg q1, if_neg (by omega), if_neg (fun z => q1 z.2.1)]
  · rw [if_neg q, if_neg (fun z => q z.1)]
theorem tr_accept_no (hf : h 75 3 ≠ 0) (x : Int) : tr_accept 75 x h = some (0, h) := by
  unfold tr_accept tr_accept_b15
  rw [if_neg hf]
theorem hfl_no {p a b : Int} (hf : h 75 3 ≠ 0) : hfl p a b h = h := if_neg (fun z => hf z.2)
theorem tr_expect_no (hf : h 75 3 ≠ 0) (x : Int) : tr_expect 75 x h = some ((), h) := by
  unfold tr_expect tr_expect_b17
  rw [bd_eq (tr_accept_no hf x), if_pos rfl, bd_eq (tr_fail_eq 1 _), hfl_no hf]
theorem tr_expect_eq (hc : CR h) (hf : h 75 3 = 0) {x : Int} (hx : 0 ≤ x) : tr_expect 75 x h = if h 75 5 < h 75 2 ∧ h 76 (h 75 5) = x then some ((), hu h 75 5 (h 75 5 + 1)) else some ((), hfl 1 1 (h 75 5) h) := by
  unfold tr_expect tr_expect_b17
  by_cases q : h 75 5 < h 75 2 ∧ h 76 (h 75 5) = x
  · have := tr_accept_eq hc hx
    rw [if_pos ⟨hf, q⟩] at this
    rw [if_pos q, bd_eq this, if_neg (by decide)]
  · have := tr_accept_eq hc hx
    rw [if_neg (fun z => q z.2)] at this
    rw [if_neg q, bd_eq this, if_pos rfl, bd_eq (tr_fail_eq 1 _)]
/-- behind a position of the class's -/
def hps (h : Hp) (pc v q : Int) : Hp := hu (hu (hfl q 2 (h 75 5) (hrd h 3)) 78 pc v) 77 7 (pc + 1)
def psBad (h : Hp) (v : Int) : Int := if v ≤ 300 ∧ (h 77 7 = 0 ∨ h 78 (h 77 7 - 1) < v) then 0 else 1
theorem tr_readPosition_eq (hc : CR h) (hp : 0 ≤ h 77 7 ∧ h 77 7 < 12) : tr_readPosition 75 h = some ((), hps h (h 77 7) (va (h 76) (h 75 2) 3 (h 75 5) 0) (psBad h (va (h 76) (h 75 2) 3 (h 75 5) 0))) := by
  generalize hv : va (h 76) (h 75 2) 3 (h 75 5) 0 = v
  have e7 : hrd h 3 77 7 = h 77 7 := hrd_o (by omega)
  have e8 : ∀ j, hrd h 3 78 j = h 78 j := fun j => hrd_o (by omega)
  have b56 : ∀ s, tr_readPosition_b56 75 v (h 77 7) s (hrd h 3) = some ((), hps h (h 77 7) v (ng s)) := fun s => by
    simp only [tr_readPosition_b56, Nat.reduceAdd]
    rw [bd_eq (tr_demand_eq s), ix_in hp.1 hp.2, lt_eq, hu_o (by decide), hfl_o (by omega), e7, ck_in ⟨by omega, by omega⟩, lt_eq, hrd_6]
    rfl
  have nb : tr_readNumber 75 3 h = some (v, hrd h 3) := by rw [← hv]; exact tr_rd_eq hc (k := 3) (by decide)
  have p1 : ng 1 = 0 := by decide
  have p0 : ng 0 = 1 := by decide
  unfold psBad
  simp only [tr_readPosition, tr_readPosition_b33, tr_readPosition_b38, tr_readPosition_b55, Nat.reduceAdd]
  rw [bd_eq nb, e7]
  by_cases q0 : h 77 7 = 0
  · rw [if_pos q0]
    by_cases q1 : 300 < v
    · rw [if_pos q1, b56, if_neg (fun z => by omega), p0]
    · rw [if_neg q1, if_neg (by decide), b56, if_pos ⟨by omega, Or.inl q0⟩, p1]
  · rw [if_neg q0, ck_in ⟨by omega, by omega⟩, ix_in (by omega) (by omega), e8]
    by_cases q2 : h 78 (h 77 7 - 1) < v
    · rw [if_pos q2]
      by_cases q1 : 300 < v
      · rw [if_pos q1, b56, if_neg (fun z => by omega), p0]
      · rw [if_neg q1, if_neg (by decide), b56, if_pos ⟨by omega, Or.inr q2⟩, p1]
    · rw [if_neg q2]
      by_cases q1 : 300 < v
      · rw [if_pos q1, b56, if_neg (fun z => by omega), p0]
      · rw [if_neg q1, if_pos trivial, b56, if_neg (fun z => by omega), p0]
/-- what reading may change in the class -/
def FRM (h h' : Hp) : Prop := (∀ c, c < 75 ∨ 85 ≤ c → h' c = h c) ∧ h' 76 = h 76 ∧ h' 75 2 = h 75 2
/-- behind a fault all is kept but the spot -/
def FT (h h' : Hp) : Prop := CR h' ∧ h' 75 3 = h 75 3 ∧ h' 75 4 = h 75 4 ∧ FRM h h'
theorem FRM.trans {h1 h2 h3 : Hp} (a : FRM h1 h2) (b : FRM h2 h3) : FRM h1 h3 := ⟨fun c g => (b.1 c g).trans (a.1 c g), b.2.1.trans a.2.1, b.2.2.trans a.2.2⟩
theorem FT.trans {h1 h2 h3 : Hp} (a : FT h1 h2) (b : FT h2 h3) : FT h1 h3 := ⟨b.1, b.2.1.trans a.2.1, b.2.2.1.trans a.2.2.1, a.2.2.2.trans b.2.2.2⟩
theorem FRM.rfl (h : Hp) : FRM h h := ⟨fun _ _ => Eq.refl _, Eq.refl _, Eq.refl _⟩
theorem FT.rfl (hc : CR h) : FT h h := ⟨hc, Eq.refl _, Eq.refl _, FRM.rfl h⟩
theorem hrd_frm {k : Nat} : FRM h (hrd h k) := ⟨fun c g => funext fun j => hrd_o (by omega), funext fun j => hrd_o (by omega), hrd_o (by omega)⟩
theorem hrd_ft (hc : CR h) (hf : h 75 3 ≠ 0) {k : Nat} : FT h (hrd h k) := ⟨hrd_cr hc, by rw [hrd_3, if_neg (fun z => hf z.2)], by rw [hrd_4, if_neg (fun z => hf z.2)], hrd_frm⟩
end RDC

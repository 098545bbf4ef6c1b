section HST
/-- Drawing.copyFrom -/
def hcpy (h : Hp) (th q : Nat) : Hp := fun c j =>
  if c = th ∧ (j = 7 ∨ j = 8 ∨ j = 9 ∨ j = 10) then h q j
  else if c = th + 1 ∧ 0 ≤ j ∧ j < 12 then h (q + 1) j
  else if th + 2 ≤ c ∧ c ≤ th + 7 ∧ 0 ≤ j ∧ j < 16 then h (q + (c - th)) j else h c j
def hcpc (h : Hp) (th q : Nat) : Hp := fun c j =>
  if c = th ∧ (j = 7 ∨ j = 8) then h q j
  else if c = th + 1 ∧ 0 ≤ j ∧ j < 12 then h (q + 1) j
  else if th + 2 ≤ c ∧ c ≤ th + 7 ∧ 0 ≤ j ∧ j < 16 then h (q + (c - th)) j else h c j
theorem hcp_o {h : Hp} {s d : Nat} {n : Int} {c : Nat} (c1 : c ≠ d) (j : Int) : hcp h s d n c j = h c j := by
  unfold hcp
  rw [if_neg (fun q => c1 q.1)]
theorem dr_copyContentFrom_eq {h : Hp} {th q : Nat} (hd : q + 8 ≤ th ∨ th + 8 ≤ q) : dr_copyContentFrom th q h = some ((), hcpc h th q) := by
  unfold dr_copyContentFrom
  simp only [lt_eq]
  refine congrArg (fun z => some ((), z)) ?_
  funext c j
  by_cases cb : th ≤ c ∧ c ≤ th + 7
  · rcases (by omega : c = th ∨ c = th + 1 ∨ c = th + 2 ∨ c = th + 3 ∨ c = th + 4 ∨ c = th + 5 ∨ c = th + 6 ∨ c = th + 7) with e | e | e | e | e | e | e | e
    · subst e
      rw [hcp_o (by omega), hcp_o (by omega), hcp_o (by omega), hcp_o (by omega), hcp_o (by omega), hcp_o (by omega), hcp_o (by omega)]
      unfold hcpc hu
      grind
    all_goals
      subst e
      unfold hcpc hcp hu
      grind
  · have e1 : ∀ (h' : Hp) (s d : Nat) (n : Int), d ≤ th + 7 → th ≤ d → hcp h' s d n c j = h' c j := fun h' s d n g1 g2 => hcp_o (by omega) j
    have e2 : ∀ (h' : Hp) (i v : Int), hu h' th i v c j = h' c j := fun h' i v => hu_o (by omega) j
    rw [e1 _ _ _ _ (by omega) (by omega), e1 _ _ _ _ (by omega) (by omega), e1 _ _ _ _ (by omega) (by omega), e1 _ _ _ _ (by omega) (by omega), e1 _ _ _ _ (by omega) (by omega), e1 _ _ _ _ (by omega) (by omega), e1 _ _ _ _ (by omega) (by omega), e2, e2]
    unfold hcpc
    grind
theorem dr_copyFrom_eq {h : Hp} {th q : Nat} (hd : q + 8 ≤ th ∨ th + 8 ≤ q) : dr_copyFrom th q h = some ((), hcpy h th q) := by
  unfold dr_copyFrom
  rw [bd_eq (dr_copyContentFrom_eq hd)]
  simp only [lt_eq]
  refine congrArg (fun z => some ((), z)) ?_
  funext c j
  unfold hu hcpc hcpy
  grind
theorem Eqv_iff {D E : Dr} : Eqv D E ↔ (D 7 0 = E 7 0 ∧ D 7 1 = E 7 1 ∧ D 7 2 = E 7 2 ∧ D 7 3 = E 7 3) ∧ (∀ i, 0 ≤ i → i < D 7 0 → D 0 i = E 0 i) ∧ (∀ d, 0 ≤ d → d < D 7 1 → D 1 d = E 1 d ∧ D 2 d = E 2 d ∧ D 3 d = E 3 d ∧ D 4 d = E 4 d ∧ D 5 d = E 5 d ∧ D 6 d = E 6 d) := by
  constructor
  · intro h
    exact ⟨⟨h.1 0 (by omega) (by omega), h.1 1 (by omega) (by omega), h.1 2 (by omega) (by omega), h.1 3 (by omega) (by omega)⟩, h.2.1, fun d a b => ⟨h.2.2 1 (by omega) (by omega) d a b, h.2.2 2 (by omega) (by omega) d a b, h.2.2 3 (by omega) (by omega) d a b, h.2.2 4 (by omega) (by omega) d a b, h.2.2 5 (by omega) (by omega) d a b, h.2.2 6 (by omega) (by omega) d a b⟩⟩
  · intro ⟨⟨a0, a1, a2, a3⟩, hp, hr⟩
    refine ⟨fun i g0 g1 => ?_, hp, fun r g0 g1 d g2 g3 => ?_⟩
    · rcases (by omega : i = 0 ∨ i = 1 ∨ i = 2 ∨ i = 3) with e | e | e | e <;> subst e <;> assumption
    · obtain ⟨b1, b2, b3, b4, b5, b6⟩ := hr d g2 g3
      rcases (by omega : r = 1 ∨ r = 2 ∨ r = 3 ∨ r = 4 ∨ r = 5 ∨ r = 6) with e | e | e | e | e | e <;> subst e <;> assumption
/-- a drawing in the class's cells -/
def AtC (D : Dr) (h : Hp) (th : Nat) : Prop := (D 7 0 = h th 7 ∧ D 7 1 = h th 8 ∧ D 7 2 = h th 9 ∧ D 7 3 = h th 10) ∧ (∀ i, 0 ≤ i → i < D 7 0 → D 0 i = h (th + 1) i) ∧ (∀ d, 0 ≤ d → d < D 7 1 → D 1 d = h (th + 2) d ∧ D 2 d = h (th + 3) d ∧ D 3 d = h (th + 4) d ∧ D 4 d = h (th + 5) d ∧ D 5 d = h (th + 6) d ∧ D 6 d = h (th + 7) d)
theorem atC_iff {D : Dr} {h : Hp} {th : Nat} : AtC D h th ↔ Eqv D (dC h th) := by
  rw [Eqv_iff]
  exact Iff.rfl
theorem AtC.wf {D : Dr} {h : Hp} {th : Nat} (ha : AtC D h th) (hw : WF D) : WFC h th := wfc.mp (hw.eqv (atC_iff.mp ha))
theorem AtC.move {D : Dr} {h h' : Hp} {th th' : Nat} (ha : AtC D h th) (hw : WF D) (e0 : ∀ j, 7 ≤ j → j ≤ 10 → h' th' j = h th j) (e1 : ∀ j, 0 ≤ j → j < 12 → h' (th' + 1) j = h (th + 1) j) (e2 : ∀ k j, 2 ≤ k → k ≤ 7 → 0 ≤ j → j < 16 → h' (th' + k) j = h (th + k) j) : AtC D h' th' := by
  obtain ⟨⟨a0, a1, a2, a3⟩, hp, hr⟩ := ha
  have w0 := hw.1
  have w1 := hw.2.1
  refine ⟨⟨by rw [e0 7 (by omega) (by omega)]; exact a0, by rw [e0 8 (by omega) (by omega)]; exact a1, by rw [e0 9 (by omega) (by omega)]; exact a2, by rw [e0 10 (by omega) (by omega)]; exact a3⟩, fun i g0 g1 => ?_, fun d g0 g1 => ?_⟩
  · rw [e1 i g0 (by omega)]
    exact hp i g0 g1
  · rw [e2 2 d (by omega) (by omega) g0 (by omega), e2 3 d (by omega) (by omega) g0 (by omega), e2 4 d (by omega) (by omega) g0 (by omega), e2 5 d (by omega) (by omega) g0 (by omega), e2 6 d (by omega) (by omega) g0 (by omega), e2 7 d (by omega) (by omega) g0 (by omega)]
    exact hr d g0 g1
theorem AtC.cpy {D : Dr} {h : Hp} {th q : Nat} (ha : AtC D h q) (hw : WF D) : AtC D (hcpy h th q) th := by
  refine ha.move hw (fun j g0 g1 => ?_) (fun j g0 g1 => ?_) (fun k j g0 g1 g2 g3 => ?_)
  · unfold hcpy
    rw [if_pos ⟨rfl, by omega⟩]
  · unfold hcpy
    rw [if_neg (by omega), if_pos ⟨rfl, g0, g1⟩]
  · unfold hcpy
    rw [if_neg (by omega), if_neg (by omega), if_pos ⟨by omega, by omega, g2, g3⟩, Nat.add_sub_cancel_left]
theorem hcpy_o {h : Hp} {th q c : Nat} (hc : c < th ∨ th + 8 ≤ c) : hcpy h th q c = h c := by
  funext j
  unfold hcpy
  rw [if_neg (by omega), if_neg (by omega), if_neg (by omega)]
theorem AtC.keep {D : Dr} {h h' : Hp} {th : Nat} (ha : AtC D h th) (e : ∀ c, th ≤ c → c < th + 8 → h' c = h c) : AtC D h' th := by
  unfold AtC
  rw [e th (by omega) (by omega), e (th + 1) (by omega) (by omega), e (th + 2) (by omega) (by omega), e (th + 3) (by omega) (by omega), e (th + 4) (by omega) (by omega), e (th + 5) (by omega) (by omega), e (th + 6) (by omega) (by omega), e (th + 7) (by omega) (by omega)]
  exact ha
/-- where the k-th youngest remembered state lies -/
def sl (l k : Int) : Nat := 11 + 8 * ((l - k) % 8).toNat
def HistC (K : Int) (B : Int → Dr) (h : Hp) : Prop := h 9 2 = K ∧ (0 ≤ K ∧ K ≤ 8) ∧ (0 ≤ h 9 1 ∧ h 9 1 < 8) ∧ ∀ k, 0 ≤ k → k < K → WF (B k) ∧ AtC (B k) h (sl (h 9 1) k)
def pushB (D : Dr) (B : Int → Dr) : Int → Dr := fun k => if k = 0 then D else B (k - 1)
theorem sl_b (l k : Int) : 11 ≤ sl l k ∧ sl l k + 8 ≤ 75 := by
  unfold sl
  have := Int.emod_nonneg (l - k) (show (8 : Int) ≠ 0 by decide)
  have := Int.emod_lt_of_pos (l - k) (show (0 : Int) < 8 by decide)
  omega
theorem hi_record_eq {h : Hp} {K : Int} {B : Int → Dr} {D : Dr} (hH : HistC K B h) (hD : AtC D h 1) (hw : WF D) : ∃ h', hi_record 9 1 h = some ((), h') ∧ HistC (min (K + 1) 8) (pushB D B) h' ∧ ∀ c, (c < 9 ∨ 75 ≤ c) → h' c = h c := by
  obtain ⟨hK, hKb, hl, hB⟩ := hH
  have hm0 := Int.emod_nonneg (h 9 1 + 1) (show (8 : Int) ≠ 0 by decide)
  have hm1 := Int.emod_lt_of_pos (h 9 1 + 1) (show (0 : Int) < 8 by decide)
  have e1 : hu h 9 1 ((h 9 1 + 1) % 8) 9 1 = (h 9 1 + 1) % 8 := hu_s
  have hsl : (9 + 2 + 8 * ((h 9 1 + 1) % 8).toNat : Nat) = sl ((h 9 1 + 1) % 8) 0 := by
    unfold sl
    rw [Int.sub_zero, Int.emod_emod_of_dvd _ (Int.dvd_refl 8)]
  have hsb := sl_b ((h 9 1 + 1) % 8) 0
  refine ⟨hu (hcpy (hu h 9 1 ((h 9 1 + 1) % 8)) (sl ((h 9 1 + 1) % 8) 0) 1) 9 2 (min (K + 1) 8), ?_, ⟨hu_s, by omega, ?_, fun k g0 g1 => ?_⟩, fun c hc => ?_⟩
  · unfold hi_record
    rw [ck_in ⟨by omega, by omega⟩, dv_in (by omega) (by omega), lt_eq, e1, ix_in (by omega) (by omega), hsl, bd_eq (dr_copyFrom_eq (by omega))]
    have e2 : hcpy (hu h 9 1 ((h 9 1 + 1) % 8)) (sl ((h 9 1 + 1) % 8) 0) 1 9 2 = K := by
      rw [hcpy_o (by omega), hu_j 9 (by decide)]
      exact hK
    rw [e2, ck_in ⟨by omega, by omega⟩, lt_eq]
  · rw [hu_j 9 (by decide), hcpy_o (by omega), e1]
    omega
  · have e3 : hu (hcpy (hu h 9 1 ((h 9 1 + 1) % 8)) (sl ((h 9 1 + 1) % 8) 0) 1) 9 2 (min (K + 1) 8) 9 1 = (h 9 1 + 1) % 8 := by
      rw [hu_j 9 (by decide), hcpy_o (by omega), e1]
    rw [e3]
    unfold pushB
    by_cases k0 : k = 0
    · subst k0
      rw [if_pos rfl]
      refine ⟨hw, ?_⟩
      refine AtC.keep (h := hcpy (hu h 9 1 ((h 9 1 + 1) % 8)) (sl ((h 9 1 + 1) % 8) 0) 1) (AtC.cpy (hD.keep (fun c g2 g3 => funext fun j => hu_o (by omega) j)) hw) (fun c g2 g3 => funext fun j => hu_o (by omega) j)
    · rw [if_neg k0]
      have hb := hB (k - 1) (by omega) (by omega)
      refine ⟨hb.1, ?_⟩
      have es : sl ((h 9 1 + 1) % 8) k = sl (h 9 1) (k - 1) := by
        unfold sl
        congr 3
        omega
      rw [es]
      have hs1 := sl_b (h 9 1) (k - 1)
      have hap : sl (h 9 1) (k - 1) + 8 ≤ sl ((h 9 1 + 1) % 8) 0 ∨ sl ((h 9 1 + 1) % 8) 0 + 8 ≤ sl (h 9 1) (k - 1) := by
        unfold sl
        have := Int.emod_nonneg (h 9 1 - (k - 1)) (show (8 : Int) ≠ 0 by decide)
        omega
      exact hb.2.keep (fun c g2 g3 => funext fun j => by rw [hu_o (by omega), hcpy_o (by omega), hu_o (by omega)])
  · funext j
    rw [hu_o (by omega), hcpy_o (by omega), hu_o (by omega)]
end HST

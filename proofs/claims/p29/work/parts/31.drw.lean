section DRQ
theorem sumI_s {g : Int → Int} {x : Nat} : sumI g (x + 1) = sumI g x + g x := rfl
theorem nc_s {x : Nat} : ((x + 1 : Nat) : Int) = (x : Int) + 1 := rfl
/-- 1 for yes, 0 for no -/
def yn (c : Prop) [Decidable c] : Int := if c then 1 else 0
theorem yn_t {c : Prop} [Decidable c] (h : c) : yn c = 1 := if_pos h
theorem yn_f {c : Prop} [Decidable c] (h : ¬ c) : yn c = 0 := if_neg h
theorem yn_b {c : Prop} [Decidable c] : 0 ≤ yn c ∧ yn c ≤ 1 := by unfold yn; split <;> omega
theorem yn_congr {c d : Prop} [Decidable c] [Decidable d] (h : c ↔ d) : yn c = yn d := by
  by_cases q : c
  · rw [yn_t q, yn_t (h.mp q)]
  · rw [yn_f q, yn_f (fun z => q (h.mpr z))]
theorem sum_yn {P : Int → Prop} [DecidablePred P] (n : Nat) : 0 ≤ sumI (fun i => yn (P i)) n ∧ sumI (fun i => yn (P i)) n ≤ n := by
  have h := sumI_le (g := fun i => yn (P i)) (B := 1) (n := n) (fun i _ _ => yn_b)
  rw [Int.one_mul] at h
  exact h
def WFC (h : Hp) (th : Nat) : Prop := (0 ≤ h th 7 ∧ h th 7 ≤ 12) ∧ (0 ≤ h th 8 ∧ h th 8 ≤ 16) ∧ (1 ≤ h th 9 ∧ h th 9 ≤ 9) ∧ (1 ≤ h th 10 ∧ h th 10 ≤ 9) ∧ (∀ i, 0 ≤ i → i < h th 7 → 0 ≤ h (th + 1) i ∧ h (th + 1) i ≤ 300) ∧ (∀ i j, 0 ≤ i → i < j → j < h th 7 → h (th + 1) i < h (th + 1) j) ∧
  (∀ d, 0 ≤ d → d < h th 8 → (0 ≤ h (th + 2) d ∧ h (th + 2) d < h (th + 3) d ∧ h (th + 3) d < h th 7) ∧ (0 ≤ h (th + 4) d ∧ h (th + 4) d ≤ 20) ∧ (0 ≤ h (th + 5) d ∧ h (th + 5) d ≤ 20) ∧ (0 ≤ h (th + 6) d ∧ h (th + 6) d ≤ 5) ∧ (0 ≤ h (th + 7) d ∧ h (th + 7) d ≤ 9))
theorem wfc {h : Hp} {th : Nat} : WF (dC h th) ↔ WFC h th := Iff.rfl
theorem dr_valueOf_eq {h : Hp} {th : Nat} (w : WFC h th) {d : Int} (h0 : 0 ≤ d) (h1 : d < h th 8) : dr_valueOf th d h = some (h (th + 1) (h (th + 3) d) - h (th + 1) (h (th + 2) d), h) := by
  have hd := (w.2.2.2.2.2.2 d h0 h1).1
  have hm := w.2.1
  have hn := w.1
  have p1 := w.2.2.2.2.1 (h (th + 2) d) hd.1 (by omega)
  have p2 := w.2.2.2.2.1 (h (th + 3) d) (by omega) hd.2.2
  unfold dr_valueOf
  rw [ix_in h0 (by omega), ix_in (by omega) (by omega), ix_in h0 (by omega), ix_in (by omega) (by omega), ck_in ⟨by omega, by omega⟩]
theorem dr_hasPoint_eq {h : Hp} {th : Nat} (p : Int) : dr_hasPoint th p h = some (yn (0 ≤ p ∧ p < h th 7), h) := by
  unfold dr_hasPoint dr_hasPoint_b16 dr_hasPoint_b17
  by_cases c1 : p < 0
  · rw [if_pos c1, yn_f (by omega)]; rfl
  · rw [if_neg c1]
    by_cases c2 : p < h th 7
    · rw [if_pos c2, yn_t (by omega)]; rfl
    · rw [if_neg c2, yn_f (by omega)]; rfl
theorem dr_hasDimension_eq {h : Hp} {th : Nat} (p : Int) : dr_hasDimension th p h = some (yn (0 ≤ p ∧ p < h th 8), h) := by
  unfold dr_hasDimension dr_hasDimension_b16 dr_hasDimension_b17
  by_cases c1 : p < 0
  · rw [if_pos c1, yn_f (by omega)]; rfl
  · rw [if_neg c1]
    by_cases c2 : p < h th 8
    · rw [if_pos c2, yn_t (by omega)]; rfl
    · rw [if_neg c2, yn_f (by omega)]; rfl
theorem dl_isWithin_eq {h : Hp} (x a b : Int) : dl_isWithin x a b h = some (yn (a ≤ x ∧ x ≤ b), h) := by
  unfold dl_isWithin
  simp only [dl_isWithin_b15, dl_isWithin_b14]
  by_cases c1 : x < a
  · rw [if_pos c1, yn_f (by omega)]; rfl
  · rw [if_neg c1]
    by_cases c2 : b < x
    · rw [if_pos c2, yn_f (by omega)]; rfl
    · rw [if_neg c2, yn_t (by omega)]; rfl
def cntB (pos : Int → Int) (x : Int) (n : Nat) : Int := sumI (fun i => yn (pos i < x)) n
theorem cntB_b (pos : Int → Int) (x : Int) (n : Nat) : 0 ≤ cntB pos x n ∧ cntB pos x n ≤ n := sum_yn n
theorem dr_countPointsBefore_eq {h : Hp} {th : Nat} (hn : 0 ≤ h th 7 ∧ h th 7 ≤ 12) (x : Int) : dr_countPointsBefore th x h = some (cntB (h (th + 1)) x (h th 7).toNat, h) := by
  unfold dr_countPointsBefore
  refine it2_seq (fun k => cntB (h (th + 1)) x k) (fun k => (k : Int)) (fun _ => h) (h th 7).toNat (fun k i hi => ?_) (fun k => ?_) fuel 0 (Nat.zero_le _) (by unfold fuel; omega)
  · have hb := cntB_b (h (th + 1)) x i
    have e : cntB (h (th + 1)) x (i + 1) = cntB (h (th + 1)) x i + yn (h (th + 1) i < x) := rfl
    simp only [dr_countPointsBefore_f4, dr_countPointsBefore_b25]
    rw [if_pos (by omega), ix_in (by omega) (by omega)]
    by_cases c : h (th + 1) i < x
    · rw [if_pos c, ck_in ⟨by omega, by omega⟩, ck_in ⟨by omega, by omega⟩, e, yn_t c]; rfl
    · rw [if_neg c, ck_in ⟨by omega, by omega⟩, e, yn_f c, Int.add_zero]; rfl
  · simp only [dr_countPointsBefore_f4]
    rw [if_neg (by omega)]
/-- what the count of smaller positions tells, where positions ascend -/
theorem cntB_lt {pos : Int → Int} {x : Int} : ∀ {n : Nat}, (∀ i j : Int, 0 ≤ i → i < j → j < n → pos i < pos j) → ∀ i : Int, 0 ≤ i → i < n → (pos i < x ↔ i < cntB pos x n)
  | 0, _, i, h0, h1 => by omega
  | n + 1, hs, i, h0, h1 => by
    have ih := cntB_lt (n := n) (x := x) (fun i j a b c => hs i j a b (by omega))
    have hb := cntB_b pos x n
    have e : cntB pos x (n + 1) = cntB pos x n + yn (pos n < x) := rfl
    rw [e]
    have hall : pos n < x → cntB pos x n = n := by
      intro q
      rcases Nat.eq_zero_or_pos n with z | z
      · subst z; omega
      · have h9 := (ih ((n : Int) - 1) (by omega) (by omega)).mp (Int.lt_trans (hs _ _ (by omega) (show (n : Int) - 1 < n by omega) (by omega)) q)
        omega
    by_cases c : pos n < x
    · rw [yn_t c, hall c]
      constructor
      · intro _; omega
      · intro _
        by_cases q : i = n
        · rw [q]; exact c
        · exact Int.lt_trans (hs i n h0 (by omega) (by omega)) c
    · rw [yn_f c, Int.add_zero]
      by_cases q : i = n
      · subst q
        constructor
        · intro z; exact absurd z c
        · intro z; omega
      · exact ih i h0 (by omega)
theorem dr_hasPointAt_eq {h : Hp} {th : Nat} (w : WFC h th) (x : Int) : dr_hasPointAt th x h = some (yn (cntB (h (th + 1)) x (h th 7).toNat < h th 7 ∧ h (th + 1) (cntB (h (th + 1)) x (h th 7).toNat) = x), h) := by
  have hn := w.1
  have hb := cntB_b (h (th + 1)) x (h th 7).toNat
  unfold dr_hasPointAt
  rw [bd_eq (dr_countPointsBefore_eq hn x)]
  simp only [dr_hasPointAt_b28, dr_hasPointAt_b29]
  by_cases c1 : cntB (h (th + 1)) x (h th 7).toNat < h th 7
  · rw [if_pos c1, ix_in (by omega) (by omega)]
    by_cases c2 : h (th + 1) (cntB (h (th + 1)) x (h th 7).toNat) = x
    · rw [if_pos c2, yn_t ⟨c1, c2⟩]; rfl
    · rw [if_neg c2, yn_f (fun q => c2 q.2)]; rfl
  · rw [if_neg c1, yn_f (fun q => c1 q.1)]; rfl
theorem dr_isEnd_eq {h : Hp} {th : Nat} {d : Int} (h0 : 0 ≤ d) (h1 : d < 16) (p : Int) : dr_isEnd th d p h = some (yn (h (th + 2) d = p ∨ h (th + 3) d = p), h) := by
  unfold dr_isEnd
  simp only [dr_isEnd_b20, dr_isEnd_b25]
  rw [ix_in h0 h1]
  by_cases c1 : h (th + 2) d = p
  · rw [if_pos c1, yn_t (Or.inl c1)]; rfl
  · rw [if_neg c1, ix_in h0 h1]
    by_cases c2 : h (th + 3) d = p
    · rw [if_pos c2, yn_t (Or.inr c2)]; rfl
    · rw [if_neg c2, yn_f (fun q => q.elim c1 c2)]; rfl
def cntE (f g : Int → Int) (p : Int) (m : Nat) : Int := sumI (fun d => yn (f d = p ∨ g d = p)) m
theorem cntE_b (f g : Int → Int) (p : Int) (m : Nat) : 0 ≤ cntE f g p m ∧ cntE f g p m ≤ m := sum_yn m
theorem dr_countDimensionsAt_eq {h : Hp} {th : Nat} (hm : 0 ≤ h th 8 ∧ h th 8 ≤ 16) (p : Int) : dr_countDimensionsAt th p h = some (cntE (h (th + 2)) (h (th + 3)) p (h th 8).toNat, h) := by
  unfold dr_countDimensionsAt
  refine it2_seq (fun k => cntE (h (th + 2)) (h (th + 3)) p k) (fun k => (k : Int)) (fun _ => h) (h th 8).toNat (fun k i hi => ?_) (fun k => ?_) fuel 0 (Nat.zero_le _) (by unfold fuel; omega)
  · have hb := cntE_b (h (th + 2)) (h (th + 3)) p i
    have e : cntE (h (th + 2)) (h (th + 3)) p (i + 1) = cntE (h (th + 2)) (h (th + 3)) p i + yn (h (th + 2) i = p ∨ h (th + 3) i = p) := rfl
    simp only [dr_countDimensionsAt_f4, dr_countDimensionsAt_b24]
    rw [if_pos (by omega), bd_eq (dr_isEnd_eq (by omega) (by omega) p)]
    by_cases c : h (th + 2) i = p ∨ h (th + 3) i = p
    · rw [e, yn_t c, if_neg (by decide), ck_in ⟨by omega, by omega⟩, ck_in ⟨by omega, by omega⟩]; rfl
    · rw [e, yn_f c, if_pos rfl, ck_in ⟨by omega, by omega⟩, Int.add_zero]; rfl
  · simp only [dr_countDimensionsAt_f4]
    rw [if_neg (by omega)]
def ren (x a b : Int) : Int := if x = a then b else if a < x ∧ x ≤ b then x - 1 else if b ≤ x ∧ x < a then x + 1 else x
theorem dr_renumbered_eq {h : Hp} {x a b : Int} (h0 : 0 ≤ x ∧ x ≤ 1000) : dr_renumbered x a b h = some (ren x a b, h) := by
  unfold dr_renumbered ren
  simp only [dr_renumbered_b21, dr_renumbered_b37, dr_renumbered_b38]
  by_cases c1 : x = a
  · rw [if_pos c1, if_pos c1]
  · rw [if_neg c1, if_neg c1]
    by_cases c2 : a < x
    · rw [if_pos c2]
      by_cases c3 : b < x
      · rw [if_pos c3, if_neg (show ¬ x < b by omega), if_neg (show ¬ x < a by omega), if_neg (show ¬ (a < x ∧ x ≤ b) by omega), if_neg (show ¬ (b ≤ x ∧ x < a) by omega)]
      · rw [if_neg c3, if_pos (show a < x ∧ x ≤ b by omega), ck_in ⟨by omega, by omega⟩]
    · rw [if_neg c2, if_neg (show ¬ (a < x ∧ x ≤ b) by omega)]
      by_cases c4 : x < b
      · rw [if_pos c4, if_neg (show ¬ (b ≤ x ∧ x < a) by omega)]
      · rw [if_neg c4]
        by_cases c5 : x < a
        · rw [if_pos c5, if_pos (show b ≤ x ∧ x < a by omega), ck_in ⟨by omega, by omega⟩]
        · rw [if_neg c5, if_neg (show ¬ (b ≤ x ∧ x < a) by omega)]
/-- ends named anew -/
def hren (h : Hp) (th : Nat) (a b : Int) (k : Nat) : Hp := fun c j =>
  if c = th + 2 ∧ 0 ≤ j ∧ j < k then min (ren (h (th + 2) j) a b) (ren (h (th + 3) j) a b)
  else if c = th + 3 ∧ 0 ≤ j ∧ j < k then max (ren (h (th + 2) j) a b) (ren (h (th + 3) j) a b) else h c j
theorem dr_renumberEnds_eq {h : Hp} {th : Nat} (hm : 0 ≤ h th 8 ∧ h th 8 ≤ 16) (hf : ∀ d, 0 ≤ d → d < h th 8 → (0 ≤ h (th + 2) d ∧ h (th + 2) d ≤ 1000) ∧ 0 ≤ h (th + 3) d ∧ h (th + 3) d ≤ 1000) (a b : Int) : dr_renumberEnds th a b h = some ((), hren h th a b (h th 8).toNat) := by
  unfold dr_renumberEnds
  have e0 : hren h th a b 0 = h := by
    funext c j
    unfold hren
    rw [if_neg (by omega), if_neg (by omega)]
  have key := it1_seq (F := dr_renumberEnds_f2 th a b) (fun k => (k : Int)) (fun k => hren h th a b k) (h th 8).toNat (R := some ((), hren h th a b (h th 8).toNat)) (fun k i hi => ?_) (fun k => ?_) fuel 0 (Nat.zero_le _) (by unfold fuel; omega)
  · rw [e0] at key
    exact key
  · have r8 : hren h th a b i th 8 = h th 8 := by
      unfold hren
      rw [if_neg (by omega), if_neg (by omega)]
    have r2 : hren h th a b i (th + 2) i = h (th + 2) i := by
      unfold hren
      rw [if_neg (by omega), if_neg (by omega)]
    have r3 : hren h th a b i (th + 3) i = h (th + 3) i := by
      unfold hren
      rw [if_neg (by omega), if_neg (by omega)]
    have hd := hf i (by omega) (by omega)
    simp only [dr_renumberEnds_f2]
    rw [r8, if_pos (by omega), ix_in (by omega) (by omega), r2, bd_eq (dr_renumbered_eq hd.1), ix_in (by omega) (by omega), r3, bd_eq (dr_renumbered_eq hd.2), ix_in (by omega) (by omega), lt_eq, ix_in (by omega) (by omega), lt_eq, ck_in ⟨by omega, by omega⟩]
    refine congrArg (k _) ?_
    funext c j
    unfold hu hren
    by_cases c2 : c = th + 2
    · subst c2
      by_cases cj : j = i
      · subst cj
        rw [if_neg (by omega), if_pos ⟨rfl, rfl⟩, if_pos ⟨rfl, by omega, by omega⟩]
      · rw [if_neg (by omega), if_neg (by omega)]
        by_cases ci : 0 ≤ j ∧ j < (i : Int)
        · rw [if_pos ⟨rfl, ci⟩, if_pos ⟨rfl, by omega, by omega⟩]
        · rw [if_neg (fun q => ci q.2), if_neg (by omega), if_neg (by omega), if_neg (by omega)]
    · by_cases c3 : c = th + 3
      · subst c3
        by_cases cj : j = i
        · subst cj
          rw [if_pos ⟨rfl, rfl⟩, if_neg (by omega), if_pos ⟨rfl, by omega, by omega⟩]
        · rw [if_neg (by omega), if_neg (by omega), if_neg (by omega)]
          by_cases ci : 0 ≤ j ∧ j < (i : Int)
          · rw [if_pos ⟨rfl, ci⟩, if_neg (by omega), if_pos ⟨rfl, by omega, by omega⟩]
          · rw [if_neg (fun q => ci q.2), if_neg (by omega), if_neg (by omega)]
      · rw [if_neg (fun q => c3 q.1), if_neg (fun q => c2 q.1), if_neg (fun q => c2 q.1), if_neg (fun q => c3 q.1), if_neg (fun q => c2 q.1), if_neg (fun q => c3 q.1)]
  · have r8 : hren h th a b (h th 8).toNat th 8 = h th 8 := by
      unfold hren
      rw [if_neg (by omega), if_neg (by omega)]
    simp only [dr_renumberEnds_f2]
    rw [r8, if_neg (by omega)]
end DRQ

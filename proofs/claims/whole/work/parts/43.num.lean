section NUM
theorem bz_yn {β : Type} {c : Prop} [Decidable c] {E : Option β} : bz (yn c) E = E := if_pos yn_bz
theorem hu_id {h : Hp} {a : Nat} {i : Int} : hu h a i (h a i) = h := by
  funext c j
  unfold hu
  grind
theorem hu_hu {h : Hp} {a : Nat} {i v w : Int} : hu (hu h a i v) a i w = hu h a i w := by
  funext c j
  unfold hu
  grind
/-- how many digits stand at c, at most k; what they say behind v -/
def rn (T : Int → Int) (n : Int) : Nat → Int → Int
  | 0, _ => 0
  | k + 1, c => if c < n ∧ 48 ≤ T c ∧ T c ≤ 57 then 1 + rn T n k (c + 1) else 0
def va (T : Int → Int) (n : Int) : Nat → Int → Int → Int
  | 0, _, v => v
  | k + 1, c, v => if c < n ∧ 48 ≤ T c ∧ T c ≤ 57 then va T n k (c + 1) (10 * v + T c - 48) else v
theorem rn_t {T : Int → Int} {n : Int} {k : Nat} {c : Int} (q : c < n ∧ 48 ≤ T c ∧ T c ≤ 57) : rn T n (k + 1) c = 1 + rn T n k (c + 1) := if_pos q
theorem rn_f {T : Int → Int} {n : Int} {k : Nat} {c : Int} (q : ¬ (c < n ∧ 48 ≤ T c ∧ T c ≤ 57)) : rn T n (k + 1) c = 0 := if_neg q
theorem va_t {T : Int → Int} {n : Int} {k : Nat} {c v : Int} (q : c < n ∧ 48 ≤ T c ∧ T c ≤ 57) : va T n (k + 1) c v = va T n k (c + 1) (10 * v + T c - 48) := if_pos q
theorem va_f {T : Int → Int} {n : Int} {k : Nat} {c v : Int} (q : ¬ (c < n ∧ 48 ≤ T c ∧ T c ≤ 57)) : va T n (k + 1) c v = v := if_neg q
theorem p10_pos : ∀ j : Nat, (0 : Int) < 10 ^ j
  | 0 => by decide
  | j + 1 => by have := p10_pos j; have e : (10 : Int) ^ (j + 1) = 10 ^ j * 10 := Int.pow_succ 10 j; omega
theorem p10_le (j : Nat) : ∀ m : Nat, (10 : Int) ^ j ≤ 10 ^ (j + m)
  | 0 => Int.le_refl _
  | m + 1 => by
    have := p10_le j m
    have := p10_pos (j + m)
    have e : (10 : Int) ^ (j + m + 1) = 10 ^ (j + m) * 10 := Int.pow_succ 10 (j + m)
    rw [show j + (m + 1) = j + m + 1 by omega]
    omega
theorem rn_b (T : Int → Int) (n : Int) : ∀ (k : Nat) (c : Int), 0 ≤ rn T n k c ∧ rn T n k c ≤ k ∧ (c ≤ n → c + rn T n k c ≤ n)
  | 0, c => by unfold rn; omega
  | k + 1, c => by
    have := rn_b T n k (c + 1)
    unfold rn
    split
    · next q => have := this.2.2 (by omega); omega
    · omega
theorem va_b (T : Int → Int) (n : Int) : ∀ (k : Nat) (c v : Int) (j : Nat), 0 ≤ v → v < 10 ^ j → 0 ≤ va T n k c v ∧ va T n k c v < 10 ^ (j + k)
  | 0, c, v, j, h0, h1 => by unfold va; exact ⟨h0, h1⟩
  | k + 1, c, v, j, h0, h1 => by
    unfold va
    split
    · next q =>
      have e : (10 : Int) ^ (j + 1) = 10 ^ j * 10 := Int.pow_succ 10 j
      have := va_b T n k (c + 1) (10 * v + T c - 48) (j + 1) (by omega) (by omega)
      rw [show j + (k + 1) = j + 1 + k by omega]
      exact this
    · exact ⟨h0, Int.lt_of_lt_of_le h1 (p10_le j _)⟩
theorem tr_next_eq {h : Hp} (c0 : 0 ≤ h 75 5) (n1 : h 75 2 ≤ 80) : tr_next 75 h = some (if h 75 5 < h 75 2 then h 76 (h 75 5) else -1, h) := by
  unfold tr_next tr_next_b24
  by_cases q : h 75 5 < h 75 2
  · rw [if_pos q, if_pos q, ix_in c0 (by omega)]
  · rw [if_neg q, if_neg q]
theorem tr_isDigitNext_eq {h : Hp} (c0 : 0 ≤ h 75 5) (n1 : h 75 2 ≤ 80) : tr_isDigitNext 75 h = some (yn (h 75 5 < h 75 2 ∧ 48 ≤ h 76 (h 75 5) ∧ h 76 (h 75 5) ≤ 57), h) := by
  unfold tr_isDigitNext
  rw [bd_eq (tr_next_eq c0 n1), bd_eq (dl_isWithin_eq _ 48 57), bz_yn]
  congr 2
  refine yn_congr ?_
  by_cases q : h 75 5 < h 75 2
  · rw [if_pos q]; simp [q]
  · rw [if_neg q]; simp [q]
theorem mo_here_eq {h : Hp} (c0 : 0 ≤ h 132 6) (n1 : h 132 3 ≤ 80) : mo_here 132 h = some (if h 132 6 < h 132 3 then h 134 (h 132 6) else -999, h) := by
  simp only [mo_here, mo_here_b26, Nat.reduceAdd]
  by_cases q : h 132 6 < h 132 3
  · rw [if_pos q, if_pos q, ix_in c0 (by omega)]
  · rw [if_neg q, if_neg q]
theorem mo_isDigit_eq {h : Hp} (c0 : 0 ≤ h 132 6) (n1 : h 132 3 ≤ 80) : mo_isDigit 132 h = some (yn (h 132 6 < h 132 3 ∧ 48 ≤ h 134 (h 132 6) ∧ h 134 (h 132 6) ≤ 57), h) := by
  unfold mo_isDigit
  rw [bd_eq (mo_here_eq c0 n1), bd_eq (mo_in_eq _ 48 57), bz_yn]
  congr 2
  refine yn_congr ?_
  by_cases q : h 132 6 < h 132 3
  · rw [if_pos q]; simp [q]
  · rw [if_neg q]; simp [q]
/-- a number ends badly at e, begun at s -/
def nbad (T : Int → Int) (n s e : Int) : Int := if e = s ∨ (e < n ∧ 48 ≤ T e ∧ T e ≤ 57) then 1 else 0
/-- the class's first fault stands -/
def hfl (p : Int) (a b : Int) (h : Hp) : Hp := if p ≠ 0 ∧ h 75 3 = 0 then hu (hu h 75 3 a) 75 4 b else h
theorem tr_fail_eq {h : Hp} (a b : Int) : tr_fail 75 a b h = some ((), hfl 1 a b h) := by
  unfold tr_fail tr_fail_b17 hfl
  by_cases q : h 75 3 = 0
  · rw [if_pos q, if_pos ⟨by decide, q⟩]; rfl
  · rw [if_neg q, if_neg (fun x => q x.2)]
theorem hfl_0 {a b : Int} {h : Hp} : hfl 0 a b h = h := if_neg (fun x => x.1 rfl)
theorem hfl_o {p : Int} {a b : Int} {h : Hp} {c : Nat} {j : Int} (g : c ≠ 75 ∨ (j ≠ 3 ∧ j ≠ 4)) : hfl p a b h c j = h c j := by
  unfold hfl hu
  split <;> grind
theorem tr_num_end {h : Hp} (k x : Int) (c0 : 0 ≤ h 75 5) (n1 : h 75 2 ≤ 80) : tr_readNumber_b53 75 k x h = some (x, hfl (nbad (h 76) (h 75 2) (h 75 6) (h 75 5)) 1 (h 75 5) h) := by
  unfold tr_readNumber_b53 tr_readNumber_b71 tr_readNumber_b80
  by_cases q : h 75 5 = h 75 6
  · rw [if_pos q, bd_eq (tr_fail_eq 1 _), show nbad (h 76) (h 75 2) (h 75 6) (h 75 5) = 1 from if_pos (Or.inl q)]
  · rw [if_neg q, bd_eq (tr_isDigitNext_eq c0 n1)]
    by_cases q2 : (h 75 5 < h 75 2 ∧ 48 ≤ h 76 (h 75 5) ∧ h 76 (h 75 5) ≤ 57)
    · rw [yn_t q2, if_neg (by decide), bd_eq (tr_fail_eq 1 _), show nbad (h 76) (h 75 2) (h 75 6) (h 75 5) = 1 from if_pos (Or.inr q2)]
    · rw [yn_f q2, if_pos rfl, show nbad (h 76) (h 75 2) (h 75 6) (h 75 5) = 0 from if_neg (fun x => x.elim q q2), hfl_0]
theorem tr_num_loop {T : Int → Int} {n s : Int} {k : Nat} (hk : k ≤ 3) (n1 : n ≤ 80) : ∀ (r j : Nat) (fu : Nat) (c v : Int) (h : Hp), r < fu → j + r = k → 0 ≤ c → h 75 5 = c → h 75 2 = n → h 75 6 = s → h 76 = T → 0 ≤ v → v < 10 ^ j →
    iter2 (tr_readNumber_f12 75 k) fu v j h = some (va T n r c v, hfl (nbad T n s (c + rn T n r c)) 1 (c + rn T n r c) (hu h 75 5 (c + rn T n r c))) := by
  intro r
  induction r with
  | zero =>
    intro j fu c v h hf hj c0 e5 e2 e6 eT v0 v1
    obtain ⟨fu, rfl⟩ : ∃ f, fu = f + 1 := ⟨fu - 1, by omega⟩
    show tr_readNumber_f12 75 k _ v j h = _
    unfold tr_readNumber_f12
    rw [if_neg (by omega), tr_num_end _ _ (by omega) (by omega), e2, e6, eT]
    have e : c + rn T n 0 c = h 75 5 := by rw [e5]; exact Int.add_zero c
    rw [e, hu_id]
    rfl
  | succ r ih =>
    intro j fu c v h hf hj c0 e5 e2 e6 eT v0 v1
    obtain ⟨fu, rfl⟩ : ∃ f, fu = f + 1 := ⟨fu - 1, by omega⟩
    show tr_readNumber_f12 75 k _ v j h = _
    unfold tr_readNumber_f12
    rw [if_pos (by omega), bd_eq (tr_isDigitNext_eq (by omega) (by omega)), e5, e2, eT]
    by_cases q : c < n ∧ 48 ≤ T c ∧ T c ≤ 57
    · have p10 : (10 : Int) ^ j ≤ 100 := by
        have := p10_le j (2 - j)
        rw [show j + (2 - j) = 2 by omega] at this
        omega
      have e10 : (10 : Int) ^ (j + 1) = 10 ^ j * 10 := Int.pow_succ 10 j
      rw [yn_t q, if_neg (by decide), ck_in ⟨by omega, by omega⟩, bd_eq (tr_next_eq (by omega) (by omega)), e5, e2, eT, if_pos q.1, ck_in ⟨by omega, by omega⟩, ck_in ⟨by omega, by omega⟩, ck_in ⟨by omega, by omega⟩, lt_eq, ck_in ⟨by omega, by omega⟩]
      have := ih (j + 1) fu (c + 1) (10 * v + T c - 48) (hu h 75 5 (c + 1)) (by omega) (by omega) (by omega) hu_s (by rw [hu_j 75 (by decide)]; exact e2) (by rw [hu_j 75 (by decide)]; exact e6) (by rw [← eT]; exact funext fun j => hu_o (by decide) j) (by omega) (by omega)
      rw [show ((j + 1 : Nat) : Int) = (j : Int) + 1 by omega, hu_hu] at this
      refine this.trans ?_
      rw [rn_t q, va_t q, show c + 1 + rn T n r (c + 1) = c + (1 + rn T n r (c + 1)) by omega]
    · rw [yn_f q, if_pos rfl, tr_num_end _ _ (by omega) (by omega), e2, e6, eT]
      have e : c + rn T n (r + 1) c = h 75 5 := by rw [e5, rn_f q]; exact Int.add_zero c
      rw [e, hu_id, va_f q]
/-- where a number of at most k digits at c ends -/
def nx (T : Int → Int) (n : Int) (k : Nat) (c : Int) : Int := c + rn T n k c
def hnm (h : Hp) (e : Int) : Hp := hu (hu h 75 6 (h 75 5)) 75 5 e
theorem tr_readNumber_eq {h : Hp} {k : Nat} (hk : k ≤ 3) (c0 : 0 ≤ h 75 5) (n1 : h 75 2 ≤ 80) :
    tr_readNumber 75 k h = some (va (h 76) (h 75 2) k (h 75 5) 0, hfl (nbad (h 76) (h 75 2) (h 75 5) (nx (h 76) (h 75 2) k (h 75 5))) 1 (nx (h 76) (h 75 2) k (h 75 5)) (hnm h (nx (h 76) (h 75 2) k (h 75 5)))) := by
  unfold tr_readNumber
  rw [lt_eq]
  exact tr_num_loop (T := h 76) (n := h 75 2) (s := h 75 5) hk n1 k 0 fuel (h 75 5) 0 (hu h 75 6 (h 75 5)) (by unfold fuel; omega) (by omega) c0 (by rw [hu_j 75 (by decide)]) (by rw [hu_j 75 (by decide)]) hu_s (funext fun j => hu_o (by decide) j) (by omega) (by decide)
/-- the reference's number: spot and value -/
def hmn (h : Hp) (e v : Int) : Hp := hu (hu h 132 7 v) 132 6 e
def hmf (h : Hp) (a b : Int) : Hp := hu (hu h 132 4 a) 132 5 b
theorem mo_fails_eq {h : Hp} (a b : Int) : mo_fails 132 a b h = some (0, hmf h a b) := rfl
theorem mo_num_end {h : Hp} (k lo hi s : Int) (c0 : 0 ≤ h 132 6) (n1 : h 132 3 ≤ 80) : mo_readsNumber_b61 132 k lo hi s h = if nbad (h 134) (h 132 3) s (h 132 6) ≠ 0 then some (0, hmf h 1 (h 132 6)) else if lo ≤ h 132 7 ∧ h 132 7 ≤ hi then some (1, h) else some (0, hmf h 2 s) := by
  unfold mo_readsNumber_b61 mo_readsNumber_b77 mo_readsNumber_b109 mo_readsNumber_b114
  by_cases q : h 132 6 = s
  · rw [if_pos q, bd_eq (mo_fails_eq 1 _), show nbad (h 134) (h 132 3) s (h 132 6) = 1 from if_pos (Or.inl q), if_pos (by decide)]; rfl
  · rw [if_neg q, bd_eq (mo_isDigit_eq c0 n1)]
    by_cases q2 : (h 132 6 < h 132 3 ∧ 48 ≤ h 134 (h 132 6) ∧ h 134 (h 132 6) ≤ 57)
    · rw [yn_t q2, if_neg (by decide), bd_eq (mo_fails_eq 1 _), show nbad (h 134) (h 132 3) s (h 132 6) = 1 from if_pos (Or.inr q2), if_pos (by decide)]; rfl
    · rw [yn_f q2, if_pos rfl, bd_eq (mo_in_eq _ lo hi), show nbad (h 134) (h 132 3) s (h 132 6) = 0 from if_neg (fun x => x.elim q q2), if_neg (show ¬ ((0 : Int) ≠ 0) by decide)]
      by_cases q3 : lo ≤ h 132 7 ∧ h 132 7 ≤ hi
      · rw [yn_t q3, if_neg (by decide), if_pos q3]; rfl
      · rw [yn_f q3, if_pos rfl, if_neg q3, bd_eq (mo_fails_eq 2 s), if_pos rfl]; rfl
/-- what the reference's number answers -/
def mres (T : Int → Int) (n s e v lo hi : Int) (H : Hp) : O Int := if nbad T n s e ≠ 0 then some (0, hmf H 1 e) else if lo ≤ v ∧ v ≤ hi then some (1, H) else some (0, hmf H 2 s)
theorem hmn_id {h : Hp} : hmn h (h 132 6) (h 132 7) = h := by
  unfold hmn
  rw [hu_id, hu_id]
theorem mo_num_loop {T : Int → Int} {n s lo hi : Int} {k : Nat} (hk : k ≤ 3) (n1 : n ≤ 80) : ∀ (r j : Nat) (fu : Nat) (c v : Int) (h : Hp), r < fu → j + r = k → 0 ≤ c → c = s + j → h 132 6 = c → h 132 3 = n → h 134 = T → h 132 7 = v → 0 ≤ v → v < 10 ^ j →
    iter1 (mo_readsNumber_f11 132 k lo hi) fu s h = mres T n s (nx T n r c) (va T n r c v) lo hi (hmn h (nx T n r c) (va T n r c v)) := by
  intro r
  induction r with
  | zero =>
    intro j fu c v h hf hj c0 ec e5 e2 eT e7 v0 v1
    obtain ⟨fu, rfl⟩ : ∃ f, fu = f + 1 := ⟨fu - 1, by omega⟩
    show mo_readsNumber_f11 132 k lo hi _ s h = _
    unfold mo_readsNumber_f11
    have e : nx T n 0 c = h 132 6 := by rw [e5]; exact Int.add_zero c
    have ev : va T n 0 c v = h 132 7 := e7.symm
    have z : mo_readsNumber_b61 132 k lo hi s h = mres T n s (nx T n 0 c) (va T n 0 c v) lo hi (hmn h (nx T n 0 c) (va T n 0 c v)) := by
      rw [e, ev, hmn_id, mo_num_end _ _ _ _ (by omega) (by omega), e2, eT]; rfl
    rw [bd_eq (mo_isDigit_eq (by omega) (by omega))]
    by_cases q : (h 132 6 < h 132 3 ∧ 48 ≤ h 134 (h 132 6) ∧ h 134 (h 132 6) ≤ 57)
    · rw [yn_t q, if_neg (by decide), ck_in ⟨by omega, by omega⟩, if_neg (by omega)]; exact z
    · rw [yn_f q, if_pos rfl]; exact z
  | succ r ih =>
    intro j fu c v h hf hj c0 ec e5 e2 eT e7 v0 v1
    obtain ⟨fu, rfl⟩ : ∃ f, fu = f + 1 := ⟨fu - 1, by omega⟩
    show mo_readsNumber_f11 132 k lo hi _ s h = _
    unfold mo_readsNumber_f11
    rw [bd_eq (mo_isDigit_eq (by omega) (by omega)), e5, e2, eT]
    by_cases q : c < n ∧ 48 ≤ T c ∧ T c ≤ 57
    · have p10 : (10 : Int) ^ j ≤ 100 := by
        have := p10_le j (2 - j)
        rw [show j + (2 - j) = 2 by omega] at this
        omega
      have e10 : (10 : Int) ^ (j + 1) = 10 ^ j * 10 := Int.pow_succ 10 j
      rw [yn_t q, if_neg (by decide), ck_in ⟨by omega, by omega⟩, if_pos (by omega), e7, ck_in ⟨by omega, by omega⟩, bd_eq (mo_here_eq (by omega) (by omega)), e5, e2, eT, if_pos q.1, ck_in ⟨by omega, by omega⟩, ck_in ⟨by omega, by omega⟩, lt_eq, hu_j 132 (by decide), e5, ck_in ⟨by omega, by omega⟩, lt_eq]
      have := ih (j + 1) fu (c + 1) (10 * v + T c - 48) (hmn h (c + 1) (10 * v + T c - 48)) (by omega) (by omega) (by omega) (by omega) hu_s (by unfold hmn; rw [hu_j 132 (by decide), hu_j 132 (by decide)]; exact e2) (by rw [← eT]; exact funext fun j => by unfold hmn; rw [hu_o (by decide), hu_o (by decide)]) (by unfold hmn; rw [hu_j 132 (by decide), hu_s]) (by omega) (by omega)
      refine this.trans ?_
      have en : nx T n r (c + 1) = nx T n (r + 1) c := by unfold nx; rw [rn_t q]; omega
      rw [va_t q, en]
      congr 1
      unfold hmn hu
      funext a i
      grind
    · rw [yn_f q, if_pos rfl]
      have e : nx T n (r + 1) c = h 132 6 := by unfold nx; rw [e5, rn_f q]; exact Int.add_zero c
      have ev : va T n (r + 1) c v = h 132 7 := by rw [va_f q]; exact e7.symm
      rw [e, ev, hmn_id, mo_num_end _ _ _ _ (by omega) (by omega), e2, eT]; rfl
theorem mo_readsNumber_eq {h : Hp} {k : Nat} {lo hi : Int} (hk : k ≤ 3) (c0 : 0 ≤ h 132 6) (n1 : h 132 3 ≤ 80) (cn : h 132 6 ≤ 80) :
    mo_readsNumber 132 k lo hi h = mres (h 134) (h 132 3) (h 132 6) (nx (h 134) (h 132 3) k (h 132 6)) (va (h 134) (h 132 3) k (h 132 6) 0) lo hi (hmn h (nx (h 134) (h 132 3) k (h 132 6)) (va (h 134) (h 132 3) k (h 132 6) 0)) := by
  unfold mo_readsNumber
  rw [lt_eq]
  refine (mo_num_loop (T := h 134) (n := h 132 3) (s := h 132 6) (lo := lo) (hi := hi) hk n1 k 0 fuel (h 132 6) 0 (hu h 132 7 0) (by unfold fuel; omega) (by omega) c0 (by omega) (by rw [hu_j 132 (by decide)]) (by rw [hu_j 132 (by decide)]) (funext fun j => hu_o (by decide) j) hu_s (by omega) (by decide)).trans ?_
  congr 1
  unfold hmn
  rw [hu_hu]
end NUM

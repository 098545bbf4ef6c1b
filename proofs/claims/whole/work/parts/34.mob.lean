section MOB
theorem it1_find {α : Type} {F : (Int → Hp → O α) → Int → Hp → O α} (a : Nat → Int) (H : Nat → Hp) (N : Nat) (P : Nat → Prop) {R : O α} (hs : ∀ (k : Int → Hp → O α) (x : Nat), x < N → ¬ P x → F k (a x) (H x) = k (a (x + 1)) (H (x + 1))) (hf : ∀ k (x : Nat), x < N → P x → (∀ y, y < x → ¬ P y) → F k (a x) (H x) = R) (hl : ∀ k, (∀ y, y < N → ¬ P y) → F k (a N) (H N) = R) : ∀ (n x : Nat), x ≤ N → N - x < n → (∀ y, y < x → ¬ P y) → iter1 F n (a x) (H x) = R
  | 0, _, _, hn, _ => absurd hn (Nat.not_lt_zero _)
  | n + 1, x, hx, hn, hy => by
    show F (iter1 F n) (a x) (H x) = R
    rcases Nat.lt_or_ge x N with q | q
    · by_cases hp : P x
      · exact hf _ x q hp hy
      · rw [hs _ x q hp]
        exact it1_find a H N P hs hf hl n (x + 1) q (by omega) (fun y g => by
          rcases Nat.lt_or_ge y x with z | z
          · exact hy y z
          · rw [show y = x by omega]; exact hp)
    · have e : x = N := by omega
      subst e
      exact hl _ hy
theorem it3_find {α : Type} {F : (Int → Int → Int → Hp → O α) → Int → Int → Int → Hp → O α} (a b c : Nat → Int) (H : Nat → Hp) (N : Nat) (P : Nat → Prop) {R : O α} (hs : ∀ (k : Int → Int → Int → Hp → O α) (x : Nat), x < N → ¬ P x → F k (a x) (b x) (c x) (H x) = k (a (x + 1)) (b (x + 1)) (c (x + 1)) (H (x + 1))) (hf : ∀ k (x : Nat), x < N → P x → (∀ y, y < x → ¬ P y) → F k (a x) (b x) (c x) (H x) = R) (hl : ∀ k, (∀ y, y < N → ¬ P y) → F k (a N) (b N) (c N) (H N) = R) : ∀ (n x : Nat), x ≤ N → N - x < n → (∀ y, y < x → ¬ P y) → iter3 F n (a x) (b x) (c x) (H x) = R
  | 0, _, _, hn, _ => absurd hn (Nat.not_lt_zero _)
  | n + 1, x, hx, hn, hy => by
    show F (iter3 F n) (a x) (b x) (c x) (H x) = R
    rcases Nat.lt_or_ge x N with q | q
    · by_cases hp : P x
      · exact hf _ x q hp hy
      · rw [hs _ x q hp]
        exact it3_find a b c H N P hs hf hl n (x + 1) q (by omega) (fun y g => by
          rcases Nat.lt_or_ge y x with z | z
          · exact hy y z
          · rw [show y = x by omega]; exact hp)
    · have e : x = N := by omega
      subst e
      exact hl _ hy
theorem mo_in_eq {h : Hp} (x a b : Int) : mo_in x a b h = some (yn (a ≤ x ∧ x ≤ b), h) := by
  unfold mo_in
  simp only [mo_in_b15, mo_in_b14]
  by_cases c1 : x < a
  · rw [if_pos c1, yn_f (by omega)]; rfl
  · rw [if_neg c1]
    by_cases c2 : b < x
    · rw [if_pos c2, yn_f (by omega)]; rfl
    · rw [if_neg c2, yn_t (by omega)]; rfl
def hcpb (h : Hp) (a b : Int) (n : Int) : Hp := fun c j => if c = 133 ∧ 112 * b ≤ j ∧ j < 112 * b + n then h 133 (j - 112 * b + 112 * a) else h c j
theorem mo_copies_eq {h : Hp} {a b : Int} (h0 : 0 ≤ a ∧ a ≤ 9) (h1 : 0 ≤ b ∧ b ≤ 9) (hab : a ≠ b) : mo_copies 132 a b h = some ((), hcpb h a b 112) := by
  unfold mo_copies
  have e0 : hcpb h a b ((0 : Nat) : Int) = h := by
    funext c j
    unfold hcpb
    grind
  have key := it1_seq (F := mo_copies_f2 132 a b) (fun k => (k : Int)) (fun k => hcpb h a b (k : Int)) 112 (R := some ((), hcpb h a b 112)) (fun k i hi => ?_) (fun k => ?_) fuel 0 (Nat.zero_le _) (by unfold fuel; omega)
  · rw [e0] at key
    exact key
  · simp only [mo_copies_f2, Nat.reduceAdd]
    rw [if_pos (by omega), ck_in ⟨by omega, by omega⟩, ck_in ⟨by omega, by omega⟩, ck_in ⟨by omega, by omega⟩, ck_in ⟨by omega, by omega⟩, ix_in (by omega) (by omega), ix_in (by omega) (by omega), lt_eq, ck_in ⟨by omega, by omega⟩]
    rw [← nc_s]
    refine congrArg (k _) ?_
    funext c j
    unfold hu hcpb
    rw [nc_s]
    grind
  · simp only [mo_copies_f2, Nat.reduceAdd]
    rw [if_neg (by omega)]
    rfl
def HistM (K : Int) (B : Int → Dr) (h : Hp) : Prop := h 132 1 = K ∧ ∀ k, 0 ≤ k → k < K → AtM (B k) h (K - k)
theorem AtM.move {D : Dr} {h h' : Hp} {b b' : Int} (ha : AtM D h b) (hw : WF D) (e : ∀ i, 0 ≤ i → i < 112 → h' 133 (112 * b' + i) = h 133 (112 * b + i)) : AtM D h' b' := by
  obtain ⟨⟨a0, a1, a2, a3⟩, hp, hr⟩ := ha
  have w0 := hw.1
  have w1 := hw.2.1
  have e00 := e 0 (by omega) (by omega)
  rw [Int.add_zero, Int.add_zero] at e00
  refine ⟨⟨by rw [e00]; exact a0, by rw [e 13 (by omega) (by omega)]; exact a1, by rw [e 110 (by omega) (by omega)]; exact a2, by rw [e 111 (by omega) (by omega)]; exact a3⟩, fun i g0 g1 => ?_, fun d g0 g1 => ?_⟩
  · rw [Int.add_assoc, e (1 + i) (by omega) (by omega), ← Int.add_assoc]
    exact hp i g0 g1
  · simp only [Int.add_assoc]
    rw [e (14 + 6 * d) (by omega) (by omega), e (15 + 6 * d) (by omega) (by omega), e (16 + 6 * d) (by omega) (by omega), e (17 + 6 * d) (by omega) (by omega), e (18 + 6 * d) (by omega) (by omega), e (19 + 6 * d) (by omega) (by omega)]
    have := hr d g0 g1
    simp only [Int.add_assoc] at this
    exact this
/-- records(), from the place where there is room -/
theorem mo_records_b41_eq {h : Hp} {K : Int} {B : Int → Dr} {D : Dr} (hH : HistM K B h) (hw : ∀ k, 0 ≤ k → k < K → WF (B k)) (hK : 0 ≤ K ∧ K < 8) (hD : AtM D h 0) (hwD : WF D) : ∃ h', mo_records_b41 132 h = some ((), h') ∧ HistM (K + 1) (pushB D B) h' ∧ (∀ j, (j < 112 ∨ 1008 ≤ j) → h' 133 j = h 133 j) ∧ (∀ c, c ≠ 132 → c ≠ 133 → h' c = h c) ∧ ∀ j, j ≠ 1 → h' 132 j = h 132 j := by
  obtain ⟨hk, hB⟩ := hH
  refine ⟨hcpb (hu h 132 1 (K + 1)) 0 (K + 1) 112, ?_, ⟨?_, fun k g0 g1 => ?_⟩, fun j hj => ?_, fun c g0 g1 => ?_, fun j hj => ?_⟩
  · unfold mo_records_b41
    rw [hk, ck_in ⟨by omega, by omega⟩, lt_eq, hu_s, bd_eq (mo_copies_eq (by omega) (by omega) (by omega))]
  · unfold hcpb hu
    grind
  · unfold pushB
    by_cases k0 : k = 0
    · subst k0
      rw [if_pos rfl]
      refine hD.move hwD (fun i i0 i1 => ?_)
      unfold hcpb hu
      grind
    · rw [if_neg k0]
      refine (hB (k - 1) (by omega) (by omega)).move (hw (k - 1) (by omega) (by omega)) (fun i i0 i1 => ?_)
      unfold hcpb hu
      grind
  · unfold hcpb hu
    grind
  · funext j
    unfold hcpb hu
    grind
  · unfold hcpb hu
    grind
def hsh (h : Hp) (n : Int) : Hp := fun c j => if c = 133 ∧ 112 ≤ j ∧ j < 112 * n then h 133 (j + 112) else h c j
theorem mo_records_eq {h : Hp} {K : Int} {B : Int → Dr} {D : Dr} (hH : HistM K B h) (hw : ∀ k, 0 ≤ k → k < K → WF (B k)) (hK : 0 ≤ K ∧ K ≤ 8) (hD : AtM D h 0) (hwD : WF D) : ∃ h', mo_records 132 h = some ((), h') ∧ HistM (min (K + 1) 8) (pushB D B) h' ∧ (∀ j, (j < 112 ∨ 1008 ≤ j) → h' 133 j = h 133 j) ∧ (∀ c, c ≠ 132 → c ≠ 133 → h' c = h c) ∧ ∀ j, j ≠ 1 → h' 132 j = h 132 j := by
  have hH0 := hH
  obtain ⟨hk, hB⟩ := hH
  unfold mo_records
  rw [hk]
  by_cases h8 : K = 8
  · rw [if_pos h8]
    have e1 : hsh h 1 = h := by
      funext c j
      unfold hsh
      grind
    have hH1 : HistM 7 B (hu (hsh h 8) 132 1 7) := by
      refine ⟨hu_s, fun k g0 g1 => ?_⟩
      refine (hB k (by omega) (by omega)).move (hw k (by omega) (by omega)) (fun i i0 i1 => ?_)
      unfold hu hsh
      grind
    have hD1 : AtM D (hu (hsh h 8) 132 1 7) 0 := hD.move hwD (fun i i0 i1 => by
      unfold hu hsh
      grind)
    obtain ⟨h', r1, r2, r3, r4, r5⟩ := mo_records_b41_eq hH1 (fun k g0 g1 => hw k g0 (by omega)) (by omega) hD1 hwD
    refine ⟨h', ?_, by rw [h8]; exact r2, fun j hj => ?_, fun c g0 g1 => ?_, fun j hj => ?_⟩
    · have key := it1_seq (F := mo_records_f11 132) (fun k => (k : Int) + 1) (fun k => hsh h ((k : Int) + 1)) 7 (R := some ((), h')) (fun k i hi => ?_) (fun k => ?_) fuel 0 (Nat.zero_le _) (by unfold fuel; omega)
      · rw [show ((0 : Nat) : Int) + 1 = 1 from rfl, e1] at key
        exact key
      · simp only [mo_records_f11]
        rw [if_pos (by omega), ck_in ⟨by omega, by omega⟩, bd_eq (mo_copies_eq (by omega) (by omega) (by omega)), ck_in ⟨by omega, by omega⟩]
        rw [← nc_s]
        refine congrArg (k _) ?_
        funext c j
        unfold hcpb hsh
        rw [nc_s]
        grind
      · simp only [mo_records_f11]
        have e7 : hsh h (((7 : Nat) : Int) + 1) 132 1 = 8 := by
          unfold hsh
          grind
        rw [if_neg (by omega), e7, ck_in ⟨by omega, by omega⟩, lt_eq]
        exact r1
    · rw [r3 j hj]
      unfold hu hsh
      grind
    · rw [r4 c g0 g1]
      funext j
      unfold hu hsh
      grind
    · rw [r5 j hj]
      unfold hu hsh
      grind
  · rw [if_neg h8, show min (K + 1) 8 = K + 1 by omega]
    exact mo_records_b41_eq hH0 hw (by omega) hD hwD
theorem mo_undo_eq {h : Hp} {K : Int} {B : Int → Dr} (hH : HistM K B h) (hw : ∀ k, 0 ≤ k → k < K → WF (B k)) (hK : 0 < K ∧ K ≤ 8) : ∃ h', mo_undo 132 h = some (K - 1, h') ∧ HistM (K - 1) (fun k => B (k + 1)) h' ∧ AtM (B 0) h' 0 ∧ (∀ c, c ≠ 132 → c ≠ 133 → h' c = h c) ∧ ∀ j, j ≠ 1 → h' 132 j = h 132 j := by
  obtain ⟨hk, hB⟩ := hH
  have e1 : hcpb h K 0 112 132 1 = K := by
    unfold hcpb
    grind
  refine ⟨hu (hcpb h K 0 112) 132 1 (K - 1), ?_, ⟨hu_s, fun k g0 g1 => ?_⟩, ?_, fun c g0 g1 => ?_, fun j hj => ?_⟩
  · unfold mo_undo
    rw [hk, if_neg (by omega), bd_eq (mo_copies_eq (by omega) (by omega) (by omega)), e1, ck_in ⟨by omega, by omega⟩, lt_eq, hu_s]
  · refine (hB (k + 1) (by omega) (by omega)).move (hw (k + 1) (by omega) (by omega)) (fun i i0 i1 => ?_)
    unfold hu hcpb
    grind
  · refine (hB 0 (by omega) (by omega)).move (hw 0 (by omega) (by omega)) (fun i i0 i1 => ?_)
    unfold hu hcpb
    grind
  · funext j
    unfold hu hcpb
    grind
  · unfold hu hcpb
    grind
/-- reading the page -/
theorem mo_of_raw {h : Hp} {d w : Int} (h0 : 0 ≤ d ∧ d < 170) (h1 : 0 ≤ w ∧ w < 6) : mo_of 132 d w h = some (h 133 (14 + 6 * d + w), h) := by
  simp only [mo_of, Nat.reduceAdd]
  rw [ck_in ⟨by omega, by omega⟩, ck_in ⟨by omega, by omega⟩, ck_in ⟨by omega, by omega⟩, ix_in (by omega) (by omega)]
theorem mo_sets_raw {h : Hp} {d w v : Int} (h0 : 0 ≤ d ∧ d < 170) (h1 : 0 ≤ w ∧ w < 6) : mo_sets 132 d w v h = some ((), hu h 133 (14 + 6 * d + w) v) := by
  simp only [mo_sets, Nat.reduceAdd]
  rw [ck_in ⟨by omega, by omega⟩, ck_in ⟨by omega, by omega⟩, ck_in ⟨by omega, by omega⟩, ix_in (by omega) (by omega), lt_eq]
theorem mo_position_raw {h : Hp} {p : Int} (h0 : 0 ≤ p ∧ p < 1000) : mo_position 132 p h = some (h 133 (1 + p), h) := by
  simp only [mo_position, Nat.reduceAdd]
  rw [ck_in ⟨by omega, by omega⟩, ix_in (by omega) (by omega)]
variable {D : Dr} {h : Hp}
theorem AtM.n (ha : AtM D h 0) : h 133 0 = D 7 0 := ha.1.1.symm
theorem AtM.m (ha : AtM D h 0) : h 133 13 = D 7 1 := ha.1.2.1.symm
theorem AtM.pos (ha : AtM D h 0) {i : Int} (h0 : 0 ≤ i) (h1 : i < D 7 0) : h 133 (1 + i) = D 0 i := by
  have := ha.2.1 i h0 h1
  rw [this]
  congr 1
theorem AtM.dim (ha : AtM D h 0) {d : Int} (h0 : 0 ≤ d) (h1 : d < D 7 1) : h 133 (14 + 6 * d + 0) = D 1 d ∧ h 133 (14 + 6 * d + 1) = D 2 d ∧ h 133 (14 + 6 * d + 2) = D 3 d ∧ h 133 (14 + 6 * d + 3) = D 4 d ∧ h 133 (14 + 6 * d + 4) = D 5 d ∧ h 133 (14 + 6 * d + 5) = D 6 d := by
  obtain ⟨a, b, c, d1, e, f⟩ := ha.2.2 d h0 h1
  rw [a, b, c, d1, e, f]
  refine ⟨?_, ?_, ?_, ?_, ?_, ?_⟩ <;> (congr 1; omega)
theorem mo_isPoint_eq (ha : AtM D h 0) (hw : WF D) (p : Int) : mo_isPoint 132 p h = some (yn (0 ≤ p ∧ p < D 7 0), h) := by
  have w0 := hw.1
  simp only [mo_isPoint, Nat.reduceAdd]
  rw [ix_in (by omega) (by omega), ha.n, ck_in ⟨by omega, by omega⟩, bd_eq (mo_in_eq p 0 _), yn_congr (show (0 ≤ p ∧ p ≤ D 7 0 - 1) ↔ (0 ≤ p ∧ p < D 7 0) by omega)]
  unfold bz
  rw [if_pos yn_bz]
theorem mo_isDimension_eq (ha : AtM D h 0) (hw : WF D) (p : Int) : mo_isDimension 132 p h = some (yn (0 ≤ p ∧ p < D 7 1), h) := by
  have w0 := hw.2.1
  simp only [mo_isDimension, Nat.reduceAdd]
  rw [ix_in (by omega) (by omega), ha.m, ck_in ⟨by omega, by omega⟩, bd_eq (mo_in_eq p 0 _), yn_congr (show (0 ≤ p ∧ p ≤ D 7 1 - 1) ↔ (0 ≤ p ∧ p < D 7 1) by omega)]
  unfold bz
  rw [if_pos yn_bz]
theorem mo_pointWith_eq (ha : AtM D h 0) (hw : WF D) (x : Int) : mo_pointWith 132 x h = some (if cntB (D 0) x (D 7 0).toNat < D 7 0 ∧ D 0 (cntB (D 0) x (D 7 0).toNat) = x then cntB (D 0) x (D 7 0).toNat else -999, h) := by
  have w0 := hw.1
  have hb := cntB_b (D 0) x (D 7 0).toNat
  have hs : ∀ i : Int, 0 ≤ i → i < D 7 0 → (D 0 i < x ↔ i < cntB (D 0) x (D 7 0).toNat) := fun i g0 g1 => cntB_lt (n := (D 7 0).toNat) (fun i j a b c => hw.2.2.2.2.2.1 i j a b (by omega)) i g0 (by omega)
  unfold mo_pointWith
  refine it1_find (fun k => (k : Int)) (fun _ => h) (D 7 0).toNat (fun k => D 0 k = x) (fun k i hi hp => ?_) (fun k i hi hp hy => ?_) (fun k hy => ?_) fuel 0 (Nat.zero_le _) (by unfold fuel; omega) (fun y g => absurd g (Nat.not_lt_zero _))
  · simp only [mo_pointWith_f2, Nat.reduceAdd]
    rw [ix_in (by omega) (by omega), ha.n, if_pos (by omega), bd_eq (mo_position_raw (by omega)), ha.pos (by omega) (by omega), if_neg hp, ck_in ⟨by omega, by omega⟩]
    rfl
  · simp only [mo_pointWith_f2, Nat.reduceAdd]
    have e : cntB (D 0) x (D 7 0).toNat = i := by
      have h1 := hs i (by omega) (by omega)
      rcases Int.lt_trichotomy (cntB (D 0) x (D 7 0).toNat) i with q | q | q
      · have h2 := hs (cntB (D 0) x (D 7 0).toNat) hb.1 (by omega)
        have h3 := hw.2.2.2.2.2.1 (cntB (D 0) x (D 7 0).toNat) i hb.1 q (by omega)
        omega
      · exact q
      · omega
    rw [ix_in (by omega) (by omega), ha.n, if_pos (by omega), bd_eq (mo_position_raw (by omega)), ha.pos (by omega) (by omega), if_pos hp, e, if_pos ⟨by omega, hp⟩]
  · simp only [mo_pointWith_f2, Nat.reduceAdd]
    rw [ix_in (by omega) (by omega), ha.n, if_neg (by omega), if_neg]
    intro q
    have := hy (cntB (D 0) x (D 7 0).toNat).toNat (by omega)
    rw [Int.toNat_of_nonneg hb.1] at this
    exact this q.2
end MOB

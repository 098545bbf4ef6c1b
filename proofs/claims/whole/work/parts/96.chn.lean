section CHN
/-- over a chain's dimensions -/
def scN (D : Dr) (c : Int) (g : Int → Int) (n : Nat) : Int := sumI (fun d => if D 5 d = c then g d else 0) n
def sc (D : Dr) (c : Int) (g : Int → Int) : Int := scN D c g (D 7 1).toNat
def bgN (D : Dr) (c : Int) : Nat → Int
  | 0 => D 7 0 - 1
  | k + 1 => if D 5 k = c then min (bgN D c k) (D 1 k) else bgN D c k
def enN (D : Dr) (c : Int) : Nat → Int
  | 0 => 0
  | k + 1 => if D 5 k = c then max (enN D c k) (D 2 k) else enN D c k
def bg (D : Dr) (c : Int) : Int := bgN D c (D 7 1).toNat
def en (D : Dr) (c : Int) : Int := enN D c (D 7 1).toNat
variable {D : Dr} {h : Hp} {c : Int}
theorem scN_s {g : Int → Int} {n : Nat} : scN D c g (n + 1) = scN D c g n + (if D 5 n = c then g n else 0) := rfl
theorem scN_b {g : Int → Int} {B : Int} (hB : 0 ≤ B) {n : Nat} (hg : ∀ d : Int, 0 ≤ d → d < n → 0 ≤ g d ∧ g d ≤ B) : 0 ≤ scN D c g n ∧ scN D c g n ≤ B * n := sumI_le (fun i i0 i1 => by
  have := hg i i0 i1
  show 0 ≤ (if D 5 i = c then g i else 0) ∧ (if D 5 i = c then g i else 0) ≤ B
  split
  · exact this
  · omega)
theorem sc1_b (n : Nat) : 0 ≤ scN D c (fun _ => 1) n ∧ scN D c (fun _ => 1) n ≤ n := by
  have := scN_b (D := D) (c := c) (g := fun _ => 1) (B := 1) (by decide) (n := n) (fun _ _ _ => by decide)
  omega
theorem sc0 (hn : 0 ≤ D 7 1) (h : sc D c (fun _ => 1) = 0) {g : Int → Int} : sc D c g = 0 := by
  refine sumI_zero (fun i i0 i1 => ?_)
  show (if D 5 i = c then g i else 0) = 0
  by_cases q : D 5 i = c
  · have := sumI_lt (g := fun _ => 0) (g' := fun d => if D 5 d = c then 1 else 0) (v := i) (D 7 1).toNat (fun j _ _ => by
      show 0 ≤ if D 5 j = c then (1 : Int) else 0
      split <;> omega) i0 i1 (by
      show 0 + 1 ≤ if D 5 i = c then (1 : Int) else 0
      rw [if_pos q]
      omega)
    have e : sumI (fun _ => (0 : Int)) (D 7 1).toNat = 0 := sumI_zero (fun _ _ _ => rfl)
    rw [e] at this
    have h' : sumI (fun d => if D 5 d = c then (1 : Int) else 0) (D 7 1).toNat = 0 := h
    omega
  · rw [if_neg q]
theorem sc_some (hn : 0 ≤ D 7 1) (h : sc D c (fun _ => 1) ≠ 0) : ∃ d, (0 ≤ d ∧ d < D 7 1) ∧ D 5 d = c := by
  refine Classical.byContradiction fun z => h (sumI_zero (fun i i0 i1 => if_neg (fun y => z ⟨i, ⟨i0, by omega⟩, y⟩)))
/-- rows of the class -/
theorem AtC.rows (hA : AtC D h 1) {d : Int} (d0 : 0 ≤ d) (d1 : d < D 7 1) : h 3 d = D 1 d ∧ h 4 d = D 2 d ∧ h 5 d = D 3 d ∧ h 6 d = D 4 d ∧ h 7 d = D 5 d ∧ h 8 d = D 6 d := by
  obtain ⟨r1, r2, r3, r4, r5, r6⟩ := hA.2.2 d d0 d1
  exact ⟨r1.symm, r2.symm, r3.symm, r4.symm, r5.symm, r6.symm⟩
theorem AtC.val (hA : AtC D h 1) (w : WF D) {d : Int} (d0 : 0 ≤ d) (d1 : d < D 7 1) : dr_valueOf 1 d h = some (vD D d, h) := by
  have dw := w.dim d0 d1
  have wc := hA.wf w
  obtain ⟨r1, r2, -⟩ := hA.rows d0 d1
  have p1 : h 2 (D 1 d) = D 0 (D 1 d) := (hA.2.1 _ dw.1.1 (by omega)).symm
  have p2 : h 2 (D 2 d) = D 0 (D 2 d) := (hA.2.1 _ (by omega) dw.1.2.2).symm
  have := dr_valueOf_eq wc (d := d) d0 (by have := hA.1.2.1; omega)
  rw [show (1 + 3 : Nat) = 4 from rfl, show (1 + 2 : Nat) = 3 from rfl, show (1 + 1 : Nat) = 2 from rfl, r1, r2, p1, p2] at this
  exact this
theorem dr_countOfChain_eq (hA : AtC D h 1) (w : WF D) : dr_countOfChain 1 c h = some (sc D c (fun _ => 1), h) := by
  have w1 := w.2.1
  have em : h 1 8 = D 7 1 := hA.1.2.1.symm
  unfold dr_countOfChain
  refine it2_seq (F := dr_countOfChain_f4 1 c) (fun k => scN D c (fun _ => 1) k) (fun k => (k : Int)) (fun _ => h) (D 7 1).toNat (fun k x hx => ?_) (fun k => ?_) fuel 0 (Nat.zero_le _) (by unfold fuel; omega)
  · have sb := sc1_b (D := D) (c := c) x
    have r5 := (hA.rows (d := (x : Int)) (by omega) (by omega)).2.2.2.2.1
    simp only [dr_countOfChain_f4, dr_countOfChain_b25, Nat.reduceAdd]
    rw [em, if_pos (by omega), ix_in (by omega) (by omega), r5, scN_s]
    by_cases q : D 5 x = c
    · rw [if_pos q, ck_in ⟨by omega, by omega⟩, ck_in ⟨by omega, by omega⟩, if_pos q]
      rfl
    · rw [if_neg q, ck_in ⟨by omega, by omega⟩, if_neg q, Int.add_zero]
      rfl
  · unfold dr_countOfChain_f4
    rw [em, if_neg (by omega)]
    rfl
theorem dr_sumOfChain_eq (hA : AtC D h 1) (w : WF D) {q : Nat} {r : Nat} (hr : ∀ d, 0 ≤ d → d < D 7 1 → h q d = D r d ∧ (0 ≤ D r d ∧ D r d ≤ 20)) : dr_sumOfChain 1 c q 16 h = some (sc D c (D r), h) := by
  have w1 := w.2.1
  have em : h 1 8 = D 7 1 := hA.1.2.1.symm
  unfold dr_sumOfChain
  refine it2_seq (F := dr_sumOfChain_f5 1 c q 16) (fun k => scN D c (D r) k) (fun k => (k : Int)) (fun _ => h) (D 7 1).toNat (fun k x hx => ?_) (fun k => ?_) fuel 0 (Nat.zero_le _) (by unfold fuel; omega)
  · have sb := scN_b (D := D) (c := c) (g := D r) (B := 20) (by decide) (n := x) (fun d d0 d1 => (hr d d0 (by omega)).2)
    have hx' := hr x (by omega) (by omega)
    have r5 := (hA.rows (d := (x : Int)) (by omega) (by omega)).2.2.2.2.1
    simp only [dr_sumOfChain_f5, dr_sumOfChain_b32, Nat.reduceAdd]
    rw [em, if_pos (by omega), ix_in (by omega) (by omega), r5, scN_s]
    by_cases z : D 5 x = c
    · rw [if_pos z, ix_in (by omega) (by omega), hx'.1, ck_in ⟨by omega, by omega⟩, ck_in ⟨by omega, by omega⟩, if_pos z]
      rfl
    · rw [if_neg z, ck_in ⟨by omega, by omega⟩, if_neg z, Int.add_zero]
      rfl
  · unfold dr_sumOfChain_f5
    rw [em, if_neg (by omega)]
    rfl
theorem WF.v (w : WF D) {d : Int} (d0 : 0 ≤ d) (d1 : d < D 7 1) : 0 ≤ vD D d ∧ vD D d ≤ 300 := by
  have dw := w.dim d0 d1
  unfold vD
  omega
theorem dr_sumOfValues_eq (hA : AtC D h 1) (w : WF D) : dr_sumOfValues 1 c h = some (sc D c (vD D), h) := by
  have w1 := w.2.1
  have em : h 1 8 = D 7 1 := hA.1.2.1.symm
  unfold dr_sumOfValues
  refine it2_seq (F := dr_sumOfValues_f4 1 c) (fun k => scN D c (vD D) k) (fun k => (k : Int)) (fun _ => h) (D 7 1).toNat (fun k x hx => ?_) (fun k => ?_) fuel 0 (Nat.zero_le _) (by unfold fuel; omega)
  · have sb := scN_b (D := D) (c := c) (g := vD D) (B := 300) (by decide) (n := x) (fun d d0 d1 => w.v d0 (by omega))
    have hx' := w.v (d := (x : Int)) (by omega) (by omega)
    have r5 := (hA.rows (d := (x : Int)) (by omega) (by omega)).2.2.2.2.1
    simp only [dr_sumOfValues_f4, dr_sumOfValues_b30, Nat.reduceAdd]
    rw [em, if_pos (by omega), ix_in (by omega) (by omega), r5, scN_s]
    by_cases z : D 5 x = c
    · rw [if_pos z, bd_eq (hA.val w (by omega) (by omega)), ck_in ⟨by omega, by omega⟩, ck_in ⟨by omega, by omega⟩, if_pos z]
      rfl
    · rw [if_neg z, ck_in ⟨by omega, by omega⟩, if_neg z, Int.add_zero]
      rfl
  · unfold dr_sumOfValues_f4
    rw [em, if_neg (by omega)]
    rfl
theorem bgN_b (w : WF D) : ∀ k : Nat, (k : Int) ≤ D 7 1 → (-1 ≤ bgN D c k ∧ bgN D c k ≤ D 7 0 - 1) ∧ (scN D c (fun _ => 1) k = 0 → bgN D c k = D 7 0 - 1) ∧ (scN D c (fun _ => 1) k ≠ 0 → 0 ≤ bgN D c k)
  | 0, _ => by
    have w0 := w.1
    refine ⟨by unfold bgN; omega, fun _ => rfl, fun z => absurd rfl z⟩
  | k + 1, hk => by
    have i := bgN_b w k (by omega)
    have dw := (w.dim (d := (k : Int)) (by omega) (by omega)).1
    have sb := sc1_b (D := D) (c := c) k
    rw [scN_s]
    unfold bgN
    by_cases q : D 5 k = c
    · rw [if_pos q, if_pos q]
      omega
    · rw [if_neg q, if_neg q, Int.add_zero]
      exact i
theorem enN_b (w : WF D) : ∀ k : Nat, (k : Int) ≤ D 7 1 → (0 ≤ enN D c k ∧ enN D c k ≤ 11) ∧ (scN D c (fun _ => 1) k = 0 → enN D c k = 0) ∧ (scN D c (fun _ => 1) k ≠ 0 → enN D c k < D 7 0)
  | 0, _ => by
    have w0 := w.1
    refine ⟨by unfold enN; omega, fun _ => rfl, fun z => absurd rfl z⟩
  | k + 1, hk => by
    have w0 := w.1
    have i := enN_b w k (by omega)
    have dw := (w.dim (d := (k : Int)) (by omega) (by omega)).1
    have sb := sc1_b (D := D) (c := c) k
    rw [scN_s]
    unfold enN
    by_cases q : D 5 k = c
    · rw [if_pos q, if_pos q]
      omega
    · rw [if_neg q, if_neg q, Int.add_zero]
      exact i
theorem dr_beginOfChain_eq (hA : AtC D h 1) (w : WF D) : dr_beginOfChain 1 c h = some (bg D c, h) := by
  have w0 := w.1
  have w1 := w.2.1
  have em : h 1 8 = D 7 1 := hA.1.2.1.symm
  have en' : h 1 7 = D 7 0 := hA.1.1.symm
  unfold dr_beginOfChain
  rw [en', ck_in ⟨by omega, by omega⟩]
  refine it2_seq (F := dr_beginOfChain_f9 1 c) (fun k => bgN D c k) (fun k => (k : Int)) (fun _ => h) (D 7 1).toNat (fun k x hx => ?_) (fun k => ?_) fuel 0 (Nat.zero_le _) (by unfold fuel; omega)
  · obtain ⟨r1, -, -, -, r5, -⟩ := hA.rows (d := (x : Int)) (by omega) (by omega)
    have e : bgN D c (x + 1) = if D 5 x = c then min (bgN D c x) (D 1 x) else bgN D c x := rfl
    simp only [dr_beginOfChain_f9, dr_beginOfChain_b38, Nat.reduceAdd]
    rw [em, if_pos (by omega), ix_in (by omega) (by omega), r5, e]
    by_cases q : D 5 x = c
    · rw [if_pos q, ix_in (by omega) (by omega), r1, ck_in ⟨by omega, by omega⟩, if_pos q]
      rfl
    · rw [if_neg q, ck_in ⟨by omega, by omega⟩, if_neg q]
      rfl
  · unfold dr_beginOfChain_f9
    rw [em, if_neg (by omega)]
    rfl
theorem dr_endOfChain_eq (hA : AtC D h 1) (w : WF D) : dr_endOfChain 1 c h = some (en D c, h) := by
  have w0 := w.1
  have w1 := w.2.1
  have em : h 1 8 = D 7 1 := hA.1.2.1.symm
  unfold dr_endOfChain
  refine it2_seq (F := dr_endOfChain_f4 1 c) (fun k => enN D c k) (fun k => (k : Int)) (fun _ => h) (D 7 1).toNat (fun k x hx => ?_) (fun k => ?_) fuel 0 (Nat.zero_le _) (by unfold fuel; omega)
  · obtain ⟨-, r2, -, -, r5, -⟩ := hA.rows (d := (x : Int)) (by omega) (by omega)
    have e : enN D c (x + 1) = if D 5 x = c then max (enN D c x) (D 2 x) else enN D c x := rfl
    simp only [dr_endOfChain_f4, dr_endOfChain_b33, Nat.reduceAdd]
    rw [em, if_pos (by omega), ix_in (by omega) (by omega), r5, e]
    by_cases q : D 5 x = c
    · rw [if_pos q, ix_in (by omega) (by omega), r2, ck_in ⟨by omega, by omega⟩, if_pos q]
      rfl
    · rw [if_neg q, ck_in ⟨by omega, by omega⟩, if_neg q]
      rfl
  · unfold dr_endOfChain_f4
    rw [em, if_neg (by omega)]
    rfl
/-- the smallest dimension over a chain -/
noncomputable def ov (D : Dr) (c : Int) : Int := ff (fun d => D 5 d ≠ c ∧ D 1 d = bg D c ∧ D 2 d = en D c) (D 7 1).toNat
theorem dr_smallestOver_eq (hA : AtC D h 1) (w : WF D) : dr_smallestOver 1 c h = some (ov D c, h) := by
  have w1 := w.2.1
  have em : h 1 8 = D 7 1 := hA.1.2.1.symm
  unfold dr_smallestOver
  rw [bd_eq (dr_beginOfChain_eq hA w), bd_eq (dr_endOfChain_eq hA w)]
  have hs : ∀ (k : Int → Int → Int → Hp → O Int) (x : Nat), x < (D 7 1).toNat → ¬ (D 5 x ≠ c ∧ D 1 x = bg D c ∧ D 2 x = en D c) → dr_smallestOver_f15 1 c k (bg D c) (en D c) x h = k (bg D c) (en D c) ((x + 1 : Nat) : Int) h := fun k x hx n => by
    obtain ⟨r1, r2, -, -, r5, -⟩ := hA.rows (d := (x : Int)) (by omega) (by omega)
    have b60 : dr_smallestOver_b60 1 c k (bg D c) (en D c) x h = k (bg D c) (en D c) ((x + 1 : Nat) : Int) h := by
      unfold dr_smallestOver_b60
      rw [ck_in ⟨by omega, by omega⟩]
      rfl
    simp only [dr_smallestOver_f15, Nat.reduceAdd]
    rw [em, if_pos (by omega), ix_in (by omega) (by omega), r5, b60]
    by_cases q : D 5 x = c
    · rw [if_pos q]
    · rw [if_neg q, ix_in (by omega) (by omega), r1]
      by_cases q2 : D 1 x = bg D c
      · rw [if_pos q2, ix_in (by omega) (by omega), r2, if_neg (fun z => n ⟨q, q2, z⟩)]
      · rw [if_neg q2]
  have hf : ∀ (k : Int → Int → Int → Hp → O Int) (x : Nat), x < (D 7 1).toNat → (D 5 x ≠ c ∧ D 1 x = bg D c ∧ D 2 x = en D c) → dr_smallestOver_f15 1 c k (bg D c) (en D c) x h = some ((x : Int), h) := fun k x hx n => by
    obtain ⟨r1, r2, -, -, r5, -⟩ := hA.rows (d := (x : Int)) (by omega) (by omega)
    simp only [dr_smallestOver_f15, Nat.reduceAdd]
    rw [em, if_pos (by omega), ix_in (by omega) (by omega), r5, if_neg n.1, ix_in (by omega) (by omega), r1, if_pos n.2.1, ix_in (by omega) (by omega), r2, if_pos n.2.2]
  have hl : ∀ (k : Int → Int → Int → Hp → O Int), dr_smallestOver_f15 1 c k (bg D c) (en D c) (((D 7 1).toNat : Nat) : Int) h = some (-999, h) := fun k => by
    unfold dr_smallestOver_f15
    rw [em, if_neg (by omega)]
  have key : ∀ (n x : Nat), x ≤ (D 7 1).toNat → (D 7 1).toNat - x < n → (∀ y : Nat, y < x → ¬ (D 5 y ≠ c ∧ D 1 y = bg D c ∧ D 2 y = en D c)) → iter3 (dr_smallestOver_f15 1 c) n (bg D c) (en D c) x h = some (ov D c, h) := fun n => by
    induction n with
    | zero => intro x _ g; omega
    | succ n ih =>
      intro x hx g hy
      show dr_smallestOver_f15 1 c (iter3 (dr_smallestOver_f15 1 c) n) (bg D c) (en D c) x h = _
      rcases Nat.lt_or_ge x (D 7 1).toNat with q | q
      · by_cases p : D 5 x ≠ c ∧ D 1 x = bg D c ∧ D 2 x = en D c
        · rw [hf _ x q p]
          unfold ov
          rw [ff_some (P := fun d => D 5 d ≠ c ∧ D 1 d = bg D c ∧ D 2 d = en D c) p hy q]
        · rw [hs _ x q p]
          refine ih (x + 1) q (by omega) (fun y g => ?_)
          rcases Nat.lt_or_ge y x with z | z
          · exact hy y z
          · rw [show y = x by omega]; exact p
      · have e : x = (D 7 1).toNat := by omega
        subst e
        rw [hl]
        unfold ov
        rw [ff_none hy]
  exact key fuel 0 (Nat.zero_le _) (by unfold fuel; omega) (fun y g => absurd g (Nat.not_lt_zero _))
end CHN

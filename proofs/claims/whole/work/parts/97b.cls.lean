section CLS
variable {D : Dr} {h : Hp} {c : Int}
theorem it5_seq {α : Type} {F : (Int → Int → Int → Int → Int → Hp → O α) → Int → Int → Int → Int → Int → Hp → O α} (a b c d e : Nat → Int) (H : Nat → Hp) (N : Nat) {R : O α} (hs : ∀ (k : Int → Int → Int → Int → Int → Hp → O α) (x : Nat), x < N → F k (a x) (b x) (c x) (d x) (e x) (H x) = k (a (x + 1)) (b (x + 1)) (c (x + 1)) (d (x + 1)) (e (x + 1)) (H (x + 1))) (hl : ∀ k, F k (a N) (b N) (c N) (d N) (e N) (H N) = R) : ∀ (n x : Nat), x ≤ N → N - x < n → iter5 F n (a x) (b x) (c x) (d x) (e x) (H x) = R
  | 0, _, _, hn => absurd hn (Nat.not_lt_zero _)
  | n + 1, x, hx, hn => by
    show F (iter5 F n) (a x) (b x) (c x) (d x) (e x) (H x) = R
    rcases Nat.lt_or_ge x N with q | q
    · rw [hs _ x q]
      exact it5_seq a b c d e H N hs hl n (x + 1) q (by omega)
    · rw [show x = N by omega]
      exact hl _
/-- a chain's dimension that begins at p -/
abbrev at1 (D : Dr) (c p d : Int) : Prop := D 5 d = c ∧ D 1 d = p
/-- how many begin there -/
def cAt (D : Dr) (c p : Int) : Int := sumI (fun d => yn (at1 D c p d)) (D 7 1).toNat
noncomputable def nxc (D : Dr) (c p : Int) : Int := ff (at1 D c p) (D 7 1).toNat
/-- the walk -/
noncomputable def pt (D : Dr) (c : Int) : Nat → Int
  | 0 => bg D c
  | k + 1 => D 2 (nxc D c (pt D c k))
theorem sumI_pos {g : Int → Int} (hg : ∀ i, 0 ≤ g i) {v : Int} {n : Nat} (v0 : 0 ≤ v) (v1 : v < n) : g v ≤ sumI g n := by
  have e : sumI (fun i => if i = v then g v else 0) n = g v := by
    rw [sumI_only (v := v) v0 v1 (fun i _ _ z => if_neg z), if_pos rfl]
  rw [← e]
  refine sumI_mono n (fun i _ _ => ?_)
  show (if i = v then g v else 0) ≤ g i
  by_cases q : i = v
  · rw [if_pos q, q]
    exact Int.le_refl _
  · rw [if_neg q]
    exact hg i
theorem sumI_add {g g' : Int → Int} : ∀ n : Nat, sumI (fun i => g i + g' i) n = sumI g n + sumI g' n
  | 0 => rfl
  | n + 1 => by
    show sumI (fun i => g i + g' i) n + (g n + g' n) = sumI g n + g n + (sumI g' n + g' n)
    rw [sumI_add n]
    omega
theorem nxc_is {p : Int} (hn : 0 ≤ D 7 1) : (nxc D c p = -999 ∧ cAt D c p = 0) ∨ ((0 ≤ nxc D c p ∧ nxc D c p < D 7 1) ∧ at1 D c p (nxc D c p) ∧ 1 ≤ cAt D c p) := by
  by_cases q : ∃ d, (0 ≤ d ∧ d < D 7 1) ∧ at1 D c p d
  · obtain ⟨d, d1, d2⟩ := q
    obtain ⟨k, k1, k2⟩ := least (P := fun n => at1 D c p (n : Int)) d.toNat (by rw [Int.toNat_of_nonneg d1.1]; exact d2)
    have kd : k ≤ d.toNat := by
      rcases Nat.lt_or_ge d.toNat k with z | z
      · exact absurd (by rw [Int.toNat_of_nonneg d1.1]; exact d2) (k2 d.toNat z)
      · exact z
    have e : nxc D c p = k := ff_some (P := at1 D c p) k1 k2 (by omega)
    refine Or.inr ⟨by omega, by rw [e]; exact k1, ?_⟩
    have := sumI_pos (g := fun d => yn (at1 D c p d)) (fun i => yn_b.1) (v := (k : Int)) (n := (D 7 1).toNat) (by omega) (by omega)
    rw [yn_t k1] at this
    exact this
  · refine Or.inl ⟨ff_none (fun y hy z => q ⟨y, by omega, z⟩), sumI_zero (fun i i0 i1 => yn_f (fun z => q ⟨i, by omega, z⟩))⟩
/-- how many begin before p -/
def cLt (D : Dr) (c p : Int) : Int := sumI (fun d => yn (D 5 d = c ∧ D 1 d < p)) (D 7 1).toNat
theorem cLt_next {p q : Int} (hpq : p < q) : cLt D c p + cAt D c p ≤ cLt D c q := by
  unfold cLt cAt
  rw [← sumI_add]
  refine sumI_mono _ (fun i _ _ => ?_)
  show yn (D 5 i = c ∧ D 1 i < p) + yn (at1 D c p i) ≤ yn (D 5 i = c ∧ D 1 i < q)
  by_cases a : D 5 i = c ∧ D 1 i < p
  · rw [yn_t a, yn_f (fun z => by have := z.2; omega), yn_t ⟨a.1, by omega⟩]
    omega
  · rw [yn_f a]
    by_cases b : at1 D c p i
    · have := b.2
      rw [yn_t b, yn_t ⟨b.1, by omega⟩]
      omega
    · rw [yn_f b]
      have := yn_b (c := (D 5 i = c ∧ D 1 i < q))
      omega
theorem cLt_all {p : Int} : cLt D c p + cAt D c p ≤ sc D c (fun _ => 1) := by
  have := cLt_next (D := D) (c := c) (p := p) (q := p + 1) (by omega)
  have : cLt D c (p + 1) ≤ sc D c (fun _ => 1) := sumI_mono _ (fun i _ _ => by
    show yn (D 5 i = c ∧ D 1 i < p + 1) ≤ if D 5 i = c then (1 : Int) else 0
    by_cases a : D 5 i = c
    · rw [if_pos a]
      exact yn_b.2
    · rw [if_neg a, yn_f (fun z => a z.1)]
      omega)
  omega
theorem cLt_b {p : Int} : 0 ≤ cLt D c p := (sum_yn (P := fun d => D 5 d = c ∧ D 1 d < p) (D 7 1).toNat).1
theorem cAt_b {p : Int} : 0 ≤ cAt D c p := (sum_yn (P := at1 D c p) (D 7 1).toNat).1
/-- the walk goes on for k steps -/
def wlk (D : Dr) (c : Int) (k : Nat) : Prop := ∀ j, j < k → nxc D c (pt D c j) ≠ -999
theorem wlk_inc (w : WF D) {k : Nat} (h : wlk D c k) : (∀ j, j < k → pt D c j < pt D c (j + 1)) ∧ (k : Int) ≤ cLt D c (pt D c k) := by
  have w1 := w.2.1
  induction k with
  | zero => exact ⟨fun j hj => absurd hj (Nat.not_lt_zero _), cLt_b⟩
  | succ k ih =>
    obtain ⟨i1, i2⟩ := ih (fun j hj => h j (by omega))
    have hk := h k (by omega)
    obtain ⟨n1, n2, n3⟩ := (nxc_is (D := D) (c := c) (p := pt D c k) w1.1).resolve_left (fun z => hk z.1)
    have dw := (w.dim n1.1 n1.2).1
    have lt : pt D c k < pt D c (k + 1) := by
      show pt D c k < D 2 (nxc D c (pt D c k))
      have := n2.2
      omega
    refine ⟨fun j hj => ?_, ?_⟩
    · by_cases q : j = k
      · rw [q]; exact lt
      · exact i1 j (by omega)
    · have := cLt_next (D := D) (c := c) lt
      omega
/-- a walk through all of a chain meets each but once -/
theorem wlk_once (w : WF D) (h : wlk D c (sc D c (fun _ => 1)).toNat) : (∀ j, j < (sc D c (fun _ => 1)).toNat → cAt D c (pt D c j) = 1) ∧ cAt D c (pt D c (sc D c (fun _ => 1)).toNat) = 0 := by
  have w1 := w.2.1
  have sb := sc1_b (D := D) (c := c) (D 7 1).toNat
  have sb' : 0 ≤ sc D c (fun _ => 1) := sb.1
  generalize hN : sc D c (fun _ => 1) = N at *
  have all := fun p => hN ▸ cLt_all (D := D) (c := c) (p := p)
  refine ⟨fun j hj => ?_, ?_⟩
  · obtain ⟨-, -, n3⟩ := (nxc_is (D := D) (c := c) (p := pt D c j) w1.1).resolve_left (fun z => h j hj z.1)
    refine Classical.byContradiction fun n => ?_
    have key : ∀ t : Nat, j + 1 + t ≤ N.toNat → (j : Int) + 2 + t ≤ cLt D c (pt D c (j + 1 + t)) := fun t => by
      induction t with
      | zero =>
        intro ht
        obtain ⟨i1, i2⟩ := wlk_inc w (k := j + 1) (fun y hy => h y (by omega))
        obtain ⟨-, i3⟩ := wlk_inc w (k := j) (fun y hy => h y (by omega))
        have := cLt_next (D := D) (c := c) (i1 j (by omega))
        show (j : Int) + 2 + 0 ≤ cLt D c (pt D c (j + 1))
        omega
      | succ t ih =>
        intro ht
        have i := ih (by omega)
        obtain ⟨i1, -⟩ := wlk_inc w (k := j + 1 + t + 1) (fun y hy => h y (by omega))
        have := cLt_next (D := D) (c := c) (i1 (j + 1 + t) (by omega))
        obtain ⟨-, -, m3⟩ := (nxc_is (D := D) (c := c) (p := pt D c (j + 1 + t)) w1.1).resolve_left (fun z => h (j + 1 + t) (by omega) z.1)
        show (j : Int) + 2 + ((t + 1 : Nat) : Int) ≤ cLt D c (pt D c (j + 1 + t + 1))
        omega
    have k := key (N.toNat - (j + 1)) (by omega)
    have a := all (pt D c (j + 1 + (N.toNat - (j + 1))))
    have b := cAt_b (D := D) (c := c) (p := pt D c (j + 1 + (N.toNat - (j + 1))))
    omega
  · have i := (wlk_inc w h).2
    have a := all (pt D c N.toNat)
    have b := cAt_b (D := D) (c := c) (p := pt D c N.toNat)
    omega
/-- a chain is closed -/
def clo (D : Dr) (c : Int) : Prop := wlk D c (sc D c (fun _ => 1)).toNat
theorem dr_nextInChain_eq (hA : AtC D h 1) (w : WF D) {p : Int} : dr_nextInChain 1 c p h = some (if nxc D c p = -999 then -1 else nxc D c p, h) := by
  have w1 := w.2.1
  have em : h 1 8 = D 7 1 := hA.1.2.1.symm
  unfold dr_nextInChain
  refine it1_find (F := dr_nextInChain_f2 1 c p) (fun k => (k : Int)) (fun _ => h) (D 7 1).toNat (fun d => at1 D c p d) (fun k x hx hp => ?_) (fun k x hx hp hy => ?_) (fun k hy => ?_) fuel 0 (Nat.zero_le _) (by unfold fuel; omega) (fun y g => absurd g (Nat.not_lt_zero _))
  · obtain ⟨r1, -, -, -, r5, -⟩ := hA.rows (d := (x : Int)) (by omega) (by omega)
    simp only [dr_nextInChain_f2, dr_nextInChain_b32, Nat.reduceAdd]
    rw [em, if_pos (by omega), ix_in (by omega) (by omega), r5]
    by_cases q : D 5 x = c
    · rw [if_pos q, ix_in (by omega) (by omega), r1, if_neg (fun z => hp ⟨q, z⟩), ck_in ⟨by omega, by omega⟩]
      rfl
    · rw [if_neg q, ck_in ⟨by omega, by omega⟩]
      rfl
  · obtain ⟨r1, -, -, -, r5, -⟩ := hA.rows (d := (x : Int)) (by omega) (by omega)
    have e : nxc D c p = x := ff_some (P := at1 D c p) hp hy hx
    simp only [dr_nextInChain_f2, Nat.reduceAdd]
    rw [em, if_pos (by omega), ix_in (by omega) (by omega), r5, if_pos hp.1, ix_in (by omega) (by omega), r1, if_pos hp.2, e, if_neg (by omega)]
  · have e : nxc D c p = -999 := ff_none hy
    unfold dr_nextInChain_f2
    rw [em, if_neg (by omega), e, if_pos rfl]
theorem dr_isClosed_eq (hA : AtC D h 1) (w : WF D) : dr_isClosed 1 c h = some (tb (clo D c), h) := by
  have w1 := w.2.1
  have sb : 0 ≤ sc D c (fun _ => 1) ∧ sc D c (fun _ => 1) ≤ ((D 7 1).toNat : Int) := sc1_b (D := D) (c := c) (D 7 1).toNat
  unfold dr_isClosed
  rw [bd_eq (dr_countOfChain_eq hA w), bd_eq (dr_beginOfChain_eq hA w)]
  have key : ∀ (n x : Nat), x ≤ (sc D c (fun _ => 1)).toNat → (sc D c (fun _ => 1)).toNat - x < n → wlk D c x → iter3 (dr_isClosed_f15 1 c) n (sc D c (fun _ => 1)) (pt D c x) x h = some (tb (clo D c), h) := fun n => by
    induction n with
    | zero => intro x _ g; omega
    | succ n ih =>
      intro x hx g hy
      show dr_isClosed_f15 1 c (iter3 (dr_isClosed_f15 1 c) n) (sc D c (fun _ => 1)) (pt D c x) x h = _
      unfold dr_isClosed_f15
      rcases Nat.lt_or_ge x (sc D c (fun _ => 1)).toNat with q | q
      · rw [if_pos (by omega), bd_eq (dr_nextInChain_eq hA w)]
        rcases nxc_is (D := D) (c := c) (p := pt D c x) w1.1 with z | z
        · rw [if_pos z.1, if_pos (by decide), tb_f (fun y => y x q z.1)]
        · have r2 := (hA.rows z.1.1 z.1.2).2.1
          have i := ih (x + 1) q (by omega) (fun y g => by
            by_cases e : y = x
            · rw [e]
              omega
            · exact hy y (by omega))
          rw [if_neg (by omega), if_neg (by omega), ix_in z.1.1 (by omega), ck_in ⟨by omega, by omega⟩, show h (1 + 3) (nxc D c (pt D c x)) = D 2 (nxc D c (pt D c x)) from r2]
          exact i
      · have e : x = (sc D c (fun _ => 1)).toNat := by omega
        rw [if_neg (by omega), tb_t (show clo D c by unfold clo; rw [← e]; exact hy)]
  exact key fuel 0 (Nat.zero_le _) (by unfold fuel; omega) (fun j hj => absurd hj (Nat.not_lt_zero _))
/-- the last of a chain's dimensions that begin at p, among the first k -/
def laN (D : Dr) (c p : Int) : Nat → Int
  | 0 => -999
  | k + 1 => if at1 D c p k then (k : Int) else laN D c p k
theorem laN_is {p : Int} : ∀ n : Nat, (laN D c p n = -999 ∧ ∀ d : Int, 0 ≤ d → d < n → ¬ at1 D c p d) ∨ ((0 ≤ laN D c p n ∧ laN D c p n < n) ∧ at1 D c p (laN D c p n))
  | 0 => Or.inl ⟨rfl, fun d a b => by omega⟩
  | n + 1 => by
    have i := laN_is (p := p) n
    unfold laN
    by_cases q : at1 D c p n
    · rw [if_pos q]
      exact Or.inr ⟨by omega, q⟩
    · rw [if_neg q]
      rcases i with ⟨i1, i2⟩ | ⟨i1, i2⟩
      · refine Or.inl ⟨i1, fun d a b => ?_⟩
        by_cases e : d = n
        · rw [e]; exact q
        · exact i2 d a (by omega)
      · exact Or.inr ⟨by omega, i2⟩
theorem laN_nxc {p : Int} (hn : 0 ≤ D 7 1) (h1 : cAt D c p = 1) : laN D c p (D 7 1).toNat = nxc D c p := by
  obtain ⟨a1, a2, -⟩ := (nxc_is (D := D) (c := c) (p := p) hn).resolve_left (fun z => by omega)
  rcases laN_is (D := D) (c := c) (p := p) (D 7 1).toNat with ⟨-, z⟩ | ⟨b1, b2⟩
  · exact absurd a2 (z _ a1.1 (by omega))
  · refine Classical.byContradiction fun n => ?_
    have e : sumI (fun i => if i = laN D c p (D 7 1).toNat then (1 : Int) else 0) (D 7 1).toNat = 1 := by
      rw [sumI_only (v := laN D c p (D 7 1).toNat) b1.1 b1.2 (fun i _ _ z => if_neg z), if_pos rfl]
    have := sumI_lt (g := fun i => if i = laN D c p (D 7 1).toNat then (1 : Int) else 0) (g' := fun d => yn (at1 D c p d)) (v := nxc D c p) (D 7 1).toNat (fun i _ _ => by
      show (if i = laN D c p (D 7 1).toNat then (1 : Int) else 0) ≤ yn (at1 D c p i)
      by_cases q : i = laN D c p (D 7 1).toNat
      · rw [if_pos q, q, yn_t b2]
        omega
      · rw [if_neg q]
        exact yn_b.1) a1.1 (by omega) (by
      show (if nxc D c p = laN D c p (D 7 1).toNat then (1 : Int) else 0) + 1 ≤ yn (at1 D c p (nxc D c p))
      rw [if_neg (fun z => n z.symm), yn_t a2]
      omega)
    unfold cAt at h1
    omega
theorem closed_in (hM : AtM D h 0) (w : WF D) {p x3 : Int} (k12 : Int → Int → Int → Hp → O Int) : iter5 (mo_isClosed_f28 132 c k12) fuel p x3 (-999) 0 0 h = if cAt D c p = 1 then mo_isClosed_b115 132 c k12 p x3 (laN D c p (D 7 1).toNat) 1 h else mo_isClosed_b115 132 c k12 p x3 (laN D c p (D 7 1).toNat) 0 h := by
  have w1 := w.2.1
  have em : h (132 + 1) 13 = D 7 1 := hM.m
  refine it5_seq (F := mo_isClosed_f28 132 c k12) (fun _ => p) (fun _ => x3) (fun k => laN D c p k) (fun k => sumI (fun d => yn (at1 D c p d)) k) (fun k => (k : Int)) (fun _ => h) (D 7 1).toNat (fun k x hx => ?_) (fun k => ?_) fuel 0 (Nat.zero_le _) (by unfold fuel; omega)
  · obtain ⟨o0, o1, o2, o3, o4⟩ := hM.ofs w (d := (x : Int)) (by omega) (by omega)
    have sb := sum_yn (P := at1 D c p) x
    have e1 : laN D c p (x + 1) = if at1 D c p x then (x : Int) else laN D c p x := rfl
    rw [sumI_s, e1]
    have no : ¬ at1 D c p x → mo_isClosed_b66 132 c k p x3 (laN D c p x) (sumI (fun d => yn (at1 D c p d)) x) x h = k p x3 (if at1 D c p x then (x : Int) else laN D c p x) (sumI (fun d => yn (at1 D c p d)) x + yn (at1 D c p x)) ((x + 1 : Nat) : Int) h := fun n => by
      unfold mo_isClosed_b66 mo_isClosed_b67 mo_isClosed_b81 mo_isClosed_b95
      rw [if_pos rfl, if_pos rfl, yn_f n, if_neg n, ck_in ⟨by omega, by omega⟩, ck_in ⟨by omega, by omega⟩]
      rfl
    unfold mo_isClosed_f28
    rw [ix_in (by omega) (by omega), em, if_pos (by omega), bd_eq o4]
    by_cases q : D 5 x = c
    · rw [if_pos q, bd_eq o0]
      by_cases q2 : D 1 x = p
      · have y : at1 D c p x := ⟨q, q2⟩
        rw [if_pos q2]
        unfold mo_isClosed_b67 mo_isClosed_b81 mo_isClosed_b95
        rw [if_neg (show ¬ (1 : Int) = 0 by decide), if_neg (show ¬ (1 : Int) = 0 by decide), yn_t y, if_pos y, ck_in ⟨by omega, by omega⟩, ck_in ⟨by omega, by omega⟩]
        rfl
      · rw [if_neg q2, no (fun z => q2 z.2)]
    · rw [if_neg q, no (fun z => q z.1)]
  · unfold mo_isClosed_f28
    rw [ix_in (by omega) (by omega), em, if_neg (by omega)]
    rfl
theorem mo_isClosed_eq (hM : AtM D h 0) (w : WF D) (hc : sc D c (fun _ => 1) ≠ 0) : mo_isClosed 132 c h = some (tb (clo D c), h) := by
  have w0 := w.1
  have w1 := w.2.1
  have sb : 0 ≤ sc D c (fun _ => 1) ∧ sc D c (fun _ => 1) ≤ ((D 7 1).toNat : Int) := sc1_b (D := D) (c := c) (D 7 1).toNat
  have bz1 : bz 1 = (fun (E : O Int) => E) := funext fun E => if_pos (Or.inr rfl)
  have bz0 : bz 0 = (fun (E : O Int) => E) := funext fun E => if_pos (Or.inl rfl)
  unfold mo_isClosed
  rw [bd_eq (mo_begin_eq hM w hc)]
  have pb : ∀ k, wlk D c k → 0 ≤ pt D c k ∧ pt D c k ≤ 11 := fun k => by
    induction k with
    | zero =>
      intro _
      have b := bgN_b (c := c) w (D 7 1).toNat (by omega)
      have b2 := b.2.2 hc
      show 0 ≤ bg D c ∧ bg D c ≤ 11
      unfold bg
      omega
    | succ k ih =>
      intro hw
      obtain ⟨n1, n2, -⟩ := (nxc_is (D := D) (c := c) (p := pt D c k) w1.1).resolve_left (fun z => hw k (by omega) z.1)
      have dw := (w.dim n1.1 n1.2).1
      show 0 ≤ D 2 (nxc D c (pt D c k)) ∧ D 2 (nxc D c (pt D c k)) ≤ 11
      omega
  have stop : ∀ k : Nat, (∀ j, j < k → cAt D c (pt D c j) = 1) → cAt D c (pt D c k) ≠ 1 → wlk D c k → ((k : Int) = sc D c (fun _ => 1) ↔ clo D c) := fun k h1 h2 hw => by
    constructor
    · intro e
      unfold clo
      rw [show (sc D c (fun _ => 1)).toNat = k by omega]
      exact hw
    · intro hcl
      obtain ⟨o1, o2⟩ := wlk_once w hcl
      rcases Nat.lt_trichotomy k (sc D c (fun _ => 1)).toNat with z | z | z
      · exact absurd (o1 k z) h2
      · omega
      · have := h1 _ z
        omega
  obtain ⟨r, h2, e1, e2, e3⟩ : wp (iter3 (mo_isClosed_f12 132 c) fuel (bg D c) 0 1 h) (fun r h' => r = tb (clo D c) ∧ h' = h) := by
    refine wp_it3 (fun x2 x3 x4 h' => h' = h ∧ ∃ k : Nat, (k : Int) ≤ sc D c (fun _ => 1) ∧ x3 = k ∧ wlk D c k ∧ (∀ j, j < k → cAt D c (pt D c j) = 1) ∧ ((x4 = 1 ∧ x2 = pt D c k) ∨ (x4 = 0 ∧ x2 = pt D c k ∧ cAt D c (pt D c k) ≠ 1))) (fun x2 _ x4 _ => (2 * (20 - x2) + x4).toNat) (fun x2 x3 x4 h' hI k12 hk => ?_) fuel _ _ _ _ ⟨rfl, 0, by omega, rfl, fun j hj => absurd hj (Nat.not_lt_zero _), fun j hj => absurd hj (Nat.not_lt_zero _), Or.inl ⟨rfl, rfl⟩⟩ (by
      have := pb 0 (fun j hj => absurd hj (Nat.not_lt_zero _))
      have e : bg D c = pt D c 0 := rfl
      unfold fuel
      omega)
    obtain ⟨eh, k, hk1, e3, hw, h1, hx⟩ := hI
    subst eh
    subst e3
    unfold mo_isClosed_f12
    have pk := pb k hw
    rcases hx with ⟨e4, e2⟩ | ⟨e4, e2, n1⟩
    · rw [if_neg (by omega), closed_in hM w, e2]
      unfold mo_isClosed_b115 mo_isClosed_b128 mo_isClosed_b146
      by_cases q : cAt D c (pt D c k) = 1
      · obtain ⟨n1, n2, -⟩ := (nxc_is (D := D) (c := c) (p := pt D c k) w1.1).resolve_left (fun z => by omega)
        have nn : nxc D c (pt D c k) ≠ -999 := by omega
        have hw' : wlk D c (k + 1) := fun j hj => by
          by_cases e : j = k
          · rw [e]; exact nn
          · exact hw j (by omega)
        have inc := wlk_inc w hw'
        have i1 := inc.1 k (by omega)
        have cb := cLt_all (D := D) (c := c) (p := pt D c (k + 1))
        have ca := cAt_b (D := D) (c := c) (p := pt D c (k + 1))
        have i2 := inc.2
        obtain ⟨o0, o1, o2, o3, o4⟩ := hM.ofs w n1.1 n1.2
        rw [if_pos q, if_neg (show ¬ (1 : Int) = 0 by decide), ck_in ⟨by omega, by omega⟩, if_neg (show ¬ (1 : Int) = 0 by decide), laN_nxc w1.1 q, bd_eq o1]
        refine hk _ _ _ _ ⟨rfl, k + 1, by omega, rfl, hw', fun j hj => ?_, Or.inl ⟨rfl, rfl⟩⟩ ?_
        · by_cases e : j = k
          · rw [e]; exact q
          · exact h1 j (by omega)
        · have pk1 := pb (k + 1) hw'
          have ept : pt D c (k + 1) = D 2 (nxc D c (pt D c k)) := rfl
          omega
      · rw [if_neg q, if_pos rfl, ck_in ⟨by omega, by omega⟩, if_pos rfl, Int.add_zero]
        exact hk _ _ _ _ ⟨rfl, k, hk1, rfl, hw, h1, Or.inr ⟨rfl, rfl, q⟩⟩ (by omega)
    · rw [if_pos e4, bd_eq (mo_sumOf_eq hM w)]
      have eg : sc D c (gw D 0) = sc D c (fun _ => 1) := rfl
      unfold mo_isClosed_b165
      rw [eg, bz0, bz1]
      by_cases q : (k : Int) = sc D c (fun _ => 1)
      · rw [if_pos q]
        exact wp_ret ⟨(tb_t ((stop k h1 n1 hw).mp q)).symm, rfl⟩
      · rw [if_neg q]
        exact wp_ret ⟨(tb_f (fun z => q ((stop k h1 n1 hw).mpr z))).symm, rfl⟩
  rw [e1, e2, e3]
end CLS

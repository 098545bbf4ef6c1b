section GRPH
variable {D : Dr} {W : Int → Prop} {j : Nat} {x y z : Int}
/-- joined by the dimensions below j that are not in W -/
def cnn (D : Dr) (W : Int → Prop) (j : Nat) (x y : Int) : Prop := ∃ z, Wk (eE D (fun e => W e ∨ (j : Int) ≤ e) (-999)) x y z
theorem cnn_refl : cnn D W j x x := ⟨0, Wk.nil⟩
theorem cnn_trans (a : cnn D W j x y) (b : cnn D W j y z) : cnn D W j x z := by
  obtain ⟨u, hu⟩ := a
  obtain ⟨v, hv⟩ := b
  exact ⟨_, hu.trans hv⟩
theorem eE_rev {X u v : Int} (e : eE D W X u v x) : ∃ y, eE D W X v u y := by
  obtain ⟨d, d1, d2, d3⟩ := e
  rcases d3 with ⟨a, b, c⟩ | ⟨a, b, c⟩
  · exact ⟨_, d, d1, d2, Or.inr ⟨b, a, rfl⟩⟩
  · exact ⟨_, d, d1, d2, Or.inl ⟨b, a, rfl⟩⟩
theorem Wk_rev {X a b : Int} (g : Wk (eE D W X) a b x) : ∃ y, Wk (eE D W X) b a y := g.ind (P := fun v _ => ∃ y, Wk (eE D W X) v a y) ⟨0, Wk.nil⟩ (fun u v w z e _ p => by
  obtain ⟨y, hy⟩ := p
  obtain ⟨y2, e2⟩ := eE_rev e
  exact ⟨_, (Wk.one e2).trans hy⟩)
theorem cnn_symm (a : cnn D W j x y) : cnn D W j y x := by
  obtain ⟨u, hu⟩ := a
  exact Wk_rev hu
theorem cnn_add (hj : (j : Int) < D 7 1) (h : cnn D W (j + 1) x y) : cnn D W j x y ∨ (cnn D W j x (D 1 j) ∧ cnn D W j (D 2 j) y) ∨ (cnn D W j x (D 2 j) ∧ cnn D W j (D 1 j) y) := by
  obtain ⟨z, hz⟩ := h
  refine hz.ind (P := fun v _ => cnn D W j x v ∨ (cnn D W j x (D 1 j) ∧ cnn D W j (D 2 j) v) ∨ (cnn D W j x (D 2 j) ∧ cnn D W j (D 1 j) v)) (Or.inl cnn_refl) (fun u v w t e _ p => ?_)
  obtain ⟨d, d1, d2, d3⟩ := e
  by_cases c : d = j
  · subst c
    rcases d3 with ⟨rfl, rfl, -⟩ | ⟨rfl, rfl, -⟩
    · rcases p with p | p | p
      · exact Or.inr (Or.inl ⟨p, cnn_refl⟩)
      · exact Or.inr (Or.inl ⟨p.1, cnn_refl⟩)
      · exact Or.inl p.1
    · rcases p with p | p | p
      · exact Or.inr (Or.inr ⟨p, cnn_refl⟩)
      · exact Or.inl p.1
      · exact Or.inr (Or.inr ⟨p.1, cnn_refl⟩)
  · have st : cnn D W j u v := ⟨w, Wk.one ⟨d, d1, fun q => d2 (q.imp id (fun q => by omega)), d3⟩⟩
    rcases p with p | p | p
    · exact Or.inl (cnn_trans p st)
    · exact Or.inr (Or.inl ⟨p.1, cnn_trans p.2 st⟩)
    · exact Or.inr (Or.inr ⟨p.1, cnn_trans p.2 st⟩)
theorem cnn_in (hW : W j) : cnn D W (j + 1) x y ↔ cnn D W j x y := by
  unfold cnn
  rw [eE_congr (D := D) (W := fun e => W e ∨ ((j + 1 : Nat) : Int) ≤ e) (W' := fun e => W e ∨ (j : Int) ≤ e) (fun e _ _ => by
    constructor
    · exact fun q => q.imp id (fun q => by omega)
    · rintro (q | q)
      · exact Or.inl q
      · by_cases c : e = j
        · exact Or.inl (c ▸ hW)
        · exact Or.inr (by omega))]
theorem cnn_out (h : cnn D W j x y) : cnn D W (j + 1) x y := by
  obtain ⟨z, hz⟩ := h
  exact ⟨z, Wk_sub (eE_sub (fun e _ _ q => q.imp id (fun q => by omega))) hz⟩
/-- the first of its group -/
def fsC (D : Dr) (W : Int → Prop) (j : Nat) (p : Int) : Prop := ∀ q, 0 ≤ q → q < p → ¬ cnn D W j q p
theorem fsC_one (hj : (j : Int) < D 7 1) {p1 p2 : Int} (f1 : fsC D W j p1) (n1 : ¬ fsC D W (j + 1) p1) (f2 : fsC D W j p2) (n2 : ¬ fsC D W (j + 1) p2) (h1 : 0 ≤ p1) (h2 : 0 ≤ p2) : p1 = p2 := by
  have get : ∀ p, fsC D W j p → ¬ fsC D W (j + 1) p → ∃ q, (0 ≤ q ∧ q < p) ∧ ((cnn D W j q (D 1 j) ∧ cnn D W j (D 2 j) p) ∨ (cnn D W j q (D 2 j) ∧ cnn D W j (D 1 j) p)) := fun p f n => by
    refine Classical.byContradiction fun z => n (fun q a b c => ?_)
    exact z ⟨q, ⟨a, b⟩, (cnn_add hj c).resolve_left (f q a b)⟩
  have same : ∀ p, cnn D W j p p1 → cnn D W j p p2 → p1 = p2 := fun p a b => by
    have c := cnn_trans (cnn_symm a) b
    rcases Int.lt_trichotomy p1 p2 with t | t | t
    · exact absurd c (f2 p1 h1 t)
    · exact t
    · exact absurd (cnn_symm c) (f1 p2 h2 t)
  obtain ⟨q1, a1, b1⟩ := get p1 f1 n1
  obtain ⟨q2, a2, b2⟩ := get p2 f2 n2
  rcases b1 with b1 | b1
  · rcases b2 with b2 | b2
    · exact same _ b1.2 b2.2
    · have c1 : ¬ q1 < p2 := fun t => f2 q1 a1.1 t (cnn_trans b1.1 b2.2)
      have c2 : ¬ q2 < p1 := fun t => f1 q2 a2.1 t (cnn_trans b2.1 b1.2)
      omega
  · rcases b2 with b2 | b2
    · have c1 : ¬ q1 < p2 := fun t => f2 q1 a1.1 t (cnn_trans b1.1 b2.2)
      have c2 : ¬ q2 < p1 := fun t => f1 q2 a2.1 t (cnn_trans b2.1 b1.2)
      omega
    · exact same _ b1.2 b2.2
noncomputable def cfC (D : Dr) (W : Int → Prop) (j n : Nat) : Int := sumI (fun p => tb (fsC D W j p)) n
theorem sumI_one {g g' : Int → Int} {v : Int} (hv : g v ≤ g' v + 1) : ∀ n : Nat, (∀ i : Int, 0 ≤ i → i < n → i ≠ v → g i ≤ g' i) → sumI g n ≤ sumI g' n + (if 0 ≤ v ∧ v < (n : Int) then 1 else 0)
  | 0, _ => by
    rw [if_neg (by omega)]
    exact Int.le_refl _
  | n + 1, h => by
    have i := sumI_one hv n (fun i a b c => h i a (by omega) c)
    show sumI g n + g n ≤ sumI g' n + g' n + _
    by_cases c : (n : Int) = v
    · rw [if_neg (by omega)] at i
      rw [if_pos (by omega), c]
      omega
    · have := h n (by omega) (by omega) c
      by_cases c2 : 0 ≤ v ∧ v < (n : Int)
      · rw [if_pos c2] at i
        rw [if_pos (by omega)]
        omega
      · rw [if_neg c2] at i
        rw [if_neg (by omega)]
        omega
theorem cfC_step (hj : (j : Int) < D 7 1) (n : Nat) : cfC D W j n ≤ cfC D W (j + 1) n + tb (¬ W j) := by
  unfold cfC
  by_cases c : W j
  · rw [tb_f (fun q => q c), Int.add_zero]
    refine Int.le_of_eq (sumI_congr (fun i _ _ => tb_congr ?_))
    unfold fsC
    exact ⟨fun f q a b d => f q a b ((cnn_in c).mp d), fun f q a b d => f q a b ((cnn_in c).mpr d)⟩
  · rw [tb_t c]
    have le1 : ∀ i : Int, (fsC D W j i → fsC D W (j + 1) i) → tb (fsC D W j i) ≤ tb (fsC D W (j + 1) i) := fun i hi => by
      by_cases f : fsC D W j i
      · rw [tb_t f, tb_t (hi f)]
        exact Int.le_refl _
      · rw [tb_f f]
        exact tb_b.1
    by_cases e : ∃ p, 0 ≤ p ∧ fsC D W j p ∧ ¬ fsC D W (j + 1) p
    · obtain ⟨p, p0, p1, p2⟩ := e
      have key := sumI_one (g := fun p => tb (fsC D W j p)) (g' := fun p => tb (fsC D W (j + 1) p)) (v := p) (by
        have a := tb_b (P := fsC D W j p)
        have b := tb_b (P := fsC D W (j + 1) p)
        show tb (fsC D W j p) ≤ tb (fsC D W (j + 1) p) + 1
        omega) n (fun i a b c => le1 i (fun f => Classical.byContradiction fun z => c (fsC_one hj f z p1 p2 a p0)))
      have : (if 0 ≤ p ∧ p < (n : Int) then (1 : Int) else 0) ≤ 1 := by split <;> omega
      omega
    · have key := sumI_mono (g := fun p => tb (fsC D W j p)) (g' := fun p => tb (fsC D W (j + 1) p)) n (fun i a b => le1 i (fun f => Classical.byContradiction fun z => e ⟨i, a, f, z⟩))
      omega
theorem cfC_zero : ∀ n : Nat, cfC D W 0 n = n
  | 0 => rfl
  | n + 1 => by
    have i := cfC_zero n
    have f : fsC D W 0 n := fun q a b c => by
      obtain ⟨z, hz⟩ := c
      have : (n : Int) = q := hz.ind (P := fun v _ => v = q) rfl (fun u v w t e _ _ => by
        obtain ⟨d, d1, d2, -⟩ := e
        exact absurd (Or.inr (show ((0 : Nat) : Int) ≤ d by omega)) d2)
      omega
    have e : cfC D W 0 (n + 1) = cfC D W 0 n + tb (fsC D W 0 n) := rfl
    rw [e, i, tb_t f]
    rfl
theorem cfC_all (n : Nat) : ∀ j : Nat, (j : Int) ≤ D 7 1 → (n : Int) ≤ cfC D W j n + sumI (fun i => tb (¬ W i)) j
  | 0, _ => by
    rw [cfC_zero]
    show (n : Int) ≤ n + 0
    omega
  | j + 1, h => by
    have i := cfC_all n j (by omega)
    have s := cfC_step (D := D) (W := W) (j := j) (by omega) n
    have e : sumI (fun i => tb (¬ W i)) (j + 1) = sumI (fun i => tb (¬ W i)) j + tb (¬ W j) := rfl
    omega
/-- what is left is what was not removed -/
theorem lfN_kp (w : WF D) : ∀ k : Nat, (k : Int) ≤ D 7 1 → lfN D k = sumI (fun i => tb (¬ rW D k i)) (D 7 1).toNat
  | 0, _ => by
    have w1 := w.2.1
    have all : ∀ n : Nat, sumI (fun i => tb (¬ rW D 0 i)) n = n := fun n => by
      induction n with
      | zero => rfl
      | succ n ih =>
        show sumI (fun i => tb (¬ rW D 0 i)) n + tb (¬ rW D 0 n) = _
        rw [ih, tb_t (show ¬ rW D 0 (n : Int) from fun z => z)]
        rfl
    rw [all]
    show D 7 1 = _
    omega
  | k + 1, h => by
    have w1 := w.2.1
    have i := lfN_kp w k (by omega)
    have e : lfN D (k + 1) = lfN D k - tb (sup D (rW D k) (D 7 1 - 1 - k)) := rfl
    have u := sumI_upd (g := fun i => tb (¬ rW D k i)) (g' := fun i => tb (¬ rW D (k + 1) i)) (v := D 7 1 - 1 - k) (c := -tb (sup D (rW D k) (D 7 1 - 1 - k))) (D 7 1).toNat (by omega) (by omega) (fun i a b c => by
      refine tb_congr ⟨fun z q => z (Or.inl q), fun z q => ?_⟩
      rcases q with q | q
      · exact z q
      · exact c q.1) (by
      have n0 : ¬ rW D k (D 7 1 - 1 - k) := fun z => by
        have := rW_b k z
        omega
      show tb (¬ rW D (k + 1) (D 7 1 - 1 - k)) = tb (¬ rW D k (D 7 1 - 1 - k)) + _
      rw [tb_t n0]
      by_cases c : sup D (rW D k) (D 7 1 - 1 - k)
      · rw [tb_t c, tb_f (fun z => z (Or.inr ⟨rfl, c⟩))]
        rfl
      · rw [tb_f c, tb_t (fun z => z.elim n0 (fun z => c z.2))]
        rfl)
    rw [e, u, i]
    omega
/-- a superfluous dimension's steps can be walked without it -/
theorem sup_wk (w : WF D) {d : Int} (hd : 0 ≤ d ∧ d < D 7 1) (s : sup D W d) : (∃ y, y ≤ vD D d + D 4 d ∧ Wk (eE D (fun e => W e ∨ e = d) (-999)) (D 1 d) (D 2 d) y) ∧ ∃ y, y ≤ D 3 d - vD D d ∧ Wk (eE D (fun e => W e ∨ e = d) (-999)) (D 2 d) (D 1 d) y := by
  have w0 := w.1
  have dw := w.dim hd.1 hd.2
  have vb : 0 < vD D d ∧ vD D d ≤ 300 := by
    unfold vD
    omega
  have d34 := w.2.2.2.2.2.2 d hd.1 hd.2
  have s1 := sp_W (W := fun e => W e ∨ e = d) w (a := D 1 d) (by omega)
  have s2 := sp_W (W := fun e => W e ∨ e = d) w (a := D 2 d) (by omega)
  obtain ⟨-, y1, y2, y3⟩ := (s1.2.1 (D 2 d) (by omega) (by omega)).resolve_left (by have := s.1; omega)
  obtain ⟨-, z1, z2, z3⟩ := (s2.2.1 (D 1 d) (by omega) (by omega)).resolve_left (by have := s.2; omega)
  exact ⟨⟨y1, Int.le_trans y2 s.1, y3⟩, z1, Int.le_trans z2 s.2, z3⟩
/-- walks go on when a superfluous dimension is taken away, and are no longer -/
theorem Wk_rm (w : WF D) {d a b : Int} (hd : 0 ≤ d ∧ d < D 7 1) (s : sup D W d) (g : Wk (eE D W (-999)) a b x) : ∃ y, y ≤ x ∧ Wk (eE D (fun e => W e ∨ e = d) (-999)) a b y := by
  obtain ⟨⟨y1, y2, y3⟩, z1, z2, z3⟩ := sup_wk w hd s
  refine g.ind (P := fun v t => ∃ y, y ≤ t ∧ Wk (eE D (fun e => W e ∨ e = d) (-999)) a v y) ⟨0, Int.le_refl _, Wk.nil⟩ (fun u v x t e _ p => ?_)
  obtain ⟨y, py, hy⟩ := p
  obtain ⟨k, k1, k2, k3⟩ := e
  by_cases c : k = d
  · subst c
    rw [if_neg (show ¬ k = -999 by omega), if_neg (show ¬ k = -999 by omega)] at k3
    rcases k3 with ⟨rfl, rfl, rfl⟩ | ⟨rfl, rfl, rfl⟩
    · exact ⟨_, by omega, hy.trans y3⟩
    · exact ⟨_, by omega, hy.trans z3⟩
  · exact ⟨_, by omega, hy.step ⟨k, k1, fun q => q.elim k2 c, k3⟩⟩
theorem rW_s (k : Nat) (s : sup D (rW D k) (D 7 1 - 1 - k)) : eE D (fun e => rW D k e ∨ e = D 7 1 - 1 - k) (-999) = eE D (rW D (k + 1)) (-999) := eE_congr (fun e _ _ => ⟨fun q => q.imp id (fun q => ⟨q, by rw [q]; exact s⟩), fun q => q.imp id (fun q => q.1)⟩)
theorem rW_n (k : Nat) (s : ¬ sup D (rW D k) (D 7 1 - 1 - k)) : eE D (rW D (k + 1)) (-999) = eE D (rW D k) (-999) := eE_congr (fun e _ _ => ⟨fun q => q.elim id (fun q => absurd (by rw [← q.1]; exact q.2) s), Or.inl⟩)
theorem Wk_keep (w : WF D) {a b : Int} (g : Wk (E0 D) a b x) : ∀ k : Nat, (k : Int) ≤ D 7 1 → ∃ y, Wk (eE D (rW D k) (-999)) a b y
  | 0, _ => ⟨x, g⟩
  | k + 1, h => by
    obtain ⟨y, hy⟩ := Wk_keep w g k (by omega)
    by_cases c : sup D (rW D k) (D 7 1 - 1 - k)
    · obtain ⟨z, -, hz⟩ := Wk_rm w (by omega) c hy
      rw [rW_s k c] at hz
      exact ⟨z, hz⟩
    · rw [rW_n k c]
      exact ⟨y, hy⟩
theorem bnd_wk (w : WF D) {a b : Int} (ha : 0 ≤ a ∧ a < 12) (hb : 0 ≤ b ∧ b < 12) : bnd D a b ↔ ∃ y, Wk (E0 D) a b y := by
  have s := sp_dd w ha
  constructor
  · intro z
    obtain ⟨-, y, -, hy⟩ := (s.2.1 b hb.1 hb.2).resolve_left z
    exact ⟨y, hy⟩
  · rintro ⟨y, hy⟩
    exact (s.low hy).1
/-- no fewer dimensions are needed than points less groups -/
theorem need_ge (w : WF D) : D 7 0 - cntF D (D 7 0).toNat ≤ aNeed D := by
  have w0 := w.1
  have w1 := w.2.1
  have em : (((D 7 1).toNat : Nat) : Int) = D 7 1 := Int.toNat_of_nonneg w1.1
  have key := cfC_all (D := D) (W := rW D (D 7 1).toNat) (D 7 0).toNat (D 7 1).toNat (by omega)
  have ek : aNeed D = sumI (fun i => tb (¬ rW D (D 7 1).toNat i)) (D 7 1).toNat := lfN_kp w (D 7 1).toNat (by omega)
  have ec : cfC D (rW D (D 7 1).toNat) (D 7 1).toNat (D 7 0).toNat = cntF D (D 7 0).toNat := by
    unfold cfC cntF
    refine sumI_congr (fun p p0 p1 => tb_congr ?_)
    have iff : ∀ q, 0 ≤ q → q < p → (cnn D (rW D (D 7 1).toNat) (D 7 1).toNat q p ↔ bnd D q p) := fun q a b => by
      rw [bnd_wk w (by omega) (by omega)]
      unfold cnn
      constructor
      · rintro ⟨z, hz⟩
        exact ⟨z, Wk_sub (eE_sub (fun e _ _ q => q.elim)) hz⟩
      · rintro ⟨z, hz⟩
        obtain ⟨y, hy⟩ := Wk_keep w hz (D 7 1).toNat (by omega)
        refine ⟨y, ?_⟩
        rw [eE_congr (D := D) (W := fun e => rW D (D 7 1).toNat e ∨ (((D 7 1).toNat : Nat) : Int) ≤ e) (W' := rW D (D 7 1).toNat) (fun e _ e1 => ⟨fun q => q.elim id (fun q => by omega), Or.inl⟩)]
        exact hy
    exact ⟨fun f q a b c => f q a b ((iff q a b).mpr c), fun f q a b c => f q a b ((iff q a b).mp c)⟩
  omega
end GRPH

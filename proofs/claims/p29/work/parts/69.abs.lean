section ABS
theorem sumI_upd {g g' : Int → Int} {v c : Int} : ∀ n : Nat, 0 ≤ v → v < n → (∀ i : Int, 0 ≤ i → i < n → i ≠ v → g' i = g i) → g' v = g v + c → sumI g' n = sumI g n + c
  | 0, h0, h1, _, _ => by omega
  | n + 1, h0, h1, he, hv => by
    show sumI g' n + g' n = sumI g n + g n + c
    by_cases q : v = n
    · subst q
      rw [sumI_congr (g' := g) (fun i a b => he i a (by omega) (by omega)), hv]
      omega
    · rw [sumI_upd n h0 (by omega) (fun i a b => he i a (by omega)) hv, he n (by omega) (by omega) (fun z => q z.symm)]
      omega
theorem sumI_mono {g g' : Int → Int} : ∀ n : Nat, (∀ i : Int, 0 ≤ i → i < n → g i ≤ g' i) → sumI g n ≤ sumI g' n
  | 0, _ => Int.le_refl _
  | n + 1, he => by
    show sumI g n + g n ≤ sumI g' n + g' n
    have := sumI_mono n (fun i a b => he i a (by omega))
    have := he n (by omega) (by omega)
    omega
variable {D : Dr}
theorem ld_ld {d : Int} (h0 : 0 ≤ d) : ld D (ld D d) = ld D d := by
  obtain ⟨a, b, c⟩ := ld_is (D := D) h0
  obtain ⟨a', b', c'⟩ := ld_is (D := D) a.1
  rcases b with e | e
  · rw [e, e]
  · rcases b' with e' | e'
    · exact e'
    · by_cases q : ld D (ld D d) = ld D d
      · exact q
      · exact absurd ⟨e.1, by rw [e'.2, e.2]⟩ (c (ld D (ld D d)) a'.1 (by omega))
/-- spans and least lanes of units -/
def uS (D : Dr) (u : Int) : Int := uf D min (v0 D) u (D 7 1).toNat
def uT (D : Dr) (u : Int) : Int := uf D max (v1 D) u (D 7 1).toNat
def uL (D : Dr) (u : Int) : Int := uf D max (D 6) u (D 7 1).toNat
theorem WF.uST (w : WF D) {u : Int} (h0 : 0 ≤ u) (h1 : u < D 7 1) : (0 ≤ uS D u ∧ uS D u ≤ 300) ∧ (0 ≤ uT D u ∧ uT D u ≤ 300) ∧ 0 ≤ uL D u ∧ uL D u ≤ 9 := by
  have w1 := w.2.1
  have e : ((D 7 1).toNat : Int) = D 7 1 := Int.toNat_of_nonneg w1.1
  have hj : ∀ j : Int, 0 ≤ j → (j < ((D 7 1).toNat : Int) ∨ j = u) → (0 ≤ v0 D j ∧ v0 D j ≤ 300) ∧ (0 ≤ v1 D j ∧ v1 D j ≤ 300) ∧ 0 ≤ D 6 j ∧ D 6 j ≤ 9 := fun j j0 j1 => by
    have a := (w.dim j0 (show j < D 7 1 by omega)).2
    have b := (w.2.2.2.2.2.2 j j0 (by omega)).2.2.2.2
    unfold v0 v1
    omega
  exact ⟨uf_b (Or.inl rfl) h0 _ (fun j a b => (hj j a b).1), uf_b (Or.inr rfl) h0 _ (fun j a b => (hj j a b).2.1), uf_b (Or.inr rfl) h0 _ (fun j a b => (hj j a b).2.2)⟩
/-- the first from l on, among k, without P -/
noncomputable def sr (P : Int → Prop) (l : Int) : Nat → Int
  | 0 => l
  | k + 1 => @ite _ (P (sr P l k)) (Classical.propDecidable _) (sr P l k + 1) (sr P l k)
theorem sr_t {P : Int → Prop} {l : Int} {k : Nat} (h : P (sr P l k)) : sr P l (k + 1) = sr P l k + 1 := if_pos h
theorem sr_f {P : Int → Prop} {l : Int} {k : Nat} (h : ¬ P (sr P l k)) : sr P l (k + 1) = sr P l k := if_neg h
theorem sr_is {P : Int → Prop} {l : Int} : ∀ k : Nat, (l ≤ sr P l k ∧ sr P l k ≤ l + k) ∧ (∀ x, l ≤ x → x < sr P l k → P x) ∧ (sr P l k < l + k → ¬ P (sr P l k))
  | 0 => ⟨by unfold sr; omega, fun x a b => by unfold sr at b; omega, fun a => by unfold sr at a; omega⟩
  | k + 1 => by
    obtain ⟨i1, i2, i3⟩ := sr_is (P := P) (l := l) k
    by_cases q : P (sr P l k)
    · rw [sr_t q]
      refine ⟨by omega, fun x a b => ?_, fun a => absurd q (i3 (by omega))⟩
      by_cases z : x = sr P l k
      · rw [z]; exact q
      · exact i2 x a (by omega)
    · rw [sr_f q]
      exact ⟨by omega, i2, fun _ => q⟩
/-- with P holding nowhere behind k places: the search has ended -/
theorem sr_stop {P : Int → Prop} {l : Int} {k : Nat} (h : ¬ P (sr P l k)) : ∀ n : Nat, k ≤ n → sr P l n = sr P l k
  | 0, g => by rw [show k = 0 by omega]
  | n + 1, g => by
    by_cases q : k = n + 1
    · rw [q]
    · have i := sr_stop h n (by omega)
      rw [sr_f (by rw [i]; exact h), i]
/-- how many units are laid -/
def cnt (D : Dr) (p : Int → Int) : Int := sumI (fun u => yn (ld D u = u ∧ p u = 1)) (D 7 1).toNat
theorem uc_sum : ∀ k : Nat, uc D k = sumI (fun u => yn (ld D u = u)) k
  | 0 => rfl
  | k + 1 => by
    show uc D k + yn _ = sumI _ k + yn _
    rw [uc_sum k]
theorem cnt_upd {p : Int → Int} {v : Int} (hm : 0 ≤ D 7 1) (h0 : 0 ≤ v) (h1 : v < D 7 1) (hu : ld D v = v) (hp : p v = 0) : cnt D (fun x => if x = v then 1 else p x) = cnt D p + 1 := by
  refine sumI_upd (v := v) _ h0 (by omega) (fun i _ _ n => ?_) ?_
  · exact yn_congr (by simp only [if_neg n])
  · rw [yn_t ⟨hu, if_pos rfl⟩, yn_f (by rw [hp]; omega)]; rfl
theorem cnt_del {p : Int → Int} {v : Int} (hm : 0 ≤ D 7 1) (h0 : 0 ≤ v) (h1 : v < D 7 1) (hu : ld D v = v) (hp : p v = 1) : cnt D (fun x => if x = v then 0 else p x) = cnt D p + (-1) := by
  refine sumI_upd (v := v) _ h0 (by omega) (fun i _ _ n => ?_) ?_
  · exact yn_congr (by simp only [if_neg n])
  · rw [yn_f (by simp), yn_t ⟨hu, hp⟩]; rfl
theorem cnt_le (p : Int → Int) : cnt D p ≤ uc D (D 7 1).toNat := by
  rw [uc_sum]
  refine sumI_mono _ (fun i _ _ => ?_)
  by_cases q : ld D i = i ∧ p i = 1
  · rw [yn_t q, yn_t q.1]; exact Int.le_refl _
  · rw [yn_f q]; exact yn_b.1
theorem cnt_all {p : Int → Int} (hm : 0 ≤ D 7 1) (h : ∀ u, 0 ≤ u → u < D 7 1 → ld D u = u → p u = 1) : cnt D p = uc D (D 7 1).toNat := by
  rw [uc_sum]
  exact sumI_congr (fun i a b => yn_congr ⟨fun z => z.1, fun z => ⟨z, h i a (by omega) z⟩⟩)
theorem cnt_full {p : Int → Int} (hm : 0 ≤ D 7 1) (hz : ∀ x, p x = 0 ∨ p x = 1) (hc : cnt D p = uc D (D 7 1).toNat) {u : Int} (h0 : 0 ≤ u) (h1 : u < D 7 1) (hu : ld D u = u) : p u = 1 := by
  rcases hz u with e | e
  · have a := cnt_upd hm h0 h1 hu e
    have b := cnt_le (D := D) (fun x => if x = u then 1 else p x)
    omega
  · exact e
theorem cnt_not {p : Int → Int} (hm : 0 ≤ D 7 1) (hz : ∀ x, p x = 0 ∨ p x = 1) (hc : cnt D p ≠ uc D (D 7 1).toNat) : ∃ u, (0 ≤ u ∧ u < D 7 1) ∧ ld D u = u ∧ p u = 0 := by
  refine Classical.byContradiction fun n => hc (cnt_all hm fun u a b c => ?_)
  rcases hz u with e | e
  · exact absurd ⟨u, ⟨a, b⟩, c, e⟩ n
  · exact e
/-- n lanes are of n units -/
theorem pig (hm : 0 ≤ D 7 1) {l : Int → Int} {x : Int} : ∀ (n : Nat) (p : Int → Int), (∀ t : Nat, t < n → ∃ v, (0 ≤ v ∧ v < D 7 1) ∧ ld D v = v ∧ p v = 1 ∧ l v = x + t) → (n : Int) ≤ cnt D p
  | 0, p, _ => (sum_yn (P := fun u => ld D u = u ∧ p u = 1) _).1
  | n + 1, p, h => by
    obtain ⟨v, a, b, c, d⟩ := h n (by omega)
    have e := cnt_del hm a.1 a.2 b c
    have i := pig hm n (fun x => if x = v then 0 else p x) (l := l) (x := x) (fun t ht => by
      obtain ⟨v', a', b', c', d'⟩ := h t (by omega)
      refine ⟨v', a', b', ?_, d'⟩
      have : v' ≠ v := fun z => by rw [z] at d'; omega
      show (if v' = v then 0 else p v') = 1
      rw [if_neg this, c'])
    omega
end ABS

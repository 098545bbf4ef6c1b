section DIG
def itr (g : Int → Int) (X : Int) : Nat → Int
  | 0 => X
  | k + 1 => 31 * itr g X k + g k
/-- while the questions of a digest are asked -/
def DG (D : Dr) (h0 h : Hp) : Prop := QF h0 h ∧ FR D h
def DM (D : Dr) (h0 : Hp) (X : Int) (h : Hp) : Prop := DG D h0 h ∧ h 132 15 = X
/-- what all the questions rest on -/
def BS (D : Dr) (K : Int) (B : Int → Dr) (h0 : Hp) : Prop := OKS D K B ∧ CS D K B h0 ∧ SM D K B h0 ∧ TX h0
variable {D : Dr} {K : Int} {B : Int → Dr} {h0 h : Hp}
theorem DG.c (s : BS D K B h0) (g : DG D h0 h) {A : Dr → Int → Int → Int} {c m : Hp → O Int} (H : ASK A c m) : wp (c h) (fun r h1 => r = A D K (h0 75 2) ∧ DG D h0 h1) := by
  obtain ⟨⟨h1, e1, q1, f1⟩, -⟩ := H h D K B s.1 (g.1.cs s.2.1) (g.1.sm s.2.2.1) (g.1.tx s.2.2.2) g.2
  rw [g.1.1 75 (by decide) (by decide)] at e1
  exact ⟨_, h1, e1, rfl, g.1.trans q1, f1⟩
theorem DG.m (s : BS D K B h0) (g : DG D h0 h) {A : Dr → Int → Int → Int} {c m : Hp → O Int} (H : ASK A c m) : wp (m h) (fun r h1 => r = A D K (h0 75 2) ∧ DM D h0 (h 132 15) h1) := by
  obtain ⟨-, h1, e1, q1, f1, x1⟩ := H h D K B s.1 (g.1.cs s.2.1) (g.1.sm s.2.2.1) (g.1.tx s.2.2.2) g.2
  rw [g.1.1 75 (by decide) (by decide)] at e1
  exact ⟨_, h1, e1, rfl, ⟨g.1.trans q1, f1⟩, x1⟩
theorem DG.n (s : BS D K B h0) (g : DG D h0 h) : h 1 7 = D 7 0 ∧ h 1 8 = D 7 1 ∧ h 133 0 = D 7 0 ∧ h 133 13 = D 7 1 := by
  have a := (g.1.cs s.2.1).1
  have b := (g.1.sm s.2.2.1).1
  exact ⟨a.1.1.symm, a.1.2.1.symm, b.n, b.m⟩
theorem DG.hash (g : DG D h0 h) (v : Int) : DM D h0 v (hu h 132 15 v) := by
  have e : ∀ c, c ≠ 132 → hu h 132 15 v c = h c := fun c n => funext fun j => hu_o n j
  have e2 : ∀ j, j ≠ 15 → hu h 132 15 v 132 j = h 132 j := fun j n => hu_j 132 n
  refine ⟨⟨g.1.trans ⟨fun c _ c1 => e c (by omega), e 133 (by decide), e 134 (by decide), e2 1 (by decide), e2 3 (by decide), e2 4 (by decide)⟩, FR_k.2 D h _ (fun c z => e c (by omega)) g.2⟩, hu_s⟩
theorem mo_mixes_wp {X v : Int} (g : DM D h0 X h) : wp (mo_mixes 132 v h) (fun _ h1 => DM D h0 (31 * X + v) h1) := by
  unfold mo_mixes
  rw [lt_eq, g.2]
  exact wp_ret (g.1.hash _)
variable {Q : Int → Hp → Prop}
/-- the class's loops -/
theorem c_in {F : (Int → Int → Int → Hp → O Int) → Int → Int → Int → Hp → O Int} {ask : Int → Hp → O Int} {g : Int → Int} {lim : Nat} {l : Int} {kout : Int → Int → Hp → O Int} {x3 X : Int} (hF : ∀ k x1 x4 h, F k x1 x3 x4 h = if l < x4 then ck (x3 + 1) (kout x1 (x3 + 1) h) else bd (ask x4 h) fun r1 h1 => ck (x4 + 1) (k (31 * x1 + r1) x3 (x4 + 1) h1)) (hl : l + 1 = lim ∧ lim < 100) (b3 : 0 ≤ x3 ∧ x3 < 100) (ha : ∀ x4 h, DG D h0 h → wp (ask x4 h) (fun r h1 => r = g x4 ∧ DG D h0 h1)) (hk : ∀ h1, DG D h0 h1 → wp (kout (itr g X lim) (x3 + 1) h1) Q) (hg : DG D h0 h) : wp (iter3 F fuel X x3 0 h) Q := by
  refine wp_it3 (fun x1 x3' x4 h' => x3' = x3 ∧ ∃ j : Nat, x4 = j ∧ j ≤ lim ∧ x1 = itr g X j ∧ DG D h0 h') (fun _ _ x4 _ => (lim - x4).toNat) (fun x1 x3' x4 h' hI k hk2 => ?_) fuel _ _ _ _ ⟨rfl, 0, rfl, by omega, rfl, hg⟩ (by unfold fuel; omega)
  obtain ⟨e3, j, e4, hj, e1, g'⟩ := hI
  subst e3
  subst e4
  rw [hF]
  by_cases q : l < (j : Int)
  · rw [if_pos q, ck_in ⟨by omega, by omega⟩, e1, show j = lim by omega]
    exact hk h' g'
  · rw [if_neg q]
    refine wp_bd (ha j h' g') (fun r h1 hq => ?_)
    rw [ck_in ⟨by omega, by omega⟩]
    exact hk2 _ _ _ _ ⟨rfl, j + 1, rfl, by omega, by rw [e1, hq.1]; rfl, hq.2⟩ (by omega)
theorem c_out {G : (Int → Int → Hp → O Int) → Int → Int → Hp → O Int} {f : Nat → Int} {N : Nat} {s : Int} (hG : ∀ (k : Int → Int → Hp → O Int) (j : Nat) h, j < N → DG D h0 h → (∀ h1, DG D h0 h1 → wp (k (f (j + 1)) (s + j + 1) h1) Q) → wp (G k (f j) (s + j) h) Q) (hE : ∀ k h, DG D h0 h → wp (G k (f N) (s + N) h) Q) (hN : N < 100) (hg : DG D h0 h) : wp (iter2 G fuel (f 0) s h) Q := by
  refine wp_it2 (fun x1 x3 h' => ∃ j : Nat, x3 = s + j ∧ j ≤ N ∧ x1 = f j ∧ DG D h0 h') (fun _ x3 _ => (s + N - x3).toNat) (fun x1 x3 h' hI k hk2 => ?_) fuel _ _ _ ⟨0, by omega, by omega, rfl, hg⟩ (by unfold fuel; omega)
  obtain ⟨j, e3, hj, e1, g'⟩ := hI
  subst e3
  subst e1
  by_cases q : j < N
  · exact hG k j h' q g' (fun h1 g1 => hk2 _ _ _ ⟨j + 1, by omega, q, rfl, g1⟩ (by omega))
  · rw [show j = N by omega]
    exact hE k h' g'
/-- the reference's loops -/
theorem m_in {F : (Int → Int → Hp → O Int) → Int → Int → Hp → O Int} {ask : Int → Hp → O Int} {g : Int → Int} {lim : Nat} {l : Int} {kout : Int → Hp → O Int} {x1 X : Int} (hF : ∀ k x2 h, F k x1 x2 h = if x2 < l then bd (ask x2 h) (fun r1 h1 => bd (mo_mixes 132 r1 h1) fun _ h2 => ck (x2 + 1) (k x1 (x2 + 1) h2)) else ck (x1 + 1) (kout (x1 + 1) h)) (hl : l = lim ∧ lim < 100) (b1 : 0 ≤ x1 ∧ x1 < 100) (ha : ∀ x2 X h, DM D h0 X h → wp (ask x2 h) (fun r h1 => r = g x2 ∧ DM D h0 X h1)) (hk : ∀ h1, DM D h0 (itr g X lim) h1 → wp (kout (x1 + 1) h1) Q) (hg : DM D h0 X h) : wp (iter2 F fuel x1 0 h) Q := by
  refine wp_it2 (fun x1' x2 h' => x1' = x1 ∧ ∃ j : Nat, x2 = j ∧ j ≤ lim ∧ DM D h0 (itr g X j) h') (fun _ x2 _ => (lim - x2).toNat) (fun x1' x2 h' hI k hk2 => ?_) fuel _ _ _ ⟨rfl, 0, rfl, by omega, hg⟩ (by unfold fuel; omega)
  obtain ⟨e1, j, e2, hj, g'⟩ := hI
  subst e1
  subst e2
  rw [hF]
  by_cases q : (j : Int) < l
  · rw [if_pos q]
    refine wp_bd (ha j _ h' g') (fun r h1 hq => ?_)
    refine wp_bd (mo_mixes_wp hq.2) (fun _ h2 hq2 => ?_)
    rw [ck_in ⟨by omega, by omega⟩]
    exact hk2 _ _ _ ⟨rfl, j + 1, rfl, by omega, by rw [hq.1] at hq2; exact hq2⟩ (by omega)
  · rw [if_neg q, ck_in ⟨by omega, by omega⟩]
    exact hk h' (by rw [show lim = j by omega]; exact g')
theorem m_out {G : (Int → Hp → O Int) → Int → Hp → O Int} {f : Nat → Int} {N : Nat} {s : Int} (hG : ∀ (k : Int → Hp → O Int) (j : Nat) h, j < N → DM D h0 (f j) h → (∀ h1, DM D h0 (f (j + 1)) h1 → wp (k (s + j + 1) h1) Q) → wp (G k (s + j) h) Q) (hE : ∀ k h, DM D h0 (f N) h → wp (G k (s + N) h) Q) (hN : N < 100) (hg : DM D h0 (f 0) h) : wp (iter1 G fuel s h) Q := by
  refine wp_it1 (fun x h' => ∃ j : Nat, x = s + j ∧ j ≤ N ∧ DM D h0 (f j) h') (fun x _ => (s + N - x).toNat) (fun x h' hI k hk2 => ?_) fuel _ _ ⟨0, by omega, by omega, hg⟩ (by unfold fuel; omega)
  obtain ⟨j, e3, hj, g'⟩ := hI
  subst e3
  by_cases q : j < N
  · exact hG k j h' q g' (fun h1 g1 => hk2 _ _ ⟨j + 1, by omega, q, g1⟩ (by omega))
  · rw [show j = N by omega] at g' ⊢
    exact hE k h' g'
end DIG

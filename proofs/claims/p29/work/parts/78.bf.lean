section BF
variable {D : Dr} {W : Int → Prop} {X a : Int} {R R' : Int → Int}
/-- v has its least length -/
def Sd (E : ES) (a : Int) (R : Int → Int) (v : Int) : Prop := R v ≤ 100000 ∧ ∀ y, Wk E a v y → R v ≤ y
/-- v can be reached, and hasn't -/
def Un (E : ES) (a : Int) (R : Int → Int) (v : Int) : Prop := (∃ y, Wk E a v y) ∧ ¬ Sd E a R v
/-- lengths that are told are those of walks; T: how many have been told -/
def Tg (D : Dr) (E : ES) (a : Int) (R : Int → Int) (T : Int) : Prop := ∀ v, 0 ≤ v → v < 12 → R v = 1000000 ∨ (R v ≤ D 0 v - D 0 a + 20 * T ∧ Wk E a v (R v))
theorem Tg.fin (g : WF D) {T : Int} (hT : 0 ≤ T ∧ T ≤ 400) (h : Tg D (eE D W X) a R T) {v : Int} (v0 : 0 ≤ v) (v1 : v < 12) (n : R v ≠ 1000000) : Wk (eE D W X) a v (R v) ∧ (-300 ≤ R v ∧ R v ≤ 8300) := by
  rcases h v v0 v1 with q | ⟨q1, q2⟩
  · exact absurd q n
  · refine ⟨q2, ?_⟩
    have hb := Wk_b g q2
    rcases Wk_pt g q2 with z | ⟨z1, z2⟩
    · rw [z] at hb q1 ⊢
      omega
    · have p1 := g.2.2.2.2.1 a z1.1 z1.2
      have p2 := g.2.2.2.2.1 v z2.1 z2.2
      omega
theorem bf_front (g : WF D) (ha : Sd (eE D W X) a R a) {v x : Int} (h : Wk (eE D W X) a v x) (hu : ¬ Sd (eE D W X) a R v) : ∃ u v' w, eE D W X u v' w ∧ Sd (eE D W X) a R u ∧ Un (eE D W X) a R v' ∧ ∀ y, Wk (eE D W X) a v' y → R u + w ≤ y := by
  obtain ⟨y, y1, y2⟩ := Wk_least g h
  have key := y1.ind (P := fun v z => (∀ t, Wk (eE D W X) a v t → z ≤ t) → Sd (eE D W X) a R v ∨ ∃ u v' w, eE D W X u v' w ∧ Sd (eE D W X) a R u ∧ Un (eE D W X) a R v' ∧ ∀ y, Wk (eE D W X) a v' y → R u + w ≤ y) (fun _ => Or.inl ha) (fun u v w z e hz p hm => by
    rcases p (fun t ht => by
      have := hm (t + w) (ht.step e)
      omega) with q | q
    · by_cases s : Sd (eE D W X) a R v
      · exact Or.inl s
      · refine Or.inr ⟨u, v, w, e, q, ⟨⟨_, hz.step e⟩, s⟩, fun t ht => ?_⟩
        have := q.2 z hz
        have := hm t ht
        omega
    · exact Or.inr q)
  rcases key y2 with q | q
  · exact absurd q hu
  · exact q
/-- what a round does: from R to R' -/
def Rnd (E : ES) (a : Int) (R R' : Int → Int) : Prop := (∀ v, 0 ≤ v → v < 12 → R' v ≤ R v) ∧ (∀ u v w, E u v w → Sd E a R u → R' v ≤ R u + w)
theorem Sd.stay (g : WF D) {T : Int} (hT : 0 ≤ T ∧ T ≤ 400) (ht : Tg D (eE D W X) a R' T) {v : Int} (v0 : 0 ≤ v) (v1 : v < 12) (h : Sd (eE D W X) a R v) (hl : R' v ≤ R v) : R' v = R v := by
  have := h.1
  have q := (ht.fin g hT v0 v1 (by omega)).1
  have := h.2 _ q
  omega
noncomputable def cUn (E : ES) (a : Int) (R : Int → Int) : Int := sumI (fun v => tb (Un E a R v)) 12
theorem tb_b {P : Prop} : 0 ≤ tb P ∧ tb P ≤ 1 := by
  rcases tb_bz (P := P) with e | e <;> omega
theorem cUn_b {E : ES} : 0 ≤ cUn E a R ∧ cUn E a R ≤ 12 := by
  have := sumI_le (g := fun v => tb (Un E a R v)) (B := 1) (n := 12) (fun i _ _ => tb_b)
  exact this
theorem cUn_start (h0 : 0 ≤ a) (h1 : a < 12) {E : ES} (h : Sd E a R a) : cUn E a R ≤ 11 := by
  have := sumI_lt (g := fun v => tb (Un E a R v)) (g' := fun _ => 1) (v := a) 12 (fun i _ _ => tb_b.2) h0 (by omega) (by
    show tb (Un E a R a) + 1 ≤ 1
    rw [tb_f (fun z => z.2 h)]
    omega)
  have e : sumI (fun _ => (1 : Int)) 12 = 12 := rfl
  unfold cUn
  omega
theorem cUn_none {E : ES} (h : cUn E a R = 0) {v : Int} (v0 : 0 ≤ v) (v1 : v < 12) : ¬ Un E a R v := fun z => by
  have := sumI_lt (g := fun _ => 0) (g' := fun v => tb (Un E a R v)) (v := v) 12 (fun i _ _ => tb_b.1) v0 (by omega) (by
    show 0 + 1 ≤ tb (Un E a R v)
    rw [tb_t z]
    omega)
  have e : sumI (fun _ => (0 : Int)) 12 = 0 := rfl
  unfold cUn at h
  omega
theorem cUn_some {E : ES} (h : cUn E a R ≠ 0) : ∃ v, (0 ≤ v ∧ v < 12) ∧ Un E a R v := by
  refine Classical.byContradiction fun n => h ?_
  have e : sumI (fun _ => (0 : Int)) 12 = 0 := rfl
  unfold cUn
  rw [← e]
  exact sumI_congr (fun i i0 i1 => tb_f (fun z => n ⟨i, ⟨i0, by omega⟩, z⟩))
/-- a round with somebody left out brings somebody in -/
theorem bf_round (g : WF D) (hn : D 7 0 ≤ 12) {T : Int} (hT : 0 ≤ T ∧ T ≤ 400) (ht : Tg D (eE D W X) a R T) (ht' : Tg D (eE D W X) a R' T) (ha : Sd (eE D W X) a R a) (h : Rnd (eE D W X) a R R') (hc : cUn (eE D W X) a R ≠ 0) : cUn (eE D W X) a R' + 1 ≤ cUn (eE D W X) a R ∧ ∃ v, (0 ≤ v ∧ v < 12) ∧ R' v ≠ R v := by
  obtain ⟨v, v1, v2⟩ := cUn_some hc
  obtain ⟨⟨x, hx⟩, hs⟩ := v2
  obtain ⟨u, v', w, e, s, un, m⟩ := bf_front g ha hx hs
  have eb := eE_b g e
  have r' := h.2 u v' w e s
  have s' : Sd (eE D W X) a R' v' := by
    have su := s.1
    have fu := ht.fin g hT (v := u) (by omega) (by omega) (by omega)
    have pu := g.2.2.2.2.1 u eb.1.1.1 eb.1.1.2
    have pv := g.2.2.2.2.1 v' eb.1.2.1 eb.1.2.2
    refine ⟨by omega, fun y hy => ?_⟩
    have := m y hy
    omega
  refine ⟨sumI_lt 12 (fun i i0 i1 => ?_) eb.1.2.1 (by omega) (by
    show tb (Un (eE D W X) a R' v') + 1 ≤ tb (Un (eE D W X) a R v')
    rw [tb_f (fun z => z.2 s'), tb_t un]
    omega), v', by omega, fun z => un.2 ?_⟩
  · show tb (Un (eE D W X) a R' i) ≤ tb (Un (eE D W X) a R i)
    by_cases q : Un (eE D W X) a R i
    · rw [tb_t q]
      exact tb_b.2
    · rw [tb_f q, tb_f]
      · exact Int.le_refl _
      · intro z
        refine q ⟨z.1, fun y => z.2 ?_⟩
        have st := y.stay g hT ht' i0 (by omega) (h.1 i i0 (by omega))
        unfold Sd at y ⊢
        rw [st]
        exact y
  · unfold Sd at s' ⊢
    rw [← z]
    exact s'
/-- nobody left out: the least lengths -/
theorem bf_done (g : WF D) (hn : D 7 0 ≤ 12) {T : Int} (hT : 0 ≤ T ∧ T ≤ 400) (ht : Tg D (eE D W X) a R T) (ha : Sd (eE D W X) a R a) (hc : cUn (eE D W X) a R = 0) : SP (eE D W X) a R := by
  refine ⟨ha.2 0 Wk.nil, fun v v0 v1 => ?_, fun u v w e hu => ?_⟩
  · by_cases q : R v = 1000000
    · exact Or.inl q
    · have f := ht.fin g hT v0 v1 q
      exact Or.inr ⟨by omega, R v, by omega, f.1⟩
  · have eb := eE_b g e
    have f := ht.fin g hT (v := u) (by omega) (by omega) hu
    have un := cUn_none hc (v := v) (by omega) (by omega)
    have s : Sd (eE D W X) a R v := Classical.byContradiction fun n => un ⟨⟨_, f.1.step e⟩, n⟩
    have := s.1
    exact ⟨by omega, s.2 _ (f.1.step e)⟩
end BF

section SUP
/-- all dimensions' edges -/
def E0 (D : Dr) : ES := eE D (fun _ => False) (-999)
noncomputable def dd (D : Dr) (a v : Int) : Int := dst (E0 D) a v
/-- d is superfluous among those without W -/
def sup (D : Dr) (W : Int → Prop) (d : Int) : Prop := dst (eE D (fun e => W e ∨ e = d) (-999)) (D 1 d) (D 2 d) ≤ vD D d + D 4 d ∧ dst (eE D (fun e => W e ∨ e = d) (-999)) (D 2 d) (D 1 d) ≤ D 3 d - vD D d
variable {D : Dr} {h : Hp}
theorem sp_of {E : ES} {a : Int} {R : Int → Int} (h : SP E a R) (ha : 0 ≤ a ∧ a < 12) (hE : ∀ u v w, E u v w → (0 ≤ u ∧ u < 12) ∧ 0 ≤ v ∧ v < 12) : SP E a (dst E a) := by
  have e := fun v v0 v1 => h.dst (v := v) v0 v1
  refine ⟨by rw [← e a ha.1 ha.2]; exact h.1, fun v v0 v1 => by rw [← e v v0 v1]; exact h.2.1 v v0 v1, fun u v w g => ?_⟩
  have b := hE u v w g
  rw [← e u b.1.1 b.1.2, ← e v b.2.1 b.2.2]
  exact h.2.2 u v w g
theorem eE_12 (w : WF D) {W : Int → Prop} {X : Int} : ∀ u v x, eE D W X u v x → (0 ≤ u ∧ u < 12) ∧ 0 ≤ v ∧ v < 12 := fun u v x e => by
  have := (eE_b w e).1
  have := w.1
  omega
/-- a heap that holds the steps of a drawing, those of W removed -/
noncomputable def hofS (D : Dr) (W : Int → Prop) : Hp := fun c j => if c = 111 then D 7 1 else if c = 127 then tb (W j) else if c = 129 then (if j % 2 = 0 then D 1 (j / 2) else D 2 (j / 2)) else if c = 130 then (if j % 2 = 0 then D 2 (j / 2) else D 1 (j / 2)) else (if j % 2 = 0 then vD D (j / 2) + D 4 (j / 2) else D 3 (j / 2) - vD D (j / 2))
theorem hofS_st {W : Int → Prop} : ST D 111 (hofS D W) := by
  refine ⟨rfl, fun d _ _ => ⟨⟨?_, ?_, ?_⟩, ?_, ?_, ?_⟩⟩
  · show (if (2 * d) % 2 = 0 then D 1 ((2 * d) / 2) else D 2 ((2 * d) / 2)) = D 1 d
    rw [if_pos (by omega), show (2 * d) / 2 = d by omega]
  · show (if (2 * d) % 2 = 0 then D 2 ((2 * d) / 2) else D 1 ((2 * d) / 2)) = D 2 d
    rw [if_pos (by omega), show (2 * d) / 2 = d by omega]
  · show (if (2 * d) % 2 = 0 then vD D ((2 * d) / 2) + D 4 ((2 * d) / 2) else D 3 ((2 * d) / 2) - vD D ((2 * d) / 2)) = vD D d + D 4 d
    rw [if_pos (by omega), show (2 * d) / 2 = d by omega]
  · show (if (2 * d + 1) % 2 = 0 then D 1 ((2 * d + 1) / 2) else D 2 ((2 * d + 1) / 2)) = D 2 d
    rw [if_neg (by omega), show (2 * d + 1) / 2 = d by omega]
  · show (if (2 * d + 1) % 2 = 0 then D 2 ((2 * d + 1) / 2) else D 1 ((2 * d + 1) / 2)) = D 1 d
    rw [if_neg (by omega), show (2 * d + 1) / 2 = d by omega]
  · show (if (2 * d + 1) % 2 = 0 then vD D ((2 * d + 1) / 2) + D 4 ((2 * d + 1) / 2) else D 3 ((2 * d + 1) / 2) - vD D ((2 * d + 1) / 2)) = D 3 d - vD D d
    rw [if_neg (by omega), show (2 * d + 1) / 2 = d by omega]
theorem sp_W (w : WF D) {W : Int → Prop} {a : Int} (ha : 0 ≤ a ∧ a < 12) : SP (eE D W (-999)) a (dst (eE D W (-999)) a) := by
  by_cases h : a < D 7 0
  · obtain ⟨r, h', -, q, -⟩ := bo_findWays_wp (q := 128) (th := 111) (W := W) w (hofS_st (D := D) (W := W)) (fun d _ _ => by
      show W d ↔ tb (W d) ≠ 0
      by_cases c : W d
      · rw [tb_t c]
        exact ⟨fun _ => by decide, fun _ => c⟩
      · rw [tb_f c]
        exact ⟨fun z => absurd z c, fun z => absurd rfl z⟩) (by decide) ⟨ha.1, h⟩
    exact sp_of q ha (eE_12 w)
  · refine sp_of (R := fun v => if v = a then 0 else 1000000) ⟨by show (if a = a then (0 : Int) else 1000000) ≤ 0; rw [if_pos rfl]; exact Int.le_refl 0, fun v _ _ => ?_, fun u v x e hu => ?_⟩ ha (eE_12 w)
    · by_cases c : v = a
      · subst c
        have e : (if v = v then (0 : Int) else 1000000) = 0 := if_pos rfl
        refine Or.inr ⟨?_, 0, ?_, Wk.nil⟩
        · show (if v = v then (0 : Int) else 1000000) ≤ 100000
          rw [e]
          decide
        · show 0 ≤ (if v = v then (0 : Int) else 1000000)
          rw [e]
          exact Int.le_refl 0
      · exact Or.inl (if_neg c)
    · have hb := (eE_b w e).1.1
      exact absurd (show (if u = a then (0 : Int) else 1000000) = 1000000 from if_neg (by omega)) hu
theorem sp_dd (w : WF D) {a : Int} (ha : 0 ≤ a ∧ a < 12) : SP (E0 D) a (dd D a) := sp_W w ha
/-- what the class says of a dimension -/
theorem bo_isSuperfluous_wp (w : WF D) {W : Int → Prop} (hs : ST D 111 h) (hW : ∀ d, 0 ≤ d → d < D 7 1 → (W d ↔ h 127 d ≠ 0)) {d : Int} (hd : 0 ≤ d ∧ d < D 7 1) (nd : h 127 d = 0) : wp (bo_isSuperfluous 111 d h) (fun r h' => r = tb (sup D W d) ∧ (∀ c, c ≠ 127 → c ≠ 128 → h' c = h c) ∧ h' 127 = h 127) := by
  have w0 := w.1
  have w1 := w.2.1
  have dw := (w.dim hd.1 hd.2).1
  have bz1 : bz 1 = (fun (E : O Int) => E) := funext fun E => if_pos (Or.inr rfl)
  have bz0 : bz 0 = (fun (E : O Int) => E) := funext fun E => if_pos (Or.inl rfl)
  obtain ⟨⟨s1, s2, s3⟩, s4, s5, s6⟩ := hs.2 d hd.1 hd.2
  have s1 : h 129 (2 * d) = D 1 d := s1
  have s2 : h 130 (2 * d) = D 2 d := s2
  have s3 : h 131 (2 * d) = vD D d + D 4 d := s3
  have s4 : h 129 (2 * d + 1) = D 2 d := s4
  have s5 : h 130 (2 * d + 1) = D 1 d := s5
  have s6 : h 131 (2 * d + 1) = D 3 d - vD D d := s6
  simp only [bo_isSuperfluous, bo_isSuperfluous_b101, Nat.reduceAdd]
  rw [ck_in ⟨by omega, by omega⟩, ck_in ⟨by omega, by omega⟩, ck_in ⟨by omega, by omega⟩, ix_in hd.1 (by omega), bz1, lt_eq]
  generalize hg : hu h 127 d 1 = g
  have gc : ∀ c, c ≠ 127 → g c = h c := fun c n => by
    rw [← hg]
    exact funext fun j => hu_o n j
  have g127 : ∀ j, g 127 j = if j = d then 1 else h 127 j := fun j => by
    rw [← hg]
    unfold hu
    by_cases q : j = d
    · rw [if_pos ⟨rfl, q⟩, if_pos q]
    · rw [if_neg (fun z => q z.2), if_neg q]
  have hsg : ∀ G : Hp, (∀ c, c ≠ 127 → c ≠ 128 → G c = h c) → ST D 111 G := fun G e => by
    unfold ST at hs ⊢
    simp only [Nat.reduceAdd] at hs ⊢
    rw [e 111 (by decide) (by decide), e 129 (by decide) (by decide), e 130 (by decide) (by decide), e 131 (by decide) (by decide)]
    exact hs
  have hWg : ∀ G : Hp, (∀ j, G 127 j = g 127 j) → ∀ e, 0 ≤ e → e < D 7 1 → ((W e ∨ e = d) ↔ G (111 + 16) e ≠ 0) := fun G eG e e0 e1 => by
    show (W e ∨ e = d) ↔ G 127 e ≠ 0
    rw [eG, g127]
    by_cases q : e = d
    · rw [if_pos q]
      exact ⟨fun _ => by decide, fun _ => Or.inr q⟩
    · rw [if_neg q, hW e e0 e1]
      exact ⟨fun z => z.elim id (fun y => absurd y q), Or.inl⟩
  rw [ix_in (by omega) (by omega), show g 129 (2 * d) = D 1 d by rw [gc 129 (by decide), s1]]
  refine wp_bd (bo_findWays_wp (q := 128) w (hsg g (fun c n _ => gc c n)) (hWg g (fun _ => rfl)) (by decide) (by omega)) (fun _ h2 hq => ?_)
  obtain ⟨sp1, f1⟩ := hq
  have f1' : ∀ c, c ≠ 127 → c ≠ 128 → h2 c = h c := fun c n n' => by rw [f1 c n', gc c n]
  have v1 : h2 128 (D 2 d) = dst (eE D (fun e => W e ∨ e = d) (-999)) (D 1 d) (D 2 d) := sp1.dst (by omega) (by omega)
  have b102 : ∀ (G : Hp) (s : Int) (P : Prop), G 127 = g 127 → (∀ c, c ≠ 127 → c ≠ 128 → G c = h c) → (s = tb P) → (P ↔ sup D W d) → wp (bo_isSuperfluous_b102 111 d s G) (fun r h' => r = tb (sup D W d) ∧ (∀ c, c ≠ 127 → c ≠ 128 → h' c = h c) ∧ h' 127 = h 127) := fun G s P e1 e2 e3 e4 => by
    have bzs : bz s = (fun (E : O Int) => E) := funext fun E => if_pos (by rw [e3]; exact tb_bz)
    simp only [bo_isSuperfluous_b102, Nat.reduceAdd]
    rw [ix_in hd.1 (by omega), bz0, lt_eq, bzs]
    refine wp_ret ⟨by rw [e3, tb_congr e4], fun c n n' => ?_, ?_⟩
    · rw [← e2 c n n']
      exact funext fun j => hu_o n j
    · funext j
      unfold hu
      by_cases q : j = d
      · rw [if_pos ⟨rfl, q⟩, q, nd]
      · rw [if_neg (fun z => q z.2), e1, g127, if_neg q]
  have b56 : ∀ (s : Int), (s = tb (dst (eE D (fun e => W e ∨ e = d) (-999)) (D 1 d) (D 2 d) ≤ vD D d + D 4 d)) → wp (bo_isSuperfluous_b56 111 d (2 * d + 1) s h2) (fun r h' => r = tb (sup D W d) ∧ (∀ c, c ≠ 127 → c ≠ 128 → h' c = h c) ∧ h' 127 = h 127) := fun s es => by
    simp only [bo_isSuperfluous_b56, bo_isSuperfluous_b101, Nat.reduceAdd]
    rw [ix_in (by omega) (by omega), show h2 129 (2 * d + 1) = D 2 d by rw [f1' 129 (by decide) (by decide), s4]]
    refine wp_bd (bo_findWays_wp (q := 128) w (hsg h2 f1') (hWg h2 (fun j => by rw [f1 127 (by decide)])) (by decide) (by omega)) (fun _ h3 hq => ?_)
    obtain ⟨sp2, f2⟩ := hq
    have f2' : ∀ c, c ≠ 127 → c ≠ 128 → h3 c = h c := fun c n n' => by rw [f2 c n', f1' c n n']
    have e127 : h3 127 = g 127 := by rw [f2 127 (by decide), f1 127 (by decide)]
    have v2 : h3 128 (D 1 d) = dst (eE D (fun e => W e ∨ e = d) (-999)) (D 2 d) (D 1 d) := sp2.dst (by omega) (by omega)
    by_cases c1 : dst (eE D (fun e => W e ∨ e = d) (-999)) (D 1 d) (D 2 d) ≤ vD D d + D 4 d
    · rw [es, tb_t c1, if_neg (by decide), ix_in (by omega) (by omega), f2' 130 (by decide) (by decide), s5, ix_in (by omega) (by omega), ix_in (by omega) (by omega), f2' 131 (by decide) (by decide), s6, v2]
      by_cases c2 : D 3 d - vD D d < dst (eE D (fun e => W e ∨ e = d) (-999)) (D 2 d) (D 1 d)
      · rw [if_pos c2]
        exact b102 h3 0 False e127 f2' (tb_f (fun z => z)).symm ⟨False.elim, fun z => by have := z.2; omega⟩
      · rw [if_neg c2]
        exact b102 h3 1 True e127 f2' (tb_t trivial).symm ⟨fun _ => ⟨c1, by omega⟩, fun _ => trivial⟩
    · rw [es, tb_f c1, if_pos rfl]
      exact b102 h3 0 False e127 f2' (tb_f (fun z => z)).symm ⟨False.elim, fun z => c1 z.1⟩
  rw [ix_in (by omega) (by omega), f1' 130 (by decide) (by decide), s2, ix_in (by omega) (by omega), ix_in (by omega) (by omega), f1' 131 (by decide) (by decide), s3, v1]
  by_cases c1 : vD D d + D 4 d < dst (eE D (fun e => W e ∨ e = d) (-999)) (D 1 d) (D 2 d)
  · rw [if_pos c1]
    exact b56 0 (tb_f (by omega)).symm
  · rw [if_neg c1]
    exact b56 1 (tb_t (by omega)).symm
end SUP

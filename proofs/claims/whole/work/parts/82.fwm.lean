section FWM
variable {D : Dr} {X p1 : Int} {h : Hp}
def hini (h : Hp) (x : Int) : Hp := fun c k => if c = 141 ∧ 0 ≤ k ∧ k < x then (if k / 12 = k % 12 then 0 else 1000000) else h c k
theorem fw_init : mo_laysDistances 132 p1 X h = iter1 (mo_laysDistances_f40 132 p1 X) fuel 0 (hini h 144) := by
  have e0 : hini h ((0 : Nat) : Int) = h := by
    funext c j
    unfold hini
    rw [if_neg (by omega)]
  unfold mo_laysDistances
  have key := it1_seq (F := mo_laysDistances_f2 132 p1 X) (fun k => (k : Int)) (fun k => hini h k) 144 (R := iter1 (mo_laysDistances_f40 132 p1 X) fuel 0 (hini h 144)) (fun k x hx => ?_) (fun k => ?_) fuel 0 (Nat.zero_le _) (by unfold fuel; omega)
  · rw [e0] at key
    exact key
  · have b31 : ∀ s, s = (if (x : Int) / 12 = (x : Int) % 12 then 0 else 1000000) → mo_laysDistances_b31 132 p1 X k x s x (hini h x) = k ((x + 1 : Nat) : Int) (hini h ((x + 1 : Nat) : Int)) := fun s es => by
      simp only [mo_laysDistances_b31, Nat.reduceAdd]
      rw [ix_in (by omega) (by omega), lt_eq, ck_in ⟨by omega, by omega⟩]
      have : hu (hini h x) 141 x s = hini h ((x + 1 : Nat) : Int) := by
        funext c j
        unfold hu
        by_cases q : c = 141 ∧ j = x
        · rw [if_pos q, es, q.1, q.2]
          unfold hini
          rw [if_pos (show (141 : Nat) = 141 ∧ 0 ≤ (x : Int) ∧ (x : Int) < ((x + 1 : Nat) : Int) from ⟨rfl, by omega, by omega⟩)]
        · rw [if_neg q]
          unfold hini
          by_cases q2 : c = 141 ∧ 0 ≤ j ∧ j < x
          · rw [if_pos q2, if_pos (show c = 141 ∧ 0 ≤ j ∧ j < ((x + 1 : Nat) : Int) from ⟨q2.1, by omega, by omega⟩)]
          · rw [if_neg q2, if_neg (by omega)]
      rw [this]
      rfl
    unfold mo_laysDistances_f2
    rw [if_pos (by omega), dv_in (by omega) (by omega), dv_in (by omega) (by omega)]
    by_cases q : (x : Int) / 12 = (x : Int) % 12
    · rw [if_pos q, b31 0 (by rw [if_pos q])]
    · rw [if_neg q, b31 1000000 (by rw [if_neg q])]
  · unfold mo_laysDistances_f2
    rw [if_neg (by omega)]
    rfl
theorem gm_hini {i j : Int} (hi : 0 ≤ i ∧ i < 12) (hj : 0 ≤ j ∧ j < 12) : gm (hini h 144) i j = if i = j then 0 else 1000000 := by
  unfold gm hini
  rw [if_pos ⟨rfl, by omega, by omega⟩, show (12 * i + j) / 12 = i by omega, show (12 * i + j) % 12 = j by omega]
/-- one dimension's two edges -/
theorem fw_dim (ha : AtM D h 0) (g : WF D) (hp : 0 ≤ p1) {x : Int} (x0 : 0 ≤ x) (x1 : x < D 7 1) (hI : DI D (eE D (bt p1) X) (bt p1) X x h) (k40 : Int → Hp → O Unit) : ∃ h', mo_laysDistances_f40 132 p1 X k40 x h = k40 (x + 1) h' ∧ DI D (eE D (bt p1) X) (bt p1) X (x + 1) h' ∧ ∀ c, c ≠ 141 → h' c = h c := by
  have w0 := g.1
  have w1 := g.2.1
  have dd := g.2.2.2.2.2.2 x x0 x1
  have dv := (g.dim x0 x1).2
  have ev : vD D x = D 0 (D 2 x) - D 0 (D 1 x) := rfl
  have nx : (bt p1 x → False) ∨ bt p1 x := by
    by_cases q : bt p1 x
    · exact Or.inr q
    · exact Or.inl q
  have b133 : ∀ G : Hp, mo_laysDistances_b133 132 p1 X k40 x G = k40 (x + 1) G := fun G => by
    unfold mo_laysDistances_b133
    rw [ck_in ⟨by omega, by omega⟩]
  have rd : ∀ (G : Hp), (∀ c, c ≠ 141 → G c = h c) → mo_of 132 x 0 G = some (D 1 x, G) ∧ mo_of 132 x 1 G = some (D 2 x, G) ∧ mo_of 132 x 2 G = some (D 3 x, G) ∧ mo_of 132 x 3 G = some (D 4 x, G) ∧ mo_value 132 x G = some (vD D x, G) := fun G e => by
    have hG := ha.o e
    obtain ⟨a1, a2, a3, a4, a5, a6⟩ := hG.dim x0 x1
    have mv := mo_value_eq hG g x0 x1
    refine ⟨?_, ?_, ?_, ?_, mv⟩
    · rw [mo_of_raw (by omega) (by omega), a1]
    · rw [mo_of_raw (by omega) (by omega), a2]
    · rw [mo_of_raw (by omega) (by omega), a3]
    · rw [mo_of_raw (by omega) (by omega), a4]
  simp only [mo_laysDistances_f40, Nat.reduceAdd]
  rw [ix_in (by omega) (by omega), ha.m, if_pos x1, shc_in hp x0 (by omega)]
  by_cases q : p1 / pw2 x % 2 = 0
  · have nb : ¬ bt p1 x := fun z => z q
    have E1 : eE D (bt p1) X (D 1 x) (D 2 x) (vD D x + (if x = X then 0 else D 4 x)) := ⟨x, ⟨x0, x1⟩, nb, Or.inl ⟨rfl, rfl, rfl⟩⟩
    have E2 : eE D (bt p1) X (D 2 x) (D 1 x) ((if x = X then 0 else D 3 x) - vD D x) := ⟨x, ⟨x0, x1⟩, nb, Or.inr ⟨rfl, rfl, rfl⟩⟩
    have s1 : 0 ≤ (if x = X then 0 else D 4 x) ∧ (if x = X then 0 else D 4 x) ≤ 20 := by split <;> omega
    have s2 : 0 ≤ (if x = X then 0 else D 3 x) ∧ (if x = X then 0 else D 3 x) ≤ 20 := by split <;> omega
    obtain ⟨u1, u2, u3⟩ := di_upd g rfl hI (by omega) E1
    generalize hG1 : hu h 141 (12 * D 1 x + D 2 x) (min (vD D x + (if x = X then 0 else D 4 x)) (gm h (D 1 x) (D 2 x))) = G1 at u1 u2 u3
    have f1 : ∀ c, c ≠ 141 → G1 c = h c := fun c n => by
      rw [← hG1]
      exact funext fun j => hu_o n j
    obtain ⟨y1, y2, y3⟩ := di_upd g rfl u1 (by omega) E2
    generalize hG2 : hu G1 141 (12 * D 2 x + D 1 x) (min ((if x = X then 0 else D 3 x) - vD D x) (gm G1 (D 2 x) (D 1 x))) = G2 at y1 y2 y3
    have f2 : ∀ c, c ≠ 141 → G2 c = h c := fun c n => by
      rw [← hG2, ← f1 c n]
      exact funext fun j => hu_o n j
    have rd0 := rd h (fun _ _ => rfl)
    have rd1 := rd G1 f1
    have B1 : mo_bounds 132 (D 1 x) (D 2 x) (vD D x + (if x = X then 0 else D 4 x)) h = some ((), G1) := by
      rw [mo_bounds_eq (by omega) (by omega), hG1]
    have B2 : mo_bounds 132 (D 2 x) (D 1 x) ((if x = X then 0 else D 3 x) - vD D x) G1 = some ((), G2) := by
      rw [mo_bounds_eq (by omega) (by omega), hG2]
    refine ⟨G2, ?_, ⟨y1.1, fun d d0 d1 d2 => ?_⟩, f2⟩
    · rw [if_pos q, bd_eq rd0.1, bd_eq rd0.2.1, bd_eq rd0.2.2.2.2]
      have t92 : mo_laysDistances_b92 132 p1 X k40 x (if x = X then 0 else D 4 x) (vD D x) (D 2 x) (D 1 x) h = k40 (x + 1) G2 := by
        have t124 : mo_laysDistances_b124 132 p1 X k40 x (if x = X then 0 else D 3 x) (D 1 x) (D 2 x) G1 = k40 (x + 1) G2 := by
          unfold mo_laysDistances_b124
          rw [bd_eq rd1.2.2.2.2, ck_in ⟨by omega, by omega⟩, bd_eq B2, b133]
        unfold mo_laysDistances_b92
        rw [ck_in ⟨by omega, by omega⟩, bd_eq B1, bd_eq rd1.2.1, bd_eq rd1.1, ← t124]
        by_cases c : x = X
        · rw [if_pos c, if_pos c]
        · rw [if_neg c, if_neg c, bd_eq rd1.2.2.1]
      rw [← t92]
      by_cases c : x = X
      · rw [if_pos c, if_pos c]
      · rw [if_neg c, if_neg c, bd_eq rd0.2.2.2.1]
    · by_cases c : d = x
      · subst c
        have := y3 (D 1 d) (D 2 d) (by omega) (by omega) (by omega) (by omega)
        omega
      · exact y1.2 d d0 (by omega) d2
  · exact ⟨h, by rw [if_neg q, b133], ⟨hI.1, fun d d0 d1 d2 => by
      by_cases c : d = x
      · subst c
        exact absurd q d2
      · exact hI.2 d d0 (by omega) d2⟩, fun _ _ => rfl⟩
theorem mo_laysDistances_wp (ha : AtM D h 0) (g : WF D) (hp : 0 ≤ p1) : wp (mo_laysDistances 132 p1 X h) (fun _ h' => (∀ a, 0 ≤ a → a < 12 → SP (eE D (bt p1) X) a (gm h' a)) ∧ ∀ c, c ≠ 141 → h' c = h c) := by
  have w0 := g.1
  have w1 := g.2.1
  rw [fw_init]
  have f0 : ∀ c, c ≠ 141 → hini h 144 c = h c := fun c n => funext fun j => by
    unfold hini
    rw [if_neg (fun z => n z.1)]
  have I0 : DI D (eE D (bt p1) X) (bt p1) X 0 (hini h 144) := by
    refine ⟨⟨fun i i0 i1 => ?_, fun i j i0 i1 j0 j1 => ?_⟩, fun d d0 d1 => by omega⟩
    · rw [gm_hini ⟨i0, i1⟩ ⟨i0, i1⟩, if_pos rfl]
    · rw [gm_hini ⟨i0, i1⟩ ⟨j0, j1⟩]
      by_cases q : i = j
      · rw [if_pos q, q]
        exact Or.inr ⟨by omega, Wk.nil⟩
      · rw [if_neg q]
        exact Or.inl rfl
  generalize hini h 144 = H at *
  refine wp_it1 (fun x h' => (0 ≤ x ∧ x ≤ D 7 1) ∧ (∀ c, c ≠ 141 → h' c = h c) ∧ DI D (eE D (bt p1) X) (bt p1) X x h') (fun x _ => (D 7 1 - x).toNat) (fun x h' hI k hk => ?_) fuel _ _ ⟨by omega, f0, I0⟩ (by unfold fuel; omega)
  obtain ⟨hx, hf, hD⟩ := hI
  by_cases q : x < D 7 1
  · obtain ⟨h2, e, d, f⟩ := fw_dim (ha.o hf) g hp hx.1 q hD k
    rw [e]
    exact hk _ _ ⟨by omega, fun c n => by rw [f c n, hf c n], d⟩ (by omega)
  · simp only [mo_laysDistances_f40, Nat.reduceAdd]
    rw [ix_in (by omega) (by omega), (ha.o hf).m, if_neg q]
    have J0 : FWI D (eE D (bt p1) X) 0 (gm h') := by
      refine ⟨hD.1, fun u v w e => ?_, fun b i j b0 b1 => by omega⟩
      obtain ⟨d, d1, d2, d3⟩ := e
      have := hD.2 d d1.1 (by omega) d2
      rcases d3 with ⟨e1, e2, e3⟩ | ⟨e1, e2, e3⟩
      · rw [e1, e2, e3]
        exact this.1
      · rw [e1, e2, e3]
        exact this.2
    refine wp_it1 (fun x h2 => ∃ n : Nat, x = n ∧ (n : Int) ≤ D 7 0 ∧ (∀ c, c ≠ 141 → h2 c = h c) ∧ ∃ G, FWI D (eE D (bt p1) X) n G ∧ ∀ i j, 0 ≤ i → i < 12 → 0 ≤ j → j < 12 → gm h2 i j = G i j) (fun x _ => (D 7 0 - x).toNat) (fun x h2 hJ k hk => ?_) fuel _ _ ⟨0, rfl, by omega, hf, gm h', J0, fun _ _ _ _ _ _ => rfl⟩ (by unfold fuel; omega)
    obtain ⟨n, en, hn, hf2, G, hG, eG⟩ := hJ
    subst en
    have pk := p2n_b n (by omega)
    simp only [mo_laysDistances_f141, Nat.reduceAdd]
    rw [ix_in (by omega) (by omega), (ha.o hf2).n]
    by_cases q2 : (n : Int) < D 7 0
    · rw [if_pos q2, fw_in (by omega) (fun i i0 i1 => by rw [eG i i i0 i1 i0 i1]; exact hG.1.1 i i0 i1) (fun i j i0 i1 j0 j1 => by
        rw [eG i j i0 i1 j0 j1]
        by_cases z : G i j = 1000000
        · omega
        · have := (hG.1.fin g pk.2 i0 i1 j0 j1 z).2.2.2
          omega)]
      refine hk _ _ ⟨n + 1, rfl, by omega, fun c nc => ?_, stG G n, hG.step g (by omega), fun i j i0 i1 j0 j1 => ?_⟩ (by omega)
      · rw [← hf2 c nc]
        exact funext fun j => by
          unfold hst2
          rw [if_neg (fun z => nc z.1)]
      · rw [gm_hst2 ⟨i0, i1⟩ ⟨j0, j1⟩]
        unfold stG
        rw [eG i n i0 i1 (by omega) (by omega), eG n j (by omega) (by omega) j0 j1, eG i j i0 i1 j0 j1]
    · rw [if_neg q2]
      refine wp_ret ⟨fun a a0 a1 => ?_, hf2⟩
      have s := hG.sp g (by omega) a0 a1
      have ea : ∀ v, 0 ≤ v → v < 12 → gm h2 a v = G a v := fun v v0 v1 => eG a v a0 a1 v0 v1
      refine ⟨by rw [ea a a0 a1]; exact s.1, fun v v0 v1 => by rw [ea v v0 v1]; exact s.2.1 v v0 v1, fun u v w e => ?_⟩
      have eb := (eE_b g e).1
      rw [ea u (by omega) (by omega), ea v (by omega) (by omega)]
      exact s.2.2 u v w e
end FWM

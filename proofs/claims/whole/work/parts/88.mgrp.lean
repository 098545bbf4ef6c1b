section MGRP
variable {D : Dr} {h : Hp}
theorem bt_nat {n : Nat} {e : Int} : bt (n : Int) e ↔ n.testBit e.toNat = true := by
  have c : (n : Int) / pw2 e % 2 = ((n / 2 ^ e.toNat % 2 : Nat) : Int) := rfl
  unfold bt
  rw [c, Nat.testBit_eq_decide_div_mod_eq, decide_eq_true_iff]
  omega
theorem bt_or {g d e : Int} (hg : 0 ≤ g) (hd : 0 ≤ d) (he : 0 ≤ e) : bt (orI g (pw2 d)) e ↔ bt g e ∨ e = d := by
  have eg : g = ((g.toNat : Nat) : Int) := (Int.toNat_of_nonneg hg).symm
  have ep : (pw2 d).toNat = 2 ^ d.toNat := rfl
  unfold orI
  rw [ep, bt_nat, Nat.testBit_or, Nat.testBit_two_pow]
  conv => rhs; rw [eg, bt_nat]
  rw [Bool.or_eq_true, decide_eq_true_iff]
  constructor
  · rintro (z | z)
    · exact Or.inl z
    · exact Or.inr (by omega)
  · rintro (z | z)
    · exact Or.inl z
    · exact Or.inr (by omega)
theorem orI_b {g d : Int} : 0 ≤ orI g (pw2 d) := by
  unfold orI
  omega
/-- behind the reference's distances -/
def MD (D : Dr) (p1 X : Int) (h : Hp) : Prop := AtM D h 0 ∧ ∀ a v, 0 ≤ a → a < 12 → 0 ≤ v → v < 12 → gm h a v = dst (eE D (bt p1) X) a v
theorem mo_lays_wp (ha : AtM D h 0) (w : WF D) {p1 X : Int} (hp : 0 ≤ p1) : wp (mo_laysDistances 132 p1 X h) (fun _ h' => MD D p1 X h' ∧ ∀ c, c ≠ 141 → h' c = h c) := wp_mono (mo_laysDistances_wp ha w hp) (fun _ h' q => ⟨⟨ha.o q.2, fun a v a0 a1 v0 v1 => (q.1 a a0 a1).dst v0 v1⟩, q.2⟩)
theorem RFr.o {h' : Hp} (e : ∀ c, c ≠ 141 → h' c = h c) : RFr h h' := RFr.of (fun c z => e c (by omega))
theorem MD.dd (g : MD D 0 (-999) h) {a v : Int} (ha : 0 ≤ a ∧ a < 12) (hv : 0 ≤ v ∧ v < 12) : gm h a v = dd D a v := by
  rw [g.2 a v ha.1 ha.2 hv.1 hv.2]
  unfold _root_.Jvm.Pilot.CDimensionLinesLaw_law_r5478_4509e4.dd
  rw [← E0_eq]
theorem mo_areBound_eq {a b : Int} (ha : 0 ≤ a ∧ a < 12) (hb : 0 ≤ b ∧ b < 12) : mo_areBound 132 a b h = some (tb (gm h a b ≠ 1000000), h) := by
  have bz1 : bz 1 = (fun (E : O Int) => E) := funext fun E => if_pos (Or.inr rfl)
  have bz0 : bz 0 = (fun (E : O Int) => E) := funext fun E => if_pos (Or.inl rfl)
  simp only [mo_areBound, mo_areBound_b21, bz0, bz1, Nat.reduceAdd]
  rw [ck_in ⟨by omega, by omega⟩, ck_in ⟨by omega, by omega⟩, ix_in (by omega) (by omega)]
  have e : gm h a b = h 141 (12 * a + b) := rfl
  rw [← e]
  by_cases q : gm h a b = 1000000
  · rw [if_pos q, tb_f (fun z => z q)]
  · rw [if_neg q, tb_t q]
theorem mo_bnd_eq (g : MD D 0 (-999) h) {a b : Int} (ha : 0 ≤ a ∧ a < 12) (hb : 0 ≤ b ∧ b < 12) : mo_areBound 132 a b h = some (tb (bnd D a b), h) := by
  rw [mo_areBound_eq ha hb, g.dd ha hb]
  rfl
theorem mo_isFirst_eq (g : MD D 0 (-999) h) {p : Int} (hp : 0 ≤ p ∧ p < 12) : mo_isFirst 132 p h = some (tb (fs D p), h) := by
  unfold mo_isFirst
  have key := it2_seq (F := mo_isFirst_f4 132 p) (fun k => tb (∀ q : Int, 0 ≤ q → q < k → ¬ bnd D q p)) (fun k => (k : Int)) (fun _ => h) p.toNat (R := some (tb (fs D p), h)) (fun k x hx => ?_) (fun k => ?_) fuel 0 (Nat.zero_le _) (by unfold fuel; omega)
  · rw [tb_t (fun q q0 q1 => by omega)] at key
    exact key
  · have b27 : ∀ s, mo_isFirst_b27 132 p k x s h = k s ((x + 1 : Nat) : Int) h := fun s => by
      unfold mo_isFirst_b27
      rw [ck_in ⟨by omega, by omega⟩]
      rfl
    have nx : ∀ P : Prop, (P ↔ (∀ q : Int, 0 ≤ q → q < x → ¬ bnd D q p) ∧ ¬ bnd D x p) → tb P = tb (∀ q : Int, 0 ≤ q → q < ((x + 1 : Nat) : Int) → ¬ bnd D q p) := fun P hP => tb_congr (hP.trans ⟨fun z q q0 q1 => by
      by_cases c : q = x
      · rw [c]; exact z.2
      · exact z.1 q q0 (by omega), fun z => ⟨fun q q0 q1 => z q q0 (by omega), z x (by omega) (by omega)⟩⟩)
    unfold mo_isFirst_f4 mo_isFirst_b26
    rw [if_pos (by omega)]
    by_cases c : ∀ q : Int, 0 ≤ q → q < x → ¬ bnd D q p
    · rw [tb_t c, if_neg (by decide), bd_eq (mo_bnd_eq g (by omega) hp)]
      by_cases c2 : bnd D x p
      · rw [tb_t c2, if_neg (by decide), b27, ← nx False ⟨False.elim, fun z => z.2 c2⟩, tb_f (fun z => z)]
      · rw [tb_f c2, if_pos rfl, b27, ← nx True ⟨fun _ => ⟨c, c2⟩, fun _ => trivial⟩, tb_t trivial]
    · rw [tb_f c, if_pos rfl, b27, ← nx False ⟨False.elim, fun z => c z.1⟩, tb_f (fun z => z)]
  · unfold mo_isFirst_f4
    rw [if_neg (by omega)]
    unfold bz
    rw [if_pos tb_bz, Int.toNat_of_nonneg hp.1]
    rfl
theorem mo_groupOfFirst_eq (g : MD D 0 (-999) h) {p : Int} (hp : 0 ≤ p ∧ p < 12) : mo_groupOfFirst 132 p h = some (cntF D p.toNat, h) := by
  unfold mo_groupOfFirst
  refine it2_seq (F := mo_groupOfFirst_f4 132 p) (fun k => cntF D k) (fun k => (k : Int)) (fun _ => h) p.toNat (fun k x hx => ?_) (fun k => ?_) fuel 0 (Nat.zero_le _) (by unfold fuel; omega)
  · have cb := cntF_b (D := D) x
    have b23 : ∀ s, s = tb (fs D x) → mo_groupOfFirst_b23 132 p k x s (cntF D x) h = k (cntF D (x + 1)) ((x + 1 : Nat) : Int) h := fun s es => by
      have := tb_b (P := fs D x)
      unfold mo_groupOfFirst_b23
      rw [es, ck_in ⟨by omega, by omega⟩, ck_in ⟨by omega, by omega⟩, cntF_s]
      rfl
    unfold mo_groupOfFirst_f4
    rw [if_pos (by omega), bd_eq (mo_isFirst_eq g (by omega))]
    by_cases c : fs D x
    · rw [tb_t c, if_neg (by decide), b23 1 (tb_t c).symm]
    · rw [tb_f c, if_pos rfl, b23 0 (tb_f c).symm]
  · unfold mo_groupOfFirst_f4
    rw [if_neg (by omega)]
theorem mo_group_eq (g : MD D 0 (-999) h) {p : Int} (hp : 0 ≤ p ∧ p < 12) : mo_group 132 p h = some (grp D p, h) := by
  unfold mo_group
  refine it2_find (F := mo_group_f4 132 p) (fun _ => 0) (fun t => (t : Int)) (fun _ => h) p.toNat (fun t => bnd D t p) (fun k2 t ht hq => ?_) (fun k2 t ht hq hy => ?_) (fun k2 hy => ?_) fuel 0 (Nat.zero_le _) (by unfold fuel; omega) (fun y g => absurd g (Nat.not_lt_zero _))
  · unfold mo_group_f4
    rw [if_pos (by omega), bd_eq (mo_bnd_eq g (by omega) hp), tb_f hq, if_pos rfl, ck_in ⟨by omega, by omega⟩]
    rfl
  · have e : smf D p = t := smf_uniq (by omega) (by omega) (Or.inr hq) (fun q q0 q1 => fun z => hy q.toNat (by omega) (by rw [Int.toNat_of_nonneg q0]; exact z))
    unfold mo_group_f4
    rw [if_pos (by omega), bd_eq (mo_bnd_eq g (by omega) hp), tb_t hq, if_neg (by decide), bd_eq (mo_groupOfFirst_eq g (by omega))]
    unfold grp
    rw [e]
  · have e : smf D p = p := smf_uniq hp.1 (Int.le_refl _) (Or.inl rfl) (fun q q0 q1 => fun z => hy q.toNat (by omega) (by rw [Int.toNat_of_nonneg q0]; exact z))
    unfold mo_group_f4
    rw [if_neg (by omega)]
    unfold grp
    rw [e]
    refine it2_seq (F := mo_group_f32 132 p) (fun k => cntF D k) (fun k => (k : Int)) (fun _ => h) p.toNat (fun k x hx => ?_) (fun k => ?_) fuel 0 (Nat.zero_le _) (by unfold fuel; omega)
    · have cb := cntF_b (D := D) x
      have b51 : ∀ s, s = tb (fs D x) → mo_group_b51 132 p k x s (cntF D x) h = k (cntF D (x + 1)) ((x + 1 : Nat) : Int) h := fun s es => by
        have := tb_b (P := fs D x)
        unfold mo_group_b51
        rw [es, ck_in ⟨by omega, by omega⟩, ck_in ⟨by omega, by omega⟩, cntF_s]
        rfl
      unfold mo_group_f32
      rw [if_pos (by omega), bd_eq (mo_isFirst_eq g (by omega))]
      by_cases c : fs D x
      · rw [tb_t c, if_neg (by decide), b51 1 (tb_t c).symm]
      · rw [tb_f c, if_pos rfl, b51 0 (tb_f c).symm]
    · unfold mo_group_f32
      rw [if_neg (by omega)]
theorem mo_groups_wp (ha : AtM D h 0) (w : WF D) : wp (mo_groups 132 h) (fun r h' => r = cntF D (D 7 0).toNat ∧ ∀ c, c ≠ 141 → h' c = h c) := by
  have w0 := w.1
  unfold mo_groups
  refine wp_bd (mo_lays_wp ha w (by omega)) (fun _ h1 hq => ?_)
  obtain ⟨g, f⟩ := hq
  refine wp_of (r := cntF D (D 7 0).toNat) (h := h1) ?_ ⟨rfl, f⟩
  refine it2_seq (F := mo_groups_f12 132) (fun k => cntF D k) (fun k => (k : Int)) (fun _ => h1) (D 7 0).toNat (fun k x hx => ?_) (fun k => ?_) fuel 0 (Nat.zero_le _) (by unfold fuel; omega)
  · have cb := cntF_b (D := D) x
    have b36 : ∀ s, s = tb (fs D x) → mo_groups_b36 132 k x s (cntF D x) h1 = k (cntF D (x + 1)) ((x + 1 : Nat) : Int) h1 := fun s es => by
      have := tb_b (P := fs D x)
      unfold mo_groups_b36
      rw [es, ck_in ⟨by omega, by omega⟩, ck_in ⟨by omega, by omega⟩, cntF_s]
      rfl
    unfold mo_groups_f12
    rw [ix_in (by omega) (by omega), show h1 (132 + 1) 0 = D 7 0 from g.1.n, if_pos (by omega), bd_eq (mo_isFirst_eq g (by omega))]
    by_cases c : fs D x
    · rw [tb_t c, if_neg (by decide), b36 1 (tb_t c).symm]
    · rw [tb_f c, if_pos rfl, b36 0 (tb_f c).symm]
  · unfold mo_groups_f12
    rw [ix_in (by omega) (by omega), show h1 (132 + 1) 0 = D 7 0 from g.1.n, if_neg (by omega)]
/-- what the reference says of a dimension -/
theorem mo_isSuperfluous_wp (ha : AtM D h 0) (w : WF D) {gone d : Int} (hg : 0 ≤ gone) (hd : 0 ≤ d ∧ d < D 7 1) : wp (mo_isSuperfluous 132 d gone h) (fun r h' => r = tb (sup D (bt gone) d) ∧ ∀ c, c ≠ 141 → h' c = h c) := by
  have w0 := w.1
  have w1 := w.2.1
  have dw := w.dim hd.1 hd.2
  have dt := w.2.2.2.2.2.2 d hd.1 hd.2
  have bz1 : bz 1 = (fun (E : O Int) => E) := funext fun E => if_pos (Or.inr rfl)
  have bz0 : bz 0 = (fun (E : O Int) => E) := funext fun E => if_pos (Or.inl rfl)
  have pb : 1 ≤ pw2 d ∧ pw2 d ≤ 65536 := by
    have key : ∀ k : Nat, k < 17 → 1 ≤ pw2 (k : Int) ∧ pw2 (k : Int) ≤ 65536 := by decide
    have := key d.toNat (by omega)
    rw [Int.toNat_of_nonneg hd.1] at this
    exact this
  unfold mo_isSuperfluous
  rw [shc_in (by omega) hd.1 (by omega), ck_in ⟨by omega, by omega⟩, orc_in hg (by omega)]
  refine wp_bd (mo_lays_wp ha w orI_b) (fun _ h1 hq => ?_)
  obtain ⟨g, f⟩ := hq
  have hA := g.1
  obtain ⟨a1, a2, a3, a4, -, -⟩ := hA.dim hd.1 hd.2
  have eE' : eE D (bt (orI gone (pw2 d))) (-999) = eE D (fun e => bt gone e ∨ e = d) (-999) := eE_congr (fun e e0 _ => bt_or hg hd.1 e0)
  have g1 : gm h1 (D 1 d) (D 2 d) = dst (eE D (fun e => bt gone e ∨ e = d) (-999)) (D 1 d) (D 2 d) := by rw [g.2 _ _ (by omega) (by omega) (by omega) (by omega), eE']
  have g2 : gm h1 (D 2 d) (D 1 d) = dst (eE D (fun e => bt gone e ∨ e = d) (-999)) (D 2 d) (D 1 d) := by rw [g.2 _ _ (by omega) (by omega) (by omega) (by omega), eE']
  have sp := fun (a v : Int) (x0 : 0 ≤ a ∧ a < 12) (x1 : 0 ≤ v ∧ v < 12) => (sp_bt (X := -999) w (orI_b (g := gone) (d := d)) x0).2.1 v x1.1 x1.2
  have s2 := sp (D 2 d) (D 1 d) (by omega) (by omega)
  rw [eE', ← g2] at s2
  have bl : -100000 ≤ gm h1 (D 2 d) (D 1 d) ∧ gm h1 (D 2 d) (D 1 d) ≤ 1000000 := by
    rcases s2 with z | ⟨z1, y, z2, z3⟩
    · omega
    · have := Wk_b w z3
      omega
  have e1 : h1 (132 + 9) (12 * D 1 d + D 2 d) = gm h1 (D 1 d) (D 2 d) := rfl
  have e2 : h1 (132 + 9) (12 * D 2 d + D 1 d) = gm h1 (D 2 d) (D 1 d) := rfl
  have m0 : mo_of 132 d 0 h1 = some (D 1 d, h1) := by rw [mo_of_raw (by omega) (by omega), a1]
  have m1 : mo_of 132 d 1 h1 = some (D 2 d, h1) := by rw [mo_of_raw (by omega) (by omega), a2]
  have m2 : mo_of 132 d 2 h1 = some (D 3 d, h1) := by rw [mo_of_raw (by omega) (by omega), a3]
  have m3 : mo_of 132 d 3 h1 = some (D 4 d, h1) := by rw [mo_of_raw (by omega) (by omega), a4]
  have vb : 0 < vD D d ∧ vD D d ≤ 300 := by
    unfold vD
    omega
  have sd : sup D (bt gone) d ↔ gm h1 (D 1 d) (D 2 d) ≤ vD D d + D 4 d ∧ gm h1 (D 2 d) (D 1 d) ≤ D 3 d - vD D d := by
    unfold sup
    rw [g1, g2]
  unfold mo_isSuperfluous_b96 mo_isSuperfluous_b97
  rw [bd_eq m0, bd_eq m1, bd_eq (mo_areBound_eq (by omega) (by omega)), bz0, bz1]
  by_cases c1 : gm h1 (D 1 d) (D 2 d) ≠ 1000000
  · rw [tb_t c1, if_neg (by decide), ck_in ⟨by omega, by omega⟩, ck_in ⟨by omega, by omega⟩, ix_in (by omega) (by omega), bd_eq (mo_value_eq hA w hd.1 hd.2), bd_eq m3, ck_in ⟨by omega, by omega⟩, e1]
    by_cases c2 : vD D d + D 4 d < gm h1 (D 1 d) (D 2 d)
    · rw [if_pos c2]
      exact wp_ret ⟨(tb_f (fun z => by have := (sd.mp z).1; omega)).symm, f⟩
    · rw [if_neg c2, ck_in ⟨by omega, by omega⟩, ck_in ⟨by omega, by omega⟩, ix_in (by omega) (by omega), e2, ck_in ⟨by omega, by omega⟩, bd_eq (mo_value_eq hA w hd.1 hd.2), bd_eq m2, ck_in ⟨by omega, by omega⟩]
      by_cases c3 : -gm h1 (D 2 d) (D 1 d) < vD D d - D 3 d
      · rw [if_pos c3]
        exact wp_ret ⟨(tb_f (fun z => by have := (sd.mp z).2; omega)).symm, f⟩
      · rw [if_neg c3]
        exact wp_ret ⟨(tb_t (sd.mpr ⟨by omega, by omega⟩)).symm, f⟩
  · have c1' : gm h1 (D 1 d) (D 2 d) = 1000000 := Classical.not_not.mp c1
    rw [tb_f c1, if_pos rfl]
    exact wp_ret ⟨(tb_f (fun z => by have := (sd.mp z).1; omega)).symm, f⟩
theorem sup_congr {W W' : Int → Prop} {d : Int} (h : ∀ e, 0 ≤ e → e < D 7 1 → (W e ↔ W' e)) : sup D W d ↔ sup D W' d := by
  unfold sup
  rw [eE_congr (fun e e0 e1 => or_congr_left (h e e0 e1))]
theorem sup_bt0 {d : Int} : sup D (bt 0) d ↔ sup0 D d := sup_congr (fun _ _ _ => bt0)
theorem mo_superfluous_wp (ha : AtM D h 0) (w : WF D) : wp (mo_superfluous 132 h) (fun r h' => r = cSup D (D 7 1).toNat ∧ ∀ c, c ≠ 141 → h' c = h c) := by
  have w1 := w.2.1
  unfold mo_superfluous
  refine wp_it2 (fun x1 x2 h' => ∃ n : Nat, x2 = n ∧ (n : Int) ≤ D 7 1 ∧ x1 = cSup D n ∧ ∀ c, c ≠ 141 → h' c = h c) (fun _ x2 _ => (D 7 1 - x2).toNat) (fun x1 x2 h' hI k hk => ?_) fuel _ _ _ ⟨0, rfl, by omega, rfl, fun _ _ => rfl⟩ (by unfold fuel; omega)
  obtain ⟨n, e1, hn, e2, f⟩ := hI
  subst e1
  subst e2
  have hA := ha.o f
  have cb := cSup_b (D := D) n
  unfold mo_superfluous_f4
  rw [ix_in (by omega) (by omega), show h' (132 + 1) 13 = D 7 1 from hA.m]
  by_cases q : (n : Int) < D 7 1
  · rw [if_pos q]
    refine wp_bd (mo_isSuperfluous_wp hA w (gone := 0) (by omega) ⟨by omega, q⟩) (fun r h2 hq => ?_)
    obtain ⟨er, f2⟩ := hq
    have b30 : ∀ s, s = tb (sup0 D n) → wp (mo_superfluous_b30 132 k n s (cSup D n) h2) (fun r h' => r = cSup D (D 7 1).toNat ∧ ∀ c, c ≠ 141 → h' c = h c) := fun s es => by
      have := tb_b (P := sup0 D n)
      unfold mo_superfluous_b30
      rw [es, ck_in ⟨by omega, by omega⟩, ck_in ⟨by omega, by omega⟩]
      exact hk _ _ _ ⟨n + 1, rfl, by omega, cSup_s.symm, fun c nc => by rw [f2 c nc, f c nc]⟩ (by omega)
    rw [er, tb_congr sup_bt0]
    by_cases c : sup0 D n
    · rw [tb_t c, if_neg (by decide)]
      exact b30 1 (tb_t c).symm
    · rw [tb_f c, if_pos rfl]
      exact b30 0 (tb_f c).symm
  · rw [if_neg q]
    exact wp_ret ⟨by rw [show n = (D 7 1).toNat by omega], f⟩
end MGRP

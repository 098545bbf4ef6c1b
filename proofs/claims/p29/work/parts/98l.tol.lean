section LAWY
variable {D : Dr} {h : Hp}
theorem reach_row {s : Int} {R : Int → Int} (z : SP (eE D (fun e => e = -1) (-1)) s R) : ∀ v, 0 ≤ v → v < 12 → R v = dd D s v := fun v a b => by
  rw [E0_m] at z
  exact z.dst a b
theorem dd_lt (w : WF D) {a b : Int} (ha : 0 ≤ a ∧ a < D 7 0) (hb : 0 ≤ b ∧ b < D 7 0) : dd D a b < 1000000 ↔ bnd D a b := by
  have := (dd_b w ha hb).1
  unfold bnd
  omega
theorem aDist1 {a b : Int} (t : two D a b) : aDist D a b 1 = if dd D a b = 1000000 then -999 else dd D a b := by
  unfold aDist
  rw [if_pos t, if_neg (show ¬ (1 : Int) = 0 by decide)]
theorem aDist0 {a b : Int} (t : two D a b) : aDist D a b 0 = if dd D a b = 1000000 then -999 else -dd D b a := by
  unfold aDist
  rw [if_pos t, if_pos (show (0 : Int) = 0 from rfl)]
theorem tol_dist {Q : Int → Hp → Prop} (g : QS D h) {q3 q4 q5 : Nat} {x1 x6 x7 x9 s : Int} {k118 : Int → Int → Hp → O Int} {p b : Int} (h3 : 132 ≤ q3) (h4 : 132 ≤ q4) (t : two D p b) (hs : s = 0 ∨ s = 1) (hsb : s = 1 ↔ bnd D p b) (r3 : ∀ v, 0 ≤ v → v < 12 → h q3 v = dd D p v) (r4 : ∀ v, 0 ≤ v → v < 12 → h q4 v = dd D b v) (hk : ∀ h2, QL D h h2 → wp (k118 x9 (b + 1) h2) Q) : wp (lw_tolerances_b189 0 x1 (D 7 0) q3 q4 q5 x6 k118 x7 p b s x9 h) Q := by
  have w := g.wf
  have w0 := w.1
  obtain ⟨h1, e1, l1⟩ := q_dist g p b 1
  obtain ⟨h2, e2, l2⟩ := q_dist l1.1 p b 0
  have l02 := l1.trans l2
  have db := (dd_b w t.2.1 t.1).2.2
  unfold lw_tolerances_b189 lw_tolerances_b215 lw_tolerances_b244
  simp only [lw_tolerances_b249]
  rw [bd_eq e1, aDist1 t]
  by_cases c : s = 0
  · have nb : dd D p b = 1000000 := Classical.byContradiction fun z => by
      have := hsb.mpr z
      omega
    rw [if_pos c, if_pos nb, if_pos rfl, bd_eq e2, aDist0 t, if_pos nb, if_pos c, if_pos rfl, ck_in ⟨by omega, by omega⟩]
    exact hk h2 l02
  · have yb : ¬ dd D p b = 1000000 := hsb.mp (by omega)
    have e3 : h1 q3 b = dd D p b := by
      rw [l1.2 q3 h3]
      exact r3 b t.2.1.1 (by omega)
    have e4 : h2 q4 p = dd D b p := by
      rw [l02.2 q4 h4]
      exact r4 p t.1.1 (by omega)
    rw [if_neg c, if_neg yb, ix_in (by omega) (by omega), e3, if_pos rfl, bd_eq e2, aDist0 t, if_neg yb, if_neg c, ix_in (by omega) (by omega), e4, ck_in ⟨by omega, by omega⟩, if_pos rfl, ck_in ⟨by omega, by omega⟩]
    exact hk h2 l02
theorem tol_in {Q : Int → Hp → Prop} (g : QS D h) {q3 q4 q5 : Nat} {x1 x6 : Int} {k97 : Int → Int → Hp → O Int} {p : Nat} (h3 : 132 ≤ q3) (h4 : 132 ≤ q4) (n34 : q3 ≠ q4) (hp : (p : Int) < D 7 0) (r3 : ∀ v, 0 ≤ v → v < 12 → h q3 v = dd D p v) (hk : ∀ h2, QS D h2 → wp (k97 (cntF D (p + 1)) ((p : Int) + 1) h2) Q) : wp (iter2 (lw_tolerances_f118 0 x1 (D 7 0) q3 q4 q5 x6 k97 (cntF D p) p) fuel (-1) 0 h) Q := by
  have w := g.wf
  have w0 := w.1
  have cb := cntF_b (D := D) p
  refine wp_it2 (fun x9 x10 h' => (0 ≤ x10 ∧ x10 ≤ D 7 0) ∧ ((x9 = -1 ∧ ∀ b : Int, 0 ≤ b → b < x10 → b < p → ¬ bnd D p b) ∨ (x9 = grp D p ∧ ∃ b : Int, (0 ≤ b ∧ b < x10) ∧ b < p ∧ bnd D p b)) ∧ QS D h' ∧ ∀ v, 0 ≤ v → v < 12 → h' q3 v = dd D p v) (fun _ x10 _ => (D 7 0 - x10).toNat) (fun x9 x10 h' hI k118 hk118 => ?_) fuel _ _ _ ⟨by omega, Or.inl ⟨rfl, fun b a c => by omega⟩, g, r3⟩ (by unfold fuel; omega)
  obtain ⟨hx, hg, gx, rx⟩ := hI
  have gp0 : 0 ≤ grp D p := (cntF_b _).1
  unfold lw_tolerances_f118
  by_cases c : x10 < D 7 0
  · rw [if_pos c]
    by_cases c1 : (p : Int) = x10
    · rw [if_pos c1]
      unfold lw_tolerances_b249
      rw [ck_in ⟨by omega, by omega⟩]
      refine hk118 _ _ _ ⟨by omega, ?_, gx, rx⟩ (by omega)
      rcases hg with ⟨y1, y2⟩ | ⟨y1, b, y2, y3⟩
      · exact Or.inl ⟨y1, fun b a1 a2 a3 => y2 b a1 (by omega) a3⟩
      · exact Or.inr ⟨y1, b, by omega, y3⟩
    · rw [if_neg c1]
      refine wp_bd (lw_reach_wp gx h4 (s := x10) (p2 := -1) (X := -1) ⟨hx.1, c⟩) (fun _ h1 hq1 => ?_)
      obtain ⟨s1, m1⟩ := hq1
      have r4 := reach_row s1
      have rx1 : ∀ v, 0 ≤ v → v < 12 → h1 q3 v = dd D p v := fun v a b => by rw [m1.2 q3 h3 n34]; exact rx v a b
      have t : two D p x10 := ⟨⟨by omega, hp⟩, ⟨hx.1, c⟩, c1⟩
      have dl := dd_lt w t.1 t.2.1
      rw [ix_in (by omega) (by omega), rx1 x10 hx.1 (by omega)]
      -- goes on with the group y
      have go : ∀ s y h5, QL D h1 h5 → (s = 0 ∨ s = 1) → (s = 1 ↔ bnd D p x10) → ((y = -1 ∧ ∀ b : Int, 0 ≤ b → b < x10 + 1 → b < p → ¬ bnd D p b) ∨ (y = grp D p ∧ ∃ b : Int, (0 ≤ b ∧ b < x10 + 1) ∧ b < p ∧ bnd D p b)) → wp (lw_tolerances_b189 0 x1 (D 7 0) q3 q4 q5 x6 k118 (cntF D p) p x10 s y h5) Q := fun s y h5 l5 hs hsb hy =>
        tol_dist l5.1 h3 h4 t hs hsb (fun v a b => by rw [l5.2 q3 h3]; exact rx1 v a b) (fun v a b => by rw [l5.2 q4 h4]; exact r4 v a b) (fun h2 l2 => hk118 _ _ _ ⟨by omega, hy, l2.1, fun v a b => by rw [l2.2 q3 h3, l5.2 q3 h3]; exact rx1 v a b⟩ (by omega))
      unfold lw_tolerances_b158 lw_tolerances_b187
      by_cases c2 : dd D p x10 < 1000000
      · have yb := dl.mp c2
        rw [if_pos c2, if_neg (by decide)]
        by_cases c3 : x10 < (p : Int)
        · rw [if_pos c3]
          by_cases c4 : x9 < 0
          · rw [if_pos c4]
            have hg' := hg.resolve_right (fun z => by omega)
            obtain ⟨h2, e2, l2⟩ := q_p4 m1.1 (p := x10) ⟨hx.1, c⟩
            rw [bd_eq e2]
            have es : smf D p = x10 := smf_uniq hx.1 (by omega) (Or.inr (bnd_symm w t.1 t.2.1 yb)) (fun q a b z => hg'.2 q a b (by omega) (bnd_symm w ⟨a, by omega⟩ t.1 z))
            have eg : grp D x10 = grp D p := by
              have := grp_smf w (p := (p : Int)) (by omega) (by omega)
              rw [es] at this
              exact this
            exact go 1 _ h2 l2 (Or.inr rfl) ⟨fun _ => yb, fun _ => rfl⟩ (Or.inr ⟨eg, x10, by omega, c3, yb⟩)
          · rw [if_neg c4]
            have hg' := hg.resolve_left (fun z => by omega)
            obtain ⟨y1, b, y2, y3⟩ := hg'
            exact go 1 _ h1 (QL.rfl m1.1) (Or.inr rfl) ⟨fun _ => yb, fun _ => rfl⟩ (Or.inr ⟨y1, b, by omega, y3⟩)
        · rw [if_neg c3]
          refine go 1 _ h1 (QL.rfl m1.1) (Or.inr rfl) ⟨fun _ => yb, fun _ => rfl⟩ ?_
          rcases hg with ⟨y1, y2⟩ | ⟨y1, b, y2, y3⟩
          · exact Or.inl ⟨y1, fun b a1 a2 a3 => y2 b a1 (by omega) a3⟩
          · exact Or.inr ⟨y1, b, by omega, y3⟩
      · have nb : ¬ bnd D p x10 := fun z => c2 (dl.mpr z)
        rw [if_neg c2, if_pos rfl]
        refine go 0 _ h1 (QL.rfl m1.1) (Or.inl rfl) ⟨fun z => absurd z (by decide), fun z => absurd z nb⟩ ?_
        rcases hg with ⟨y1, y2⟩ | ⟨y1, b, y2, y3⟩
        · refine Or.inl ⟨y1, fun b a1 a2 a3 => ?_⟩
          by_cases z : b = x10
          · rw [z]
            exact nb
          · exact y2 b a1 (by omega) a3
        · exact Or.inr ⟨y1, b, by omega, y3⟩
  · rw [if_neg c]
    obtain ⟨h1, e1, l1⟩ := q_p4 gx (p := (p : Int)) ⟨by omega, hp⟩
    have ec : cntF D (p + 1) = cntF D p + tb (fs D p) := rfl
    rw [bd_eq e1]
    unfold lw_tolerances_b274
    simp only [lw_tolerances_b291]
    rcases hg with ⟨y1, y2⟩ | ⟨y1, b, y2, y3, y4⟩
    · have hf : fs D p := fun q a b z => y2 q a (by omega) b (bnd_symm w ⟨a, by omega⟩ ⟨by omega, hp⟩ z)
      have eg : grp D p = cntF D p := by
        unfold grp
        rw [(smf_fs (D := D) (p := (p : Int)) (by omega)).mpr hf]
        rfl
      rw [tb_t hf] at ec
      rw [if_pos (by omega), if_pos eg, if_pos (by omega), ck_in ⟨by omega, by omega⟩, ck_in ⟨by omega, by omega⟩]
      have := hk h1 l1.1
      rw [ec] at this
      exact this
    · have hf : ¬ fs D p := fun z => z b y2.1 y3 (bnd_symm w ⟨by omega, hp⟩ ⟨y2.1, by omega⟩ y4)
      rw [tb_f hf] at ec
      rw [if_neg (by omega), if_pos y1.symm, if_neg (by omega), ck_in ⟨by omega, by omega⟩, ck_in ⟨by omega, by omega⟩]
      have := hk h1 l1.1
      rw [ec] at this
      exact this
end LAWY

section LAWZ
variable {D : Dr} {h : Hp}
theorem ex_row {d s : Int} {R : Int → Int} (z : SP (eE D (fun e => e = -1) d) s R) : ∀ v, 0 ≤ v → v < 12 → R v = dx D d s v := fun v a b => by
  rw [EX_m] at z
  exact z.dst a b
theorem gn_pos (w : WF D) {d a b : Int} (hd : 0 ≤ d ∧ d < D 7 1) (ha : 0 ≤ a ∧ a < D 7 0) (hb : 0 ≤ b ∧ b < D 7 0) (n : bnd D a b) : 0 ≤ gn D d a b := by
  have n2 := bnd_symm w ha hb n
  have l1 : gie D d a b ≤ dd D a b := by
    unfold gie
    omega
  have l2 : gie D d b a ≤ dd D b a := by
    unfold gie
    omega
  unfold gn
  rw [dx_eq w hd ha hb n, dx_eq w hd hb ha n2]
  omega
theorem tol_crit (g : QS D h) {q3 q4 q5 : Nat} {x1 x6 a b : Int} (h3 : 132 ≤ q3) (h5 : 132 ≤ q5) (n35 : q3 ≠ q5) (t : two D a b) (n : bnd D a b) : wp (iter3 (lw_tolerances_f426 0 x1 (D 7 0) q3 q4 q5 x6 a b) fuel (-999) (-1) 0 h) (fun r h1 => r = 1 ∧ QS D h1) := by
  have w := g.wf
  have w0 := w.1
  have w1 := w.2.1
  have d1 := (dd_b w t.1 t.2.1).2.2
  have d2 := (dd_b w t.2.1 t.1).2.2
  refine wp_it3 (fun x10 x11 x12 h' => ∃ k : Nat, x12 = k ∧ (k : Int) ≤ D 7 1 ∧ x10 = crN D a b k ∧ ((k = 0 ∧ x11 = -1) ∨ (0 < k ∧ x11 = gn D (crN D a b k) a b)) ∧ QS D h') (fun _ _ x12 _ => (D 7 1 - x12).toNat) (fun x10 x11 x12 h' hI k426 hk => ?_) fuel _ _ _ _ ⟨0, rfl, by omega, rfl, Or.inl ⟨rfl, rfl⟩, g⟩ (by unfold fuel; omega)
  obtain ⟨k, rfl, hkm, rfl, hx, gx⟩ := hI
  unfold lw_tolerances_f426
  obtain ⟨h1, e1, l1⟩ := q_m gx
  rw [bd_eq e1]
  by_cases c : (k : Int) < D 7 1
  · have hd : 0 ≤ (k : Int) ∧ (k : Int) < D 7 1 := ⟨by omega, c⟩
    rw [if_pos c]
    refine wp_bd (lw_reach_wp l1.1 h3 (s := a) (p2 := -1) (X := (k : Int)) t.1) (fun _ h2 hq2 => ?_)
    obtain ⟨s2, m2⟩ := hq2
    refine wp_bd (lw_reach_wp m2.1 h5 (s := b) (p2 := -1) (X := (k : Int)) t.2.1) (fun _ h3' hq3 => ?_)
    obtain ⟨s3, m3⟩ := hq3
    obtain ⟨h4, e4, l4⟩ := q_dist m3.1 a b 1
    obtain ⟨h6, e6, l6⟩ := q_dist l4.1 a b 0
    have l46 := l4.trans l6
    have x3 : h6 q3 b = dx D k a b := by
      rw [l46.2 q3 h3, m3.2 q3 h3 n35]
      exact ex_row s2 b t.2.1.1 (by omega)
    have x5 : h6 q5 a = dx D k b a := by
      rw [l46.2 q5 h5]
      exact ex_row s3 a t.1.1 (by omega)
    have r3 : dx D k a b = 1000000 ∨ (-300 ≤ dx D k a b ∧ dx D k a b ≤ 100000) := by
      rw [← ex_row s2 b t.2.1.1 (by omega)]
      exact sp_rng w s2 t.1 t.2.1
    have r5 : dx D k b a = 1000000 ∨ (-300 ≤ dx D k b a ∧ dx D k b a ≤ 100000) := by
      rw [← ex_row s3 a t.1.1 (by omega)]
      exact sp_rng w s3 t.2.1 t.1
    have n0 : ¬ dd D a b = 1000000 := n
    have eg : dd D a b - -dd D b a - dx D k a b - dx D k b a = gn D k a b := by
      unfold gn
      omega
    have gp := gn_pos w hd t.1 t.2.1 n
    rw [bd_eq e4, aDist1 t, if_neg n0, bd_eq e6, aDist0 t, if_neg n0, ck_in ⟨by omega, by omega⟩, ix_in (by omega) (by omega), x3, ck_in ⟨by omega, by omega⟩, ix_in (by omega) (by omega), x5, ck_in ⟨by omega, by omega⟩, eg]
    obtain ⟨h7, e7, l7⟩ := q_if l6.1 k a b
    have ei : aIf D k a b = gn D k a b := by
      unfold aIf
      rw [if_pos hd, if_pos t, if_neg n0]
    rw [ei] at e7
    have ec : crN D a b (k + 1) = if crN D a b k = -999 then (k : Int) else if gn D (crN D a b k) a b < gn D k a b then (k : Int) else crN D a b k := rfl
    unfold lw_tolerances_b503 lw_tolerances_b519
    by_cases c2 : x11 < gn D k a b
    · rw [if_pos c2, if_pos c2, bd_eq e7, if_pos rfl, if_neg (by omega), ck_in ⟨by omega, by omega⟩]
      have ek : crN D a b (k + 1) = (k : Int) := by
        rcases hx with ⟨y1, y2⟩ | ⟨y1, y2⟩
        · subst y1
          exact if_pos rfl
        · have := crN_b (D := D) (a := a) (b := b) k y1
          rw [ec, if_neg (by omega), if_pos (by omega)]
      exact hk _ _ _ _ ⟨k + 1, rfl, by omega, ek.symm, Or.inr ⟨by omega, by rw [ek]⟩, l7.1⟩ (by omega)
    · rw [if_neg c2, if_neg c2, bd_eq e7, if_pos rfl, if_neg (by omega), ck_in ⟨by omega, by omega⟩]
      have hx' := hx.resolve_left (fun z => by omega)
      have cb := crN_b (D := D) (a := a) (b := b) k hx'.1
      have ek : crN D a b (k + 1) = crN D a b k := by
        rw [ec, if_neg (by omega), if_neg (by omega)]
      exact hk _ _ _ _ ⟨k + 1, rfl, by omega, ek.symm, Or.inr ⟨by omega, by rw [ek]; exact hx'.2⟩, l7.1⟩ (by omega)
  · rw [if_neg c]
    obtain ⟨h2, e2, l2⟩ := q_crit l1.1 a b
    have ea : aCrit D a b = crN D a b k := by
      unfold aCrit
      rw [if_pos t, if_neg (show ¬ dd D a b = 1000000 from n), show (D 7 1).toNat = k by omega]
    unfold lw_tolerances_b567
    rw [bd_eq e2, if_pos ea, bz_in (Or.inr rfl)]
    exact wp_ret ⟨rfl, l2.1⟩
theorem tol_same (g : QS D h) {q3 q4 q5 : Nat} {x1 x6 a b : Int} (ha : 0 ≤ a ∧ a < D 7 0) (hb : 0 ≤ b ∧ b < D 7 0) (n : a = b ∨ dd D a b = 1000000) : wp (lw_tolerances_b384 0 x1 (D 7 0) q3 q4 q5 x6 a b h) (fun r h1 => r = 1 ∧ QS D h1) := by
  obtain ⟨h1, e1, l1⟩ := q_crit g a b
  unfold lw_tolerances_b384 lw_tolerances_b406
  simp only [lw_tolerances_b414]
  rw [bd_eq e1]
  by_cases c : a = b
  · have ea : aCrit D a b = -1 := by
      unfold aCrit
      rw [if_neg (fun z => z.2.2 c)]
    rw [if_pos c, if_pos ea, bz_in (Or.inr rfl)]
    exact wp_ret ⟨rfl, l1.1⟩
  · have ea : aCrit D a b = -999 := by
      unfold aCrit
      rw [if_pos ⟨ha, hb, c⟩, if_pos (n.resolve_left c)]
    rw [if_neg c, if_pos ea, bz_in (Or.inr rfl)]
    exact wp_ret ⟨rfl, l1.1⟩
theorem lw_tolerances_wp (g : QS D h) {a : Nat} (ha : 132 ≤ a) {x1 : Int} (hn : 1 ≤ D 7 0) : wp (lw_tolerances 0 x1 a h) (fun r h1 => r = 1 ∧ QS D h1) := by
  have w := g.wf
  have w0 := w.1
  have w1 := w.2.1
  obtain ⟨h1, e1, l1⟩ := q_n g
  unfold lw_tolerances
  rw [bd_eq e1, lt_eq, lt_eq, lt_eq]
  refine lw_tol1_wp (((l1.1.hz ha).hz (show 132 ≤ a + 1 by omega)).hz (show 132 ≤ a + 2 by omega)) ha (fun h2 g2 => ?_)
  unfold lw_tolerances_b91
  refine wp_it2 (fun x7 x8 h' => ∃ p : Nat, x8 = p ∧ (p : Int) ≤ D 7 0 ∧ x7 = cntF D p ∧ QS D h') (fun _ x8 _ => (D 7 0 - x8).toNat) (fun x7 x8 h' hI k97 hk97 => ?_) fuel _ _ _ ⟨0, rfl, by omega, rfl, g2⟩ (by unfold fuel; omega)
  obtain ⟨p, rfl, hpn, rfl, gx⟩ := hI
  unfold lw_tolerances_f97
  by_cases c : (p : Int) < D 7 0
  · rw [if_pos c]
    refine wp_bd (lw_reach_wp gx (q := a) ha (s := (p : Int)) (p2 := -1) (X := -1) ⟨by omega, c⟩) (fun _ h3 hq3 => ?_)
    obtain ⟨s3, m3⟩ := hq3
    exact tol_in m3.1 ha (by omega) (by omega) c (reach_row s3) (fun h4 g4 => hk97 _ _ _ ⟨p + 1, rfl, by omega, rfl, g4⟩ (by omega))
  · rw [if_neg c]
    have ep : p = (D 7 0).toNat := by omega
    subst ep
    obtain ⟨h3, e3, l3⟩ := q_5 gx
    obtain ⟨h4, e4, l4⟩ := q_6 l3.1
    obtain ⟨h5, e5, l5⟩ := q_need l4.1
    obtain ⟨h6, e6, l6⟩ := q_need l5.1
    obtain ⟨h7, e7, l7⟩ := q_m l6.1
    have ng := need_ge w
    have lb := lfN_b (D := D) (D 7 1).toNat
    have cb := cntF_b (D := D) (D 7 0).toNat
    have en : aNeed D = lfN D (D 7 1).toNat := rfl
    rw [bd_eq e3, if_pos rfl, bd_eq e4, if_pos rfl, bd_eq e5, ck_in ⟨by omega, by omega⟩, if_neg (by omega), bd_eq e6, bd_eq e7, if_neg (by omega), bd_eq (lw_low_eq (by omega)), bd_eq (lw_low_eq (by omega))]
    have b7 := low_b (v := x1) (n := D 7 0) (by omega)
    have b8 := low_b (v := x1 / 16) (n := D 7 0) (by omega)
    generalize x1 % 2147483648 % D 7 0 = y7 at *
    generalize x1 / 16 % 2147483648 % D 7 0 = y8 at *
    by_cases c2 : y7 = y8
    · rw [if_pos c2]
      exact tol_same l7.1 b7 b8 (Or.inl c2)
    · rw [if_neg c2]
      have t : two D y7 y8 := ⟨b7, b8, c2⟩
      obtain ⟨h8, e8, l8⟩ := q_dist l7.1 y7 y8 1
      rw [bd_eq e8, aDist1 t]
      by_cases c3 : dd D y7 y8 = 1000000
      · rw [if_pos c3, if_pos rfl]
        exact tol_same l8.1 b7 b8 (Or.inr c3)
      · have d1 := (dd_b w b7 b8).2.2
        rw [if_neg c3, if_neg (by omega)]
        exact tol_crit l8.1 ha (by omega) (by omega) t c3
end LAWZ

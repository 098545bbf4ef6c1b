section LAWQ
variable {D : Dr} {h : Hp}
theorem ds_7 {r : Nat} {d v i : Int} (hr : r ≠ 7) : dSet D r d v 7 i = D 7 i := by
  unfold dSet
  rw [if_neg (fun z => hr z.1.symm)]
theorem ds_o {r r' : Nat} {d v i : Int} (hr : r' ≠ r) : dSet D r d v r' i = D r' i := by
  unfold dSet
  rw [if_neg (fun z => hr z.1)]
theorem dr_set {Q : Int → Hp → Prop} {n x7 : Int} (B : DB D n (x7 + 1) h) (h7 : 0 ≤ x7 ∧ x7 ≤ 100) (z3 : D 3 x7 = 0) (z4 : D 4 x7 = 0) (z5 : D 5 x7 = 0) (z6 : D 6 x7 = 0) {L : Nat} {xs : Nat → Int32} {p2 p3 p4 x6 x8 x9 u : Int} (h8 : 0 ≤ x8 ∧ x8 ≤ 100) (hu : 0 ≤ u ∧ u ≤ 20) {k181 : Int → Int → Hp → O Int} (hk : ∀ D' h', DB D' n (x7 + 1) h' → wp (k181 (x7 + 1) (x8 + 1) h') Q) : wp (lw_drawing_b310 0 L xs p2 p3 p4 k181 x6 x7 x8 x9 u h) Q := by
  obtain ⟨g, en, em, el, ea⟩ := B
  have hd : 0 ≤ x7 ∧ x7 < D 7 1 := by omega
  unfold lw_drawing_b310
  rw [bd_eq (lw_low_eq (by omega))]
  have b1 := low_b (v := x9 / 32768) (n := 6) (by omega)
  generalize x9 / 32768 % 2147483648 % 6 = pl at *
  obtain ⟨h1, e1, g1⟩ := ed_tol g hd hu (v := pl) (by omega)
  rw [bd_eq e1, z3, z4, if_pos (by decide), bd_eq (lw_low_eq (by omega)), bd_eq (lw_low_eq (by omega))]
  have b2 := low_b (v := x9 / 262144) (n := 2) (by omega)
  have b3 := low_b (v := x9 / 524288) (n := 3) (by omega)
  generalize x9 / 262144 % 2147483648 % 2 = c1 at *
  generalize x9 / 524288 % 2147483648 % 3 = c2 at *
  have bc : 0 ≤ c1 * c2 ∧ c1 * c2 ≤ 5 := by
    rcases (by omega : c1 = 0 ∨ c1 = 1) with rfl | rfl <;> omega
  have i7 : ∀ i, dSet (dSet D 3 x7 u) 4 x7 pl 7 i = D 7 i := fun i => by rw [ds_7 (by decide), ds_7 (by decide)]
  have i5 : dSet (dSet D 3 x7 u) 4 x7 pl 5 x7 = 0 := by rw [ds_o (by decide), ds_o (by decide), z5]
  have i6 : dSet (dSet D 3 x7 u) 4 x7 pl 6 x7 = 0 := by rw [ds_o (by decide), ds_o (by decide), z6]
  generalize dSet (dSet D 3 x7 u) 4 x7 pl = D1 at *
  obtain ⟨h2, e2, g2⟩ := ed_chain g1 (d := x7) (v := c1 * c2) (by rw [i7]; exact hd) bc
  rw [ck_in ⟨by omega, by omega⟩, bd_eq e2, if_pos i5, bd_eq (lw_low_eq (by omega))]
  have j7 : ∀ i, dSet D1 5 x7 (c1 * c2) 7 i = D 7 i := fun i => by rw [ds_7 (by decide), i7]
  have j6 : dSet D1 5 x7 (c1 * c2) 6 x7 = 0 := by rw [ds_o (by decide), i6]
  generalize dSet D1 5 x7 (c1 * c2) = D2 at *
  have fin : ∀ v, (0 ≤ v ∧ v ≤ 9) → wp (lw_drawing_b390 0 L xs p2 p3 p4 k181 x6 x7 x8 v x7 h2) Q := fun v hv => by
    obtain ⟨h3, e3, g3⟩ := ed_least g2 (d := x7) (v := v) (by rw [j7]; exact hd) hv
    unfold lw_drawing_b390 lw_drawing_b401
    rw [bd_eq e3, if_pos j6, ck_in ⟨by omega, by omega⟩, ck_in ⟨by omega, by omega⟩]
    refine hk _ h3 ⟨g3, ?_, ?_, ?_, ?_⟩
    · rw [ds_7 (by decide), j7]; exact en
    · rw [ds_7 (by decide), j7]; exact em
    · rw [ds_7 (by decide), j7]; exact el
    · rw [ds_7 (by decide), j7]; exact ea
  by_cases c : x9 / 4194304 % 2147483648 % 6 = 0
  · rw [if_pos c, bd_eq (lw_low_eq (by omega))]
    have b4 := low_b (v := x9 / 16777216) (n := 4) (by omega)
    exact fin _ (by omega)
  · rw [if_neg c]
    exact fin 0 (by omega)
theorem dr_dim {Q : Int → Hp → Prop} {n x7 : Int} (B : DB D n x7 h) (h7 : 0 ≤ x7 ∧ x7 < 16) {L : Nat} {xs : Nat → Int32} {p2 p3 p4 x8 x9 a b : Int} (h8 : 0 ≤ x8 ∧ x8 ≤ 100) (ha : 0 ≤ a ∧ a < n) (hb : 0 ≤ b ∧ b < n) {k181 : Int → Int → Hp → O Int} (hk : ∀ D' y h', DB D' n y h' → (0 ≤ y ∧ y ≤ x7 + 1) → wp (k181 y (x8 + 1) h') Q) : wp (lw_drawing_b241 0 L xs p2 p3 p4 k181 n x7 x8 x9 a b h) Q := by
  obtain ⟨g, en, em, el, ea⟩ := id B
  unfold lw_drawing_b241 lw_drawing_b264
  by_cases c : a = b
  · subst c
    rw [bd_eq (ed_same g a), if_pos rfl, if_pos rfl, if_pos rfl]
    unfold lw_drawing_b401
    rw [ck_in ⟨by omega, by omega⟩]
    exact hk D x7 h B (by omega)
  · obtain ⟨h1, e1, g1⟩ := ed_add g (a := a) (b := b) ⟨by omega, by omega, c⟩ (by omega)
    rw [bd_eq e1, if_neg c, if_pos em, if_neg c, bd_eq (lw_low_eq (by omega))]
    have B1 : DB (dLay D (min a b) (max a b) 0 0 0) n (x7 + 1) h1 := by
      refine ⟨g1, ?_, ?_, ?_, ?_⟩
      · rw [← en]
        unfold dLay
        grind
      · rw [← em]
        unfold dLay
        grind
      · rw [← el]
        unfold dLay
        grind
      · rw [← ea]
        unfold dLay
        grind
    have z3 : dLay D (min a b) (max a b) 0 0 0 3 x7 = 0 := by
      unfold dLay
      grind
    have z4 : dLay D (min a b) (max a b) 0 0 0 4 x7 = 0 := by
      unfold dLay
      grind
    have z5 : dLay D (min a b) (max a b) 0 0 0 5 x7 = 0 := by
      unfold dLay
      grind
    have z6 : dLay D (min a b) (max a b) 0 0 0 6 x7 = 0 := by
      unfold dLay
      grind
    have go : ∀ u, (0 ≤ u ∧ u ≤ 20) → wp (lw_drawing_b310 0 L xs p2 p3 p4 k181 n x7 x8 x9 u h1) Q := fun u hu => dr_set B1 (by omega) z3 z4 z5 z6 h8 hu (fun D' h' B' => hk D' _ h' B' (by omega))
    by_cases c2 : x9 / 1024 % 2147483648 % 3 = 0
    · rw [if_pos c2, bd_eq (lw_low_eq (by omega))]
      have b1 := low_b (v := x9 / 4096) (n := 21) (by omega)
      exact go _ (by omega)
    · rw [if_neg c2, bd_eq (lw_low_eq (by omega))]
      have b1 := low_b (v := x9 / 4096) (n := 4) (by omega)
      exact go _ (by omega)
theorem dr_dims {n : Int} (B : DB D n 0 h) (hn : 1 ≤ n ∧ n ≤ 12) {L : Nat} {xs : Nat → Int32} {p3 p4 : Int} (h4 : 0 ≤ p4 ∧ p4 ≤ 16) : wp (iter2 (lw_drawing_f181 0 L xs 1 p3 p4 n) fuel 0 0 h) (fun r h1 => r = 1 ∧ ∃ D' m, DB D' n m h1) := by
  refine wp_it2 (fun x7 x8 h' => ∃ D', DB D' n x7 h' ∧ (0 ≤ x8 ∧ x8 ≤ p4) ∧ 0 ≤ x7 ∧ x7 ≤ x8) (fun _ x8 _ => (p4 - x8).toNat) (fun x7 x8 h' hI k181 hk => ?_) fuel _ _ _ ⟨D, B, by omega, by omega⟩ (by unfold fuel; omega)
  obtain ⟨D1, B1, h8, h7⟩ := hI
  unfold lw_drawing_f181
  by_cases c : x8 < p4
  · obtain ⟨v, ev, vr⟩ := lw_cell_eq (h := h') (L := L) (xs := xs) (k := 1 + 13 + x8) (by omega)
    have b2 := low_b (v := v) (n := n) (by omega)
    rw [if_pos c, ck_in ⟨by omega, by omega⟩, ck_in ⟨by omega, by omega⟩, bd_eq ev, bd_eq (lw_low_eq (by omega)), bd_eq (lw_low_eq (by omega))]
    by_cases c2 : v / 16 % 2147483648 % 3 = 0
    · have b3 := low_b (v := v / 64) (n := n) (by omega)
      rw [if_pos c2, bd_eq (lw_low_eq (by omega))]
      exact dr_dim B1 (by omega) (by omega) b2 b3 (fun D' y h2 B2 hy => hk _ _ _ ⟨D', B2, by omega, by omega⟩ (by omega))
    · rw [if_neg c2, ck_in ⟨by omega, by omega⟩, dv_in (by omega) (by omega)]
      exact dr_dim B1 (by omega) (by omega) b2 ⟨Int.emod_nonneg _ (by omega), Int.emod_lt_of_pos _ (by omega)⟩ (fun D' y h2 B2 hy => hk _ _ _ ⟨D', B2, by omega, by omega⟩ (by omega))
  · rw [if_neg c]
    obtain ⟨g, en, em, el, ea⟩ := B1
    obtain ⟨h1, e1, l1⟩ := q_n g
    obtain ⟨h2, e2, l2⟩ := q_m l1.1
    unfold lw_drawing_b432
    rw [bd_eq e1, if_pos en, bd_eq e2, if_pos em, bz_in (Or.inr rfl)]
    exact wp_ret ⟨rfl, D1, x7, l2.1, en, em, el, ea⟩
theorem lw_drawing_wp (B : DB D 0 0 h) {L : Nat} {xs : Nat → Int32} {p3 p4 : Int} (h3 : 2 ≤ p3 ∧ p3 ≤ 6) (h4 : 0 ≤ p4 ∧ p4 ≤ 16) : wp (lw_drawing 0 L xs 1 p3 p4 h) (fun r h1 => r = 1 ∧ ∃ D' n m, 1 ≤ n ∧ DB D' n m h1) := by
  obtain ⟨v, ev, vr⟩ := lw_cell_eq (h := h) (L := L) (xs := xs) (k := 1) (by omega)
  unfold lw_drawing
  rw [bd_eq ev]
  refine wp_it2 (fun x6 x7 h' => ∃ D', DB D' x6 0 h' ∧ (0 ≤ x7 ∧ x7 ≤ 2 * p3) ∧ (0 ≤ x6 ∧ x6 ≤ p3) ∧ (1 ≤ x7 → 1 ≤ x6)) (fun _ x7 _ => (2 * p3 - x7).toNat) (fun x6 x7 h' hI k13 hk => ?_) fuel _ _ _ ⟨D, B, by omega, by omega, by omega⟩ (by unfold fuel; omega)
  obtain ⟨D1, B1, h7, h6, h67⟩ := hI
  unfold lw_drawing_f13 lw_drawing_b175
  rw [ck_in ⟨by omega, by omega⟩]
  have fin : 1 ≤ x6 → wp (iter2 (lw_drawing_f181 0 L xs 1 p3 p4 x6) fuel 0 0 h') (fun r h1 => r = 1 ∧ ∃ D' n m, 1 ≤ n ∧ DB D' n m h1) := fun z => wp_mono (dr_dims B1 (by omega) h4) (fun r h1 q => by
    obtain ⟨q1, D', m, q2⟩ := q
    exact ⟨q1, D', x6, m, z, q2⟩)
  by_cases c : x7 < 2 * p3
  · rw [if_pos c]
    by_cases c2 : x6 < p3
    · obtain ⟨y, ey, yr⟩ := lw_cell_eq (h := h') (L := L) (xs := xs) (k := 1 + 1 + x7) (by omega)
      rw [if_pos c2, ck_in ⟨by omega, by omega⟩, ck_in ⟨by omega, by omega⟩, bd_eq ey, bd_eq (lw_low_eq (by omega))]
      have go : ∀ s, (1 ≤ s ∧ s ≤ 301) → wp (lw_drawing_b58 0 L xs 1 p3 p4 k13 v x6 x7 s y h') (fun r h1 => r = 1 ∧ ∃ D' n m, 1 ≤ n ∧ DB D' n m h1) := fun s hs => by
        have bs := low_b (v := y) (n := s) (by omega)
        unfold lw_drawing_b58
        rw [bd_eq (lw_low_eq (by omega))]
        exact dr_one B1 (by omega) (by omega) (by omega) (fun D' n' h2 B2 hn => hk _ _ _ ⟨D', B2, by omega, by omega, by omega⟩ (by omega))
      by_cases c3 : v % 2147483648 % 3 = 0
      · rw [if_pos c3]
        exact go 301 (by omega)
      · rw [if_neg c3]
        exact go 50 (by omega)
    · rw [if_neg c2]
      exact fin (by omega)
  · rw [if_neg c]
    exact fin (by omega)
end LAWQ

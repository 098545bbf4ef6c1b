section LAWE
variable {D : Dr} {h : Hp}
theorem ed_no (g : QS D h) {x : Int} (hx : 0 ≤ x ∧ x ≤ 300) (y : hasX D x) : dl_addPoint 0 x h = some (-2, h) := by
  obtain ⟨⟨K, B, hO, hC⟩, hF⟩ := id g
  exact ((dl_addPoint_eq hC hO x).2 hx).1 y
theorem ed_point (g : QS D h) {x : Int} (hx : 0 ≤ x ∧ x ≤ 300) (n : ¬ hasX D x) (h12 : D 7 0 ≠ 12) : ∃ h1, dl_addPoint 0 x h = some (cntB (D 0) x (D 7 0).toNat, h1) ∧ QS (dIns D x (cntB (D 0) x (D 7 0).toNat)) h1 := by
  obtain ⟨⟨K, B, hO, hC⟩, hF⟩ := id g
  obtain ⟨h1, e1, g1, -⟩ := QS.chg hO ((((dl_addPoint_eq hC hO x).2 hx).2 n).2 h12) (hO.1.ins h12 hx n)
  exact ⟨h1, e1, g1⟩
theorem ed_same (g : QS D h) (a : Int) : dl_add 0 a a h = some (-1, h) := by
  obtain ⟨⟨K, B, hO, hC⟩, hF⟩ := id g
  exact (dl_add_eq hC hO a a).1 (fun z => z.2.2 rfl)
theorem ed_add (g : QS D h) {a b : Int} (t : two D a b) (h16 : D 7 1 ≠ 16) : ∃ h1, dl_add 0 a b h = some (D 7 1, h1) ∧ QS (dLay D (min a b) (max a b) 0 0 0) h1 := by
  obtain ⟨⟨K, B, hO, hC⟩, hF⟩ := id g
  obtain ⟨h1, e1, g1, -⟩ := QS.chg hO (((dl_add_eq hC hO a b).2 t).2 h16) (hO.1.lay (a := min a b) (b := max a b) (mi := 0) (pl := 0) (ch := 0) h16 (by omega) (by omega) (by omega) (by omega))
  exact ⟨h1, e1, g1⟩
theorem ed_tol (g : QS D h) {d u v : Int} (hd : 0 ≤ d ∧ d < D 7 1) (hu : 0 ≤ u ∧ u ≤ 20) (hv : 0 ≤ v ∧ v ≤ 20) : ∃ h1, dl_setTolerance 0 d u v h = some (100 * D 3 d + D 4 d, h1) ∧ QS (dSet (dSet D 3 d u) 4 d v) h1 := by
  obtain ⟨⟨K, B, hO, hC⟩, hF⟩ := id g
  obtain ⟨h1, e1, g1, -⟩ := QS.chg hO ((dl_setTolerance_eq hC hO d u v).2 ⟨hd, hu, hv⟩) ((hO.1.set (r := 3) (d := d) (v := u) (Or.inl ⟨by omega, by omega, hu⟩)).set (r := 4) (d := d) (v := v) (Or.inl ⟨by omega, by omega, hv⟩))
  exact ⟨h1, e1, g1⟩
theorem ed_chain (g : QS D h) {d v : Int} (hd : 0 ≤ d ∧ d < D 7 1) (hv : 0 ≤ v ∧ v ≤ 5) : ∃ h1, dl_setChain 0 d v h = some (D 5 d, h1) ∧ QS (dSet D 5 d v) h1 := by
  obtain ⟨⟨K, B, hO, hC⟩, hF⟩ := id g
  obtain ⟨h1, e1, g1, -⟩ := QS.chg hO ((dl_setChain_eq hC hO d v).2 ⟨hd, hv⟩) (hO.1.set (r := 5) (d := d) (v := v) (Or.inr (Or.inl ⟨rfl, hv⟩)))
  exact ⟨h1, e1, g1⟩
theorem ed_least (g : QS D h) {d v : Int} (hd : 0 ≤ d ∧ d < D 7 1) (hv : 0 ≤ v ∧ v ≤ 9) : ∃ h1, dl_setLeast 0 d v h = some (D 6 d, h1) ∧ QS (dSet D 6 d v) h1 := by
  obtain ⟨⟨K, B, hO, hC⟩, hF⟩ := id g
  obtain ⟨h1, e1, g1, -⟩ := QS.chg hO ((dl_setLeast_eq hC hO d v).2 ⟨hd, hv⟩) (hO.1.set (r := 6) (d := d) (v := v) (Or.inr (Or.inr ⟨rfl, hv⟩)))
  exact ⟨h1, e1, g1⟩
theorem ed_letter (g : QS D h) {v : Int} (hv : 1 ≤ v ∧ v ≤ 9) : ∃ h1, dl_setLetter 0 v h = some (D 7 2, h1) ∧ QS (dSet D 7 2 v) h1 := by
  obtain ⟨⟨K, B, hO, hC⟩, hF⟩ := id g
  obtain ⟨h1, e1, g1, -⟩ := QS.chg hO ((dl_setLetter_eq hC hO v).2 hv) (hO.1.setS (Or.inl rfl) hv)
  exact ⟨h1, e1, g1⟩
theorem ed_arrow (g : QS D h) {v : Int} (hv : 1 ≤ v ∧ v ≤ 9) : ∃ h1, dl_setArrow 0 v h = some (D 7 3, h1) ∧ QS (dSet D 7 3 v) h1 := by
  obtain ⟨⟨K, B, hO, hC⟩, hF⟩ := id g
  obtain ⟨h1, e1, g1, -⟩ := QS.chg hO ((dl_setArrow_eq hC hO v).2 hv) (hO.1.setS (Or.inr rfl) hv)
  exact ⟨h1, e1, g1⟩
/-- the drawing as the law builds it -/
def DB (D : Dr) (n m : Int) (h : Hp) : Prop := QS D h ∧ D 7 0 = n ∧ D 7 1 = m ∧ D 7 2 = 4 ∧ D 7 3 = 3
theorem dr_scan {Q : Int → Hp → Prop} (g : QS D h) {L : Nat} {xs : Nat → Int32} {p2 p3 p4 x5 x7 x : Int} {k13 : Int → Int → Hp → O Int} (hk : ∀ h' t, QS D h' → (t = 0 ∨ t = 1) → (t = 1 ↔ ∃ i, (0 ≤ i ∧ i < D 7 0) ∧ D 0 i = x) → wp (bd (dl_addPoint 0 x h') fun r2 h2 => if t = 0 then lw_drawing_b149 0 L xs p2 p3 p4 k13 x5 (D 7 0) x7 t (cntB (D 0) x (D 7 0).toNat) r2 h2 else lw_drawing_b149 0 L xs p2 p3 p4 k13 x5 (D 7 0) x7 t (-2) r2 h2) Q) : wp (iter3 (lw_drawing_f72 0 L xs p2 p3 p4 k13 x5 (D 7 0) x7 x) fuel 0 0 0 h) Q := by
  have w0 := g.wf.1
  refine wp_it3 (fun x10 x11 x12 h' => ∃ k : Nat, x12 = k ∧ (k : Int) ≤ D 7 0 ∧ x10 = cntB (D 0) x k ∧ (x11 = 0 ∨ x11 = 1) ∧ (x11 = 1 ↔ ∃ i : Int, (0 ≤ i ∧ i < k) ∧ D 0 i = x) ∧ QS D h') (fun _ _ x12 _ => (D 7 0 - x12).toNat) (fun x10 x11 x12 h' hI k72 hk72 => ?_) fuel _ _ _ _ ⟨0, rfl, by omega, rfl, Or.inl rfl, ⟨fun z => absurd z (by decide), fun ⟨i, a, _⟩ => by omega⟩, g⟩ (by unfold fuel; omega)
  obtain ⟨k, rfl, hkn, rfl, ht, hti, gx⟩ := hI
  have cb := cntB_b (D 0) x k
  unfold lw_drawing_f72
  by_cases c : (k : Int) < D 7 0
  · rw [if_pos c]
    obtain ⟨h1, e1, l1⟩ := q_p0 gx (p := (k : Int)) ⟨by omega, c⟩
    obtain ⟨h2, e2, l2⟩ := q_p0 l1.1 (p := (k : Int)) ⟨by omega, c⟩
    have ec : cntB (D 0) x (k + 1) = cntB (D 0) x k + yn (D 0 k < x) := rfl
    have ckk : inR ((k : Int) + 1) := ⟨by omega, by omega⟩
    have go : ∀ y, y = yn (D 0 k < x) → wp (lw_drawing_b98 0 L xs p2 p3 p4 k72 x5 (D 7 0) x7 x x11 k y (cntB (D 0) x k) h1) Q := fun y ey => by
      have yb := yn_b (c := D 0 (k : Int) < x)
      have fin : ∀ t h3, QS D h3 → (t = 0 ∨ t = 1) → (t = 1 ↔ x11 = 1 ∨ D 0 k = x) → wp (k72 (cntB (D 0) x k + y) t ((k : Int) + 1) h3) Q := fun t h3 g3 z1 z2 => by
        refine hk72 _ _ _ _ ⟨k + 1, rfl, by omega, by rw [ec, ey], z1, ?_, g3⟩ (by omega)
        rw [z2, hti]
        constructor
        · rintro (⟨i, a, b⟩ | b)
          · exact ⟨i, by omega, b⟩
          · exact ⟨k, by omega, b⟩
        · rintro ⟨i, a, b⟩
          by_cases z : i = k
          · exact Or.inr (z ▸ b)
          · exact Or.inl ⟨i, by omega, b⟩
      unfold lw_drawing_b98 lw_drawing_b118
      simp only [lw_drawing_b123, ck_in ckk]
      rw [ck_in ⟨by omega, by omega⟩]
      by_cases c2 : x11 = 0
      · rw [if_pos c2, bd_eq e2]
        by_cases c3 : D 0 (k : Int) = x
        · rw [if_pos c3]
          exact fin 1 h2 l2.1 (Or.inr rfl) ⟨fun _ => Or.inr c3, fun _ => rfl⟩
        · rw [if_neg c3]
          exact fin 0 h2 l2.1 (Or.inl rfl) ⟨fun z => absurd z (by decide), fun z => by rcases z with z | z; omega; exact absurd z c3⟩
      · rw [if_neg c2]
        exact fin 1 h1 l1.1 (Or.inr rfl) ⟨fun _ => Or.inl (by omega), fun _ => rfl⟩
    rw [bd_eq e1]
    by_cases c1 : D 0 (k : Int) < x
    · rw [if_pos c1]
      exact go 1 (by rw [yn_t c1])
    · rw [if_neg c1]
      exact go 0 (by rw [yn_f c1])
  · rw [if_neg c]
    have ek : k = (D 7 0).toNat := by omega
    subst ek
    exact hk h' x11 gx ht (by rw [hti, Int.toNat_of_nonneg w0.1])
theorem hasX_iff (w : WF D) {x : Int} : hasX D x ↔ ∃ i, (0 ≤ i ∧ i < D 7 0) ∧ D 0 i = x := by
  constructor
  · intro z
    have cb := cntB_b (D 0) x (D 7 0).toNat
    exact ⟨_, ⟨cb.1, z.1⟩, z.2⟩
  · rintro ⟨i, a, b⟩
    exact (hasX_uniq w a.1 a.2 b).1
/-- one point more, or taken -/
theorem dr_one {Q : Int → Hp → Prop} {n : Int} (B : DB D n 0 h) {L : Nat} {xs : Nat → Int32} {p2 p3 p4 x5 x7 x : Int} {k13 : Int → Int → Hp → O Int} (hx : 0 ≤ x ∧ x ≤ 300) (hn : 0 ≤ n ∧ n < 12) (h7 : 0 ≤ x7 ∧ x7 ≤ 1000) (hk : ∀ D' n' h', DB D' n' 0 h' → (n' = n ∧ 1 ≤ n ∨ n' = n + 1) → wp (k13 n' (x7 + 1) h') Q) : wp (iter3 (lw_drawing_f72 0 L xs p2 p3 p4 k13 x5 n x7 x) fuel 0 0 0 h) Q := by
  obtain ⟨g, en, em, el, ea⟩ := B
  subst en
  have w := g.wf
  refine dr_scan g (fun h1 t g1 ht hti => ?_)
  rw [← hasX_iff w] at hti
  have cb := cntB_b (D 0) x (D 7 0).toNat
  unfold lw_drawing_b149 lw_drawing_b166
  by_cases c : hasX D x
  · have e1 := ed_no g1 hx c
    have e := hti.mpr c
    obtain ⟨i, i1, -⟩ := (hasX_iff w).mp c
    rw [bd_eq e1, if_neg (by omega), if_pos rfl, if_neg (by omega), ck_in ⟨by omega, by omega⟩, ck_in ⟨by omega, by omega⟩]
    exact hk D _ h1 ⟨g1, by omega, em, el, ea⟩ (Or.inl ⟨by omega, by omega⟩)
  · obtain ⟨h2, e2, g2⟩ := ed_point g1 hx c (by omega)
    have e : t = 0 := ht.resolve_right (fun z => c (hti.mp z))
    rw [bd_eq e2, if_pos e, if_pos rfl, if_pos e, ck_in ⟨by omega, by omega⟩, ck_in ⟨by omega, by omega⟩]
    refine hk _ _ h2 ⟨g2, rfl, ?_, ?_, ?_⟩ (Or.inr (by show D 7 0 + 1 = _; rfl))
    · exact em
    · exact el
    · exact ea
end LAWE

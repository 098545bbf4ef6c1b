section LAWL
variable {D : Dr} {h : Hp}
theorem aP_ld (w : WF D) {a : Int} : ∀ i : Nat, (i : Int) ≤ uc D (D 7 1).toNat → ∀ v, aP D a i v = 1 → (0 ≤ v ∧ v < D 7 1) ∧ ld D v = v
  | 0, _, v, e => absurd e (by decide : ¬ (0 : Int) = 1)
  | i + 1, hi, v, e => by
    have e : (if v = aU D a i then 1 else aP D a i v) = 1 := e
    by_cases c : v = aU D a i
    · have t := aU_is (a := a) w (aS_is w i (by omega)).1 (by omega)
      rw [c]
      exact ⟨t.1, t.2.1⟩
    · rw [if_neg c] at e
      exact aP_ld w i (by omega) v e
/-- the law's key of a unit -/
def ky (D : Dr) (u : Int) : Int := 1000 * (uT D u - uS D u) + uS D u
theorem ky_bf (w : WF D) {u v : Int} (hu : 0 ≤ u ∧ u < D 7 1) (hv : 0 ≤ v ∧ v < D 7 1) (n : v < u) : ky D u < ky D v ↔ bf (uS D) (uT D) u v := by
  have b1 := w.uST hu.1 hu.2
  have b2 := w.uST hv.1 hv.2
  unfold ky bf
  omega
/-- before the law lays the unit number i -/
def LI (D : Dr) (h0 : Hp) (q : Nat) (i : Nat) (x3 : Int) (h' : Hp) : Prop := 0 ≤ x3 ∧ (∀ v, 0 ≤ v → v < D 7 1 → (pbit x3 v = 1 ↔ aP D (D 7 3) i v = 1)) ∧ (∀ v, 0 ≤ v → v < D 7 1 → aP D (D 7 3) i v = 1 → h' q v = aL D (D 7 3) i v) ∧ QS D h' ∧ ∀ c, 132 ≤ c → c ≠ q → h' c = h0 c
theorem LI.q {h0 h' : Hp} {q i : Nat} {x3 : Int} (hq : 132 ≤ q) (L : LI D h0 q i x3 h) (l : QL D h h') : LI D h0 q i x3 h' := ⟨L.1, L.2.1, fun v a b c => by rw [l.2 q hq]; exact L.2.2.1 v a b c, l.1, fun c a b => (l.2 c a).trans (L.2.2.2.2 c a b)⟩
theorem pbit_z {x v : Int} : pbit x v = 0 ∨ pbit x v = 1 := by
  unfold pbit
  omega
theorem lan_sel {Q : Int → Hp → Prop} {h0 : Hp} {q i : Nat} {x3 : Int} (L : LI D h0 q i x3 h) (hi : (i : Int) < uc D (D 7 1).toNat) {k58 : Int → Int → Int → Hp → O Int} {x4 x5 x6 : Int} (hk : ∀ h'', QL D h h'' → wp (bd (lw_span 0 (aU D (D 7 3) i) 2 h'') fun r5 h5 => iter2 (lw_lanes_f221 0 (D 7 1) q k58 x3 x4 x5 x6 (aU D (D 7 3) i)) fuel r5 0 h5) Q) : wp (iter3 (lw_lanes_f74 0 (D 7 1) q k58 x3 x4 x5 x6) fuel (-1) 0 0 h) Q := by
  have g := L.2.2.2.1
  have w := g.wf
  have w1 := w.2.1
  refine wp_it3 (fun x7 x8 x9 h' => ∃ k : Nat, x9 = k ∧ (k : Int) ≤ D 7 1 ∧ ((x7 = -1 ∧ nu D (aP D (D 7 3) i) (uS D) (uT D) k = -999) ∨ (x7 = nu D (aP D (D 7 3) i) (uS D) (uT D) k ∧ (0 ≤ x7 ∧ x7 < k) ∧ ld D x7 = x7 ∧ x8 = ky D x7)) ∧ QL D h h') (fun _ _ x9 _ => (D 7 1 - x9).toNat) (fun x7 x8 x9 h' hI k74 hk74 => ?_) fuel _ _ _ _ ⟨0, rfl, by omega, Or.inl ⟨rfl, rfl⟩, QL.rfl g⟩ (by unfold fuel; omega)
  obtain ⟨k, rfl, hkm, hx, lx⟩ := hI
  unfold lw_lanes_f74
  by_cases c : (k : Int) < D 7 1
  · rw [if_pos c]
    obtain ⟨h1, e1, l1⟩ := lw_unit_eq lx.1 (d := (k : Int)) (by omega)
    rw [bd_eq e1]
    have lx1 := lx.trans l1
    have en : nu D (aP D (D 7 3) i) (uS D) (uT D) (k + 1) = if ld D k = k ∧ aP D (D 7 3) i k = 0 ∧ (nu D (aP D (D 7 3) i) (uS D) (uT D) k = -999 ∨ bf (uS D) (uT D) k (nu D (aP D (D 7 3) i) (uS D) (uT D) k)) then (k : Int) else nu D (aP D (D 7 3) i) (uS D) (uT D) k := rfl
    have stay : ∀ h2, QL D h h2 → ¬ (ld D k = k ∧ aP D (D 7 3) i k = 0 ∧ (nu D (aP D (D 7 3) i) (uS D) (uT D) k = -999 ∨ bf (uS D) (uT D) k (nu D (aP D (D 7 3) i) (uS D) (uT D) k))) → wp (k74 x7 x8 ((k : Int) + 1) h2) Q := fun h2 l2 n => by
      rw [if_neg n] at en
      refine hk74 _ _ _ _ ⟨k + 1, rfl, by omega, ?_, l2⟩ (by omega)
      rw [en]
      exact hx.imp id (fun z => ⟨z.1, by omega, z.2.2⟩)
    have take : ∀ h2, QL D h h2 → (ld D k = k ∧ aP D (D 7 3) i k = 0 ∧ (nu D (aP D (D 7 3) i) (uS D) (uT D) k = -999 ∨ bf (uS D) (uT D) k (nu D (aP D (D 7 3) i) (uS D) (uT D) k))) → wp (k74 k (ky D k) ((k : Int) + 1) h2) Q := fun h2 l2 n => by
      rw [if_pos n] at en
      refine hk74 _ _ _ _ ⟨k + 1, rfl, by omega, Or.inr ⟨en.symm, by omega, n.1, rfl⟩, l2⟩ (by omega)
    have ckk : inR ((k : Int) + 1) := ⟨by omega, by omega⟩
    simp only [lw_lanes_b203, ck_in ckk]
    by_cases c1 : ld D (k : Int) = k
    · rw [if_pos c1, shc_in L.1 (by omega) (by omega)]
      have pz := L.2.1 k (by omega) (by omega)
      by_cases c2 : x3 / pw2 (k : Int) % 2 = 0
      · rw [if_pos c2]
        have ap : aP D (D 7 3) i k = 0 := (aP_z i k).resolve_right (fun z => by
          have := pz.mpr z
          unfold pbit at this
          omega)
        obtain ⟨h2, e2, l2⟩ := lw_span1 l1.1 (u := (k : Int)) (by omega) c1
        obtain ⟨h3, e3, l3⟩ := lw_span0 l2.1 (u := (k : Int)) (by omega) c1
        obtain ⟨h4, e4, l4⟩ := lw_span0 l3.1 (u := (k : Int)) (by omega) c1
        have kb := w.uST (u := (k : Int)) (by omega) (by omega)
        have ek : 1000 * (uT D k - uS D k) + uS D k = ky D k := rfl
        rw [bd_eq e2, bd_eq e3, ck_in ⟨by omega, by omega⟩, ck_in ⟨by omega, by omega⟩, bd_eq e4, ck_in ⟨by omega, by omega⟩, ek]
        have l04 := ((lx1.trans l2).trans l3).trans l4
        unfold lw_lanes_b141 lw_lanes_b148 lw_lanes_b194 lw_lanes_b199
        simp only [lw_lanes_b201, lw_lanes_b203, ck_in ckk]
        rcases hx with ⟨x1, x2⟩ | ⟨x1, x2, x3', x4'⟩
        · have n7 : x7 < 0 := by omega
          rw [if_pos n7, if_pos n7]
          exact take h4 l04 ⟨c1, ap, Or.inl x2⟩
        · have n7 : ¬ x7 < 0 := by omega
          have kv := w.uST (u := x7) (by omega) (by omega)
          obtain ⟨h5, e5, l5⟩ := lw_span1 l4.1 (u := x7) (by omega) x3'
          obtain ⟨h6, e6, l6⟩ := lw_span0 l5.1 (u := x7) (by omega) x3'
          obtain ⟨h7, e7, l7⟩ := lw_span0 l6.1 (u := x7) (by omega) x3'
          have l07 := ((l04.trans l5).trans l6).trans l7
          have ek7 : 1000 * (uT D x7 - uS D x7) + uS D x7 = ky D x7 := rfl
          have kbf := ky_bf w (u := (k : Int)) (v := x7) (by omega) (by omega) (by omega)
          have nn : ¬ nu D (aP D (D 7 3) i) (uS D) (uT D) k = -999 := by omega
          rw [if_neg n7]
          by_cases c4 : ky D k < x8
          · rw [if_pos c4, if_neg n7, if_pos True.intro, bd_eq e5, bd_eq e6, ck_in ⟨by omega, by omega⟩, ck_in ⟨by omega, by omega⟩, bd_eq e7, ck_in ⟨by omega, by omega⟩, ek7, if_pos (by omega)]
            exact take h7 l07 ⟨c1, ap, Or.inr (by rw [← x1]; exact kbf.mp (by omega))⟩
          · have no : ¬ (ld D k = k ∧ aP D (D 7 3) i k = 0 ∧ (nu D (aP D (D 7 3) i) (uS D) (uT D) k = -999 ∨ bf (uS D) (uT D) k (nu D (aP D (D 7 3) i) (uS D) (uT D) k))) := fun z => by
              have z := z.2.2.resolve_left nn
              rw [← x1] at z
              have := kbf.mpr z
              omega
            rw [if_neg c4, if_neg n7]
            by_cases c5 : ky D k = x8
            · rw [if_pos c5, bd_eq e5, bd_eq e6, ck_in ⟨by omega, by omega⟩, ck_in ⟨by omega, by omega⟩, bd_eq e7, ck_in ⟨by omega, by omega⟩, ek7, if_neg (by omega)]
              exact stay h7 l07 no
            · rw [if_neg c5]
              exact stay h4 l04 no
      · rw [if_neg c2]
        exact stay h1 lx1 (fun z => by
          have z1 := z.2.1
          rcases pbit_z (x := x3) (v := (k : Int)) with y | y
          · exact c2 y
          · have := pz.mp y
            omega)
    · rw [if_neg c1]
      exact stay h1 lx1 (fun z => c1 z.1)
  · rw [if_neg c]
    have ek : k = (D 7 1).toNat := by omega
    subst ek
    have t := aU_is (a := D 7 3) w (aS_is w i (by omega)).1 hi
    have eu : x7 = aU D (D 7 3) i := by
      rcases hx with ⟨x1, x2⟩ | ⟨x1, -⟩
      · have : aU D (D 7 3) i = nu D (aP D (D 7 3) i) (uS D) (uT D) (D 7 1).toNat := rfl
        omega
      · exact x1
    subst eu
    exact hk h' lx
end LAWL

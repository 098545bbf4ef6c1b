section LAWM
variable {D : Dr} {h : Hp}
theorem pw2_le {u : Int} (h0 : 0 ≤ u) (h1 : u < 16) : 1 ≤ pw2 u ∧ pw2 u ≤ 65536 := by
  have key : ∀ k : Nat, k < 17 → 1 ≤ pw2 (k : Int) ∧ pw2 (k : Int) ≤ 65536 := by decide
  have := key u.toNat (by omega)
  rw [Int.toNat_of_nonneg h0] at this
  exact this
theorem pbit_bt {x v : Int} : pbit x v = 1 ↔ bt x v := by
  unfold pbit bt
  omega
theorem tk_congr {a u x : Int} {p l p' l' : Int → Int} (hp : ∀ v, 0 ≤ v → v < D 7 1 → (p v = 1 ↔ p' v = 1)) (hl : ∀ v, 0 ≤ v → v < D 7 1 → p' v = 1 → l v = l' v) : tk D a p l u x ↔ tk D a p' l' u x := by
  rw [tk_iff, tk_iff]
  constructor
  · rintro ⟨d, d1, e, e1, t1, t2, t3⟩
    have lb := (ld_is (D := D) (d := e) e1.1).1
    have pe := (hp (ld D e) lb.1 (by omega)).mp t2.1
    exact ⟨d, d1, e, e1, t1, ⟨pe, by rw [← hl (ld D e) lb.1 (by omega) pe]; exact t2.2⟩, t3⟩
  · rintro ⟨d, d1, e, e1, t1, t2, t3⟩
    have lb := (ld_is (D := D) (d := e) e1.1).1
    exact ⟨d, d1, e, e1, t1, ⟨(hp (ld D e) lb.1 (by omega)).mpr t2.1, by rw [hl (ld D e) lb.1 (by omega) t2.1]; exact t2.2⟩, t3⟩
theorem aZ_b (w : WF D) {a : Int} {i : Nat} (hi : (i : Int) < uc D (D 7 1).toNat) : 0 ≤ aZ D a i ∧ aZ D a i ≤ 9 + 17 * ((i : Int) + 1) := by
  have t := aU_is (a := a) w (aS_is w i (by omega)).1 hi
  have s := (aS_is (a := a) w (i + 1) (by omega)).2 (aU D a i) t.1.1 t.1.2 t.2.1 (by rw [aP_s]; exact if_pos rfl)
  have e : aL D a (i + 1) (aU D a i) = aZ D a i := by rw [aL_s]; exact if_pos rfl
  rw [e] at s
  exact s
theorem lan_cov {Q : Int → Hp → Prop} {h0 : Hp} {q i : Nat} {x3 : Int} (hq : 132 ≤ q) (L : LI D h0 q i x3 h) (hi : (i : Int) < uc D (D 7 1).toNat) {k58 : Int → Int → Int → Hp → O Int} {x4 x5 x6 : Int} (hk : ∀ h'', QL D h h'' → wp (iter1 (lw_lanes_f311 0 (D 7 1) q k58 x3 x4 x5 x6 (aU D (D 7 3) i)) fuel (aB D (D 7 3) i) h'') Q) : wp (iter2 (lw_lanes_f221 0 (D 7 1) q k58 x3 x4 x5 x6 (aU D (D 7 3) i)) fuel (uL D (aU D (D 7 3) i)) 0 h) Q := by
  have g := L.2.2.2.1
  have w := g.wf
  have w1 := w.2.1
  have t := aU_is (a := D 7 3) w (aS_is w i (by omega)).1 hi
  have ucb := uc_b (D := D) (D 7 1).toNat
  have as := (aS_is (a := D 7 3) w i (by omega)).2
  refine wp_it2 (fun x9 x10 h' => ∃ k : Nat, x10 = k ∧ (k : Int) ≤ D 7 1 ∧ x9 = lbr D (aP D (D 7 3) i) (aL D (D 7 3) i) (aU D (D 7 3) i) k ∧ QL D h h') (fun _ x10 _ => (D 7 1 - x10).toNat) (fun x9 x10 h' hI k2 hk2 => ?_) fuel _ _ _ ⟨0, rfl, by omega, rfl, QL.rfl g⟩ (by unfold fuel; omega)
  obtain ⟨k, rfl, hkm, rfl, lx⟩ := hI
  have Lx := L.q hq lx
  unfold lw_lanes_f221
  by_cases c : (k : Int) < D 7 1
  · rw [if_pos c, shc_in L.1 (by omega) (by omega)]
    have en : lbr D (aP D (D 7 3) i) (aL D (D 7 3) i) (aU D (D 7 3) i) (k + 1) = if ld D k = k ∧ aP D (D 7 3) i k = 1 ∧ (uS D (aU D (D 7 3) i) ≤ uS D k ∧ uT D k ≤ uT D (aU D (D 7 3) i)) ∧ lbr D (aP D (D 7 3) i) (aL D (D 7 3) i) (aU D (D 7 3) i) k ≤ aL D (D 7 3) i k then aL D (D 7 3) i k + 1 else lbr D (aP D (D 7 3) i) (aL D (D 7 3) i) (aU D (D 7 3) i) k := rfl
    have ckk : inR ((k : Int) + 1) := ⟨by omega, by omega⟩
    have stay : ∀ h2, QL D h h2 → ¬ (ld D k = k ∧ aP D (D 7 3) i k = 1 ∧ (uS D (aU D (D 7 3) i) ≤ uS D k ∧ uT D k ≤ uT D (aU D (D 7 3) i)) ∧ lbr D (aP D (D 7 3) i) (aL D (D 7 3) i) (aU D (D 7 3) i) k ≤ aL D (D 7 3) i k) → wp (k2 (lbr D (aP D (D 7 3) i) (aL D (D 7 3) i) (aU D (D 7 3) i) k) ((k : Int) + 1) h2) Q := fun h2 l2 n => by
      rw [if_neg n] at en
      exact hk2 _ _ _ ⟨k + 1, rfl, by omega, en.symm, l2⟩ (by omega)
    unfold lw_lanes_b275 lw_lanes_b276
    simp only [lw_lanes_b301, lw_lanes_b303, ck_in ckk]
    have pz := L.2.1 k (by omega) (by omega)
    by_cases c2 : x3 / pw2 (k : Int) % 2 = 1
    · rw [if_pos c2]
      have pk : aP D (D 7 3) i k = 1 := pz.mp c2
      have lk := (aP_ld w i (by omega) k pk).2
      have ak := as k (by omega) (by omega) lk pk
      obtain ⟨h1, e1, l1⟩ := lw_span0 lx.1 (u := aU D (D 7 3) i) t.1 t.2.1
      obtain ⟨h2, e2, l2⟩ := lw_span0 l1.1 (u := (k : Int)) (by omega) lk
      rw [bd_eq e1, bd_eq e2]
      have l02 := (lx.trans l1).trans l2
      by_cases c3 : uS D k < uS D (aU D (D 7 3) i)
      · rw [if_pos c3, if_pos True.intro]
        exact stay h2 l02 (fun z => by omega)
      · rw [if_neg c3]
        obtain ⟨h3, e3, l3⟩ := lw_span1 l2.1 (u := aU D (D 7 3) i) t.1 t.2.1
        obtain ⟨h4, e4, l4⟩ := lw_span1 l3.1 (u := (k : Int)) (by omega) lk
        rw [bd_eq e3, bd_eq e4]
        have l04 := (l02.trans l3).trans l4
        by_cases c4 : uT D (aU D (D 7 3) i) < uT D k
        · rw [if_pos c4, if_pos True.intro]
          exact stay h4 l04 (fun z => by omega)
        · rw [if_neg c4, if_neg (by decide), ix_in (by omega) (by omega)]
          have eh : h4 q k = aL D (D 7 3) i k := (L.q hq l04).2.2.1 k (by omega) (by omega) pk
          rw [eh]
          by_cases c5 : aL D (D 7 3) i k < lbr D (aP D (D 7 3) i) (aL D (D 7 3) i) (aU D (D 7 3) i) k
          · rw [if_pos c5]
            exact stay h4 l04 (fun z => by omega)
          · rw [if_neg c5, ix_in (by omega) (by omega), ck_in ⟨by omega, by omega⟩]
            rw [if_pos ⟨lk, pk, by omega, by omega⟩] at en
            exact hk2 _ _ _ ⟨k + 1, rfl, by omega, en.symm, l04⟩ (by omega)
    · rw [if_neg c2, if_pos True.intro]
      exact stay h' lx (fun z => c2 (pz.mpr z.2.1))
  · rw [if_neg c]
    have ek : k = (D 7 1).toNat := by omega
    subst ek
    exact hk h' lx
theorem lan_lay {Q : Int → Hp → Prop} {h0 : Hp} {q i : Nat} {x3 : Int} (hq : 132 ≤ q) (L : LI D h0 q i x3 h) (hi : (i : Int) < uc D (D 7 1).toNat) {k58 : Int → Int → Int → Hp → O Int} {x4 x5 x6 : Int} (b6 : 0 ≤ x6 ∧ x6 ≤ 100) (hk : ∀ y3 h2, LI D h0 q (i + 1) y3 h2 → wp (k58 y3 (max x5 (aZ D (D 7 3) i + 1)) (x6 + 1) h2) Q) : wp (iter1 (lw_lanes_f311 0 (D 7 1) q k58 x3 x4 x5 x6 (aU D (D 7 3) i)) fuel (aB D (D 7 3) i) h) Q := by
  have g := L.2.2.2.1
  have w := g.wf
  have w1 := w.2.1
  have ucb := uc_b (D := D) (D 7 1).toNat
  have t := aU_is (a := D 7 3) w (aS_is w i (by omega)).1 hi
  have zb := aZ_b (a := D 7 3) w hi
  have nz := aZ_free (a := D 7 3) w hi
  have si := sr_is (P := tk D (D 7 3) (aP D (D 7 3) i) (aL D (D 7 3) i) (aU D (D 7 3) i)) (l := aB D (D 7 3) i) i
  have ez : sr (tk D (D 7 3) (aP D (D 7 3) i) (aL D (D 7 3) i) (aU D (D 7 3) i)) (aB D (D 7 3) i) i = aZ D (D 7 3) i := rfl
  rw [ez] at si
  have b0 : 0 ≤ aB D (D 7 3) i := by
    have us := w.uST (u := aU D (D 7 3) i) t.1.1 t.1.2
    have as := (aS_is (a := D 7 3) w i (by omega)).2
    exact (lbr_b (D := D) (p := aP D (D 7 3) i) (l := aL D (D 7 3) i) (u := aU D (D 7 3) i) (lo := 0) (hi := 1000) (by omega) (D 7 1).toNat (fun v a b c d => by
      have := as v a (by omega) c d
      omega)).1
  refine wp_it1 (fun x9 h' => (aB D (D 7 3) i ≤ x9 ∧ x9 ≤ aZ D (D 7 3) i) ∧ QL D h h') (fun x9 _ => (aZ D (D 7 3) i - x9).toNat) (fun x9 h' hI k2 hk2 => ?_) fuel _ _ ⟨by omega, QL.rfl g⟩ (by unfold fuel; omega)
  obtain ⟨hx, lx⟩ := hI
  have Lx := L.q hq lx
  obtain ⟨h1, e1, l1⟩ := lw_isTaken_eq lx.1 (u := aU D (D 7 3) i) (x := x9) (pl := x3) hq L.1
  have ec : tk D (D 7 3) (pbit x3) (h' q) (aU D (D 7 3) i) x9 ↔ tk D (D 7 3) (aP D (D 7 3) i) (aL D (D 7 3) i) (aU D (D 7 3) i) x9 := tk_congr L.2.1 Lx.2.2.1
  unfold lw_lanes_f311
  rw [bd_eq e1, tb_congr ec]
  have l01 := lx.trans l1
  by_cases c : tk D (D 7 3) (aP D (D 7 3) i) (aL D (D 7 3) i) (aU D (D 7 3) i) x9
  · rw [tb_t c, if_neg (by decide), ck_in ⟨by omega, by omega⟩]
    have : x9 ≠ aZ D (D 7 3) i := fun z => nz (z ▸ c)
    exact hk2 _ _ ⟨by omega, l01⟩ (by omega)
  · have e9 : x9 = aZ D (D 7 3) i := Classical.byContradiction fun z => c (si.2.1 x9 hx.1 (by omega))
    have pb := pw2_le t.1.1 (show aU D (D 7 3) i < 16 by omega)
    subst e9
    rw [tb_f c, if_pos rfl, ix_in t.1.1 (by omega), lt_eq, shc_in (by decide) t.1.1 (by omega), ck_in ⟨by omega, by omega⟩, orc_in L.1 (by omega), ck_in ⟨by omega, by omega⟩]
    have L2 : LI D h0 q (i + 1) (orI x3 (pw2 (aU D (D 7 3) i))) (hu h1 q (aU D (D 7 3) i) (aZ D (D 7 3) i)) := by
      have L1 := L.q hq l01
      refine ⟨orI_b, fun v a b => ?_, fun v a b z => ?_, L1.2.2.2.1.hu hq _ _, fun c' a b => ?_⟩
      · rw [pbit_bt, bt_or L.1 t.1.1 a, ← pbit_bt, L.2.1 v a b, aP_s]
        show _ ↔ (if v = aU D (D 7 3) i then 1 else aP D (D 7 3) i v) = 1
        by_cases y : v = aU D (D 7 3) i
        · rw [if_pos y]
          exact ⟨fun _ => rfl, fun _ => Or.inr y⟩
        · rw [if_neg y]
          exact ⟨fun z => z.resolve_right y, Or.inl⟩
      · rw [aP_s] at z
        have z : (if v = aU D (D 7 3) i then 1 else aP D (D 7 3) i v) = 1 := z
        rw [aL_s]
        show hu h1 q (aU D (D 7 3) i) (aZ D (D 7 3) i) q v = if v = aU D (D 7 3) i then aZ D (D 7 3) i else aL D (D 7 3) i v
        by_cases y : v = aU D (D 7 3) i
        · rw [if_pos y, y]
          exact hu_s
        · rw [if_neg y] at z ⊢
          rw [hu_j _ y]
          exact L1.2.2.1 v a b z
      · rw [← L1.2.2.2.2 c' a b]
        exact funext fun j => hu_o b j
    have go := hk _ _ L2
    unfold lw_lanes_b361
    by_cases c5 : x5 < aZ D (D 7 3) i + 1
    · rw [if_pos c5, ck_in ⟨by omega, by omega⟩, ck_in ⟨by omega, by omega⟩]
      rw [Int.max_eq_right (Int.le_of_lt c5)] at go
      exact go
    · rw [if_neg c5, ck_in ⟨by omega, by omega⟩]
      rw [Int.max_eq_left (by omega)] at go
      exact go
end LAWM

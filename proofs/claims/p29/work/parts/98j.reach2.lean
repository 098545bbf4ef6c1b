section LAWS
variable {D : Dr} {h : Hp}
theorem ix12 {β : Type} {i : Int} {E : Option β} (h : 0 ≤ i ∧ i < 12) : ix i ((12 : Nat) : Int) E = E := if_pos h
theorem rea_183 {Q : Unit → Hp → Prop} {h0 : Hp} {q : Nat} (hq : 132 ≤ q) (l : QL D h0 h) {p1 p2 p3 x5 : Int} {k49 : Int → Hp → O Unit} {k u v x y b : Int} (bk : 0 ≤ k ∧ k ≤ 100) (bu : 0 ≤ u ∧ u < 12) (bv : 0 ≤ v ∧ v < 12) (n : u ≠ v) (eb : b = rB (h0 q) u v x) (hk : ∀ h2, QM D q h0 h2 → h2 q = stp (h0 q) u v x y → wp (k49 (k + 1) h2) Q) : wp (lw_reach_b183 0 p1 p2 p3 q 12 k49 x5 k u v (h0 q v + y) b v h) Q := by
  have e0 := l.2 q hq
  have fin : ∀ z, z = rA (h0 q) u v x y → wp (lw_reach_b218 0 p1 p2 p3 q 12 k49 x5 k z u (hu h q v b)) Q := fun z ez => by
    unfold lw_reach_b218 lw_reach_b219
    rw [ix12 bu, lt_eq, ck_in ⟨by omega, by omega⟩]
    refine hk _ ⟨(l.1.hu hq _ _).hu hq _ _, fun c a b' => ?_⟩ (funext fun j => ?_)
    · rw [← l.2 c a]
      exact funext fun j => by rw [hu_o b', hu_o b']
    · unfold stp
      by_cases c : j = u
      · rw [if_pos c, c, hu_s, ez]
      · rw [if_neg c, hu_j _ c]
        by_cases c2 : j = v
        · rw [if_pos c2, c2, hu_s, eb]
        · rw [if_neg c2, hu_j _ c2, e0]
  have eu : hu h q v b q u = h0 q u := by rw [hu_j _ n, e0]
  unfold lw_reach_b183 lw_reach_b213
  rw [ix12 bv, lt_eq, ix12 bv, hu_s, ix12 bu, ix12 bu, eu]
  by_cases c : b < 1000000
  · rw [if_pos c]
    by_cases c2 : h0 q v + y < h0 q u
    · rw [if_pos c2]
      exact fin _ (by unfold rA; rw [← eb, if_pos ⟨c, c2⟩])
    · rw [if_neg c2]
      exact fin _ (by unfold rA; rw [← eb, if_neg (fun z => c2 z.2)])
  · rw [if_neg c]
    exact fin _ (by unfold rA; rw [← eb, if_neg (fun z => c z.1)])
theorem rea_146 {Q : Unit → Hp → Prop} {h0 : Hp} {q : Nat} (hq : 132 ≤ q) (l : QL D h0 h) {p1 p2 p3 x5 : Int} {k49 : Int → Hp → O Unit} {k u v x y s0 s1 : Int} (bk : 0 ≤ k ∧ k ≤ 100) (bu : 0 ≤ u ∧ u < 12) (bv : 0 ≤ v ∧ v < 12) (n : u ≠ v) (es : s1 + s0 = h0 q v + y) (bs : inR (h0 q v + y)) (hk : ∀ h2, QM D q h0 h2 → h2 q = stp (h0 q) u v x y → wp (k49 (k + 1) h2) Q) : wp (lw_reach_b146 0 p1 p2 p3 q 12 k49 x5 k u v (h0 q u + x) s0 s1 h) Q := by
  have e0 := l.2 q hq
  unfold lw_reach_b146 lw_reach_b178
  rw [es, ck_in bs, ix12 bu, ix12 bv, ix12 bv, e0]
  by_cases c : h0 q u < 1000000
  · rw [if_pos c]
    by_cases c2 : h0 q u + x < h0 q v
    · rw [if_pos c2]
      exact rea_183 hq l bk bu bv n (by unfold rB; rw [if_pos ⟨c, c2⟩]) hk
    · rw [if_neg c2]
      exact rea_183 hq l bk bu bv n (by unfold rB; rw [if_neg (fun z => c2 z.2)]) hk
  · rw [if_neg c]
    exact rea_183 hq l bk bu bv n (by unfold rB; rw [if_neg (fun z => c z.1)]) hk
theorem rea_dim {Q : Unit → Hp → Prop} (g : QS D h) {q : Nat} (hq : 132 ≤ q) {k : Nat} (hkm : (k : Int) < D 7 1) {p1 p2 p3 x5 : Int} {k36 k49 : Int → Hp → O Unit} (n : (k : Int) ≠ p2) (hb : ∀ v, 0 ≤ v → v < 12 → h q v = 1000000 ∨ (-300 ≤ h q v ∧ h q v ≤ 8300)) (hk : ∀ h2, QM D q h h2 → h2 q = stp (h q) (D 1 k) (D 2 k) (wU D p3 k) (wN D p3 k) → wp (k49 ((k : Int) + 1) h2) Q) : wp (lw_reach_f49 0 p1 p2 p3 q 12 k36 x5 k49 k h) Q := by
  have w := g.wf
  have w0 := w.1
  have w1 := w.2.1
  have hd : 0 ≤ (k : Int) ∧ (k : Int) < D 7 1 := ⟨by omega, hkm⟩
  have dw := w.dim hd.1 hd.2
  have vb := vD_b w hd
  have tb3 := w.2.2.2.2.2.2 (k : Int) hd.1 hd.2
  have fa := hb (D 1 k) (by omega) (by omega)
  have fb := hb (D 2 k) (by omega) (by omega)
  obtain ⟨h1, e1, l1⟩ := q_m g
  obtain ⟨h2, e2, l2⟩ := q_d0 l1.1 hd
  obtain ⟨h3, e3, l3⟩ := q_d1 l2.1 hd
  obtain ⟨h4, e4, l4⟩ := q_d2 l3.1 hd
  have l03 := (l1.trans l2).trans l3
  have l04 := l03.trans l4
  have r113 : ∀ h5 s0, QL D h h5 → s0 = (if (k : Int) = p3 then 0 else D 4 k) → wp (lw_reach_b113 0 p1 p2 p3 q 12 k49 x5 k (D 1 k) (D 2 k) s0 (h q (D 1 k) + vD D k) h5) Q := fun h5 s0 l5 es => by
    have sb : 0 ≤ s0 ∧ s0 ≤ 20 := by
      rw [es]
      split <;> omega
    have ex : h q (D 1 k) + vD D k + s0 = h q (D 1 k) + wU D p3 k := by
      unfold wU
      rw [es]
      omega
    obtain ⟨h6, e6, l6⟩ := q_d2 l5.1 hd
    unfold lw_reach_b113
    rw [ck_in ⟨by omega, by omega⟩, ix_in (by omega) (by omega), bd_eq e6, l5.2 q hq, ck_in ⟨by omega, by omega⟩, ex]
    have l56 := l5.trans l6
    by_cases c : (k : Int) = p3
    · rw [if_pos c]
      refine rea_146 hq l56 (by omega) (by omega) (by omega) (by omega) (x := wU D p3 k) (y := wN D p3 k) ?_ ?_ hk
      · unfold wN
        rw [if_pos c]
        omega
      · unfold wN
        rw [if_pos c]
        exact ⟨by omega, by omega⟩
    · rw [if_neg c]
      obtain ⟨h7, e7, l7⟩ := q_d3 l6.1 hd
      rw [bd_eq e7]
      refine rea_146 hq (l56.trans l7) (by omega) (by omega) (by omega) (by omega) (x := wU D p3 k) (y := wN D p3 k) ?_ ?_ hk
      · unfold wN
        rw [if_neg c]
        omega
      · unfold wN
        rw [if_neg c]
        exact ⟨by omega, by omega⟩
  unfold lw_reach_f49
  rw [bd_eq e1, if_pos hkm, if_neg n, bd_eq e2, bd_eq e3, ix_in (by omega) (by omega), bd_eq e4, l03.2 q hq, ck_in ⟨by omega, by omega⟩]
  by_cases c : (k : Int) = p3
  · rw [if_pos c]
    exact r113 h4 0 l04 (by rw [if_pos c])
  · rw [if_neg c]
    obtain ⟨h5, e5, l5⟩ := q_d4 l4.1 hd
    rw [bd_eq e5]
    exact r113 h5 _ (l04.trans l5) (by rw [if_neg c])
/-- the law's greatest differences: the row q, least lengths from s without W, with X exact -/
theorem lw_reach_wp (g : QS D h) {q : Nat} (hq : 132 ≤ q) {s p2 X : Int} (hs : 0 ≤ s ∧ s < D 7 0) : wp (lw_reach 0 s p2 X q 12 h) (fun _ h' => SP (eE D (fun e => e = p2) X) s (h' q) ∧ QM D q h h') := by
  have w := g.wf
  have w0 := w.1
  have w1 := w.2.1
  unfold lw_reach
  -- the row as it begins
  refine wp_it1 (fun x5 h' => (0 ≤ x5 ∧ x5 ≤ 12) ∧ QM D q h h' ∧ ∀ v, 0 ≤ v → v < x5 → h' q v = if v = s then 0 else 1000000) (fun x5 _ => (12 - x5).toNat) (fun x5 h' hI k hk => ?_) fuel _ _ ⟨by omega, ⟨g, fun _ _ _ => rfl⟩, fun v a b => by omega⟩ (by unfold fuel; omega)
  obtain ⟨hx, lx, hR⟩ := hI
  unfold lw_reach_f3
  by_cases c : x5 < 12
  · rw [if_pos c]
    have next : ∀ z, z = (if x5 = s then 0 else 1000000) → wp (lw_reach_b26 0 s p2 X q 12 k x5 z x5 h') (fun _ h' => SP (eE D (fun e => e = p2) X) s (h' q) ∧ QM D q h h') := fun z ez => by
      unfold lw_reach_b26
      rw [ix12 ⟨hx.1, c⟩, lt_eq, ck_in ⟨by omega, by omega⟩]
      refine hk _ _ ⟨by omega, ⟨lx.1.hu hq _ _, fun c' a b => ?_⟩, fun v a b => ?_⟩ (by omega)
      · rw [← lx.2 c' a b]
        exact funext fun j => hu_o b j
      · by_cases e : v = x5
        · rw [e, hu_s, ez]
        · rw [hu_j _ e]
          exact hR v a (by omega)
    by_cases c2 : x5 = s
    · rw [if_pos c2]
      exact next 0 (by rw [if_pos c2])
    · rw [if_neg c2]
      exact next 1000000 (by rw [if_neg c2])
  · rw [if_neg c]
    have fq : ∀ v, 0 ≤ v → v < 12 → h' q v = if v = s then 0 else 1000000 := fun v a b => hR v a (by omega)
    have hI0 : Tg D (eE D (fun e => e = p2) X) s (h' q) (32 * ((0 : Nat) : Int)) := fun v v0 v1 => by
      rw [fq v v0 v1]
      by_cases c : v = s
      · rw [if_pos c, c]
        exact Or.inr ⟨by omega, Wk.nil⟩
      · rw [if_neg c]
        exact Or.inl rfl
    have hS0 : Sd (eE D (fun e => e = p2) X) s (h' q) s := by
      unfold Sd
      rw [fq s hs.1 (by omega), if_pos rfl]
      refine ⟨by omega, fun y hy => ?_⟩
      have := Wk_b w hy
      omega
    have hU0 := cUn_first w hs hS0
    refine wp_it1 (fun x5 h2 => ∃ r : Nat, x5 = r ∧ (r : Int) ≤ D 7 0 ∧ QM D q h h2 ∧ Tg D (eE D (fun e => e = p2) X) s (h2 q) (32 * r) ∧ Sd (eE D (fun e => e = p2) X) s (h2 q) s ∧ (cUn (eE D (fun e => e = p2) X) s (h2 q) + r + 1 ≤ D 7 0 ∨ cUn (eE D (fun e => e = p2) X) s (h2 q) = 0)) (fun x5 _ => (D 7 0 - x5).toNat) (fun x5 h2 hJ k36 hk36 => ?_) fuel _ _ ⟨0, rfl, by omega, lx, hI0, hS0, Or.inl (by omega)⟩ (by unfold fuel; omega)
    obtain ⟨r, rfl, hr, ly, i2, i3, i4⟩ := hJ
    unfold lw_reach_f36
    obtain ⟨h3, e3, l3⟩ := q_n ly.1
    rw [bd_eq e3]
    by_cases c1 : (r : Int) < D 7 0
    · rw [if_pos c1]
      obtain ⟨R0, hR0⟩ : ∃ R0, h2 q = R0 := ⟨_, rfl⟩
      rw [hR0] at i2 i3 i4
      have e3q : h3 q = R0 := by rw [l3.2 q hq, hR0]
      have l03 : QM D q h h3 := ⟨l3.1, fun c' a b => by rw [l3.2 c' a, ly.2 c' a b]⟩
      refine wp_it1 (fun x6 h4 => ∃ k : Nat, x6 = k ∧ (k : Int) ≤ D 7 1 ∧ QM D q h h4 ∧ RJ D (fun e => e = p2) X s R0 (32 * r) k (h4 q)) (fun x6 _ => (D 7 1 - x6).toNat) (fun x6 h4 hK k49 hk49 => ?_) fuel _ _ ⟨0, rfl, by omega, l03, by rw [e3q]; exact i2.le (by omega), fun v _ _ => by rw [e3q]; exact Int.le_refl _, fun d a b => by omega⟩ (by unfold fuel; omega)
      obtain ⟨k, rfl, hkm, lz, J⟩ := hK
      by_cases c2 : (k : Int) < D 7 1
      · by_cases c3 : (k : Int) = p2
        · obtain ⟨h5, e5, l5⟩ := q_m lz.1
          unfold lw_reach_f49 lw_reach_b219
          rw [bd_eq e5, if_pos c2, if_pos c3, ck_in ⟨by omega, by omega⟩]
          refine hk49 _ _ ⟨k + 1, rfl, by omega, ⟨l5.1, fun c' a b => by rw [l5.2 c' a, lz.2 c' a b]⟩, ?_⟩ (by omega)
          rw [l5.2 q hq]
          exact J.skip c3
        · refine rea_dim lz.1 hq c2 c3 (fun v a b => ?_) (fun h5 l5 e5 => ?_)
          · by_cases z : h4 q v = 1000000
            · exact Or.inl z
            · exact Or.inr (J.1.fin w (by omega) a b z).2
          · refine hk49 _ _ ⟨k + 1, rfl, by omega, ⟨l5.1, fun c' a b => by rw [l5.2 c' a b, lz.2 c' a b]⟩, ?_⟩ (by omega)
            rw [e5]
            exact J.step w (by omega) c2 c3
      · obtain ⟨h5, e5, l5⟩ := q_m lz.1
        unfold lw_reach_f49
        rw [bd_eq e5, if_neg c2, ck_in ⟨by omega, by omega⟩]
        have T1 : Tg D (eE D (fun e => e = p2) X) s (h4 q) (32 * ((r + 1 : Nat) : Int)) := J.1.le (by omega)
        have T0 : Tg D (eE D (fun e => e = p2) X) s R0 (32 * ((r + 1 : Nat) : Int)) := i2.le (by omega)
        have rn := J.rnd w (by omega)
        have sa : h4 q s = R0 s := i3.stay w (by omega) T1 hs.1 (by omega) (J.2.1 s hs.1 (by omega))
        have mono := bf_mono (W := fun e => e = p2) (X := X) w (T := 32 * ((r + 1 : Nat) : Int)) (by omega) T1 J.2.1
        have cb := cUn_b (a := s) (R := h4 q) (E := eE D (fun e => e = p2) X)
        refine hk36 _ _ ⟨r + 1, rfl, by omega, ⟨l5.1, fun c' a b => by rw [l5.2 c' a, lz.2 c' a b]⟩, by rw [l5.2 q hq]; exact T1, by rw [l5.2 q hq]; unfold Sd at i3 ⊢; rw [sa]; exact i3, ?_⟩ (by omega)
        rw [l5.2 q hq]
        by_cases c6 : cUn (eE D (fun e => e = p2) X) s R0 = 0
        · exact Or.inr (by omega)
        · have := (bf_round w w0.2 (T := 32 * ((r + 1 : Nat) : Int)) (by omega) T0 T1 i3 rn c6).1
          exact Or.inl (by omega)
    · rw [if_neg c1]
      have cb := cUn_b (a := s) (R := h2 q) (E := eE D (fun e => e = p2) X)
      refine wp_ret ⟨?_, l3.1, fun c' a b => by rw [l3.2 c' a, ly.2 c' a b]⟩
      rw [l3.2 q hq]
      exact bf_done w w0.2 (T := 32 * r) (by omega) i2 i3 (by omega)
end LAWS

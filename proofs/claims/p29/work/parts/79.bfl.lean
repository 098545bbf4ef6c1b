section BFL
variable {D : Dr} {W : Int → Prop} {a : Int} {R R' : Int → Int} {h : Hp} {th q : Nat}
theorem Tg.le {E : ES} {T T' : Int} (h : Tg D E a R T) (hl : T ≤ T') : Tg D E a R T' := fun v v0 v1 => by
  rcases h v v0 v1 with z | ⟨z1, z2⟩
  · exact Or.inl z
  · exact Or.inr ⟨by omega, z2⟩
theorem bf_mono (g : WF D) {X T : Int} (hT : 0 ≤ T ∧ T ≤ 400) (ht' : Tg D (eE D W X) a R' T) (h : ∀ v, 0 ≤ v → v < 12 → R' v ≤ R v) : cUn (eE D W X) a R' ≤ cUn (eE D W X) a R := sumI_mono 12 (fun i i0 i1 => by
  show tb (Un (eE D W X) a R' i) ≤ tb (Un (eE D W X) a R i)
  by_cases q : Un (eE D W X) a R i
  · rw [tb_t q]
    exact tb_b.2
  · rw [tb_f q, tb_f]
    · exact Int.le_refl _
    · intro z
      refine q ⟨z.1, fun y => z.2 ?_⟩
      have st := y.stay g hT ht' i0 (by omega) (h i i0 (by omega))
      unfold Sd at y ⊢
      rw [st]
      exact y)
/-- the steps that the class has listed -/
def ST (D : Dr) (th : Nat) (h : Hp) : Prop := h th 5 = D 7 1 ∧ ∀ d, 0 ≤ d → d < D 7 1 → (h (th + 18) (2 * d) = D 1 d ∧ h (th + 19) (2 * d) = D 2 d ∧ h (th + 20) (2 * d) = vD D d + D 4 d) ∧ h (th + 18) (2 * d + 1) = D 2 d ∧ h (th + 19) (2 * d + 1) = D 1 d ∧ h (th + 20) (2 * d + 1) = D 3 d - vD D d
theorem ST.edge (g : ST D th h) {s : Int} (s0 : 0 ≤ s) (s1 : s < 2 * D 7 1) (hW : ¬ W (s / 2)) : eE D W (-999) (h (th + 18) s) (h (th + 19) s) (h (th + 20) s) := by
  have hd : 0 ≤ s / 2 ∧ s / 2 < D 7 1 := by omega
  obtain ⟨⟨a1, a2, a3⟩, a4, a5, a6⟩ := g.2 (s / 2) hd.1 hd.2
  refine ⟨s / 2, hd, hW, ?_⟩
  rw [if_neg (by omega), if_neg (by omega)]
  rcases (by omega : s = 2 * (s / 2) ∨ s = 2 * (s / 2) + 1) with e | e
  · rw [← e] at a1 a2 a3
    exact Or.inl ⟨a1, a2, a3⟩
  · rw [← e] at a4 a5 a6
    exact Or.inr ⟨a4, a5, a6⟩
theorem ST.step (g : ST D th h) {u v w : Int} (e : eE D W (-999) u v w) : ∃ s : Nat, ((s : Int) < 2 * D 7 1) ∧ ¬ W ((s : Int) / 2) ∧ h (th + 18) s = u ∧ h (th + 19) s = v ∧ h (th + 20) s = w := by
  obtain ⟨d, d1, d2, d3⟩ := e
  obtain ⟨⟨a1, a2, a3⟩, a4, a5, a6⟩ := g.2 d d1.1 d1.2
  rw [if_neg (by omega), if_neg (by omega)] at d3
  rcases d3 with ⟨e1, e2, e3⟩ | ⟨e1, e2, e3⟩
  · refine ⟨(2 * d).toNat, by omega, ?_, ?_⟩
    · rw [show (((2 * d).toNat : Nat) : Int) / 2 = d by omega]
      exact d2
    · rw [show (((2 * d).toNat : Nat) : Int) = 2 * d by omega, a1, a2, a3, e1, e2, e3]
      exact ⟨rfl, rfl, rfl⟩
  · refine ⟨(2 * d + 1).toNat, by omega, ?_, ?_⟩
    · rw [show (((2 * d + 1).toNat : Nat) : Int) / 2 = d by omega]
      exact d2
    · rw [show (((2 * d + 1).toNat : Nat) : Int) = 2 * d + 1 by omega, a4, a5, a6, e1, e2, e3]
      exact ⟨rfl, rfl, rfl⟩
/-- within a round, before the step s -/
def RI (D : Dr) (W : Int → Prop) (a : Int) (h : Hp) (th q : Nat) (R0 : Int → Int) (r : Nat) (s : Nat) (x3 : Int) (h' : Hp) : Prop := (∀ c, c ≠ q → h' c = h c) ∧ Tg D (eE D W (-999)) a (h' q) (32 * r + s) ∧ (∀ v, 0 ≤ v → v < 12 → h' q v ≤ R0 v) ∧ (∀ t : Nat, t < s → ¬ W ((t : Int) / 2) → Sd (eE D W (-999)) a R0 (h (th + 18) t) → h' q (h (th + 19) t) ≤ R0 (h (th + 18) t) + h (th + 20) t) ∧ (x3 = 0 → ∀ v, 0 ≤ v → v < 12 → h' q v = R0 v)
theorem ri_step (g : WF D) (hs : ST D th h) {R0 : Int → Int} {r s : Nat} {x3 : Int} {h' : Hp} (hr : r < 12) (s1 : (s : Int) < 2 * D 7 1) (I : RI D W a h th q R0 r s x3 h') : (W ((s : Int) / 2) → RI D W a h th q R0 r (s + 1) x3 h') ∧ (¬ W ((s : Int) / 2) → (h' q (h (th + 18) s) = 1000000 → RI D W a h th q R0 r (s + 1) x3 h') ∧ (h' q (h (th + 18) s) ≠ 1000000 → (-300 ≤ h' q (h (th + 18) s) ∧ h' q (h (th + 18) s) ≤ 8300) ∧ (¬ h' q (h (th + 18) s) + h (th + 20) s < h' q (h (th + 19) s) → RI D W a h th q R0 r (s + 1) x3 h') ∧ (h' q (h (th + 18) s) + h (th + 20) s < h' q (h (th + 19) s) → RI D W a h th q R0 r (s + 1) 1 (hu h' q (h (th + 19) s) (h' q (h (th + 18) s) + h (th + 20) s))))) := by
  have w0 := g.1
  have w1 := g.2.1
  obtain ⟨I1, I2, I3, I4, I5⟩ := I
  have I2' := I2.le (T' := 32 * r + ((s + 1 : Nat) : Int)) (by omega)
  have stay : (¬ W ((s : Int) / 2) → Sd (eE D W (-999)) a R0 (h (th + 18) s) → h' q (h (th + 19) s) ≤ R0 (h (th + 18) s) + h (th + 20) s) → RI D W a h th q R0 r (s + 1) x3 h' := fun z => ⟨I1, I2', I3, fun t ht hw hsd => by
    by_cases c : t = s
    · subst c; exact z hw hsd
    · exact I4 t (by omega) hw hsd, I5⟩
  refine ⟨fun z => stay (fun y => absurd z y), fun hW => ?_⟩
  have e := hs.edge (by omega) s1 hW
  have eb := eE_b g e
  obtain ⟨u, eu⟩ : ∃ u, h (th + 18) s = u := ⟨_, rfl⟩
  obtain ⟨v, ev⟩ : ∃ v, h (th + 19) s = v := ⟨_, rfl⟩
  obtain ⟨w, ew⟩ : ∃ w, h (th + 20) s = w := ⟨_, rfl⟩
  rw [eu, ev, ew] at e eb stay
  rw [eu, ev, ew]
  have sd : Sd (eE D W (-999)) a R0 u → h' q u = R0 u := fun y => y.stay g (T := 32 * r + s) (by omega) I2 (by omega) (by omega) (I3 u (by omega) (by omega))
  refine ⟨fun f => stay (fun _ y => ?_), fun f => ?_⟩
  · have := sd y
    have := y.1
    omega
  · have ff := I2.fin g (by omega) (v := u) (by omega) (by omega) f
    refine ⟨ff.2, fun n => stay (fun _ y => ?_), fun n => ?_⟩
    · rw [← sd y]
      omega
    · have tu : h' q u ≤ D 0 u - D 0 a + 20 * (32 * (r : Int) + s) := (I2 u (by omega) (by omega)).elim (fun z => absurd z f) (fun z => z.1)
      refine ⟨fun c n' => by rw [← I1 c n']; exact funext fun j => by rw [hu_o n'], fun x x0 x1 => ?_, fun x x0 x1 => ?_, fun t ht hw hsd => ?_, fun z => by omega⟩
      · by_cases c : x = v
        · rw [c, hu_s]
          exact Or.inr ⟨by omega, ff.1.step e⟩
        · rw [hu_j q c]
          exact I2' x x0 x1
      · by_cases c : x = v
        · have := I3 v (by omega) (by omega)
          rw [c, hu_s]
          omega
        · rw [hu_j q c]
          exact I3 x x0 x1
      · have lo : ∀ x, hu h' q v (h' q u + w) q x ≤ h' q x := fun x => by
          by_cases c : x = v
          · rw [c, hu_s]
            omega
          · rw [hu_j q c]
            exact Int.le_refl _
        by_cases c : t = s
        · subst c
          rw [eu] at hsd
          rw [eu, ev, ew, hu_s, sd hsd]
          exact Int.le_refl _
        · exact Int.le_trans (lo _) (I4 t (by omega) hw hsd)
theorem bo_findWays_wp (g : WF D) (hs : ST D th h) (hW : ∀ d, 0 ≤ d → d < D 7 1 → (W d ↔ h (th + 16) d ≠ 0)) (hq : q ≠ th ∧ q ≠ th + 16 ∧ q ≠ th + 18 ∧ q ≠ th + 19 ∧ q ≠ th + 20) (ha : 0 ≤ a ∧ a < D 7 0) : wp (bo_findWays th a q 12 h) (fun _ h' => SP (eE D W (-999)) a (h' q) ∧ ∀ c, c ≠ q → h' c = h c) := by
  have w0 := g.1
  have w1 := g.2.1
  unfold bo_findWays
  rw [bd_eq (ja_fill_eq (n := 12) (by omega)), ix_in ha.1 (by omega), lt_eq]
  have f0 : ∀ c, c ≠ q → hu (hfil h q ((12 : Nat) : Int) 1000000) q a 0 c = h c := fun c n => funext fun j => by
    rw [hu_o n]
    unfold hfil
    rw [if_neg (fun z => n z.1)]
  have fq : ∀ v, 0 ≤ v → v < 12 → hu (hfil h q ((12 : Nat) : Int) 1000000) q a 0 q v = if v = a then 0 else 1000000 := fun v v0 v1 => by
    unfold hu hfil
    by_cases c : v = a
    · rw [if_pos ⟨rfl, c⟩, if_pos c]
    · rw [if_neg (fun z => c z.2), if_pos ⟨rfl, v0, by omega⟩, if_neg c]
  generalize hu (hfil h q ((12 : Nat) : Int) 1000000) q a 0 = H at *
  have hI0 : Tg D (eE D W (-999)) a (H q) (32 * ((0 : Nat) : Int)) := fun v v0 v1 => by
    rw [fq v v0 v1]
    by_cases c : v = a
    · rw [if_pos c, c]
      exact Or.inr ⟨by omega, Wk.nil⟩
    · rw [if_neg c]
      exact Or.inl rfl
  have hS0 : Sd (eE D W (-999)) a (H q) a := by
    unfold Sd
    rw [fq a ha.1 (by omega), if_pos rfl]
    refine ⟨by omega, fun y hy => ?_⟩
    have := Wk_b g hy
    omega
  refine wp_it2 (fun x3 x4 h' => ∃ r : Nat, x4 = r ∧ r ≤ 12 ∧ (∀ c, c ≠ q → h' c = h c) ∧ Tg D (eE D W (-999)) a (h' q) (32 * r) ∧ Sd (eE D W (-999)) a (h' q) a ∧ (cUn (eE D W (-999)) a (h' q) + r ≤ 11 ∨ cUn (eE D W (-999)) a (h' q) = 0) ∧ (x3 = 0 → cUn (eE D W (-999)) a (h' q) = 0)) (fun _ x4 _ => (12 - x4).toNat) (fun x3 x4 h' hI k hk => ?_) fuel _ _ _ ⟨0, rfl, by omega, f0, hI0, hS0, Or.inl (by
    have := cUn_start ha.1 (by omega) hS0
    omega), fun z => by omega⟩ (by unfold fuel; omega)
  obtain ⟨r, er, r12, i1, i2, i3, i4, i5⟩ := hI
  subst er
  unfold bo_findWays_f15 bo_findWays_b123
  have fin : cUn (eE D W (-999)) a (h' q) = 0 → wp (some ((), h')) (fun (_ : Unit) h' => SP (eE D W (-999)) a (h' q) ∧ ∀ c, c ≠ q → h' c = h c) := fun z => wp_ret ⟨bf_done g w0.2 (T := 32 * r) (by omega) i2 i3 z, i1⟩
  by_cases c0 : x3 = 0
  · rw [if_pos c0]
    exact fin (i5 c0)
  · rw [if_neg c0]
    by_cases c1 : (r : Int) < 12
    · rw [if_pos c1]
      generalize hR0 : h' q = R0 at *
      refine wp_it3 (fun x3 x4 x5 h2 => x4 = r ∧ ∃ s : Nat, x5 = s ∧ (s : Int) ≤ 2 * D 7 1 ∧ RI D W a h th q R0 r s x3 h2) (fun _ _ x5 _ => (2 * D 7 1 - x5).toNat) (fun x3 x4 x5 h2 hJ k2 hk2 => ?_) fuel _ _ _ _ ⟨rfl, 0, rfl, by omega, i1, by rw [hR0]; exact i2.le (by omega), fun v _ _ => by rw [hR0]; exact Int.le_refl _, fun t ht => absurd ht (Nat.not_lt_zero _), fun _ v _ _ => by rw [hR0]⟩ (by unfold fuel; omega)
      obtain ⟨e4, s, e5, hs1, J⟩ := hJ
      subst e4
      subst e5
      obtain ⟨J1, J2, J3, J4, J5⟩ := id J
      have h5 : h2 th 5 = D 7 1 := by rw [J1 th (by omega)]; exact hs.1
      unfold bo_findWays_f31
      rw [h5, ck_in ⟨by omega, by omega⟩]
      by_cases c2 : (s : Int) < 2 * D 7 1
      · have hd : 0 ≤ (s : Int) / 2 ∧ (s : Int) / 2 < D 7 1 := by omega
        have st := ri_step g hs (by omega) c2 J
        have e18 : h2 (th + 18) s = h (th + 18) s := by rw [J1 _ (by omega)]
        have e19 : h2 (th + 19) s = h (th + 19) s := by rw [J1 _ (by omega)]
        have e20 : h2 (th + 20) s = h (th + 20) s := by rw [J1 _ (by omega)]
        have e16 : h2 (th + 16) ((s : Int) / 2) = h (th + 16) ((s : Int) / 2) := by rw [J1 _ (by omega)]
        have eb : ((0 ≤ h (th + 18) s ∧ h (th + 18) s < D 7 0) ∧ 0 ≤ h (th + 19) s ∧ h (th + 19) s < D 7 0) ∧ -1000 ≤ h (th + 20) s ∧ h (th + 20) s ≤ 1000 := by
          have e := hs.edge (W := fun _ => False) (s := (s : Int)) (by omega) c2 (fun z => z)
          have b := eE_b g e
          have p1 := g.2.2.2.2.1 _ b.1.1.1 b.1.1.2
          have p2 := g.2.2.2.2.1 _ b.1.2.1 b.1.2.2
          exact ⟨b.1, by omega, by omega⟩
        have bR : -300 ≤ h2 q (h (th + 18) s) ∧ h2 q (h (th + 18) s) ≤ 1000000 := by
          by_cases z : h2 q (h (th + 18) s) = 1000000
          · omega
          · have := (J2.fin g (by omega) (v := h (th + 18) s) (by omega) (by omega) z).2
            omega
        have b111 : ∀ x h3, RI D W a h th q R0 r (s + 1) x h3 → wp (bo_findWays_b111 th a q 12 k2 x r s h3) (fun (_ : Unit) h' => SP (eE D W (-999)) a (h' q) ∧ ∀ c, c ≠ q → h' c = h c) := fun x h3 hr => by
          unfold bo_findWays_b111
          rw [ck_in ⟨by omega, by omega⟩]
          exact hk2 _ _ _ _ ⟨rfl, s + 1, rfl, by omega, hr⟩ (by omega)
        rw [if_pos c2, ix_in (by omega) (by omega), e18, ix_in (by omega) (by omega), ix_in (by omega) (by omega), e20, ck_in ⟨by omega, by omega⟩, dv_in (by omega) (by omega), ix_in (by omega) (by omega), e16]
        by_cases c3 : h (th + 16) ((s : Int) / 2) = 0
        · have nW : ¬ W ((s : Int) / 2) := fun z => ((hW _ hd.1 hd.2).mp z) c3
          rw [if_pos c3]
          by_cases c4 : h2 q (h (th + 18) s) = 1000000
          · rw [if_pos c4]
            exact b111 _ _ ((st.2 nW).1 c4)
          · obtain ⟨-, s2, s3⟩ := (st.2 nW).2 c4
            rw [if_neg c4, ix_in (by omega) (by omega), e19, ix_in (by omega) (by omega)]
            by_cases c5 : h2 q (h (th + 18) s) + h (th + 20) s < h2 q (h (th + 19) s)
            · rw [if_pos c5, ix_in (by omega) (by omega), ix_in (by omega) (by omega), lt_eq]
              exact b111 _ _ (s3 c5)
            · rw [if_neg c5]
              exact b111 _ _ (s2 c5)
        · have yW : W ((s : Int) / 2) := (hW _ hd.1 hd.2).mpr c3
          rw [if_neg c3]
          exact b111 _ _ (st.1 yW)
      · rw [if_neg c2, ck_in ⟨by omega, by omega⟩]
        have T1 : Tg D (eE D W (-999)) a (h2 q) (32 * ((r + 1 : Nat) : Int)) := J2.le (by omega)
        have T0 : Tg D (eE D W (-999)) a R0 (32 * ((r + 1 : Nat) : Int)) := i2.le (by omega)
        have rn : Rnd (eE D W (-999)) a R0 (h2 q) := ⟨J3, fun u v w e hsd => by
          obtain ⟨t, t1, t2, t3, t4, t5⟩ := hs.step e
          have := J4 t (by omega) t2 (by rw [t3]; exact hsd)
          rw [t3, t4, t5] at this
          exact this⟩
        have sa : h2 q a = R0 a := i3.stay g (by omega) T1 ha.1 (by omega) (J3 a ha.1 (by omega))
        have mono := bf_mono (W := W) (X := -999) g (T := 32 * ((r + 1 : Nat) : Int)) (by omega) T1 J3
        have cb := cUn_b (a := a) (R := h2 q) (E := eE D W (-999))
        refine hk _ _ _ ⟨r + 1, rfl, by omega, J1, T1, by unfold Sd at i3 ⊢; rw [sa]; exact i3, ?_, fun z => ?_⟩ (by omega)
        · by_cases c6 : cUn (eE D W (-999)) a R0 = 0
          · exact Or.inr (by omega)
          · have := (bf_round g w0.2 (T := 32 * ((r + 1 : Nat) : Int)) (by omega) T0 T1 i3 rn c6).1
            exact Or.inl (by omega)
        · by_cases c6 : cUn (eE D W (-999)) a R0 = 0
          · omega
          · obtain ⟨-, v, v1, v2⟩ := bf_round g w0.2 (T := 32 * ((r + 1 : Nat) : Int)) (by omega) T0 T1 i3 rn c6
            exact absurd (J5 z v v1.1 v1.2) v2
    · rw [if_neg c1]
      have cb := cUn_b (a := a) (R := h' q) (E := eE D W (-999))
      exact fin (by omega)
end BFL

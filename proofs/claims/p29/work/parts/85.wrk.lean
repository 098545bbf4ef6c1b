section WRK
variable {D : Dr} {h : Hp}
theorem bo_listSteps_wp (ha : AtC D h 1) (w : WF D) : wp (bo_listSteps 111 1 h) (fun _ h' => ST D 111 h' ∧ (∀ c, c ≠ 111 → c ≠ 129 → c ≠ 130 → c ≠ 131 → h' c = h c) ∧ ∀ j, j ≠ 5 → h' 111 j = h 111 j) := by
  have w1 := w.2.1
  have em : h 1 8 = D 7 1 := ha.1.2.1.symm
  unfold bo_listSteps
  rw [lt_eq, em]
  refine wp_it1 (fun x h' => (0 ≤ x ∧ x ≤ D 7 1) ∧ ((∀ c, c ≠ 111 → c ≠ 129 → c ≠ 130 → c ≠ 131 → h' c = h c) ∧ (∀ j, j ≠ 5 → h' 111 j = h 111 j) ∧ h' 111 5 = D 7 1) ∧ ∀ d, 0 ≤ d → d < x → (h' 129 (2 * d) = D 1 d ∧ h' 130 (2 * d) = D 2 d ∧ h' 131 (2 * d) = vD D d + D 4 d) ∧ h' 129 (2 * d + 1) = D 2 d ∧ h' 130 (2 * d + 1) = D 1 d ∧ h' 131 (2 * d + 1) = D 3 d - vD D d) (fun x _ => (D 7 1 - x).toNat) (fun x h' hI k hk => ?_) fuel _ _ ⟨by omega, ⟨fun c n _ _ _ => funext fun j => hu_o n j, fun j n => hu_j 111 n, hu_s⟩, fun d d0 d1 => by omega⟩ (by unfold fuel; omega)
  obtain ⟨hx, ⟨f1, f2, f3⟩, hS⟩ := hI
  unfold bo_listSteps_f10
  rw [f3]
  by_cases q : x < D 7 1
  · have dw := w.dim hx.1 q
    have dt := w.2.2.2.2.2.2 x hx.1 q
    have hA : AtC D h' 1 := ha.keep (fun c c0 c1 => f1 c (by omega) (by omega) (by omega) (by omega))
    have wc := hA.wf w
    obtain ⟨r1, r2, r3, r4, -⟩ := hA.2.2 x hx.1 q
    have r1 : h' 3 x = D 1 x := r1.symm
    have r2 : h' 4 x = D 2 x := r2.symm
    have r3 : h' 5 x = D 3 x := r3.symm
    have r4 : h' 6 x = D 4 x := r4.symm
    have p1 : h' 2 (D 1 x) = D 0 (D 1 x) := (hA.2.1 _ dw.1.1 (by omega)).symm
    have p2 : h' 2 (D 2 x) = D 0 (D 2 x) := (hA.2.1 _ (by omega) dw.1.2.2).symm
    have ev : dr_valueOf 1 x h' = some (vD D x, h') := by
      have := dr_valueOf_eq wc (d := x) hx.1 (by have := hA.1.2.1; omega)
      rw [show (1 + 3 : Nat) = 4 from rfl, show (1 + 2 : Nat) = 3 from rfl, show (1 + 1 : Nat) = 2 from rfl, r1, r2, p1, p2] at this
      exact this
    have vb : 0 < vD D x ∧ vD D x ≤ 300 := by
      unfold vD
      omega
    have e4' : hu h' 129 (2 * x) (D 1 x) 4 x = D 2 x := by rw [hu_o (by decide), r2]
    simp only [Nat.reduceAdd]
    rw [if_pos q, bd_eq ev, ck_in ⟨by omega, by omega⟩, ix_in hx.1 (by omega), ix_in (by omega) (by omega), lt_eq, r1, ck_in ⟨by omega, by omega⟩, ix_in hx.1 (by omega), ix_in (by omega) (by omega), lt_eq, e4', ck_in ⟨by omega, by omega⟩, ix_in hx.1 (by omega)]
    have e6 : ∀ a b, hu (hu h' 129 (2 * x) a) 130 (2 * x) b 6 x = D 4 x := fun a b => by rw [hu_o (by decide), hu_o (by decide), r4]
    rw [e6, ck_in ⟨by omega, by omega⟩, ix_in (by omega) (by omega), lt_eq, ck_in ⟨by omega, by omega⟩, ck_in ⟨by omega, by omega⟩, ix_in hx.1 (by omega), ix_in (by omega) (by omega), lt_eq]
    generalize hg3 : hu (hu (hu h' 129 (2 * x) (D 1 x)) 130 (2 * x) (D 2 x)) 131 (2 * x) (vD D x + D 4 x) = g3
    have g3c : ∀ c, c ≠ 129 → c ≠ 130 → c ≠ 131 → g3 c = h' c := fun c n1 n2 n3 => by
      rw [← hg3]
      exact funext fun j => by rw [hu_o n3, hu_o n2, hu_o n1]
    rw [g3c 4 (by decide) (by decide) (by decide), r2, ck_in ⟨by omega, by omega⟩, ck_in ⟨by omega, by omega⟩, ix_in hx.1 (by omega), ix_in (by omega) (by omega), lt_eq]
    have e3 : ∀ a, hu g3 129 (2 * x + 1) a 3 x = D 1 x := fun a => by rw [hu_o (by decide), g3c 3 (by decide) (by decide) (by decide), r1]
    rw [e3, ck_in ⟨by omega, by omega⟩, ck_in ⟨by omega, by omega⟩, ix_in hx.1 (by omega)]
    have e5 : ∀ a b, hu (hu g3 129 (2 * x + 1) a) 130 (2 * x + 1) b 5 x = D 3 x := fun a b => by rw [hu_o (by decide), hu_o (by decide), g3c 5 (by decide) (by decide) (by decide), r3]
    rw [e5, ck_in ⟨by omega, by omega⟩, ix_in (by omega) (by omega), lt_eq, ck_in ⟨by omega, by omega⟩]
    generalize hG : hu (hu (hu g3 129 (2 * x + 1) (D 2 x)) 130 (2 * x + 1) (D 1 x)) 131 (2 * x + 1) (D 3 x - vD D x) = G
    have Gc : ∀ c, c ≠ 129 → c ≠ 130 → c ≠ 131 → G c = h' c := fun c n1 n2 n3 => by
      rw [← hG, ← g3c c n1 n2 n3]
      exact funext fun j => by rw [hu_o n3, hu_o n2, hu_o n1]
    have G129 : ∀ j, G 129 j = if j = 2 * x + 1 then D 2 x else if j = 2 * x then D 1 x else h' 129 j := fun j => by
      rw [← hG, ← hg3]
      unfold hu
      simp
    have G130 : ∀ j, G 130 j = if j = 2 * x + 1 then D 1 x else if j = 2 * x then D 2 x else h' 130 j := fun j => by
      rw [← hG, ← hg3]
      unfold hu
      simp
    have G131 : ∀ j, G 131 j = if j = 2 * x + 1 then D 3 x - vD D x else if j = 2 * x then vD D x + D 4 x else h' 131 j := fun j => by
      rw [← hG, ← hg3]
      unfold hu
      simp
    refine hk _ _ ⟨by omega, ⟨fun c n0 n1 n2 n3 => by rw [Gc c n1 n2 n3, f1 c n0 n1 n2 n3], fun j n => by rw [Gc 111 (by decide) (by decide) (by decide), f2 j n], by rw [Gc 111 (by decide) (by decide) (by decide), f3]⟩, fun d d0 d1 => ?_⟩ (by omega)
    rw [G129, G130, G131, G129, G130, G131]
    by_cases c : d = x
    · subst c
      simp only [if_true]
      rw [if_neg (by omega), if_neg (by omega), if_neg (by omega)]
      exact ⟨⟨by first | rfl | trivial, by first | rfl | trivial, by first | rfl | trivial⟩, by first | rfl | trivial, by first | rfl | trivial, by first | rfl | trivial⟩
    · rw [if_neg (by omega), if_neg (by omega), if_neg (by omega), if_neg (by omega), if_neg (by omega), if_neg (by omega), if_neg (by omega), if_neg (by omega), if_neg (by omega), if_neg (by omega), if_neg (by omega), if_neg (by omega)]
      exact hS d d0 (by omega)
  · rw [if_neg q]
    exact wp_ret ⟨⟨f3, fun d d0 d1 => hS d d0 (by omega)⟩, f1, f2⟩
theorem bo_removeNone_eq : bo_removeNone 111 h = some ((), hfil h 127 16 0) := by
  have bz0 : bz 0 = (fun (E : O Unit) => E) := funext fun E => if_pos (Or.inl rfl)
  have e0 : hfil h 127 ((0 : Nat) : Int) 0 = h := by
    funext c j
    unfold hfil
    rw [if_neg (by omega)]
  unfold bo_removeNone
  have key := it1_seq (F := bo_removeNone_f2 111) (fun k => (k : Int)) (fun k => hfil h 127 k 0) 16 (R := some ((), hfil h 127 ((16 : Nat) : Int) 0)) (fun k x hx => ?_) (fun k => ?_) fuel 0 (Nat.zero_le _) (by unfold fuel; omega)
  · rw [e0] at key
    exact key
  · simp only [bo_removeNone_f2, Nat.reduceAdd]
    rw [if_pos (by omega), ix_in (by omega) (by omega), bz0, lt_eq, ck_in ⟨by omega, by omega⟩]
    have : hu (hfil h 127 x 0) 127 x 0 = hfil h 127 ((x + 1 : Nat) : Int) 0 := by
      funext c j
      unfold hu hfil
      grind
    rw [this]
    rfl
  · unfold bo_removeNone_f2
    rw [if_neg (by omega)]
/-- the superfluous ones of all -/
abbrev sup0 (D : Dr) (d : Int) : Prop := sup D (fun _ => False) d
noncomputable def cSup (D : Dr) (n : Nat) : Int := sumI (fun d => tb (sup0 D d)) n
theorem cSup_s {D : Dr} {n : Nat} : cSup D (n + 1) = cSup D n + tb (sup0 D n) := rfl
theorem cSup_b {D : Dr} (n : Nat) : 0 ≤ cSup D n ∧ cSup D n ≤ n := by
  have := sumI_le (g := fun d => tb (sup0 D d)) (B := 1) (n := n) (fun i _ _ => tb_b)
  unfold cSup
  omega
/-- what is worked out -/
def BNDS (D : Dr) (h : Hp) : Prop := ST D 111 h ∧ RW D h ∧ (∀ p, 0 ≤ p → p < D 7 0 → h 125 p = grp D p) ∧ h 111 3 = cntF D (D 7 0).toNat ∧ (∀ d, 0 ≤ d → d < D 7 1 → h 126 d = tb (sup0 D d)) ∧ h 111 4 = cSup D (D 7 1).toNat
theorem ST.keep (g : ST D 111 h) {h' : Hp} (e5 : h' 111 5 = h 111 5) (e : ∀ c, c = 129 ∨ c = 130 ∨ c = 131 → h' c = h c) : ST D 111 h' := by
  unfold ST at *
  simp only [Nat.reduceAdd] at *
  rw [e5, e 129 (by decide), e 130 (by decide), e 131 (by decide)]
  exact g
theorem BNDS.keep (g : BNDS D h) (w : WF D) {h' : Hp} (e : ∀ c, 111 ≤ c → c < 132 → c ≠ 127 → c ≠ 128 → h' c = h c) : BNDS D h' := by
  have w0 := w.1
  obtain ⟨g1, g2, g3, g4, g5, g6⟩ := g
  refine ⟨g1.keep (by rw [e 111 (by decide) (by decide) (by decide) (by decide)]) (fun c z => e c (by omega) (by omega) (by omega) (by omega)), fun p v p0 p1 v0 v1 => by rw [e _ (by omega) (by omega) (by omega) (by omega)]; exact g2 p v p0 p1 v0 v1, ?_, ?_, ?_, ?_⟩
  · rw [e 125 (by decide) (by decide) (by decide) (by decide)]; exact g3
  · rw [e 111 (by decide) (by decide) (by decide) (by decide)]; exact g4
  · rw [e 126 (by decide) (by decide) (by decide) (by decide)]; exact g5
  · rw [e 111 (by decide) (by decide) (by decide) (by decide)]; exact g6
theorem bo_workOut_wp (ha : AtC D h 1) (w : WF D) : wp (bo_workOut 111 1 h) (fun _ h' => BNDS D h' ∧ ∀ c, (c < 111 ∨ 131 < c) → h' c = h c) := by
  have w0 := w.1
  have w1 := w.2.1
  have en : ∀ G : Hp, (∀ c, (c < 111 ∨ 131 < c) → G c = h c) → G 1 7 = D 7 0 := fun G e => by
    rw [e 1 (by decide)]
    exact ha.1.1.symm
  unfold bo_workOut
  refine wp_bd (bo_listSteps_wp ha w) (fun _ h1 hq => ?_)
  obtain ⟨s1, f1, f1'⟩ := hq
  rw [bd_eq bo_removeNone_eq]
  generalize hg : hfil h1 127 16 0 = g
  have gc : ∀ c, c ≠ 127 → g c = h1 c := fun c n => by
    rw [← hg]
    exact funext fun j => by
      unfold hfil
      rw [if_neg (fun z => n z.1)]
  have g127 : ∀ d, 0 ≤ d → d < 16 → g 127 d = 0 := fun d d0 d1 => by
    rw [← hg]
    unfold hfil
    rw [if_pos ⟨rfl, d0, d1⟩]
  have sg : ST D 111 g := s1.keep (by rw [gc 111 (by decide)]) (fun c z => gc c (by omega))
  have fg : ∀ c, (c < 111 ∨ 131 < c) → g c = h c := fun c z => by rw [gc c (by omega), f1 c (by omega) (by omega) (by omega) (by omega)]
  have hWf : ∀ G : Hp, G 127 = g 127 → ∀ d, 0 ≤ d → d < D 7 1 → ((fun _ => False) d ↔ G (111 + 16) d ≠ 0) := fun G eG d d0 d1 => by
    show False ↔ G 127 d ≠ 0
    rw [eG, g127 d d0 (by omega)]
    exact ⟨False.elim, fun z => z rfl⟩
  refine wp_it1 (fun x h' => (0 ≤ x ∧ x ≤ D 7 0) ∧ (∀ c, (c < 113 ∨ 124 < c) → h' c = g c) ∧ ∀ p v, 0 ≤ p → p < x → 0 ≤ v → v < 12 → h' (113 + p.toNat) v = dd D p v) (fun x _ => (D 7 0 - x).toNat) (fun x h' hI k hk => ?_) fuel _ _ ⟨by omega, fun _ _ => rfl, fun p v p0 p1 => by omega⟩ (by unfold fuel; omega)
  obtain ⟨hx, f2, hR⟩ := hI
  have en' : h' 1 7 = D 7 0 := en h' (fun c z => by rw [f2 c (by omega), fg c z])
  unfold bo_workOut_f11
  rw [en']
  by_cases q : x < D 7 0
  · simp only [Nat.reduceAdd]
    rw [if_pos q, ix_in hx.1 (by omega)]
    refine wp_bd (bo_findWays_wp (q := 113 + x.toNat) w (sg.keep (by rw [f2 111 (by decide)]) (fun c z => f2 c (by omega))) (hWf h' (f2 127 (by decide))) (by omega) ⟨hx.1, q⟩) (fun _ h2 hq => ?_)
    obtain ⟨sp, f3⟩ := hq
    rw [ck_in ⟨by omega, by omega⟩]
    refine hk _ _ ⟨by omega, fun c z => by rw [f3 c (by omega), f2 c z], fun p v p0 p1 v0 v1 => ?_⟩ (by omega)
    by_cases c : p = x
    · rw [c]
      exact sp.dst v0 v1
    · rw [f3 _ (by omega)]
      exact hR p v p0 (by omega) v0 v1
  · have rw' : RW D h' := fun p v p0 p1 => hR p v p0 (by omega)
    rw [if_neg q, bd_eq (bo_formGroups_eq w rw'), lt_eq]
    generalize hk2 : hu (hfg D h' (D 7 0).toNat) 111 4 0 = k2
    have kc : ∀ c, c ≠ 111 → c ≠ 125 → k2 c = h' c := fun c n1 n2 => by
      rw [← hk2]
      exact funext fun j => by
        rw [hu_o n1]
        unfold hfg
        rw [if_neg (fun z => n2 z.1), if_neg (fun z => n1 z.1)]
    have k111 : ∀ j, j ≠ 3 → j ≠ 4 → k2 111 j = h' 111 j := fun j n3 n4 => by
      rw [← hk2, hu_j 111 n4]
      unfold hfg
      rw [if_neg (by omega), if_neg (fun z => n3 z.2)]
    have k3 : k2 111 3 = cntF D (D 7 0).toNat := by
      rw [← hk2, hu_j 111 (by decide)]
      unfold hfg
      rw [if_neg (by omega), if_pos ⟨rfl, rfl⟩]
    have k4 : k2 111 4 = 0 := by
      rw [← hk2, hu_s]
    have k125 : ∀ p, 0 ≤ p → p < D 7 0 → k2 125 p = grp D p := fun p p0 p1 => by
      rw [← hk2, hu_o (by decide)]
      unfold hfg
      rw [if_pos ⟨rfl, p0, by omega⟩]
    have sk : ST D 111 k2 := sg.keep (by rw [k111 5 (by decide) (by decide), f2 111 (by decide)]) (fun c z => by rw [kc c (by omega) (by omega), f2 c (by omega)])
    have rk : RW D k2 := fun p v p0 p1 v0 v1 => by
      rw [kc _ (by omega) (by omega)]
      exact rw' p v p0 p1 v0 v1
    refine wp_it1 (fun x h2 => ∃ n : Nat, x = n ∧ (n : Int) ≤ D 7 1 ∧ (∀ c, c ≠ 111 → c ≠ 126 → c ≠ 127 → c ≠ 128 → h2 c = k2 c) ∧ h2 127 = g 127 ∧ (∀ j, j ≠ 4 → h2 111 j = k2 111 j) ∧ (∀ d : Int, 0 ≤ d → d < n → h2 126 d = tb (sup0 D d)) ∧ h2 111 4 = cSup D n) (fun x _ => (D 7 1 - x).toNat) (fun x h2 hJ k5 hk5 => ?_) fuel _ _ ⟨0, rfl, by omega, fun _ _ _ _ _ => rfl, by rw [kc 127 (by decide) (by decide), f2 127 (by decide)], fun _ _ => rfl, fun d d0 d1 => by omega, k4⟩ (by unfold fuel; omega)
    obtain ⟨n, en2, hn, j1, j2, j3, j4, j5⟩ := hJ
    subst en2
    have s2 : ST D 111 h2 := sk.keep (j3 5 (by decide)) (fun c z => j1 c (by omega) (by omega) (by omega) (by omega))
    unfold bo_workOut_f51
    rw [s2.1]
    by_cases q2 : (n : Int) < D 7 1
    · rw [if_pos q2]
      refine wp_bd (bo_isSuperfluous_wp w s2 (W := fun _ => False) (hWf h2 j2) (d := (n : Int)) (by omega) (by rw [j2, g127 n (by omega) (by omega)])) (fun r h3 hq => ?_)
      obtain ⟨er, f4, f5⟩ := hq
      have bzr : bz r = (fun (E : O Unit) => E) := funext fun E => if_pos (by rw [er]; exact tb_bz)
      have cb := cSup_b (D := D) n
      have b89 : ∀ (s : Int) (G : Hp), s = tb (sup0 D n) → (∀ c, c ≠ 126 → G c = h3 c) → (∀ j, G 126 j = if j = n then tb (sup0 D n) else h3 126 j) → wp (bo_workOut_b89 111 1 k5 n s (G 111 4) G) (fun _ h' => BNDS D h' ∧ ∀ c, (c < 111 ∨ 131 < c) → h' c = h c) := fun s G es eG1 eG2 => by
        have tbb := tb_b (P := sup0 D n)
        have e4 : G 111 4 = cSup D n := by rw [eG1 111 (by decide), f4 111 (by decide) (by decide), j5]
        unfold bo_workOut_b89
        rw [e4, es, ck_in ⟨by omega, by omega⟩, lt_eq, ck_in ⟨by omega, by omega⟩]
        refine hk5 _ _ ⟨n + 1, rfl, by omega, fun c n1 n2 n3 n4 => ?_, ?_, fun j n4 => ?_, fun d d0 d1 => ?_, ?_⟩ (by omega)
        · rw [← j1 c n1 n2 n3 n4, ← f4 c n3 n4, ← eG1 c n2]
          exact funext fun j => hu_o n1 j
        · rw [← j2, ← f5, ← eG1 127 (by decide)]
          exact funext fun j => hu_o (by decide) j
        · rw [hu_j 111 n4, eG1 111 (by decide), f4 111 (by decide) (by decide), j3 j n4]
        · rw [hu_o (by decide), eG2]
          by_cases c : d = n
          · rw [if_pos c, c]
          · rw [if_neg c, f4 126 (by decide) (by decide)]
            exact j4 d d0 (by omega)
        · rw [hu_s, cSup_s]
      have e126 : ∀ j, hu h3 126 n r 126 j = if j = n then tb (sup0 D n) else h3 126 j := fun j => by
        unfold hu
        by_cases c : j = n
        · rw [if_pos ⟨rfl, c⟩, if_pos c, er]
        · rw [if_neg (fun z => c z.2), if_neg c]
      simp only [Nat.reduceAdd]
      rw [ix_in (by omega) (by omega), bzr, lt_eq, ix_in (by omega) (by omega)]
      have b0 := b89 0 (hu h3 126 n r)
      have b1 := b89 1 (hu h3 126 n r)
      rw [e126, if_pos rfl]
      by_cases c : sup0 D n
      · rw [tb_t c, if_neg (by decide)]
        exact b1 (tb_t c).symm (fun c n => funext fun j => hu_o n j) e126
      · rw [tb_f c, if_pos rfl]
        exact b0 (tb_f c).symm (fun c n => funext fun j => hu_o n j) e126
    · rw [if_neg q2]
      refine wp_ret ⟨⟨s2, fun p v p0 p1 v0 v1 => ?_, fun p p0 p1 => ?_, ?_, fun d d0 d1 => j4 d d0 (by omega), ?_⟩, fun c z => ?_⟩
      · rw [j1 _ (by omega) (by omega) (by omega) (by omega)]
        exact rk p v p0 p1 v0 v1
      · rw [j1 125 (by decide) (by decide) (by decide) (by decide)]
        exact k125 p p0 p1
      · rw [j3 3 (by decide)]
        exact k3
      · rw [j5, show n = (D 7 1).toNat by omega]
      · rw [j1 c (by omega) (by omega) (by omega) (by omega), kc c (by omega) (by omega), f2 c (by omega), fg c z]
end WRK

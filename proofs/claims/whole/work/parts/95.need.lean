section NEED
variable {D : Dr} {h : Hp}
theorem Wk_sub {E E' : ES} (hE : ∀ u v w, E u v w → E' u v w) {a b x : Int} (g : Wk E a b x) : Wk E' a b x := g.ind (P := fun v z => Wk E' a v z) Wk.nil (fun u v w _ e _ p => p.step (hE u v w e))
theorem eE_sub {W W' : Int → Prop} {X : Int} (hW : ∀ e, 0 ≤ e → e < D 7 1 → W e → W' e) : ∀ u v w, eE D W' X u v w → eE D W X u v w := fun _ _ _ e => by
  obtain ⟨d, d1, d2, d3⟩ := e
  exact ⟨d, d1, fun z => d2 (hW d d1.1 d1.2 z), d3⟩
theorem sup_mono (w : WF D) {g g' d : Int} (hg : 0 ≤ g) (hg' : 0 ≤ g') (hd : 0 ≤ d ∧ d < D 7 1) (hW : ∀ e, 0 ≤ e → e < D 7 1 → bt g e → bt g' e) (s : sup D (bt g') d) : sup D (bt g) d := by
  have w0 := w.1
  have dw := w.dim hd.1 hd.2
  have dt := w.2.2.2.2.2.2 d hd.1 hd.2
  have vb : 0 < vD D d ∧ vD D d ≤ 300 := by
    unfold vD
    omega
  have eq1 : eE D (bt (orI g (pw2 d))) (-999) = eE D (fun e => bt g e ∨ e = d) (-999) := eE_congr (fun e e0 _ => bt_or hg hd.1 e0)
  have eq2 : eE D (bt (orI g' (pw2 d))) (-999) = eE D (fun e => bt g' e ∨ e = d) (-999) := eE_congr (fun e e0 _ => bt_or hg' hd.1 e0)
  have key : ∀ a b x : Int, (0 ≤ a ∧ a < 12) → (0 ≤ b ∧ b < 12) → x < 1000000 → dst (eE D (fun e => bt g' e ∨ e = d) (-999)) a b ≤ x → dst (eE D (fun e => bt g e ∨ e = d) (-999)) a b ≤ x := fun a b x ha hb hx hl => by
    have s1 := sp_bt (X := -999) w (orI_b (g := g) (d := d)) ha
    have s2 := sp_bt (X := -999) w (orI_b (g := g') (d := d)) ha
    rw [eq1] at s1
    rw [eq2] at s2
    obtain ⟨-, y, y1, y2⟩ := (s2.2.1 b hb.1 hb.2).resolve_left (by omega)
    have := (s1.low (Wk_sub (eE_sub (fun e e0 e1 z => z.imp (hW e e0 e1) id)) y2)).2
    omega
  exact ⟨key _ _ _ (by omega) (by omega) (by omega) s.1, key _ _ _ (by omega) (by omega) (by omega) s.2⟩
/-- which are gone, and how many are left, behind the k greatest numbers -/
def rW (D : Dr) : Nat → Int → Prop
  | 0 => fun _ => False
  | k + 1 => fun e => rW D k e ∨ (e = D 7 1 - 1 - k ∧ sup D (rW D k) e)
noncomputable def lfN (D : Dr) : Nat → Int
  | 0 => D 7 1
  | k + 1 => lfN D k - tb (sup D (rW D k) (D 7 1 - 1 - k))
theorem rW_b {e : Int} : ∀ k : Nat, rW D k e → D 7 1 - k ≤ e
  | 0, z => z.elim
  | k + 1, z => by
    rcases z with z | z
    · have := rW_b k z
      omega
    · have := z.1
      omega
theorem lfN_b : ∀ k : Nat, D 7 1 - k ≤ lfN D k ∧ lfN D k ≤ D 7 1
  | 0 => by unfold lfN; omega
  | k + 1 => by
    have i := lfN_b k
    have := tb_b (P := sup D (rW D k) (D 7 1 - 1 - k))
    unfold lfN
    omega
theorem bo_countLeft_wp (w : WF D) (hs : ST D 111 h) : wp (bo_countLeft 111 h) (fun r h' => r = lfN D (D 7 1).toNat ∧ ∀ c, c ≠ 127 → c ≠ 128 → h' c = h c) := by
  have w1 := w.2.1
  have bz1 : bz 1 = (fun (E : O Int) => E) := funext fun E => if_pos (Or.inr rfl)
  unfold bo_countLeft
  rw [bd_eq bo_removeNone_eq]
  have f0 : ∀ c, c ≠ 127 → c ≠ 128 → hfil h 127 16 0 c = h c := fun c n _ => funext fun j => by
    unfold hfil
    rw [if_neg (fun z => n z.1)]
  have g127 : ∀ d, 0 ≤ d → d < 16 → hfil h 127 16 0 127 d = 0 := fun d d0 d1 => by
    unfold hfil
    rw [if_pos ⟨rfl, d0, d1⟩]
  generalize hfil h 127 16 0 = g at *
  have e5 : g 111 5 = D 7 1 := by
    rw [f0 111 (by decide) (by decide)]
    exact hs.1
  rw [e5, ck_in ⟨by omega, by omega⟩]
  refine wp_it2 (fun x1 x2 h' => ∃ k : Nat, x2 = D 7 1 - 1 - k ∧ (k : Int) ≤ D 7 1 ∧ x1 = lfN D k ∧ (∀ c, c ≠ 127 → c ≠ 128 → h' c = h c) ∧ ∀ e, 0 ≤ e → e < D 7 1 → (rW D k e ↔ h' 127 e ≠ 0)) (fun _ x2 _ => (x2 + 1).toNat) (fun x1 x2 h' hI k16 hk => ?_) fuel _ _ _ ⟨0, by omega, by omega, rfl, f0, fun e e0 e1 => by
    rw [g127 e e0 (by omega)]
    exact ⟨fun z => z.elim, fun z => z rfl⟩⟩ (by unfold fuel; omega)
  obtain ⟨k, e2, hk1, e1, f, hW⟩ := hI
  have lb := lfN_b (D := D) k
  unfold bo_countLeft_f16
  by_cases q : x2 < 0
  · rw [if_pos q]
    exact wp_ret ⟨by rw [e1, show k = (D 7 1).toNat by omega], f⟩
  · rw [if_neg q]
    have nd : h' 127 x2 = 0 := Classical.byContradiction fun z => by
      have := rW_b k ((hW x2 (by omega) (by omega)).mpr z)
      omega
    refine wp_bd (bo_isSuperfluous_wp w (hs.keep (by rw [f 111 (by decide) (by decide)]) (fun c z => f c (by omega) (by omega))) hW (d := x2) (by omega) nd) (fun r h2 hq => ?_)
    obtain ⟨er, f2, f127⟩ := hq
    have f2' : ∀ c, c ≠ 127 → c ≠ 128 → h2 c = h c := fun c n n' => by rw [f2 c n n', f c n n']
    have el : lfN D (k + 1) = lfN D k - tb (sup D (rW D k) x2) := by rw [e2]; rfl
    have ew : ∀ e, rW D (k + 1) e ↔ rW D k e ∨ (e = x2 ∧ sup D (rW D k) e) := fun e => by rw [e2]; exact Iff.rfl
    unfold bo_countLeft_b38
    by_cases c : sup D (rW D k) x2
    · rw [er, tb_t c, if_neg (by decide), ix_in (by omega) (by omega), bz1, lt_eq, ck_in ⟨by omega, by omega⟩, ck_in ⟨by omega, by omega⟩]
      refine hk _ _ _ ⟨k + 1, by omega, by omega, by rw [el, tb_t c]; omega, fun c n n' => ?_, fun e e0 e1' => ?_⟩ (by omega)
      · rw [← f2' c n n']
        exact funext fun j => hu_o n j
      · rw [ew, show (111 + 16 : Nat) = 127 from rfl]
        unfold hu
        by_cases y : e = x2
        · rw [if_pos ⟨rfl, y⟩]
          exact ⟨fun _ => by decide, fun _ => Or.inr ⟨y, by rw [y]; exact c⟩⟩
        · rw [if_neg (fun z => y z.2), f127, hW e e0 e1']
          exact ⟨fun z => z.elim id (fun z => absurd z.1 y), Or.inl⟩
    · rw [er, tb_f c, if_pos rfl, ck_in ⟨by omega, by omega⟩]
      refine hk _ _ _ ⟨k + 1, by omega, by omega, by rw [el, tb_f c]; omega, f2', fun e e0 e1' => ?_⟩ (by omega)
      rw [ew, f127, hW e e0 e1']
      exact ⟨fun z => z.elim id (fun z => absurd (by rw [← z.1]; exact z.2) c), Or.inl⟩
noncomputable def aNeed (D : Dr) : Int := lfN D (D 7 1).toNat
theorem dl_needed_wp (w : WF D) (hA : AtC D h 1) (hF : FR D h) : wp (dl_needed 0 h) (fun r h1 => r = aNeed D ∧ CFr h h1 ∧ FR D h1) := by
  simp only [dl_needed, Nat.reduceAdd]
  refine wp_bd (dl_knownBounds_wp hA w hF) (fun _ h3 hq => ?_)
  obtain ⟨l, f1, f2⟩ := hq
  refine wp_bd (bo_countLeft_wp w l.1) (fun r h4 hq => ?_)
  obtain ⟨er, f⟩ := hq
  refine wp_ret ⟨er, fun c c0 c1 => by rw [f c (by omega) (by omega), f1 c c0 c1], ?_⟩
  unfold FR
  rw [f 0 (by decide) (by decide)]
  exact ⟨f2.1.imp id (fun z => ⟨z.1, z.2.keep (fun c c0 c1 => f c (by omega) (by omega))⟩), f2.2.imp id (fun z => ⟨z.1, z.2.1, z.2.2.keep z.2.1 (fun c c0 c1 n1 n2 => f c n1 n2)⟩)⟩
/-- those of the k greatest numbers that are not gone aren't superfluous now -/
def cln (D : Dr) (k : Nat) : Prop := ∀ e, D 7 1 - k ≤ e → 0 ≤ e → e < D 7 1 → rW D k e ∨ ¬ sup D (rW D k) e
theorem cln_s (w : WF D) {k : Nat} {g g' : Int} (hg : 0 ≤ g) (hg' : 0 ≤ g') (hW : ∀ e, 0 ≤ e → e < D 7 1 → (bt g e ↔ rW D k e)) (hW' : ∀ e, 0 ≤ e → e < D 7 1 → (bt g' e ↔ rW D (k + 1) e)) (c : cln D k) : cln D (k + 1) := fun e e0 e1 e2 => by
  have sub : ∀ x, 0 ≤ x → x < D 7 1 → bt g x → bt g' x := fun x x0 x1 z => (hW' x x0 x1).mpr (Or.inl ((hW x x0 x1).mp z))
  have mono : sup D (rW D (k + 1)) e → sup D (rW D k) e := fun z => (sup_congr hW).mp (sup_mono w hg hg' ⟨e1, e2⟩ sub ((sup_congr hW').mpr z))
  by_cases y : e = D 7 1 - 1 - k
  · by_cases z : sup D (rW D k) e
    · exact Or.inl (Or.inr ⟨y, z⟩)
    · exact Or.inr (fun x => z (mono x))
  · rcases c e (by omega) e1 e2 with z | z
    · exact Or.inl (Or.inl z)
    · exact Or.inr (fun x => z (mono x))
theorem orI_zero {g : Int} (hg : 0 ≤ g) : orI g 0 = g := by
  have : g.toNat ||| (0 : Int).toNat = g.toNat := Nat.or_zero _
  unfold orI
  rw [this]
  omega
theorem mo_needed_wp (w : WF D) (hM : AtM D h 0) : wp (mo_needed 132 h) (fun r h1 => r = aNeed D ∧ RFr h h1) := by
  have w1 := w.2.1
  unfold mo_needed
  rw [ix_in (by omega) (by omega), show h (132 + 1) 13 = D 7 1 from hM.m]
  refine wp_mono (Q := fun r h1 => r = aNeed D ∧ ∀ c, c ≠ 141 → h1 c = h c) ?_ (fun r h1 z => ⟨z.1, RFr.o z.2⟩)
  refine wp_it3 (fun x1 x2 x3 h' => (∀ c, c ≠ 141 → h' c = h c) ∧ 0 ≤ x1 ∧ ((x3 = 0 ∧ x2 = aNeed D) ∨ (x3 = 1 ∧ ∃ k : Nat, (k : Int) ≤ D 7 1 ∧ x2 = lfN D k ∧ (∀ e, 0 ≤ e → e < D 7 1 → (bt x1 e ↔ rW D k e)) ∧ cln D k))) (fun _ x2 x3 _ => (x2 + x3).toNat) (fun x1 x2 x3 h' hI k12 hk => ?_) fuel _ _ _ _ ⟨fun _ _ => rfl, by omega, Or.inr ⟨rfl, 0, by omega, rfl, fun e _ _ => bt0, fun e e0 e1 e2 => by omega⟩⟩ (by unfold fuel; omega)
  obtain ⟨f, hx1, hI⟩ := hI
  unfold mo_needed_f12
  rcases hI with ⟨e3, e2⟩ | ⟨e3, k, hk1, e2, hW, hc⟩
  · rw [if_pos e3]
    exact wp_ret ⟨e2, f⟩
  · have lb0 := lfN_b (D := D) k
    rw [if_neg (by omega), ix_in (by omega) (by omega), show h' (132 + 1) 13 = D 7 1 from (hM.o f).m, ck_in ⟨by omega, by omega⟩]
    subst e3
    refine wp_it4 (fun y1 y2 y3 y4 h2 => (∀ c, c ≠ 141 → h2 c = h c) ∧ 0 ≤ y1 ∧ (-1 ≤ y4 ∧ y4 < D 7 1) ∧ ∃ K : Nat, (K : Int) ≤ D 7 1 ∧ y2 = lfN D K ∧ (∀ e, 0 ≤ e → e < D 7 1 → (bt y1 e ↔ rW D K e)) ∧ cln D K ∧ ((y3 = 0 ∧ y2 = x2 ∧ (D 7 1 - K ≤ y4 ∨ y4 = D 7 1 - 1 - K)) ∨ (y3 = 1 ∧ y2 + 1 = x2))) (fun _ _ _ y4 _ => (y4 + 1).toNat) (fun y1 y2 y3 y4 h2 hJ k29 hk2 => ?_) fuel _ _ _ _ _ ⟨f, hx1, by omega, k, hk1, e2, hW, hc, Or.inl ⟨rfl, rfl, by omega⟩⟩ (by unfold fuel; omega)
    obtain ⟨f2, hy1, hy4, K, hK, g2, gW, gc, gJ⟩ := hJ
    have lb := lfN_b (D := D) K
    unfold mo_needed_f29 mo_needed_b96
    rcases gJ with ⟨g3, g4, g5⟩ | ⟨g3, g4⟩
    · by_cases q : y4 < 0
      · rw [if_pos q]
        have eK : K = (D 7 1).toNat := by omega
        exact hk _ _ _ _ ⟨f2, hy1, Or.inl ⟨g3, by rw [g2, eK]; rfl⟩⟩ (by omega)
      · have hM2 := hM.o f2
        have pb : 1 ≤ pw2 y4 ∧ pw2 y4 ≤ 65536 := by
          have key : ∀ k : Nat, k < 17 → 1 ≤ pw2 (k : Int) ∧ pw2 (k : Int) ≤ 65536 := by decide
          have := key y4.toNat (by omega)
          rw [Int.toNat_of_nonneg (by omega)] at this
          exact this
        have b88 : ∀ (x1' x3' s0 : Int) (h3 : Hp), mo_needed_b88 132 k29 x1' x3' y4 s0 y2 h3 = ck (y2 - s0) (k29 x1' (y2 - s0) x3' (y4 + (-1)) h3) := fun x1' x3' s0 h3 => by
          unfold mo_needed_b88
          rw [ck_in (z := y4 + (-1)) ⟨by omega, by omega⟩]
        have b61 : ∀ h3 : Hp, mo_needed_b61 132 k29 y1 y2 y4 h3 = k29 y1 y2 0 (y4 + (-1)) h3 := fun h3 => by
          unfold mo_needed_b61 mo_needed_b62 mo_needed_b76
          rw [if_pos rfl, orc_in hy1 (by omega), if_pos rfl, b88, orI_zero hy1, Int.sub_zero, ck_in ⟨by omega, by omega⟩]
        rw [if_neg q, if_pos g3, shc_in hy1 (by omega) (by omega)]
        by_cases qb : y1 / pw2 y4 % 2 = 0
        · have nb : ¬ rW D K y4 := fun z => (gW y4 (by omega) (by omega)).mpr z qb
          rw [if_pos qb]
          refine wp_bd (mo_isSuperfluous_wp hM2 w hy1 (d := y4) (by omega)) (fun r h3 hq => ?_)
          obtain ⟨er, f3⟩ := hq
          have f3' : ∀ c, c ≠ 141 → h3 c = h c := fun c n => by rw [f3 c n, f2 c n]
          rw [er, tb_congr (sup_congr gW)]
          by_cases c : sup D (rW D K) y4
          · have e5 : y4 = D 7 1 - 1 - K := g5.resolve_left (fun z => by
              rcases gc y4 z (by omega) (by omega) with y | y
              · exact nb y
              · exact y c)
            have el : lfN D (K + 1) = y2 - 1 := by
              have : lfN D (K + 1) = lfN D K - tb (sup D (rW D K) (D 7 1 - 1 - K)) := rfl
              rw [this, ← e5, tb_t c, g2]
            have gW' : ∀ e, 0 ≤ e → e < D 7 1 → (bt (orI y1 (pw2 y4)) e ↔ rW D (K + 1) e) := fun e a0 a1 => by
              rw [bt_or hy1 (by omega) a0, gW e a0 a1]
              constructor
              · rintro (z | z)
                · exact Or.inl z
                · exact Or.inr ⟨by rw [z, e5], by rw [z]; exact c⟩
              · rintro (z | z)
                · exact Or.inl z
                · exact Or.inr (by rw [z.1, e5])
            rw [tb_t c, if_neg (by decide)]
            unfold mo_needed_b62 mo_needed_b76
            rw [if_neg (show ¬ (1 : Int) = 0 by decide), shc_in (by omega) (by omega) (by omega), ck_in ⟨by omega, by omega⟩, orc_in hy1 (by omega), if_neg (show ¬ (1 : Int) = 0 by decide), b88, ck_in ⟨by omega, by omega⟩]
            exact hk2 _ _ _ _ _ ⟨f3', orI_b, by omega, K + 1, by omega, el.symm, gW', cln_s w hy1 orI_b gW gW' gc, Or.inr ⟨rfl, by omega⟩⟩ (by omega)
          · rw [tb_f c, if_pos rfl, b61]
            by_cases e5 : y4 = D 7 1 - 1 - K
            · have el : lfN D (K + 1) = y2 := by
                have : lfN D (K + 1) = lfN D K - tb (sup D (rW D K) (D 7 1 - 1 - K)) := rfl
                rw [this, ← e5, tb_f c, g2, Int.sub_zero]
              have gW' : ∀ e, 0 ≤ e → e < D 7 1 → (bt y1 e ↔ rW D (K + 1) e) := fun e a0 a1 => by
                rw [gW e a0 a1]
                exact ⟨Or.inl, fun z => z.elim id (fun z => absurd (by rw [e5, ← z.1]; exact z.2) c)⟩
              exact hk2 _ _ _ _ _ ⟨f3', hy1, by omega, K + 1, by omega, el.symm, gW', cln_s w hy1 hy1 gW gW' gc, Or.inl ⟨rfl, g4, by omega⟩⟩ (by omega)
            · exact hk2 _ _ _ _ _ ⟨f3', hy1, by omega, K, hK, g2, gW, gc, Or.inl ⟨rfl, g4, by omega⟩⟩ (by omega)
        · rw [if_neg qb, b61]
          have yb : rW D K y4 := (gW y4 (by omega) (by omega)).mp qb
          have := rW_b K yb
          exact hk2 _ _ _ _ _ ⟨f2, hy1, by omega, K, hK, g2, gW, gc, Or.inl ⟨rfl, g4, by omega⟩⟩ (by omega)
    · have out : wp (k12 y1 y2 y3 h2) (fun r h1 => r = aNeed D ∧ ∀ c, c ≠ 141 → h1 c = h c) := hk _ _ _ _ ⟨f2, hy1, Or.inr ⟨g3, K, hK, g2, gW, gc⟩⟩ (by omega)
      by_cases q : y4 < 0
      · rw [if_pos q]
        exact out
      · rw [if_neg q, if_neg (by omega)]
        exact out
theorem ask_needed : ASK (fun D _ _ => aNeed D) (fun h => dl_needed 0 h) (fun h => mo_needed 132 h) := ask_of (fun _ _ _ _ w hC _ _ hF => dl_needed_wp w hC.1 hF) (fun _ _ _ _ w _ hM _ _ => mo_needed_wp w hM.1)
end NEED

section LAWD
variable {D E : Dr} {h : Hp}
theorem eE_del {k : Int} {V : Int → Prop} (hk : 0 ≤ k ∧ k < E 7 1) : eE (dDel E k) V (-999) = eE E (fun e => e = k ∨ V (if e < k then e else e - 1)) (-999) := by
  funext u v x
  apply propext
  have lo : ∀ (r : Nat) (d : Int), r ≠ 0 → r ≠ 7 → d < k → dDel E k r d = E r d := fun r d a b c => by
    unfold dDel
    rw [if_neg b, if_neg a, if_pos c]
  have hi : ∀ (r : Nat) (d : Int), r ≠ 0 → r ≠ 7 → ¬ d < k → dDel E k r d = E r (d + 1) := fun r d a b c => by
    unfold dDel
    rw [if_neg b, if_neg a, if_neg c]
  have e7 : dDel E k 7 1 = E 7 1 - 1 := rfl
  have e0 : ∀ i, dDel E k 0 i = E 0 i := fun i => rfl
  constructor
  · rintro ⟨d, d1, d2, d3⟩
    rw [e7] at d1
    rw [if_neg (show ¬ d = -999 by omega), if_neg (show ¬ d = -999 by omega)] at d3
    unfold vD at d3
    rw [e0, e0] at d3
    by_cases c : d < k
    · rw [lo 1 d (by decide) (by decide) c, lo 2 d (by decide) (by decide) c, lo 3 d (by decide) (by decide) c, lo 4 d (by decide) (by decide) c] at d3
      refine ⟨d, by omega, ?_, ?_⟩
      · rintro (q | q)
        · omega
        · rw [if_pos c] at q
          exact d2 q
      · rw [if_neg (show ¬ d = -999 by omega), if_neg (show ¬ d = -999 by omega)]
        exact d3
    · rw [hi 1 d (by decide) (by decide) c, hi 2 d (by decide) (by decide) c, hi 3 d (by decide) (by decide) c, hi 4 d (by decide) (by decide) c] at d3
      refine ⟨d + 1, by omega, ?_, ?_⟩
      · rintro (q | q)
        · omega
        · rw [if_neg (show ¬ d + 1 < k by omega), show d + 1 - 1 = d by omega] at q
          exact d2 q
      · rw [if_neg (show ¬ d + 1 = -999 by omega), if_neg (show ¬ d + 1 = -999 by omega)]
        exact d3
  · rintro ⟨d, d1, d2, d3⟩
    rw [if_neg (show ¬ d = -999 by omega), if_neg (show ¬ d = -999 by omega)] at d3
    have n1 : d ≠ k := fun q => d2 (Or.inl q)
    by_cases c : d < k
    · refine ⟨d, by rw [e7]; omega, fun q => d2 (Or.inr (by rw [if_pos c]; exact q)), ?_⟩
      rw [if_neg (show ¬ d = -999 by omega), if_neg (show ¬ d = -999 by omega)]
      unfold vD
      rw [e0, e0, lo 1 d (by decide) (by decide) c, lo 2 d (by decide) (by decide) c, lo 3 d (by decide) (by decide) c, lo 4 d (by decide) (by decide) c]
      exact d3
    · have c2 : ¬ d - 1 < k := by omega
      refine ⟨d - 1, by rw [e7]; omega, fun q => d2 (Or.inr (by rw [if_neg c]; exact q)), ?_⟩
      rw [if_neg (show ¬ d - 1 = -999 by omega), if_neg (show ¬ d - 1 = -999 by omega)]
      unfold vD
      rw [e0, e0, hi 1 (d - 1) (by decide) (by decide) c2, hi 2 (d - 1) (by decide) (by decide) c2, hi 3 (d - 1) (by decide) (by decide) c2, hi 4 (d - 1) (by decide) (by decide) c2, show d - 1 + 1 = d by omega]
      exact d3
/-- a superfluous dimension taken away: the distances stay -/
theorem dd_del (w : WF E) {k a v : Int} (hk : 0 ≤ k ∧ k < E 7 1) (s : sup0 E k) (ha : 0 ≤ a ∧ a < 12) (hv : 0 ≤ v ∧ v < 12) : dd (dDel E k) a v = dd E a v := by
  have e1 : E0 (dDel E k) = eE E (fun e => False ∨ e = k) (-999) := by
    unfold E0
    rw [eE_del hk]
    exact eE_congr (fun e _ _ => ⟨fun q => q.elim Or.inr Or.inl, fun q => q.elim Or.inr Or.inl⟩)
  unfold dd
  rw [e1]
  have s' := sp_W (W := fun e => False ∨ e = k) w ha
  have s2 : SP (E0 E) a (dst (eE E (fun e => False ∨ e = k) (-999)) a) := by
    refine ⟨s'.1, fun v v0 v1 => ?_, fun u v x e hu => ?_⟩
    · rcases s'.2.1 v v0 v1 with q | ⟨q1, y, q2, q3⟩
      · exact Or.inl q
      · exact Or.inr ⟨q1, y, q2, Wk_sub (eE_sub (fun _ _ _ q => Or.inl q)) q3⟩
    · have eb := (eE_12 w) u v x e
      obtain ⟨-, y, q2, q3⟩ := (s'.2.1 u eb.1.1 eb.1.2).resolve_left hu
      obtain ⟨y2, q4, q5⟩ := Wk_rm (W := fun _ => False) w hk s (Wk.one e)
      have t := s'.low (q3.trans q5)
      exact ⟨t.1, by omega⟩
  exact s2.dst hv.1 hv.2
theorem sup_rw {W W' : Int → Prop} {d : Int} (hW : ∀ e, 0 ≤ e → e < D 7 1 → (W e ↔ W' e)) : sup D W d ↔ sup D W' d := by
  unfold sup
  rw [eE_congr (D := D) (W := fun e => W e ∨ e = d) (W' := fun e => W' e ∨ e = d) (fun e a b => by rw [hW e a b])]
/-- where nothing is superfluous nothing is taken away -/
theorem need_all (h : ∀ e, 0 ≤ e → e < D 7 1 → ¬ sup0 D e) : ∀ k : Nat, (k : Int) ≤ D 7 1 → (∀ e, ¬ rW D k e) ∧ lfN D k = D 7 1
  | 0, _ => ⟨fun e z => z, rfl⟩
  | k + 1, hk => by
    obtain ⟨i1, i2⟩ := need_all h k (by omega)
    have ns : ¬ sup D (rW D k) (D 7 1 - 1 - k) := fun z => h (D 7 1 - 1 - k) (by omega) (by omega) ((sup_rw (fun e _ _ => ⟨fun q => absurd q (i1 e), fun q => q.elim⟩)).mp z)
    refine ⟨fun e z => z.elim (i1 e) (fun z => ns (by rw [← z.1]; exact z.2)), ?_⟩
    show lfN D k - tb (sup D (rW D k) (D 7 1 - 1 - k)) = _
    rw [tb_f ns, i2]
    omega
theorem cSup_none (h : ∀ e, 0 ≤ e → e < D 7 1 → ¬ sup0 D e) : ∀ k : Nat, (k : Int) ≤ D 7 1 → cSup D k = 0
  | 0, _ => rfl
  | k + 1, hk => by
    have i := cSup_none h k (by omega)
    rw [cSup_s, i, tb_f (h k (by omega) (by omega))]
    rfl
/-- behind the j greatest numbers: E is what is left of D -/
def FI (D : Dr) (j : Nat) (E : Dr) : Prop := (j : Int) ≤ D 7 1 ∧ E 7 0 = D 7 0 ∧ (∀ i, E 0 i = D 0 i) ∧ (∀ r : Nat, r ≠ 0 → r ≠ 7 → ∀ e, e < D 7 1 - j → E r e = D r e) ∧ E 7 1 = lfN D j ∧ (∀ V : Int → Prop, (∀ e, V e → e < D 7 1 - j) → eE E V (-999) = eE D (fun e => rW D j e ∨ V e) (-999)) ∧ ∀ e, D 7 1 - j ≤ e → e < E 7 1 → ¬ sup0 E e
theorem FI.start (w : WF D) : FI D 0 D := by
  have w1 := w.2.1
  refine ⟨by omega, rfl, fun _ => rfl, fun _ _ _ _ _ => rfl, rfl, fun V hV => ?_, fun e a b => by omega⟩
  exact eE_congr (fun e _ _ => ⟨Or.inr, fun q => q.elim (fun z => absurd z (by exact id)) id⟩)
theorem fi_sup {j : Nat} (f : FI D j E) : sup0 E (D 7 1 - 1 - j) ↔ sup D (rW D j) (D 7 1 - 1 - j) := by
  obtain ⟨f1, f2, f3, f4, f5, f6, f7⟩ := f
  have e1 := f4 1 (by decide) (by decide) (D 7 1 - 1 - j) (by omega)
  have e2 := f4 2 (by decide) (by decide) (D 7 1 - 1 - j) (by omega)
  have e3 := f4 3 (by decide) (by decide) (D 7 1 - 1 - j) (by omega)
  have e4 := f4 4 (by decide) (by decide) (D 7 1 - 1 - j) (by omega)
  have ev : vD E (D 7 1 - 1 - j) = vD D (D 7 1 - 1 - j) := by
    unfold vD
    rw [f3, f3, e1, e2]
  have ee := f6 (fun e => False ∨ e = D 7 1 - 1 - j) (fun e q => by
    rcases q with q | q
    · exact q.elim
    · omega)
  rw [eE_congr (D := D) (W := fun e => rW D j e ∨ (False ∨ e = D 7 1 - 1 - j)) (W' := fun e => rW D j e ∨ e = D 7 1 - 1 - j) (fun e _ _ => ⟨fun q => q.imp id (fun q => q.elim (fun z => z.elim) id), fun q => q.imp id Or.inr⟩)] at ee
  unfold sup0 sup
  rw [ee, e1, e2, e3, e4, ev]
theorem FI.skip {j : Nat} (f : FI D j E) (hj : (j : Int) < D 7 1) (n : ¬ sup0 E (D 7 1 - 1 - j)) : FI D (j + 1) E := by
  have n2 : ¬ sup D (rW D j) (D 7 1 - 1 - j) := fun z => n ((fi_sup f).mpr z)
  obtain ⟨f1, f2, f3, f4, f5, f6, f7⟩ := f
  refine ⟨by omega, f2, f3, fun r a b e c => f4 r a b e (by omega), ?_, fun V hV => ?_, fun e a b => ?_⟩
  · rw [f5]
    show _ = lfN D j - tb (sup D (rW D j) (D 7 1 - 1 - j))
    rw [tb_f n2, Int.sub_zero]
  · rw [f6 V (fun e q => by have := hV e q; omega)]
    exact eE_congr (fun e _ _ => ⟨fun q => q.imp Or.inl id, fun q => q.imp (fun z => z.elim id (fun z => absurd (by rw [← z.1]; exact z.2) n2)) id⟩)
  · by_cases c : e = D 7 1 - 1 - j
    · rw [c]
      exact n
    · exact f7 e (by omega) b
theorem FI.drop (w : WF E) {j : Nat} (f : FI D j E) (hj : (j : Int) < D 7 1) (s : sup0 E (D 7 1 - 1 - j)) : FI D (j + 1) (dDel E (D 7 1 - 1 - j)) := by
  have s2 := (fi_sup f).mp s
  obtain ⟨f1, f2, f3, f4, f5, f6, f7⟩ := f
  have lb := lfN_b (D := D) j
  obtain ⟨k, ek⟩ : ∃ k, D 7 1 - 1 - (j : Int) = k := ⟨_, rfl⟩
  rw [ek] at s s2 ⊢
  have hk : 0 ≤ k ∧ k < E 7 1 := by omega
  have w1 := w.2.1
  refine ⟨by omega, f2, fun i => f3 i, fun r a b e c => ?_, ?_, fun V hV => ?_, fun e a b => ?_⟩
  · show dDel E k r e = D r e
    unfold dDel
    rw [if_neg b, if_neg a, if_pos (by omega)]
    exact f4 r a b e (by omega)
  · show E 7 1 - 1 = lfN D j - tb (sup D (rW D j) (D 7 1 - 1 - j))
    rw [ek, tb_t s2, f5]
  · rw [eE_del hk, eE_congr (D := E) (W := fun e => e = k ∨ V (if e < k then e else e - 1)) (W' := fun e => e = k ∨ V e) (fun e _ _ => by
      by_cases c : e < k
      · rw [if_pos c]
      · rw [if_neg c]
        exact ⟨fun q => q.elim Or.inl (fun z => by have := hV _ z; omega), fun q => q.elim Or.inl (fun z => by have := hV _ z; omega)⟩), f6 (fun e => e = k ∨ V e) (fun e q => q.elim (fun z => by omega) (fun z => by have := hV e z; omega))]
    refine eE_congr (fun e _ _ => ⟨?_, ?_⟩)
    · rintro (q | q | q)
      · exact Or.inl (Or.inl q)
      · exact Or.inl (Or.inr ⟨by omega, by rw [q]; exact s2⟩)
      · exact Or.inr q
    · rintro ((q | q) | q)
      · exact Or.inl q
      · exact Or.inr (Or.inl (by omega))
      · exact Or.inr (Or.inr q)
  · intro z
    have b' : e < E 7 1 - 1 := b
    have ne : ¬ e < k := by omega
    refine f7 (e + 1) (by omega) (by omega) ?_
    refine sup_mono w (W := fun _ => False) (W' := fun x => x = k) ⟨by omega, by omega⟩ (fun _ _ _ q => q.elim) ?_
    have row : ∀ r : Nat, r ≠ 0 → r ≠ 7 → dDel E k r e = E r (e + 1) := fun r a b => by
      unfold dDel
      rw [if_neg b, if_neg a, if_neg ne]
    have ev : vD (dDel E k) e = vD E (e + 1) := by
      unfold vD
      rw [row 1 (by decide) (by decide), row 2 (by decide) (by decide)]
      rfl
    have ee : eE (dDel E k) (fun x => False ∨ x = e) (-999) = eE E (fun x => x = k ∨ x = e + 1) (-999) := by
      rw [eE_del hk]
      refine eE_congr (fun x _ _ => ⟨fun q => q.imp id (fun q => ?_), fun q => q.imp id (fun q => Or.inr ?_)⟩)
      · rcases q with q | q
        · exact q.elim
        · split at q <;> omega
      · rw [if_neg (by omega)]
        omega
    unfold sup0 sup at z
    rw [ee, row 1 (by decide) (by decide), row 2 (by decide) (by decide), row 3 (by decide) (by decide), row 4 (by decide) (by decide), ev] at z
    exact z
theorem aDist_del (w : WF E) {k : Int} (hk : 0 ≤ k ∧ k < E 7 1) (s : sup0 E k) (b : Int) : aDist (dDel E k) 0 b 1 = aDist E 0 b 1 := by
  have w0 := w.1
  have en : dDel E k 7 0 = E 7 0 := rfl
  by_cases t : two E 0 b
  · have t' : two (dDel E k) 0 b := t
    rw [aDist1 t, aDist1 t', dd_del w hk s ⟨by omega, by omega⟩ ⟨t.2.1.1, by omega⟩]
  · have t' : ¬ two (dDel E k) 0 b := t
    unfold aDist
    rw [if_neg t, if_neg t']
theorem lw_end_wp (g : QS D h) {L : Nat} {xs : Nat → Int32} (hn : 1 ≤ D 7 0) : wp (lw_law_b165 0 L xs h) (fun r _ => r = 1) := by
  have w := g.wf
  have w0 := w.1
  have w1 := w.2.1
  obtain ⟨h1, e1, l1⟩ := q_need g
  obtain ⟨h2, e2, l2⟩ := q_m l1.1
  unfold lw_law_b165
  rw [bd_eq e1, bd_eq e2, ck_in ⟨by omega, by omega⟩]
  refine wp_it1 (fun x4 h' => ∃ j E, x4 = D 7 1 - 1 - (j : Nat) ∧ FI D j E ∧ QS E h') (fun x4 _ => (x4 + 1).toNat) (fun x4 h' hI k179 hk => ?_) fuel _ _ ⟨0, D, by omega, FI.start w, l2.1⟩ (by unfold fuel; omega)
  obtain ⟨j, E, rfl, f, gE⟩ := hI
  have wE := gE.wf
  have lb := lfN_b (D := D) j
  have f1 := f.1
  have f2 := f.2.1
  have f5 := f.2.2.2.2.1
  unfold lw_law_f179
  by_cases c : D 7 1 - 1 - (j : Int) < 0
  · rw [if_pos c]
    have ej : j = (D 7 1).toNat := by omega
    have none : ∀ e, 0 ≤ e → e < E 7 1 → ¬ sup0 E e := fun e a b => f.2.2.2.2.2.2 e (by omega) b
    obtain ⟨h3, e3, l3⟩ := q_m gE
    obtain ⟨h4, e4, l4⟩ := q_6 l3.1
    obtain ⟨h5, e5, l5⟩ := q_need l4.1
    have z1 : E 7 1 = aNeed D := by
      rw [f5, ej]
      rfl
    have z2 : cSup E (E 7 1).toNat = 0 := cSup_none none _ (by have := wE.2.1; omega)
    have z3 : aNeed E = aNeed D := by
      rw [← z1]
      exact (need_all none (E 7 1).toNat (by have := wE.2.1; omega)).2
    unfold lw_law_b289
    rw [bd_eq e3, if_pos z1, bd_eq e4, if_pos z2, bd_eq e5, if_pos z3]
    exact wp_ret rfl
  · rw [if_neg c]
    have hk' : 0 ≤ D 7 1 - 1 - (j : Int) ∧ D 7 1 - 1 - (j : Int) < E 7 1 := by omega
    obtain ⟨h3, e3, l3⟩ := q_d11 gE hk'
    obtain ⟨h4, e4, l4⟩ := q_n l3.1
    obtain ⟨h5, e5, l5⟩ := q_dist l4.1 0 (E 7 0 - 1) 1
    have l35 := (l3.trans l4).trans l5
    rw [bd_eq e3]
    unfold lw_law_b201 lw_law_b252
    simp only [ck_in (show inR (D 7 1 - 1 - (j : Int) + (-1)) from ⟨by omega, by omega⟩)]
    by_cases s : sup0 E (D 7 1 - 1 - (j : Int))
    · rw [tb_t s, if_pos rfl, bd_eq e4, ck_in ⟨by omega, by omega⟩, bd_eq e5, if_neg (by decide)]
      obtain ⟨⟨K, B, hO, hC⟩, hF⟩ := id l35.1
      obtain ⟨h6, e6, g6, -⟩ := QS.chg hO ((dl_drop_eq hC hO (D 7 1 - 1 - (j : Int))).2 hk') (wE.del hk'.1 hk'.2)
      obtain ⟨h7, e7, l7⟩ := q_n g6
      obtain ⟨h8, e8, l8⟩ := q_dist l7.1 0 (E 7 0 - 1) 1
      have en : dDel E (D 7 1 - 1 - (j : Int)) 7 0 = E 7 0 := rfl
      rw [en] at e7
      rw [bd_eq e6, if_neg (by omega), bd_eq e7, ck_in ⟨by omega, by omega⟩, bd_eq e8, if_pos (aDist_del wE hk' s _)]
      exact hk _ _ ⟨j + 1, _, by omega, f.drop wE (by omega) s, l8.1⟩ (by omega)
    · rw [tb_f s, if_neg (by decide), bd_eq e4, ck_in ⟨by omega, by omega⟩, bd_eq e5, if_pos True.intro]
      exact hk _ _ ⟨j + 1, E, by omega, f.skip (by omega) s, l35.1⟩ (by omega)
end LAWD

section ARROW
variable {D D' : Dr} {h : Hp} {a : Int}
/-- alike but for the arrow -/
def alk (D D' : Dr) : Prop := (∀ r, r ≠ 7 → D' r = D r) ∧ D' 7 0 = D 7 0 ∧ D' 7 1 = D 7 1 ∧ D' 7 2 = D 7 2
theorem alk_ld (e : alk D D') {d : Int} : ld D' d = ld D d := by
  unfold ld
  rw [e.1 5 (by decide)]
theorem alk_uf (e : alk D D') {op : Int → Int → Int} {v : Int → Int} {u : Int} : ∀ k, uf D' op v u k = uf D op v u k
  | 0 => rfl
  | k + 1 => by
    unfold uf
    rw [alk_ld e, alk_uf e k]
theorem alk_S (e : alk D D') : uS D' = uS D ∧ uT D' = uT D ∧ uL D' = uL D := by
  have v0' : v0 D' = v0 D := funext fun d => by unfold v0; rw [e.1 0 (by decide), e.1 1 (by decide)]
  have v1' : v1 D' = v1 D := funext fun d => by unfold v1; rw [e.1 0 (by decide), e.1 2 (by decide)]
  refine ⟨funext fun u => ?_, funext fun u => ?_, funext fun u => ?_⟩
  · unfold uS
    rw [alk_uf e, v0', e.2.2.1]
  · unfold uT
    rw [alk_uf e, v1', e.2.2.1]
  · unfold uL
    rw [alk_uf e, e.1 6 (by decide), e.2.2.1]
theorem alk_vD (e : alk D D') {d : Int} : vD D' d = vD D d := by
  unfold vD
  rw [e.1 0 (by decide), e.1 1 (by decide), e.1 2 (by decide)]
theorem alk_wD (e : alk D D') {d : Int} : wD D' d = wD D d := by
  unfold wD
  rw [alk_vD e, e.2.2.2]
theorem alk_fD (e : alk D D') {d : Int} : fD D' a d = fD D a d := by
  unfold fD
  rw [alk_vD e, alk_wD e]
theorem alk_bD (e : alk D D') {d : Int} : bD D' a d = bD D a d := by
  unfold bD
  rw [alk_fD e, e.1 0 (by decide), e.1 1 (by decide)]
theorem alk_eD (e : alk D D') {d : Int} : eD D' a d = eD D a d := by
  unfold eD
  rw [alk_fD e, alk_wD e, e.1 0 (by decide), e.1 2 (by decide)]
theorem alk_nu (e : alk D D') {pl S T : Int → Int} : ∀ k, nu D' pl S T k = nu D pl S T k
  | 0 => rfl
  | k + 1 => by
    unfold nu
    rw [alk_ld e, alk_nu e k]
theorem alk_lbr (e : alk D D') {p l : Int → Int} {u : Int} : ∀ k, lbr D' p l u k = lbr D p l u k
  | 0 => by
    unfold lbr
    rw [(alk_S e).2.2]
  | k + 1 => by
    unfold lbr
    rw [alk_ld e, alk_lbr e k, (alk_S e).1, (alk_S e).2.1]
theorem alk_tk (e : alk D D') {p l : Int → Int} {u : Int} : tk D' a p l u = tk D a p l u := funext fun x => by
  unfold tk
  simp only [alk_ld e, alk_bD e, alk_eD e, e.2.2.1]
theorem alk_aS (e : alk D D') : ∀ i, aS D' a i = aS D a i
  | 0 => rfl
  | i + 1 => by
    unfold aS
    rw [alk_aS e i, alk_nu e, (alk_S e).1, (alk_S e).2.1, e.2.2.1, alk_tk e, alk_lbr e]
theorem alk_uc (e : alk D D') : ∀ k, uc D' k = uc D k
  | 0 => rfl
  | k + 1 => by
    unfold uc
    rw [alk_ld e, alk_uc e k]
theorem alk_lnD (e : alk D D') {d : Int} : lnD D' a d = lnD D a d := by
  unfold lnD aL
  rw [alk_aS e, alk_uc e, alk_ld e, e.2.2.1]
theorem dSet_alk {v : Int} : alk D (dSet D 7 3 v) := by
  refine ⟨fun r n => funext fun i => ?_, ?_, ?_, ?_⟩
  · unfold dSet
    rw [if_neg (fun z => n z.1)]
  · unfold dSet
    rw [if_neg (by decide)]
  · unfold dSet
    rw [if_neg (by decide)]
  · unfold dSet
    rw [if_neg (by decide)]
noncomputable def aArrow (D : Dr) (a : Int) : Int := if 1 ≤ a ∧ a ≤ 9 then mlN D a (D 7 1).toNat else -1
theorem dl_ifArrow_wp (w : WF D) (hA : AtC D h 1) (hF : FR D h) : wp (dl_ifArrow 0 a h) (fun r h1 => r = aArrow D a ∧ CFr h h1 ∧ FR D h1) := by
  unfold aArrow
  simp only [dl_ifArrow, Nat.reduceAdd]
  rw [bd_eq (dl_isWithin_eq a 1 9)]
  by_cases q : 1 ≤ a ∧ a ≤ 9
  · rw [yn_t q, if_neg (by decide), if_pos q]
    refine wp_bd (la_layOut_wp (th := 98) hA w (by omega) q) (fun _ h2 hq => ?_)
    obtain ⟨l, f⟩ := hq
    refine wp_ret ⟨l.1.2.1.trans (lcn_end w), fun c c0 c1 => f c (by omega), ?_⟩
    unfold FR
    rw [f 0 (by decide)]
    exact ⟨hF.1.imp id (fun z => ⟨z.1, z.2.keep (fun c c0 c1 => f c (by omega))⟩), hF.2.imp id (fun z => ⟨z.1, z.2.1, z.2.2.keep z.2.1 (fun c c0 c1 _ _ => f c (by omega))⟩)⟩
  · rw [yn_f q, if_pos rfl, if_neg q]
    exact wp_ret ⟨rfl, CFr.rfl h, hF⟩
theorem mo_ifArrow_wp (w : WF D) (hM : AtM D h 0) : wp (mo_ifArrow 132 a h) (fun r h1 => r = aArrow D a ∧ RFr h h1) := by
  have w0 := w.1
  have w1 := w.2.1
  have ub := uc_b (D := dSet D 7 3 a) (dSet D 7 3 a 7 1).toNat
  unfold aArrow
  simp only [mo_ifArrow, Nat.reduceAdd]
  rw [bd_eq (mo_in_eq a 1 9)]
  by_cases q : 1 ≤ a ∧ a ≤ 9
  · rw [yn_t q, if_neg (by decide), if_pos q, ix_in (by omega) (by omega), ix_in (by omega) (by omega), lt_eq]
    have e := dSet_alk (D := D) (v := a)
    have e3 : dSet D 7 3 a 7 3 = a := by
      unfold dSet
      rw [if_pos ⟨rfl, rfl⟩]
    have w' : WF (dSet D 7 3 a) := w.setS (Or.inr rfl) q
    have hM' : AtM (dSet D 7 3 a) (hu h 133 111 a) 0 := by
      refine ⟨⟨?_, ?_, ?_, ?_⟩, fun i i0 i1 => ?_, fun d d0 d1 => ?_⟩
      · rw [e.2.1, hu_j _ (by decide)]
        exact hM.1.1
      · rw [e.2.2.1, hu_j _ (by decide)]
        exact hM.1.2.1
      · rw [e.2.2.2, hu_j _ (by decide)]
        exact hM.1.2.2.1
      · rw [e3]
        exact hu_s.symm
      · rw [e.2.1] at i1
        rw [e.1 0 (by decide), hu_j _ (by omega)]
        exact hM.2.1 i i0 i1
      · rw [e.2.2.1] at d1
        rw [e.1 1 (by decide), e.1 2 (by decide), e.1 3 (by decide), e.1 4 (by decide), e.1 5 (by decide), e.1 6 (by decide), hu_j _ (by omega), hu_j _ (by omega), hu_j _ (by omega), hu_j _ (by omega), hu_j _ (by omega), hu_j _ (by omega)]
        exact hM.2.2 d d0 d1
    rw [bd_eq (mo_laysLanes_eq hM' w'), ix_in (by omega) (by omega), lt_eq]
    generalize hg : hu (HM (dSet D 7 3 a) (hu h 133 111 a) (uc (dSet D 7 3 a) (dSet D 7 3 a 7 1).toNat).toNat) 133 111 (h 133 111) = g
    have g133 : g 133 = h 133 := by
      rw [← hg]
      funext j
      by_cases c : j = 111
      · rw [c, hu_s]
      · rw [hu_j _ c, HM_o (by omega), hu_j _ c]
    have gc : ∀ c, c ≠ 133 → (c < 135 ∨ 140 < c) → g c = h c := fun c n z => by
      rw [← hg]
      funext j
      rw [hu_o n, HM_o z, hu_o n]
    have gl : ∀ d, 0 ≤ d → d < D 7 1 → mo_laneOf 132 d g = some (lnD D a d, g) := fun d d0 d1 => by
      rw [mo_laneOf_eq hM' w' (fun c c0 c1 => by
        rw [← hg]
        exact funext fun j => hu_o (by omega) j) d0 (by rw [e.2.2.1]; exact d1), e3, alk_lnD e]
    rw [bd_eq (mo_lanes_eq w (hM.any g133) gl)]
    refine wp_ret ⟨rfl, fun c c0 => ?_, g133, gc 134 (by decide) (by decide), by rw [gc 132 (by decide) (by decide)], by rw [gc 132 (by decide) (by decide)], by rw [gc 132 (by decide) (by decide)], by rw [gc 132 (by decide) (by decide)]⟩
    exact gc c (by omega) (by omega)
  · rw [yn_f q, if_pos rfl, if_neg q]
    exact wp_ret ⟨rfl, RFr.rfl h⟩
theorem ask_ifArrow : ASK (fun D _ _ => aArrow D a) (fun h => dl_ifArrow 0 a h) (fun h => mo_ifArrow 132 a h) := ask_of (fun _ _ _ _ w hC _ _ hF => dl_ifArrow_wp w hC.1 hF) (fun _ _ _ _ w _ hM _ _ => mo_ifArrow_wp w hM.1)
end ARROW

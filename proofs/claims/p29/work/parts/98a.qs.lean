section QS29
variable {D : Dr} {h : Hp}
/-- the class holds the drawing D, and what it keeps of what was worked out is good -/
def QS (D : Dr) (h : Hp) : Prop := (∃ K B, OKS D K B ∧ CS D K B h) ∧ FR D h
/-- what a question leaves -/
def QL (D : Dr) (h h1 : Hp) : Prop := QS D h1 ∧ ∀ c, 132 ≤ c → h1 c = h c
theorem QS.wf (g : QS D h) : WF D := by
  obtain ⟨⟨K, B, hO, -⟩, -⟩ := g
  exact hO.1
theorem QS.atc (g : QS D h) : AtC D h 1 := by
  obtain ⟨⟨K, B, -, hC⟩, -⟩ := g
  exact hC.1
theorem QS.q {h1 : Hp} (g : QS D h) (c : CFr h h1) (f : FR D h1) : QL D h h1 := by
  obtain ⟨⟨K, B, hO, hC⟩, -⟩ := g
  exact ⟨⟨⟨K, B, hO, hC.keep (fun c' a b => c c' (by omega) (by omega))⟩, f⟩, fun c' a => c c' (by omega) (by omega)⟩
theorem QS.keep {h1 : Hp} (g : QS D h) (e : ∀ c, c < 132 → h1 c = h c) : QS D h1 := by
  obtain ⟨⟨K, B, hO, hC⟩, f⟩ := g
  exact ⟨⟨K, B, hO, hC.keep (fun c' a b => e c' (by omega))⟩, FR_k.2 D h h1 (fun c' a => e c' (by omega)) f⟩
theorem QS.hu (g : QS D h) {q : Nat} (hq : 132 ≤ q) (j v : Int) : QS D (hu h q j v) := g.keep (fun c a => funext fun x => hu_o (by omega) x)
theorem QS.hz (g : QS D h) {q : Nat} (hq : 132 ≤ q) : QS D (hz h q) := g.keep (fun c a => hz_o (by omega))
theorem QL.rfl (g : QS D h) : QL D h h := ⟨g, fun _ _ => Eq.refl _⟩
theorem QL.trans {h1 h2 : Hp} (a : QL D h h1) (b : QL D h1 h2) : QL D h h2 := ⟨b.1, fun c z => (b.2 c z).trans (a.2 c z)⟩
theorem exq {o : O Int} {v : Int} (w : wp o (fun r h1 => r = v ∧ QL D h h1)) : ∃ h1, o = some (v, h1) ∧ QL D h h1 := by
  obtain ⟨r, h1, e, rfl, q⟩ := w
  exact ⟨h1, e, q⟩
theorem q_dim (g : QS D h) (d x : Int) : ∃ h1, dl_dimension 0 d x h = some (aDim D d x, h1) ∧ QL D h h1 := exq (wp_mono (dl_dimension_wp g.wf g.atc g.2) (fun r h1 z => ⟨z.1, g.q z.2.1 z.2.2⟩))
theorem q_point (g : QS D h) (p x : Int) : ∃ h1, dl_point 0 p x h = some (aPoint D p x, h1) ∧ QL D h h1 := exq (wp_mono (dl_point_wp g.wf g.atc g.2) (fun r h1 z => ⟨z.1, g.q z.2.1 z.2.2⟩))
theorem q_dist (g : QS D h) (a b x : Int) : ∃ h1, dl_distance 0 a b x h = some (aDist D a b x, h1) ∧ QL D h h1 := exq (wp_mono (dl_distance_wp g.wf g.atc g.2) (fun r h1 z => ⟨z.1, g.q z.2.1 z.2.2⟩))
theorem q_if (g : QS D h) (d a b : Int) : ∃ h1, dl_ifExact 0 d a b h = some (aIf D d a b, h1) ∧ QL D h h1 := exq (wp_mono (dl_ifExact_wp g.wf g.atc g.2) (fun r h1 z => ⟨z.1, g.q z.2.1 z.2.2⟩))
theorem q_crit (g : QS D h) (a b : Int) : ∃ h1, dl_critical 0 a b h = some (aCrit D a b, h1) ∧ QL D h h1 := exq (wp_mono (dl_critical_wp g.wf g.atc g.2) (fun r h1 z => ⟨z.1, g.q z.2.1 z.2.2⟩))
theorem q_need (g : QS D h) : ∃ h1, dl_needed 0 h = some (aNeed D, h1) ∧ QL D h h1 := exq (wp_mono (dl_needed_wp g.wf g.atc g.2) (fun r h1 z => ⟨z.1, g.q z.2.1 z.2.2⟩))
theorem q_count (g : QS D h) {x : Int} (hx : x ≤ 8) : ∃ h1, dl_count 0 x h = some (aCount D 0 0 x, h1) ∧ QL D h h1 := by
  obtain ⟨⟨K, B, hO, hC⟩, hF⟩ := id g
  refine exq (wp_mono (dl_count_wp hO.1 hC.1 hC.2 hF) (fun r h1 z => ⟨?_, g.q z.2.1 z.2.2⟩))
  rw [z.1]
  unfold aCount
  rw [if_neg (show ¬ x = 9 by omega), if_neg (show ¬ x = 10 by omega), if_neg (show ¬ x = 9 by omega), if_neg (show ¬ x = 10 by omega)]
theorem q_n (g : QS D h) : ∃ h1, dl_count 0 0 h = some (D 7 0, h1) ∧ QL D h h1 := q_count g (by decide)
theorem q_m (g : QS D h) : ∃ h1, dl_count 0 1 h = some (D 7 1, h1) ∧ QL D h h1 := q_count g (by decide)
/-- a change -/
theorem QS.chg {K : Int} {B : Int → Dr} (hO : OKS D K B) {o : O Int} {r : Int} {D' : Dr} (hc : CChg D K B h o r D') (hw : WF D') : ∃ h1, o = some (r, h1) ∧ QS D' h1 ∧ ∀ c, 132 ≤ c → h1 c = h c := by
  obtain ⟨h', e, c1, c2, c3, c4⟩ := hc
  exact ⟨h', e, ⟨⟨_, _, hO.push hw, c1⟩, FR_k.1 D' h' c2 c3⟩, fun c a => c4 c (by omega)⟩
theorem aD (d x : Int) (hd : 0 ≤ d ∧ d < D 7 1) (hx : 0 ≤ x ∧ x ≤ 6) : aDim D d x = dimS D d x := by
  unfold aDim
  rw [if_pos hd, if_pos hx]
theorem aD7 {d : Int} (hd : 0 ≤ d ∧ d < D 7 1) : aDim D d 7 = fD D (D 7 3) d := by
  unfold aDim
  rw [if_pos hd, if_neg (by decide), if_pos rfl]
theorem aD8 {d : Int} (hd : 0 ≤ d ∧ d < D 7 1) : aDim D d 8 = bD D (D 7 3) d := by
  unfold aDim
  rw [if_pos hd, if_neg (by decide), if_neg (by decide), if_pos rfl]
theorem aD9 {d : Int} (hd : 0 ≤ d ∧ d < D 7 1) : aDim D d 9 = eD D (D 7 3) d := by
  unfold aDim
  rw [if_pos hd, if_neg (by decide), if_neg (by decide), if_neg (by decide), if_pos rfl]
theorem aD10 {d : Int} (hd : 0 ≤ d ∧ d < D 7 1) : aDim D d 10 = lnD D (D 7 3) d := by
  unfold aDim
  rw [if_pos hd, if_neg (by decide), if_neg (by decide), if_neg (by decide), if_neg (by decide), if_pos rfl]
theorem aD11 {d : Int} (hd : 0 ≤ d ∧ d < D 7 1) : aDim D d 11 = tb (sup0 D d) := by
  unfold aDim
  rw [if_pos hd, if_neg (by decide), if_neg (by decide), if_neg (by decide), if_neg (by decide), if_neg (by decide), if_pos rfl]
theorem aD12 {d : Int} (hd : 0 ≤ d ∧ d < D 7 1) : aDim D d 12 = cDn D (D 7 3) d (D 7 0).toNat := by
  unfold aDim
  rw [if_pos hd, if_neg (by decide), if_neg (by decide), if_neg (by decide), if_neg (by decide), if_neg (by decide), if_neg (by decide), if_pos rfl]
/-- a dimension's simple answers, each by its name -/
theorem q_d0 (g : QS D h) {d : Int} (hd : 0 ≤ d ∧ d < D 7 1) : ∃ h1, dl_dimension 0 d 0 h = some (D 1 d, h1) ∧ QL D h h1 := by
  have := q_dim g d 0
  rw [aD d 0 hd (by decide)] at this
  exact this
theorem q_d1 (g : QS D h) {d : Int} (hd : 0 ≤ d ∧ d < D 7 1) : ∃ h1, dl_dimension 0 d 1 h = some (D 2 d, h1) ∧ QL D h h1 := by
  have := q_dim g d 1
  rw [aD d 1 hd (by decide)] at this
  exact this
theorem q_d2 (g : QS D h) {d : Int} (hd : 0 ≤ d ∧ d < D 7 1) : ∃ h1, dl_dimension 0 d 2 h = some (vD D d, h1) ∧ QL D h h1 := by
  have := q_dim g d 2
  rw [aD d 2 hd (by decide)] at this
  exact this
theorem q_d3 (g : QS D h) {d : Int} (hd : 0 ≤ d ∧ d < D 7 1) : ∃ h1, dl_dimension 0 d 3 h = some (D 3 d, h1) ∧ QL D h h1 := by
  have := q_dim g d 3
  rw [aD d 3 hd (by decide)] at this
  exact this
theorem q_d4 (g : QS D h) {d : Int} (hd : 0 ≤ d ∧ d < D 7 1) : ∃ h1, dl_dimension 0 d 4 h = some (D 4 d, h1) ∧ QL D h h1 := by
  have := q_dim g d 4
  rw [aD d 4 hd (by decide)] at this
  exact this
theorem q_d5 (g : QS D h) {d : Int} (hd : 0 ≤ d ∧ d < D 7 1) : ∃ h1, dl_dimension 0 d 5 h = some (D 5 d, h1) ∧ QL D h h1 := by
  have := q_dim g d 5
  rw [aD d 5 hd (by decide)] at this
  exact this
theorem q_d6 (g : QS D h) {d : Int} (hd : 0 ≤ d ∧ d < D 7 1) : ∃ h1, dl_dimension 0 d 6 h = some (D 6 d, h1) ∧ QL D h h1 := by
  have := q_dim g d 6
  rw [aD d 6 hd (by decide)] at this
  exact this
theorem q_d7 (g : QS D h) {d : Int} (hd : 0 ≤ d ∧ d < D 7 1) : ∃ h1, dl_dimension 0 d 7 h = some (fD D (D 7 3) d, h1) ∧ QL D h h1 := aD7 hd ▸ q_dim g d 7
theorem q_d8 (g : QS D h) {d : Int} (hd : 0 ≤ d ∧ d < D 7 1) : ∃ h1, dl_dimension 0 d 8 h = some (bD D (D 7 3) d, h1) ∧ QL D h h1 := aD8 hd ▸ q_dim g d 8
theorem q_d9 (g : QS D h) {d : Int} (hd : 0 ≤ d ∧ d < D 7 1) : ∃ h1, dl_dimension 0 d 9 h = some (eD D (D 7 3) d, h1) ∧ QL D h h1 := aD9 hd ▸ q_dim g d 9
theorem q_d10 (g : QS D h) {d : Int} (hd : 0 ≤ d ∧ d < D 7 1) : ∃ h1, dl_dimension 0 d 10 h = some (lnD D (D 7 3) d, h1) ∧ QL D h h1 := aD10 hd ▸ q_dim g d 10
theorem q_d11 (g : QS D h) {d : Int} (hd : 0 ≤ d ∧ d < D 7 1) : ∃ h1, dl_dimension 0 d 11 h = some (tb (sup0 D d), h1) ∧ QL D h h1 := aD11 hd ▸ q_dim g d 11
theorem q_d12 (g : QS D h) {d : Int} (hd : 0 ≤ d ∧ d < D 7 1) : ∃ h1, dl_dimension 0 d 12 h = some (cDn D (D 7 3) d (D 7 0).toNat, h1) ∧ QL D h h1 := aD12 hd ▸ q_dim g d 12
theorem q_p0 (g : QS D h) {p : Int} (hp : 0 ≤ p ∧ p < D 7 0) : ∃ h1, dl_point 0 p 0 h = some (D 0 p, h1) ∧ QL D h h1 := by
  have := q_point g p 0
  unfold aPoint at this
  rw [if_pos hp, if_pos rfl] at this
  exact this
theorem q_p1 (g : QS D h) {p : Int} (hp : 0 ≤ p ∧ p < D 7 0) : ∃ h1, dl_point 0 p 1 h = some (cntE (D 1) (D 2) p (D 7 1).toNat, h1) ∧ QL D h h1 := by
  have := q_point g p 1
  unfold aPoint at this
  rw [if_pos hp, if_neg (by decide), if_pos rfl] at this
  exact this
theorem q_p2 (g : QS D h) {p : Int} (hp : 0 ≤ p ∧ p < D 7 0) : ∃ h1, dl_point 0 p 2 h = some (wtA D p, h1) ∧ QL D h h1 := by
  have := q_point g p 2
  unfold aPoint at this
  rw [if_pos hp, if_neg (by decide), if_neg (by decide), if_pos rfl] at this
  exact this
theorem q_p3 (g : QS D h) {p : Int} (hp : 0 ≤ p ∧ p < D 7 0) : ∃ h1, dl_point 0 p 3 h = some (cPn D (D 7 3) p (D 7 1).toNat, h1) ∧ QL D h h1 := by
  have := q_point g p 3
  unfold aPoint at this
  rw [if_pos hp, if_neg (by decide), if_neg (by decide), if_neg (by decide), if_pos rfl] at this
  exact this
theorem q_p4 (g : QS D h) {p : Int} (hp : 0 ≤ p ∧ p < D 7 0) : ∃ h1, dl_point 0 p 4 h = some (grp D p, h1) ∧ QL D h h1 := by
  have := q_point g p 4
  unfold aPoint at this
  rw [if_pos hp, if_neg (by decide), if_neg (by decide), if_neg (by decide), if_neg (by decide), if_pos rfl] at this
  exact this
/-- the law's small methods -/
theorem lw_low_eq {v n : Int} (hn : 0 < n) : lw_low v n h = some (v % 2147483648 % n, h) := by
  unfold lw_low
  rw [dv_in (by omega) hn]
theorem low_b {v n : Int} (hn : 0 < n) : 0 ≤ v % 2147483648 % n ∧ v % 2147483648 % n < n := ⟨Int.emod_nonneg _ (by omega), Int.emod_lt_of_pos _ hn⟩
theorem lw_cell_eq {L : Nat} {xs : Nat → Int32} {k : Int} (hk : 0 ≤ k) : ∃ v, lw_cell L xs k h = some (v, h) ∧ inR v := by
  unfold lw_cell
  simp only [lw_cell_b19]
  by_cases c : k < (L : Int)
  · rw [if_pos c, ix_in hk c]
    exact ⟨_, rfl, ⟨(xs k.toNat).minValue_le_toInt, (xs k.toNat).toInt_le⟩⟩
  · rw [if_neg c]
    exact ⟨_, rfl, wr_inR _⟩
theorem lp_0 (g : QS D h) {d : Int} (hd : 0 ≤ d ∧ d < D 7 1) : ∃ h1, lw_position 0 d 0 h = some (v0 D d, h1) ∧ QL D h h1 := by
  have dw := (g.wf.dim hd.1 hd.2).1
  obtain ⟨h1, e1, l1⟩ := q_d0 g hd
  obtain ⟨h2, e2, l2⟩ := q_p0 l1.1 (p := D 1 d) (by omega)
  refine ⟨h2, ?_, l1.trans l2⟩
  unfold lw_position
  rw [bd_eq e1, bd_eq e2]
  rfl
theorem lp_1 (g : QS D h) {d : Int} (hd : 0 ≤ d ∧ d < D 7 1) : ∃ h1, lw_position 0 d 1 h = some (v1 D d, h1) ∧ QL D h h1 := by
  have dw := (g.wf.dim hd.1 hd.2).1
  obtain ⟨h1, e1, l1⟩ := q_d1 g hd
  obtain ⟨h2, e2, l2⟩ := q_p0 l1.1 (p := D 2 d) (by omega)
  refine ⟨h2, ?_, l1.trans l2⟩
  unfold lw_position
  rw [bd_eq e1, bd_eq e2]
  rfl
end QS29

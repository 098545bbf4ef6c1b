section ASK
/-- what stands of what was worked out -/
def FR (D : Dr) (h : Hp) : Prop := (h 0 6 = 0 ∨ (h 0 6 = 1 ∧ LANES D (D 7 3) 85 h)) ∧ (h 0 7 = 0 ∨ (h 0 7 = 1 ∧ WF D ∧ BNDS D h))
theorem FR_k : FRK FR := by
  refine ⟨fun D h a b => ⟨Or.inl a, Or.inl b⟩, fun D h h' e f => ?_⟩
  unfold FR at *
  rw [e 0 (Or.inl rfl)]
  refine ⟨f.1.imp id (fun z => ⟨z.1, z.2.keep (fun c c0 c1 => e c (by omega))⟩), f.2.imp id (fun z => ⟨z.1, z.2.1, z.2.2.keep z.2.1 (fun c c0 c1 _ _ => e c (by omega))⟩)⟩
/-- what the class's questions leave, and what the reference's leave -/
def CFr (h h' : Hp) : Prop := ∀ c, c ≠ 0 → (c < 85 ∨ 131 < c) → h' c = h c
def RFr (h h' : Hp) : Prop := (∀ c, c < 132 → h' c = h c) ∧ h' 133 = h 133 ∧ h' 134 = h 134 ∧ h' 132 1 = h 132 1 ∧ h' 132 3 = h 132 3 ∧ h' 132 4 = h 132 4 ∧ h' 132 15 = h 132 15
theorem CFr.rfl (h : Hp) : CFr h h := fun _ _ _ => Eq.refl _
theorem RFr.rfl (h : Hp) : RFr h h := ⟨fun _ _ => Eq.refl _, Eq.refl _, Eq.refl _, Eq.refl _, Eq.refl _, Eq.refl _, Eq.refl _⟩
theorem CFr.trans {h1 h2 h3 : Hp} (a : CFr h1 h2) (b : CFr h2 h3) : CFr h1 h3 := fun c c0 c1 => (b c c0 c1).trans (a c c0 c1)
theorem RFr.trans {h1 h2 h3 : Hp} (a : RFr h1 h2) (b : RFr h2 h3) : RFr h1 h3 := ⟨fun c c0 => (b.1 c c0).trans (a.1 c c0), b.2.1.trans a.2.1, b.2.2.1.trans a.2.2.1, b.2.2.2.1.trans a.2.2.2.1, b.2.2.2.2.1.trans a.2.2.2.2.1, b.2.2.2.2.2.1.trans a.2.2.2.2.2.1, b.2.2.2.2.2.2.trans a.2.2.2.2.2.2⟩
theorem RFr.of {h h' : Hp} (e : ∀ c, (c < 135 ∨ 141 < c) → h' c = h c) : RFr h h' := ⟨fun c c0 => e c (by omega), e 133 (by decide), e 134 (by decide), by rw [e 132 (by decide)], by rw [e 132 (by decide)], by rw [e 132 (by decide)], by rw [e 132 (by decide)]⟩
theorem CFr.qf {h h' : Hp} (a : CFr h h') : QF h h' := ⟨fun c c0 c1 => a c (by omega) (by omega), a 133 (by decide) (by decide), a 134 (by decide) (by decide), by rw [a 132 (by decide) (by decide)], by rw [a 132 (by decide) (by decide)], by rw [a 132 (by decide) (by decide)]⟩
theorem RFr.qf {h h' : Hp} (a : RFr h h') : QF h h' := ⟨fun c _ c1 => a.1 c (by omega), a.2.1, a.2.2.1, a.2.2.2.1, a.2.2.2.2.1, a.2.2.2.2.2.1⟩
theorem RFr.fr {D : Dr} {h h' : Hp} (a : RFr h h') (f : FR D h) : FR D h' := FR_k.2 D h h' (fun c c0 => a.1 c (by omega)) f
/-- a question's answer, of both -/
def ASK (A : Dr → Int → Int → Int) (c m : Hp → O Int) : Prop := ∀ h D K B, OKS D K B → CS D K B h → SM D K B h → TX h → FR D h → (∃ h1, c h = some (A D K (h 75 2), h1) ∧ QF h h1 ∧ FR D h1) ∧ ∃ h2, m h = some (A D K (h 75 2), h2) ∧ QF h h2 ∧ FR D h2 ∧ h2 132 15 = h 132 15
theorem ASK.step {A : Dr → Int → Int → Int} {c m : Hp → O Int} (H : ASK A c m) : STEP FR c m := step_ask (fun h D K B _ hO hC hM hT hF => by
  obtain ⟨⟨h1, e1, q1, f1⟩, -⟩ := H h D K B hO hC hM hT hF
  obtain ⟨-, h2, e2, q2, f2, -⟩ := H h1 D K B hO (q1.cs hC) (q1.sm hM) (q1.tx hT) f1
  rw [q1.1 75 (by decide) (by decide)] at e2
  exact ⟨_, h1, h2, e1, e2, q1.trans q2, f2⟩)
/-- from what each does -/
theorem ask_of {A : Dr → Int → Int → Int} {c m : Hp → O Int} (Hc : ∀ h D K B, WF D → CS D K B h → SM D K B h → TX h → FR D h → wp (c h) (fun r h1 => r = A D K (h 75 2) ∧ CFr h h1 ∧ FR D h1)) (Hm : ∀ h D K B, WF D → CS D K B h → SM D K B h → TX h → FR D h → wp (m h) (fun r h2 => r = A D K (h 75 2) ∧ RFr h h2)) : ASK A c m := fun h D K B hO hC hM hT hF => by
  obtain ⟨r, h1, e1, e2, e3, e4⟩ := Hc h D K B hO.1 hC hM hT hF
  obtain ⟨r', h2, g1, g2, g3⟩ := Hm h D K B hO.1 hC hM hT hF
  exact ⟨⟨h1, by rw [e1, e2], e3.qf, e4⟩, h2, by rw [g1, g2], g3.qf, g3.fr hF, g3.2.2.2.2.2.2⟩
variable {D : Dr} {h : Hp}
theorem CFr.atc {h' : Hp} (a : CFr h h') (ha : AtC D h 1) : AtC D h' 1 := ha.keep (fun c c0 c1 => a c (by omega) (by omega))
theorem RFr.atm {h' : Hp} (a : RFr h h') (ha : AtM D h 0) : AtM D h' 0 := ha.any a.2.1
theorem dl_laidLanes_wp (ha : AtC D h 1) (w : WF D) (hF : FR D h) : wp (dl_laidLanes 0 h) (fun _ h1 => LANES D (D 7 3) 85 h1 ∧ CFr h h1 ∧ FR D h1) := by
  have e10 : h 1 10 = D 7 3 := ha.1.2.2.2.symm
  have bz1 : bz 1 = (fun (E : O Nat) => E) := funext fun E => if_pos (Or.inr rfl)
  simp only [dl_laidLanes, dl_laidLanes_b30, Nat.reduceAdd]
  by_cases q : h 0 6 = 0
  · rw [if_pos q, e10]
    refine wp_bd (la_layOut_wp (th := 85) ha w (by omega) (by have := w.2.2.2.1; omega)) (fun _ h2 hq => ?_)
    obtain ⟨l, f⟩ := hq
    rw [bz1, lt_eq]
    have l' : LANES D (D 7 3) 85 (hu h2 0 6 1) := l.keep (fun c c0 c1 => funext fun j => hu_o (by omega) j)
    refine wp_ret ⟨l', fun c c0 c1 => ?_, Or.inr ⟨hu_s, l'⟩, ?_⟩
    · rw [← f c (by omega)]
      exact funext fun j => hu_o c0 j
    · rw [hu_j 0 (by decide), f 0 (by decide)]
      refine hF.2.imp id (fun z => ⟨z.1, z.2.1, z.2.2.keep z.2.1 (fun c c0 c1 _ _ => ?_)⟩)
      rw [← f c (by omega)]
      exact funext fun j => hu_o (by omega) j
  · rw [if_neg q]
    exact wp_ret ⟨(hF.1.resolve_left q).2, CFr.rfl h, hF⟩
theorem dl_knownBounds_wp (ha : AtC D h 1) (w : WF D) (hF : FR D h) : wp (dl_knownBounds 0 h) (fun _ h1 => BNDS D h1 ∧ CFr h h1 ∧ FR D h1) := by
  have bz1 : bz 1 = (fun (E : O Nat) => E) := funext fun E => if_pos (Or.inr rfl)
  simp only [dl_knownBounds, dl_knownBounds_b23, Nat.reduceAdd]
  by_cases q : h 0 7 = 0
  · rw [if_pos q]
    refine wp_bd (bo_workOut_wp ha w) (fun _ h2 hq => ?_)
    obtain ⟨l, f⟩ := hq
    rw [bz1, lt_eq]
    have l' : BNDS D (hu h2 0 7 1) := l.keep w (fun c c0 c1 _ _ => funext fun j => hu_o (by omega) j)
    refine wp_ret ⟨l', fun c c0 c1 => ?_, ?_, Or.inr ⟨hu_s, w, l'⟩⟩
    · rw [← f c (by omega)]
      exact funext fun j => hu_o c0 j
    · rw [hu_j 0 (by decide), f 0 (by decide)]
      refine hF.1.imp id (fun z => ⟨z.1, z.2.keep (fun c c0 c1 => ?_)⟩)
      rw [← f c (by omega)]
      exact funext fun j => hu_o (by omega) j
  · rw [if_neg q]
    exact wp_ret ⟨(hF.2.resolve_left q).2.2, CFr.rfl h, hF⟩
/-- behind the reference's lanes -/
def ML (D : Dr) (h : Hp) : Prop := AtM D h 0 ∧ ∀ d, 0 ≤ d → d < D 7 1 → mo_laneOf 132 d h = some (lnD D (D 7 3) d, h)
theorem mo_laysLanes_wp (ha : AtM D h 0) (w : WF D) : wp (mo_laysLanes 132 h) (fun _ h1 => ML D h1 ∧ RFr h h1) := wp_of (mo_laysLanes_eq ha w) ⟨⟨ha.any (HM_o (by omega) _), fun d d0 d1 => mo_laneOf_eq ha w (fun _ _ _ => rfl) d0 d1⟩, RFr.of (fun c z => HM_o (by omega) _)⟩
end ASK

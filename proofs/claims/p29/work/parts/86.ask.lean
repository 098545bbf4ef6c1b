section ASK
/-- what stands of what was worked out -/
def FR (D : Dr) (h : Hp) : Prop := (h 0 6 = 0 ∨ (h 0 6 = 1 ∧ LANES D (D 7 3) 85 h)) ∧ (h 0 7 = 0 ∨ (h 0 7 = 1 ∧ WF D ∧ BNDS D h))
theorem FR_k : FRK FR := by
  refine ⟨fun D h a b => ⟨Or.inl a, Or.inl b⟩, fun D h h' e f => ?_⟩
  unfold FR at *
  rw [e 0 (Or.inl rfl)]
  refine ⟨f.1.imp id (fun z => ⟨z.1, z.2.keep (fun c c0 c1 => e c (by omega))⟩), f.2.imp id (fun z => ⟨z.1, z.2.1, z.2.2.keep z.2.1 (fun c c0 c1 _ _ => e c (by omega))⟩)⟩
/-- what the class's questions leave, and what the reference's leave -/
def CFr (h h' : Hp) : Prop := ∀ c, c ≠ 0 → (c < 85 ∨ 131 < c) → h' c = h c
theorem CFr.rfl (h : Hp) : CFr h h := fun _ _ _ => Eq.refl _
theorem CFr.trans {h1 h2 h3 : Hp} (a : CFr h1 h2) (b : CFr h2 h3) : CFr h1 h3 := fun c c0 c1 => (b c c0 c1).trans (a c c0 c1)
variable {D : Dr} {h : Hp}
theorem CFr.atc {h' : Hp} (a : CFr h h') (ha : AtC D h 1) : AtC D h' 1 := ha.keep (fun c c0 c1 => a c (by omega) (by omega))
theorem dl_laidLanes_wp (ha : AtC D h 1) (w : WF D) (hF : FR D h) : wp (dl_laidLanes 0 h) (fun _ h1 => LANES D (D 7 3) 85 h1 ∧ CFr h h1 ∧ FR D h1) := by
  have e10 : h 1 10 = D 7 3 := ha.1.2.2.2.symm
  have bz1 : bz 1 = (fun (E : O Nat) => E) := funext fun E => if_pos (Or.inr rfl)
  simp only [dl_laidLanes, dl_laidLanes_b30, Nat.reduceAdd]
  by_cases q : h 0 6 = 0
  · rw [if_pos q, e10]
    refine wp_bd (la_layOut_wp (th := 85) ha w (by omega) (by have := w.2.2.2.1; omega)) (fun _ h2 hq => ?_)
    obtain ⟨l, f⟩ := hq
    rw [bz1, lt_eq]
    have l' : LANES D (D 7 3) 85 (hu h2 0 6 1) := l.keep (fun c c0 c1 => funext fun j => hu_o (by omega) j)
    refine wp_ret ⟨l', fun c c0 c1 => ?_, Or.inr ⟨hu_s, l'⟩, ?_⟩
    · rw [← f c (by omega)]
      exact funext fun j => hu_o c0 j
    · rw [hu_j 0 (by decide), f 0 (by decide)]
      refine hF.2.imp id (fun z => ⟨z.1, z.2.1, z.2.2.keep z.2.1 (fun c c0 c1 _ _ => ?_)⟩)
      rw [← f c (by omega)]
      exact funext fun j => hu_o (by omega) j
  · rw [if_neg q]
    exact wp_ret ⟨(hF.1.resolve_left q).2, CFr.rfl h, hF⟩
theorem dl_knownBounds_wp (ha : AtC D h 1) (w : WF D) (hF : FR D h) : wp (dl_knownBounds 0 h) (fun _ h1 => BNDS D h1 ∧ CFr h h1 ∧ FR D h1) := by
  have bz1 : bz 1 = (fun (E : O Nat) => E) := funext fun E => if_pos (Or.inr rfl)
  simp only [dl_knownBounds, dl_knownBounds_b23, Nat.reduceAdd]
  by_cases q : h 0 7 = 0
  · rw [if_pos q]
    refine wp_bd (bo_workOut_wp ha w) (fun _ h2 hq => ?_)
    obtain ⟨l, f⟩ := hq
    rw [bz1, lt_eq]
    have l' : BNDS D (hu h2 0 7 1) := l.keep w (fun c c0 c1 _ _ => funext fun j => hu_o (by omega) j)
    refine wp_ret ⟨l', fun c c0 c1 => ?_, ?_, Or.inr ⟨hu_s, w, l'⟩⟩
    · rw [← f c (by omega)]
      exact funext fun j => hu_o c0 j
    · rw [hu_j 0 (by decide), f 0 (by decide)]
      refine hF.1.imp id (fun z => ⟨z.1, z.2.keep (fun c c0 c1 => ?_)⟩)
      rw [← f c (by omega)]
      exact funext fun j => hu_o (by omega) j
  · rw [if_neg q]
    exact wp_ret ⟨(hF.2.resolve_left q).2.2, CFr.rfl h, hF⟩
end ASK

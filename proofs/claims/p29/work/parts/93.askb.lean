section ASKB
/-- the first below n with P -/
noncomputable def ff (P : Int → Prop) : Nat → Int
  | 0 => -999
  | k + 1 => if ff P k = -999 then @ite _ (P k) (Classical.propDecidable _) (k : Int) (-999) else ff P k
/-- two points -/
abbrev two (D : Dr) (a b : Int) : Prop := (0 ≤ a ∧ a < D 7 0) ∧ (0 ≤ b ∧ b < D 7 0) ∧ a ≠ b
theorem dl_areTwo_eq {D : Dr} {h : Hp} (hA : AtC D h 1) {a b : Int} : dl_areTwoPoints 0 a b h = some (yn (two D a b), h) := by
  have en : h 1 7 = D 7 0 := hA.1.1.symm
  have bz1 : bz 1 = (fun (E : O Int) => E) := funext fun E => if_pos (Or.inr rfl)
  have bz0 : bz 0 = (fun (E : O Int) => E) := funext fun E => if_pos (Or.inl rfl)
  simp only [dl_areTwoPoints, dl_areTwoPoints_b31, dl_areTwoPoints_b32, bz0, bz1, Nat.reduceAdd]
  rw [bd_eq (dr_hasPoint_eq a), en]
  by_cases q1 : 0 ≤ a ∧ a < D 7 0
  · rw [yn_t q1, if_neg (by decide), bd_eq (dr_hasPoint_eq b), en]
    by_cases q2 : 0 ≤ b ∧ b < D 7 0
    · rw [yn_t q2, if_neg (by decide)]
      by_cases q3 : a = b
      · rw [if_pos q3, yn_f (fun z => z.2.2 q3)]
      · rw [if_neg q3, yn_t ⟨q1, q2, q3⟩]
    · rw [yn_f q2, if_pos rfl, yn_f (fun z => q2 z.2.1)]
  · rw [yn_f q1, if_pos rfl, yn_f (fun z => q1 z.1)]
noncomputable def aDist (D : Dr) (a b g : Int) : Int := if two D a b then (if dd D a b = 1000000 then -999 else if g = 0 then -dd D b a else dd D a b) else -1
theorem dl_distance_wp {D : Dr} {h : Hp} {a b g : Int} (w : WF D) (hA : AtC D h 1) (hF : FR D h) : wp (dl_distance 0 a b g h) (fun r h1 => r = aDist D a b g ∧ CFr h h1 ∧ FR D h1) := by
  have w0 := w.1
  unfold aDist
  simp only [dl_distance, dl_distance_b57, Nat.reduceAdd]
  rw [bd_eq (dl_areTwo_eq hA)]
  by_cases q : two D a b
  · have dba := (dd_b w q.2.1 q.1).2.2
    rw [yn_t q, if_neg (by decide), if_pos q]
    refine wp_bd (dl_knownBounds_wp hA w hF) (fun _ h3 hq => ?_)
    obtain ⟨l, f1, f2⟩ := hq
    rw [bd_eq (bo_areBound_eq w l.2.1 q.1 q.2.1)]
    by_cases c : dd D a b = 1000000
    · rw [tb_f (fun z => z c), if_pos rfl, if_pos c]
      exact wp_ret ⟨rfl, f1, f2⟩
    · rw [tb_t (show bnd D a b from c), if_neg (by decide), if_neg c, l.2.1 b a q.2.1.1 q.2.1.2 q.1.1 (by omega), l.2.1 a b q.1.1 q.1.2 q.2.1.1 (by omega)]
      by_cases c2 : g = 0
      · rw [if_pos c2, if_pos c2, ix_in q.2.1.1 (by omega), ix_in q.1.1 (by omega), ck_in ⟨by omega, by omega⟩]
        exact wp_ret ⟨rfl, f1, f2⟩
      · rw [if_neg c2, if_neg c2, ix_in q.1.1 (by omega), ix_in q.2.1.1 (by omega)]
        exact wp_ret ⟨rfl, f1, f2⟩
  · rw [yn_f q, if_pos rfl, if_neg q]
    exact wp_ret ⟨rfl, CFr.rfl h, hF⟩
end ASKB

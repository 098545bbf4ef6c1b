section EXACT
variable {D : Dr} {h : Hp}
theorem dd_b (w : WF D) {a b : Int} (ha : 0 ≤ a ∧ a < D 7 0) (hb : 0 ≤ b ∧ b < D 7 0) : (dd D a b = 1000000 ∨ (dd D a b ≤ 100000 ∧ ∃ y, y ≤ dd D a b ∧ Wk (E0 D) a b y)) ∧ D 0 b - D 0 a ≤ dd D a b ∧ (-300 ≤ dd D a b ∧ dd D a b ≤ 1000000) := by
  have w0 := w.1
  have p1 := w.2.2.2.2.1 a ha.1 ha.2
  have p2 := w.2.2.2.2.1 b hb.1 hb.2
  have s := (sp_dd w (a := a) (by omega)).2.1 b hb.1 (by omega)
  refine ⟨s, ?_⟩
  rcases s with z | ⟨z1, y, z2, z3⟩
  · omega
  · have := Wk_b w z3
    omega
theorem dd_self (w : WF D) {a : Int} (ha : 0 ≤ a ∧ a < D 7 0) : dd D a a = 0 := by
  have w0 := w.1
  have := (sp_dd w (a := a) (by omega)).1
  have := (dd_b w ha ha).2.1
  omega
theorem bnd_symm (w : WF D) {a b : Int} (ha : 0 ≤ a ∧ a < D 7 0) (hb : 0 ≤ b ∧ b < D 7 0) (h : bnd D a b) : bnd D b a := by
  have w0 := w.1
  obtain ⟨-, x, -, hx⟩ := (dd_b w ha hb).1.resolve_left h
  obtain ⟨y, hy⟩ := hx.ind (P := fun v _ => ∃ y, Wk (E0 D) v a y) ⟨0, Wk.nil⟩ (fun u v x y e _ p => by
    obtain ⟨z, hz⟩ := p
    obtain ⟨d, d1, d2, d3⟩ := e
    rcases d3 with ⟨e1, e2, e3⟩ | ⟨e1, e2, e3⟩
    · have e' : E0 D v u (D 3 d - vD D d) := ⟨d, d1, d2, Or.inr ⟨e2, e1, by rw [if_neg (by omega)]⟩⟩
      exact ⟨_, (Wk.one e').trans hz⟩
    · have e' : E0 D v u (vD D d + D 4 d) := ⟨d, d1, d2, Or.inl ⟨e2, e1, by rw [if_neg (by omega)]⟩⟩
      exact ⟨_, (Wk.one e').trans hz⟩)
  exact ((sp_dd w (a := b) (by omega)).low hy).1
/-- one dimension exact -/
def EX (D : Dr) (d : Int) : ES := eE D (fun _ => False) d
noncomputable def dx (D : Dr) (d a b : Int) : Int := dst (EX D d) a b
theorem Wk_ex (w : WF D) {d a b x : Int} (h : Wk (E0 D) a b x) : ∃ y, y ≤ x ∧ Wk (EX D d) a b y := h.ind (P := fun v z => ∃ y, y ≤ z ∧ Wk (EX D d) a v y) ⟨0, Int.le_refl _, Wk.nil⟩ (fun u v x z e _ p => by
  obtain ⟨y, y1, y2⟩ := p
  obtain ⟨k, k1, k2, k3⟩ := e
  have dt := w.2.2.2.2.2.2 k k1.1 k1.2
  rw [if_neg (by omega), if_neg (by omega)] at k3
  rcases k3 with ⟨e1, e2, e3⟩ | ⟨e1, e2, e3⟩
  · have e' : EX D d u v (vD D k + (if k = d then 0 else D 4 k)) := ⟨k, k1, k2, Or.inl ⟨e1, e2, rfl⟩⟩
    refine ⟨_, ?_, y2.step e'⟩
    split <;> omega
  · have e' : EX D d u v ((if k = d then 0 else D 3 k) - vD D k) := ⟨k, k1, k2, Or.inr ⟨e1, e2, rfl⟩⟩
    refine ⟨_, ?_, y2.step e'⟩
    split <;> omega)
/-- the three ways: without d, forth by it, back by it -/
noncomputable def gie (D : Dr) (d a b : Int) : Int := min (dd D a b) (min (dd D a (D 1 d) + vD D d + dd D (D 2 d) b) (dd D a (D 2 d) - vD D d + dd D (D 1 d) b))
theorem ex_sp (w : WF D) {d a : Int} (hd : 0 ≤ d ∧ d < D 7 1) (ha : 0 ≤ a ∧ a < D 7 0) : SP (EX D d) a (fun b => if dd D a b = 1000000 ∨ ¬ (0 ≤ b ∧ b < D 7 0) then 1000000 else gie D d a b) := by
  have w0 := w.1
  have dw := w.dim hd.1 hd.2
  have hf : 0 ≤ D 1 d ∧ D 1 d < D 7 0 := by omega
  have ht : 0 ≤ D 2 d ∧ D 2 d < D 7 0 := by omega
  have ev : vD D d = D 0 (D 2 d) - D 0 (D 1 d) := rfl
  have ef : EX D d (D 1 d) (D 2 d) (vD D d) := ⟨d, hd, fun z => z, Or.inl ⟨rfl, rfl, by rw [if_pos rfl]; omega⟩⟩
  have eb : EX D d (D 2 d) (D 1 d) (-vD D d) := ⟨d, hd, fun z => z, Or.inr ⟨rfl, rfl, by rw [if_pos rfl]; omega⟩⟩
  have baf := dd_b w ha hf
  have bat := dd_b w ha ht
  have sff := dd_self w hf
  have stt := dd_self w ht
  have btf := (dd_b w ht hf).2
  have bft := (dd_b w hf ht).2
  have saa := dd_self w ha
  refine ⟨?_, fun b b0 b1 => ?_, fun u b x e hu => ?_⟩
  · show (if dd D a a = 1000000 ∨ ¬ (0 ≤ a ∧ a < D 7 0) then 1000000 else gie D d a a) ≤ 0
    rw [if_neg (by omega)]
    unfold gie
    omega
  · show (if dd D a b = 1000000 ∨ ¬ (0 ≤ b ∧ b < D 7 0) then 1000000 else gie D d a b) = 1000000 ∨ _
    by_cases q : dd D a b = 1000000 ∨ ¬ (0 ≤ b ∧ b < D 7 0)
    · rw [if_pos q]
      exact Or.inl rfl
    · have hb : 0 ≤ b ∧ b < D 7 0 := Classical.byContradiction fun z => q (Or.inr z)
      have bab := dd_b w ha hb
      have btb := dd_b w ht hb
      have bfb := dd_b w hf hb
      obtain ⟨z1, y, z2, z3⟩ := bab.1.resolve_left (fun z => q (Or.inl z))
      rw [if_neg q]
      refine Or.inr ⟨by show (if dd D a b = 1000000 ∨ ¬ (0 ≤ b ∧ b < D 7 0) then 1000000 else gie D d a b) ≤ 100000; rw [if_neg q]; unfold gie; omega, ?_⟩
      show ∃ y, y ≤ (if dd D a b = 1000000 ∨ ¬ (0 ≤ b ∧ b < D 7 0) then 1000000 else gie D d a b) ∧ Wk (EX D d) a b y
      rw [if_neg q]
      have c : gie D d a b = dd D a b ∨ (gie D d a b = dd D a (D 1 d) + vD D d + dd D (D 2 d) b ∧ dd D a (D 1 d) + vD D d + dd D (D 2 d) b ≤ 100000) ∨ (gie D d a b = dd D a (D 2 d) - vD D d + dd D (D 1 d) b ∧ dd D a (D 2 d) - vD D d + dd D (D 1 d) b ≤ 100000) := by
        unfold gie
        omega
      rcases c with c | ⟨c, c2⟩ | ⟨c, c2⟩
      · obtain ⟨y', g1, g2⟩ := Wk_ex (d := d) w z3
        exact ⟨y', by omega, g2⟩
      · obtain ⟨-, p, p2, p3⟩ := baf.1.resolve_left (by omega)
        obtain ⟨-, r, r2, r3⟩ := btb.1.resolve_left (by omega)
        obtain ⟨p', g1, g2⟩ := Wk_ex (d := d) w p3
        obtain ⟨r', g3, g4⟩ := Wk_ex (d := d) w r3
        exact ⟨_, by omega, (g2.step ef).trans g4⟩
      · obtain ⟨-, p, p2, p3⟩ := bat.1.resolve_left (by omega)
        obtain ⟨-, r, r2, r3⟩ := bfb.1.resolve_left (by omega)
        obtain ⟨p', g1, g2⟩ := Wk_ex (d := d) w p3
        obtain ⟨r', g3, g4⟩ := Wk_ex (d := d) w r3
        exact ⟨_, by omega, (g2.step eb).trans g4⟩
  · have hu : (if dd D a u = 1000000 ∨ ¬ (0 ≤ u ∧ u < D 7 0) then 1000000 else gie D d a u) ≠ 1000000 := hu
    show (if dd D a b = 1000000 ∨ ¬ (0 ≤ b ∧ b < D 7 0) then 1000000 else gie D d a b) ≠ 1000000 ∧ (if dd D a b = 1000000 ∨ ¬ (0 ≤ b ∧ b < D 7 0) then 1000000 else gie D d a b) ≤ (if dd D a u = 1000000 ∨ ¬ (0 ≤ u ∧ u < D 7 0) then 1000000 else gie D d a u) + x
    have eb' := eE_b w e
    have hb : 0 ≤ b ∧ b < D 7 0 := eb'.1.2
    have hu' : 0 ≤ u ∧ u < D 7 0 := eb'.1.1
    have q : ¬ (dd D a u = 1000000 ∨ ¬ (0 ≤ u ∧ u < D 7 0)) := fun z => hu (if_pos z)
    have qu : dd D a u ≠ 1000000 := fun z => q (Or.inl z)
    rw [if_neg q]
    have bau := dd_b w ha hu'
    have btu := dd_b w ht hu'
    have bfu := dd_b w hf hu'
    have bab := dd_b w ha hb
    have btb := dd_b w ht hb
    have bfb := dd_b w hf hb
    have lu := bau.1.resolve_left qu
    have cu : gie D d a u = dd D a u ∨ (gie D d a u = dd D a (D 1 d) + vD D d + dd D (D 2 d) u ∧ dd D a (D 1 d) + vD D d + dd D (D 2 d) u ≤ 100000) ∨ (gie D d a u = dd D a (D 2 d) - vD D d + dd D (D 1 d) u ∧ dd D a (D 2 d) - vD D d + dd D (D 1 d) u ≤ 100000) := by
      have := lu.1
      unfold gie
      omega
    have fin : dd D a b ≠ 1000000 → gie D d a b ≤ gie D d a u + x → (if dd D a b = 1000000 ∨ ¬ (0 ≤ b ∧ b < D 7 0) then 1000000 else gie D d a b) ≠ 1000000 ∧ (if dd D a b = 1000000 ∨ ¬ (0 ≤ b ∧ b < D 7 0) then 1000000 else gie D d a b) ≤ gie D d a u + x := fun n l => by
      rw [if_neg (show ¬ (dd D a b = 1000000 ∨ ¬ (0 ≤ b ∧ b < D 7 0)) from fun z => z.elim n (fun z => z hb))]
      refine ⟨?_, l⟩
      have := (bab.1.resolve_left n).1
      unfold gie
      omega
    obtain ⟨k, k1, k2, k3⟩ := e
    have dt := w.2.2.2.2.2.2 k k1.1 k1.2
    have lo := fun (s : Int) (hs : 0 ≤ s ∧ s < D 7 0) (y : Int) (ey : E0 D u b y) => (sp_dd w (a := s) (by omega)).2.2 u b y ey
    by_cases c : k = d
    · subst c
      rw [if_pos rfl, if_pos rfl] at k3
      rcases k3 with ⟨e1, e2, e3⟩ | ⟨e1, e2, e3⟩
      · have ey : E0 D u b (vD D k + D 4 k) := ⟨k, k1, k2, Or.inl ⟨e1, e2, by rw [if_neg (by omega)]⟩⟩
        have l := lo a ha _ ey qu
        refine fin l.1 ?_
        have gb : gie D k a b ≤ dd D a (D 1 k) + vD D k + dd D (D 2 k) b ∧ gie D k a b ≤ dd D a b := by
          unfold gie
          omega
        rw [e2] at gb bab ⊢
        rw [e1] at cu ⊢
        rw [e3]
        omega
      · have ey : E0 D u b (D 3 k - vD D k) := ⟨k, k1, k2, Or.inr ⟨e1, e2, by rw [if_neg (by omega)]⟩⟩
        have l := lo a ha _ ey qu
        refine fin l.1 ?_
        have gb : gie D k a b ≤ dd D a (D 2 k) - vD D k + dd D (D 1 k) b ∧ gie D k a b ≤ dd D a b := by
          unfold gie
          omega
        rw [e2] at gb bab ⊢
        rw [e1] at cu ⊢
        rw [e3]
        omega
    · rw [if_neg c, if_neg c] at k3
      have ey : E0 D u b x := ⟨k, k1, k2, by rw [if_neg (by omega), if_neg (by omega)]; exact k3⟩
      have l := lo a ha _ ey qu
      have lt := lo (D 2 d) ht _ ey
      have lf := lo (D 1 d) hf _ ey
      refine fin l.1 ?_
      have gb : gie D d a b ≤ dd D a b ∧ gie D d a b ≤ dd D a (D 1 d) + vD D d + dd D (D 2 d) b ∧ gie D d a b ≤ dd D a (D 2 d) - vD D d + dd D (D 1 d) b := by
        unfold gie
        omega
      rcases cu with c1 | ⟨c1, c2⟩ | ⟨c1, c2⟩
      · omega
      · have := lt (by omega)
        omega
      · have := lf (by omega)
        omega
theorem dx_eq (w : WF D) {d a b : Int} (hd : 0 ≤ d ∧ d < D 7 1) (ha : 0 ≤ a ∧ a < D 7 0) (hb : 0 ≤ b ∧ b < D 7 0) (n : bnd D a b) : dx D d a b = gie D d a b := by
  have w0 := w.1
  have := (ex_sp w hd ha).dst (v := b) hb.1 (by omega)
  unfold dx
  rw [← this, if_neg (fun z => z.elim n (fun z => z hb))]
/-- how much less the distance could vary -/
noncomputable def gn (D : Dr) (d a b : Int) : Int := dd D a b + dd D b a - (dx D d a b + dx D d b a)
end EXACT

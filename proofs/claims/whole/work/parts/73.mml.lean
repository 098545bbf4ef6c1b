section MML
/-- 1 for yes, 0 for no -/
noncomputable def tb (P : Prop) : Int := @ite _ P (Classical.propDecidable _) 1 0
theorem tb_t {P : Prop} (h : P) : tb P = 1 := if_pos h
theorem tb_f {P : Prop} (h : ¬ P) : tb P = 0 := if_neg h
theorem tb_congr {P Q : Prop} (h : P ↔ Q) : tb P = tb Q := by rw [propext h]
theorem tb_bz {P : Prop} : tb P = 0 ∨ tb P = 1 := by
  by_cases q : P
  · exact Or.inr (tb_t q)
  · exact Or.inl (tb_f q)
theorem tb_yn {P : Prop} [Decidable P] : tb P = yn P := by
  by_cases q : P
  · rw [tb_t q, yn_t q]
  · rw [tb_f q, yn_f q]
def mtD (D : Dr) (a : Int) (p l : Int → Int) (x d e : Int) : Prop := (p (ld D e) = 1 ∧ l (ld D e) = x) ∧ bD D a d ≤ eD D a e ∧ bD D a e ≤ eD D a d
/-- the reference's units, as laid out -/
def MR (D : Dr) (h : Hp) : Prop := ∀ u, 0 ≤ u → u < D 7 1 → h 135 u = ld D u ∧ (ld D u = u → h 136 u = uS D u ∧ h 137 u = uT D u ∧ h 138 u = uL D u)
def MC (D : Dr) (i : Nat) (h : Hp) : Prop := AtM D h 0 ∧ MR D h ∧ (∀ u, 0 ≤ u → u < D 7 1 → h 140 u = aP D (D 7 3) i u) ∧ ∀ u, 0 ≤ u → u < D 7 1 → ld D u = u → aP D (D 7 3) i u = 1 → h 139 u = aL D (D 7 3) i u
variable {D : Dr} {h : Hp}
theorem meets_in (w : WF D) {i : Nat} (g : MC D i h) {u x : Int} (k5 : Int → Int → Hp → O Int) {d : Int} (hd : 0 ≤ d ∧ d < D 7 1) (X : Prop) : iter3 (mo_meets_f20 132 u x k5) fuel (tb X) d 0 h = k5 (tb (X ∨ (ld D d = u ∧ ∃ e : Nat, e < (D 7 1).toNat ∧ mtD D (D 7 3) (aP D (D 7 3) i) (aL D (D 7 3) i) x d e))) (d + 1) h := by
  have w1 := w.2.1
  obtain ⟨gA, gR, gP, gL⟩ := g
  have b132 : ∀ s, mo_meets_b132 132 u x k5 s d h = k5 s (d + 1) h := fun s => by
    unfold mo_meets_b132
    rw [ck_in ⟨by omega, by omega⟩]
  by_cases q : ld D d = u
  · have key := it3_seq (F := mo_meets_f20 132 u x k5) (fun k => tb (X ∨ ∃ e : Nat, e < k ∧ mtD D (D 7 3) (aP D (D 7 3) i) (aL D (D 7 3) i) x d e)) (fun _ => d) (fun k => (k : Int)) (fun _ => h) (D 7 1).toNat (R := k5 (tb (X ∨ (ld D d = u ∧ ∃ e : Nat, e < (D 7 1).toNat ∧ mtD D (D 7 3) (aP D (D 7 3) i) (aL D (D 7 3) i) x d e))) (d + 1) h) (fun k y hy => ?_) (fun k => ?_) fuel 0 (Nat.zero_le _) (by unfold fuel; omega)
    · have e0 : tb (X ∨ ∃ e : Nat, e < 0 ∧ mtD D (D 7 3) (aP D (D 7 3) i) (aL D (D 7 3) i) x d e) = tb X := tb_congr ⟨fun z => z.elim id (fun ⟨e, a, _⟩ => absurd a (Nat.not_lt_zero _)), Or.inl⟩
      rw [e0] at key
      exact key
    · have hy' : 0 ≤ (y : Int) ∧ (y : Int) < D 7 1 := by omega
      have ly := (ld_is (D := D) hy'.1).1
      have e140 := gP (ld D y) ly.1 (by omega)
      have pz := aP_z (D := D) (a := D 7 3) i (ld D y)
      have eb1 := mo_begins_eq gA w hd.1 hd.2
      have er1 := mo_reaches_eq gA w hd.1 hd.2
      have eb2 := mo_begins_eq gA w hy'.1 hy'.2
      have er2 := mo_reaches_eq gA w hy'.1 hy'.2
      have up : ∀ Y : Prop, (Y ↔ mtD D (D 7 3) (aP D (D 7 3) i) (aL D (D 7 3) i) x d y) → tb (X ∨ ∃ e : Nat, e < y + 1 ∧ mtD D (D 7 3) (aP D (D 7 3) i) (aL D (D 7 3) i) x d e) = tb ((X ∨ ∃ e : Nat, e < y ∧ mtD D (D 7 3) (aP D (D 7 3) i) (aL D (D 7 3) i) x d e) ∨ Y) := fun Y hY => tb_congr (by
        constructor
        · rintro (z | ⟨e, e1, e2⟩)
          · exact Or.inl (Or.inl z)
          · by_cases c : e = y
            · subst c; exact Or.inr (hY.mpr e2)
            · exact Or.inl (Or.inr ⟨e, by omega, e2⟩)
        · rintro ((z | ⟨e, e1, e2⟩) | z)
          · exact Or.inl z
          · exact Or.inr ⟨e, by omega, e2⟩
          · exact Or.inr ⟨y, by omega, hY.mp z⟩)
      have b125 : ∀ s, mo_meets_b125 132 u x k d y s h = k s d ((y : Int) + 1) h := fun s => by
        unfold mo_meets_b125
        rw [ck_in ⟨by omega, by omega⟩]
      show mo_meets_f20 132 u x k5 k (tb (X ∨ ∃ e : Nat, e < y ∧ mtD D (D 7 3) (aP D (D 7 3) i) (aL D (D 7 3) i) x d e)) d y h = k (tb (X ∨ ∃ e : Nat, e < y + 1 ∧ mtD D (D 7 3) (aP D (D 7 3) i) (aL D (D 7 3) i) x d e)) d ((y : Int) + 1) h
      generalize (X ∨ ∃ e : Nat, e < y ∧ mtD D (D 7 3) (aP D (D 7 3) i) (aL D (D 7 3) i) x d e) = Y at *
      simp only [mo_meets_f20, mo_meets_b78, mo_meets_b79, mo_meets_b124, mo_meets_b120, b125, Nat.reduceAdd]
      rw [ix_in (by omega) (by omega), gA.m, if_pos hy'.2, ix_in hd.1 (by omega), (gR d hd.1 hd.2).1, if_pos q, ix_in hy'.1 (by omega), (gR y hy'.1 hy'.2).1, ix_in ly.1 (by omega), e140]
      by_cases c0 : Y
      · rw [tb_t c0, up _ Iff.rfl, tb_t (Or.inl c0)]
        rw [if_neg (show ¬ (1 : Int) = 0 by decide), if_neg (show ¬ (1 : Int) = 0 by decide)]
        split
        · rfl
        · rw [ix_in hy'.1 (by omega), ix_in ly.1 (by omega), ite_self]
      · rw [tb_f c0]
        simp only [if_true]
        by_cases c1 : aP D (D 7 3) i (ld D y) = 0
        · rw [if_pos c1, up _ Iff.rfl, tb_f (fun z => z.elim c0 (fun z => by unfold mtD at z; omega))]
        · have c1' : aP D (D 7 3) i (ld D y) = 1 := pz.elim (fun z => absurd z c1) id
          have e139 := gL (ld D y) ly.1 (by omega) (ld_ld hy'.1) c1'
          rw [if_neg c1, ix_in hy'.1 (by omega), ix_in ly.1 (by omega), e139]
          by_cases c2 : aL D (D 7 3) i (ld D y) = x
          · rw [if_pos c2, if_neg (show ¬ (1 : Int) = 0 by decide), bd_eq eb1, bd_eq er2]
            by_cases c3 : eD D (D 7 3) y < bD D (D 7 3) d
            · rw [if_pos c3, up _ Iff.rfl, tb_f (fun z => z.elim c0 (fun z => by unfold mtD at z; omega)), b125]
            · rw [if_neg c3, bd_eq eb2, bd_eq er1]
              by_cases c4 : eD D (D 7 3) d < bD D (D 7 3) y
              · rw [if_pos c4, up _ Iff.rfl, tb_f (fun z => z.elim c0 (fun z => by unfold mtD at z; omega)), b125]
              · rw [if_neg c4, up _ Iff.rfl, tb_t (Or.inr ⟨⟨c1', c2⟩, by omega, by omega⟩), b125]
          · rw [if_neg c2, up _ Iff.rfl, tb_f (fun z => z.elim c0 (fun z => c2 z.1.2))]
    · simp only [mo_meets_f20, Nat.reduceAdd]
      rw [ix_in (by omega) (by omega), gA.m, if_neg (by omega), b132]
      rw [tb_congr (show (X ∨ ∃ e : Nat, e < (D 7 1).toNat ∧ mtD D (D 7 3) (aP D (D 7 3) i) (aL D (D 7 3) i) x d e) ↔ (X ∨ (ld D d = u ∧ ∃ e : Nat, e < (D 7 1).toNat ∧ mtD D (D 7 3) (aP D (D 7 3) i) (aL D (D 7 3) i) x d e)) from ⟨fun z => z.imp id (fun y => ⟨q, y⟩), fun z => z.imp id (fun y => y.2)⟩)]
  · rw [tb_congr (show (X ∨ (ld D d = u ∧ ∃ e : Nat, e < (D 7 1).toNat ∧ mtD D (D 7 3) (aP D (D 7 3) i) (aL D (D 7 3) i) x d e)) ↔ X from ⟨fun z => z.elim id (fun y => absurd y.1 q), Or.inl⟩)]
    show mo_meets_f20 132 u x k5 (iter3 (mo_meets_f20 132 u x k5) 2999) (tb X) d 0 h = _
    simp only [mo_meets_f20, Nat.reduceAdd]
    rw [ix_in (by omega) (by omega), gA.m, if_pos (by omega), ix_in hd.1 (by omega), (gR d hd.1 hd.2).1, if_neg q, b132]
theorem mo_meets_eq (w : WF D) {i : Nat} (g : MC D i h) {u x : Int} : mo_meets 132 u x h = some (tb (tk D (D 7 3) (aP D (D 7 3) i) (aL D (D 7 3) i) u x), h) := by
  have w1 := w.2.1
  have key := it2_seq (F := mo_meets_f5 132 u x) (fun k => tb (∃ d : Nat, d < k ∧ ld D d = u ∧ ∃ e : Nat, e < (D 7 1).toNat ∧ mtD D (D 7 3) (aP D (D 7 3) i) (aL D (D 7 3) i) x d e)) (fun k => (k : Int)) (fun _ => h) (D 7 1).toNat (R := some (tb (tk D (D 7 3) (aP D (D 7 3) i) (aL D (D 7 3) i) u x), h)) (fun k y hy => ?_) (fun k => ?_) fuel 0 (Nat.zero_le _) (by unfold fuel; omega)
  · unfold mo_meets
    have e0 : tb (∃ d : Nat, d < 0 ∧ ld D d = u ∧ ∃ e : Nat, e < (D 7 1).toNat ∧ mtD D (D 7 3) (aP D (D 7 3) i) (aL D (D 7 3) i) x d e) = 0 := tb_f (fun ⟨e, a, _⟩ => absurd a (Nat.not_lt_zero _))
    rw [e0] at key
    exact key
  · simp only [mo_meets_f5, Nat.reduceAdd]
    rw [ix_in (by omega) (by omega), g.1.m, if_pos (by omega), meets_in w g k (by omega)]
    rw [tb_congr (show ((∃ d : Nat, d < y ∧ ld D d = u ∧ ∃ e : Nat, e < (D 7 1).toNat ∧ mtD D (D 7 3) (aP D (D 7 3) i) (aL D (D 7 3) i) x d e) ∨ (ld D y = u ∧ ∃ e : Nat, e < (D 7 1).toNat ∧ mtD D (D 7 3) (aP D (D 7 3) i) (aL D (D 7 3) i) x y e)) ↔ (∃ d : Nat, d < y + 1 ∧ ld D d = u ∧ ∃ e : Nat, e < (D 7 1).toNat ∧ mtD D (D 7 3) (aP D (D 7 3) i) (aL D (D 7 3) i) x d e) from by
      constructor
      · rintro (⟨d, d1, d2⟩ | z)
        · exact ⟨d, by omega, d2⟩
        · exact ⟨y, by omega, z⟩
      · rintro ⟨d, d1, d2⟩
        by_cases c : d = y
        · subst c; exact Or.inr d2
        · exact Or.inl ⟨d, by omega, d2⟩)]
    rfl
  · simp only [mo_meets_f5, Nat.reduceAdd]
    rw [ix_in (by omega) (by omega), g.1.m, if_neg (by omega)]
    unfold bz
    rw [if_pos tb_bz]
    rfl
end MML

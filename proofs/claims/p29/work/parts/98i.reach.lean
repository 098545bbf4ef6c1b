section LAWR
variable {D : Dr} {h : Hp} {a : Int} {R R0 : Int → Int}
/-- the law's two steps along a dimension -/
def rB (R : Int → Int) (a b x : Int) : Int := if R a < 1000000 ∧ R a + x < R b then R a + x else R b
def rA (R : Int → Int) (a b x y : Int) : Int := if rB R a b x < 1000000 ∧ R b + y < R a then R b + y else R a
def stp (R : Int → Int) (a b x y : Int) : Int → Int := fun v => if v = a then rA R a b x y else if v = b then rB R a b x else R v
/-- a dimension's lengths, up and down; X is exact -/
def wU (D : Dr) (X d : Int) : Int := vD D d + (if d = X then 0 else D 4 d)
def wN (D : Dr) (X d : Int) : Int := (if d = X then 0 else D 3 d) - vD D d
theorem eE_up {W : Int → Prop} {X d : Int} (hd : 0 ≤ d ∧ d < D 7 1) (hW : ¬ W d) : eE D W X (D 1 d) (D 2 d) (wU D X d) := ⟨d, hd, hW, Or.inl ⟨rfl, rfl, rfl⟩⟩
theorem eE_dn {W : Int → Prop} {X d : Int} (hd : 0 ≤ d ∧ d < D 7 1) (hW : ¬ W d) : eE D W X (D 2 d) (D 1 d) (wN D X d) := ⟨d, hd, hW, Or.inr ⟨rfl, rfl, rfl⟩⟩
theorem rB_le {b x : Int} : rB R a b x ≤ R b := by
  unfold rB
  split <;> omega
theorem rA_le {b x y : Int} : rA R a b x y ≤ R a := by
  unfold rA
  split <;> omega
theorem stp_le {b x y v : Int} : stp R a b x y v ≤ R v := by
  unfold stp
  by_cases c : v = a
  · rw [if_pos c, c]
    exact rA_le
  · rw [if_neg c]
    by_cases c2 : v = b
    · rw [if_pos c2, c2]
      exact rB_le
    · rw [if_neg c2]
      exact Int.le_refl _
/-- within a round: behind the first k dimensions; R0 as the round began -/
def RJ (D : Dr) (W : Int → Prop) (X s : Int) (R0 : Int → Int) (T : Int) (k : Nat) (R : Int → Int) : Prop := Tg D (eE D W X) s R (T + k) ∧ (∀ v, 0 ≤ v → v < 12 → R v ≤ R0 v) ∧ ∀ d : Int, 0 ≤ d → d < k → d < D 7 1 → ¬ W d → (Sd (eE D W X) s R0 (D 1 d) → R (D 2 d) ≤ R0 (D 1 d) + wU D X d) ∧ (Sd (eE D W X) s R0 (D 2 d) → R (D 1 d) ≤ R0 (D 2 d) + wN D X d)
theorem RJ.skip {W : Int → Prop} {X s T : Int} {k : Nat} (J : RJ D W X s R0 T k R) (hW : W k) : RJ D W X s R0 T (k + 1) R := ⟨J.1.le (by omega), J.2.1, fun d a b c n => by
  by_cases z : d = k
  · exact absurd (z ▸ hW) n
  · exact J.2.2 d a (by omega) c n⟩
theorem RJ.step (w : WF D) {W : Int → Prop} {X s T : Int} {k : Nat} (hT : 0 ≤ T ∧ T + k ≤ 399) (hk : (k : Int) < D 7 1) (hW : ¬ W k) (J : RJ D W X s R0 T k R) : RJ D W X s R0 T (k + 1) (stp R (D 1 k) (D 2 k) (wU D X k) (wN D X k)) := by
  obtain ⟨J1, J2, J3⟩ := J
  have w0 := w.1
  have dw := w.dim (d := (k : Int)) (by omega) hk
  have eu := eE_up (W := W) (X := X) (d := (k : Int)) ⟨by omega, hk⟩ hW
  have ed := eE_dn (W := W) (X := X) (d := (k : Int)) ⟨by omega, hk⟩ hW
  have bu := (eE_b w eu).2
  have bd' := (eE_b w ed).2
  obtain ⟨x, ex⟩ : ∃ x, wU D X k = x := ⟨_, rfl⟩
  obtain ⟨y, ey⟩ : ∃ y, wN D X k = y := ⟨_, rfl⟩
  obtain ⟨u, eu1⟩ : ∃ u, D 1 (k : Int) = u := ⟨_, rfl⟩
  obtain ⟨v, ev1⟩ : ∃ v, D 2 (k : Int) = v := ⟨_, rfl⟩
  rw [ex, eu1, ev1] at eu bu
  rw [ey, eu1, ev1] at ed bd'
  rw [eu1, ev1] at dw
  rw [ex, ey, eu1, ev1]
  have su : Sd (eE D W X) s R0 u → R u = R0 u := fun z => z.stay w (T := T + k) (by omega) J1 (by omega) (by omega) (J2 u (by omega) (by omega))
  have sv : Sd (eE D W X) s R0 v → R v = R0 v := fun z => z.stay w (T := T + k) (by omega) J1 (by omega) (by omega) (J2 v (by omega) (by omega))
  have fu : R u = 1000000 ∨ (-300 ≤ R u ∧ R u ≤ 8300) := by
    by_cases z : R u = 1000000
    · exact Or.inl z
    · exact Or.inr (J1.fin w (by omega) (by omega) (by omega) z).2
  have fv : R v = 1000000 ∨ (-300 ≤ R v ∧ R v ≤ 8300) := by
    by_cases z : R v = 1000000
    · exact Or.inl z
    · exact Or.inr (J1.fin w (by omega) (by omega) (by omega) z).2
  refine ⟨fun z z0 z1 => ?_, fun z z0 z1 => Int.le_trans stp_le (J2 z z0 z1), fun d d0 d1 d2 n => ?_⟩
  · unfold stp
    by_cases c : z = u
    · rw [if_pos c]
      unfold rA
      by_cases c2 : rB R u v x < 1000000 ∧ R v + y < R u
      · rw [if_pos c2, c]
        have nv : R v ≠ 1000000 := fun e => by
          have c3 := c2.1
          unfold rB at c3
          split at c3 <;> omega
        have tv := (J1 v (by omega) (by omega)).resolve_left nv
        exact Or.inr ⟨by omega, tv.2.step ed⟩
      · rw [if_neg c2, c]
        exact (J1.le (by omega)) u (by omega) (by omega)
    · rw [if_neg c]
      by_cases c1 : z = v
      · rw [if_pos c1]
        unfold rB
        by_cases c2 : R u < 1000000 ∧ R u + x < R v
        · rw [if_pos c2, c1]
          have tu := (J1 u (by omega) (by omega)).resolve_left (by omega)
          exact Or.inr ⟨by omega, tu.2.step eu⟩
        · rw [if_neg c2, c1]
          exact (J1.le (by omega)) v (by omega) (by omega)
      · rw [if_neg c1]
        exact (J1.le (by omega)) z z0 z1
  · by_cases z : d = k
    · rw [z, eu1, ev1, ex, ey]
      refine ⟨fun hs => ?_, fun hs => ?_⟩
      · have r := su hs
        have r1 := hs.1
        unfold stp
        rw [if_neg (by omega), if_pos rfl]
        unfold rB
        split <;> omega
      · have r := sv hs
        have r1 := hs.1
        have rb := rB_le (R := R) (a := u) (b := v) (x := x)
        unfold stp
        rw [if_pos rfl]
        unfold rA
        split <;> omega
    · have t := J3 d d0 (by omega) d2 n
      exact ⟨fun hs => Int.le_trans stp_le (t.1 hs), fun hs => Int.le_trans stp_le (t.2 hs)⟩
theorem RJ.rnd (w : WF D) {W : Int → Prop} {X s T : Int} {k : Nat} (hk : (k : Int) = D 7 1) (J : RJ D W X s R0 T k R) : Rnd (eE D W X) s R0 R := ⟨J.2.1, fun u v x e hs => by
  obtain ⟨d, d1, d2, d3⟩ := e
  have t := J.2.2 d d1.1 (by omega) d1.2 d2
  rcases d3 with ⟨rfl, rfl, rfl⟩ | ⟨rfl, rfl, rfl⟩
  · exact t.1 hs
  · exact t.2 hs⟩
theorem cntN : ∀ n : Nat, n < 13 → sumI (fun v => yn (v < (n : Int))) 12 = n := by decide
theorem cUn_first (w : WF D) {W : Int → Prop} {X s : Int} (hs : 0 ≤ s ∧ s < D 7 0) (h0 : Sd (eE D W X) s R s) : cUn (eE D W X) s R + 1 ≤ D 7 0 := by
  have w0 := w.1
  have key := cntN (D 7 0).toNat (by omega)
  rw [Int.toNat_of_nonneg w0.1] at key
  rw [← key]
  unfold cUn
  refine sumI_lt (v := s) 12 (fun i i0 i1 => ?_) hs.1 (by omega) ?_
  · show tb (Un (eE D W X) s R i) ≤ yn (i < D 7 0)
    by_cases c : Un (eE D W X) s R i
    · obtain ⟨⟨y, hy⟩, n⟩ := id c
      have : i < D 7 0 := by
        rcases Wk_pt w hy with z | z
        · exact absurd (z ▸ h0) n
        · exact z.2.2
      rw [tb_t c, yn_t this]
      exact Int.le_refl _
    · rw [tb_f c]
      exact yn_b.1
  · show tb (Un (eE D W X) s R s) + 1 ≤ yn (s < D 7 0)
    rw [tb_f (fun z => z.2 h0), yn_t hs.2]
    exact Int.le_refl _
end LAWR

section GRP
variable {D : Dr} {h : Hp}
/-- the difference of two points is bounded -/
def bnd (D : Dr) (a b : Int) : Prop := dd D a b ≠ 1000000
theorem bnd_trans (w : WF D) {r q p : Int} (hr : 0 ≤ r ∧ r < 12) (hq : 0 ≤ q ∧ q < 12) (hp : 0 ≤ p ∧ p < 12) (a : bnd D r q) (b : bnd D q p) : bnd D r p := by
  obtain ⟨-, x, -, x2⟩ := ((sp_dd w hr).2.1 q hq.1 hq.2).resolve_left a
  obtain ⟨-, y, -, y2⟩ := ((sp_dd w hq).2.1 p hp.1 hp.2).resolve_left b
  exact ((sp_dd w hr).low (x2.trans y2)).1
theorem bnd_refl (w : WF D) {r : Int} (hr : 0 ≤ r ∧ r < 12) : bnd D r r := ((sp_dd w hr).low Wk.nil).1
/-- the first point of its group -/
def fs (D : Dr) (p : Int) : Prop := ∀ q, 0 ≤ q → q < p → ¬ bnd D q p
noncomputable def cntF (D : Dr) (n : Nat) : Int := sumI (fun q => tb (fs D q)) n
theorem cntF_s {n : Nat} : cntF D (n + 1) = cntF D n + tb (fs D n) := rfl
theorem cntF_b (n : Nat) : 0 ≤ cntF D n ∧ cntF D n ≤ n := by
  have := sumI_le (g := fun q => tb (fs D q)) (B := 1) (n := n) (fun i _ _ => tb_b)
  unfold cntF
  omega
/-- the smallest point bound to p -/
noncomputable def smf (D : Dr) (p : Int) : Int := sr (fun q => q ≠ p ∧ ¬ bnd D q p) 0 p.toNat
theorem smf_is {p : Int} (h0 : 0 ≤ p) : (0 ≤ smf D p ∧ smf D p ≤ p) ∧ (smf D p = p ∨ bnd D (smf D p) p) ∧ ∀ q, 0 ≤ q → q < smf D p → ¬ bnd D q p := by
  obtain ⟨s1, s2, s3⟩ := sr_is (P := fun q => q ≠ p ∧ ¬ bnd D q p) (l := 0) p.toNat
  have e : smf D p = sr (fun q => q ≠ p ∧ ¬ bnd D q p) 0 p.toNat := rfl
  rw [← e] at s1 s2 s3
  refine ⟨by omega, ?_, fun q a b => (s2 q a b).2⟩
  by_cases c : smf D p = p
  · exact Or.inl c
  · exact Or.inr (Classical.byContradiction fun n => s3 (by omega) ⟨c, n⟩)
theorem smf_uniq {p x : Int} (x0 : 0 ≤ x) (x1 : x ≤ p) (a : x = p ∨ bnd D x p) (b : ∀ q, 0 ≤ q → q < x → ¬ bnd D q p) : smf D p = x := by
  obtain ⟨s1, s2, s3⟩ := smf_is (D := D) (p := p) (by omega)
  rcases Int.lt_trichotomy (smf D p) x with z | z | z
  · rcases s2 with y | y
    · omega
    · exact absurd y (b _ s1.1 z)
  · exact z
  · rcases a with y | y
    · omega
    · exact absurd y (s3 x x0 z)
theorem smf_fs {p : Int} (h0 : 0 ≤ p) : smf D p = p ↔ fs D p := by
  obtain ⟨s1, s2, s3⟩ := smf_is (D := D) h0
  constructor
  · intro e
    rw [e] at s3
    exact s3
  · intro f
    exact smf_uniq h0 (Int.le_refl _) (Or.inl rfl) f
theorem fs_smf (w : WF D) {p : Int} (h0 : 0 ≤ p) (h1 : p < 12) : fs D (smf D p) := by
  obtain ⟨s1, s2, s3⟩ := smf_is (D := D) h0
  rcases s2 with e | e
  · exact (by rw [e]; exact (smf_fs h0).mp e)
  · intro q q0 q1 q2
    exact s3 q q0 q1 (bnd_trans w ⟨q0, by omega⟩ ⟨s1.1, by omega⟩ ⟨h0, h1⟩ q2 e)
/-- the number of p's group -/
noncomputable def grp (D : Dr) (p : Int) : Int := cntF D (smf D p).toNat
theorem grp_smf (w : WF D) {p : Int} (h0 : 0 ≤ p) (h1 : p < 12) : grp D (smf D p) = grp D p := by
  have s1 := (smf_is (D := D) h0).1
  unfold grp
  rw [(smf_fs s1.1).mpr (fs_smf w h0 h1)]
/-- the rows of distances -/
def RW (D : Dr) (h : Hp) : Prop := ∀ p v, 0 ≤ p → p < D 7 0 → 0 ≤ v → v < 12 → h (113 + p.toNat) v = dd D p v
theorem bo_areBound_eq (w : WF D) (hr : RW D h) {a b : Int} (ha : 0 ≤ a ∧ a < D 7 0) (hb : 0 ≤ b ∧ b < D 7 0) : bo_areBound 111 a b h = some (tb (bnd D a b), h) := by
  have w0 := w.1
  have bz1 : bz 1 = (fun (E : O Int) => E) := funext fun E => if_pos (Or.inr rfl)
  have bz0 : bz 0 = (fun (E : O Int) => E) := funext fun E => if_pos (Or.inl rfl)
  simp only [bo_areBound, bo_areBound_b18, bz0, bz1, Nat.reduceAdd]
  rw [ix_in ha.1 (by omega), ix_in hb.1 (by omega), hr a b ha.1 ha.2 hb.1 (by omega)]
  by_cases q : dd D a b = 1000000
  · rw [if_pos q, tb_f (fun z => z q)]
  · rw [if_neg q, tb_t (show bnd D a b from q)]
/-- groups of the first p points -/
noncomputable def hfg (D : Dr) (h : Hp) (p : Nat) : Hp := fun c j => if c = 125 ∧ 0 ≤ j ∧ j < p then grp D j else if c = 111 ∧ j = 3 then cntF D p else h c j
theorem bo_formGroups_eq (w : WF D) (hr : RW D h) : bo_formGroups 111 (D 7 0) h = some ((), hfg D h (D 7 0).toNat) := by
  have w0 := w.1
  have e0 : hu h 111 3 0 = hfg D h 0 := by
    funext c j
    have z : cntF D 0 = 0 := rfl
    unfold hu hfg
    rw [z, if_neg (show ¬ (c = 125 ∧ 0 ≤ j ∧ j < ((0 : Nat) : Int)) by omega)]
  unfold bo_formGroups
  rw [lt_eq, e0]
  refine it1_seq (F := bo_formGroups_f7 111 (D 7 0)) (fun k => (k : Int)) (fun k => hfg D h k) (D 7 0).toNat (fun k x hx => ?_) (fun k => ?_) fuel 0 (Nat.zero_le _) (by unfold fuel; omega)
  · have hx' : 0 ≤ (x : Int) ∧ (x : Int) < D 7 0 := by omega
    have hrx : RW D (hfg D h x) := fun p v p0 p1 v0 v1 => by
      unfold hfg
      rw [if_neg (by omega), if_neg (by omega)]
      exact hr p v p0 p1 v0 v1
    obtain ⟨s1, s2, s3⟩ := smf_is (D := D) hx'.1
    have cb := cntF_b (D := D) x
    have e3 : hfg D h x 111 3 = cntF D x := by
      unfold hfg
      rw [if_neg (by omega), if_pos ⟨rfl, rfl⟩]
    have nx : ∀ G : Hp, (∀ c j, G c j = if c = 125 ∧ j = x then grp D x else if c = 111 ∧ j = 3 then cntF D (x + 1) else hfg D h x c j) → G = hfg D h (x + 1) := fun G eG => by
      funext c j
      rw [eG]
      unfold hfg
      by_cases q : c = 125 ∧ j = x
      · rw [if_pos q, if_pos (show c = 125 ∧ 0 ≤ j ∧ j < ((x + 1 : Nat) : Int) from ⟨q.1, by omega, by omega⟩), q.2]
      · rw [if_neg q]
        by_cases q2 : c = 111 ∧ j = 3
        · rw [if_pos q2, if_neg (by omega), if_pos q2]
        · rw [if_neg q2, if_neg q2]
          by_cases q3 : c = 125 ∧ 0 ≤ j ∧ j < x
          · rw [if_pos q3, if_pos (show c = 125 ∧ 0 ≤ j ∧ j < ((x + 1 : Nat) : Int) from ⟨q3.1, by omega, by omega⟩)]
          · rw [if_neg q3, if_neg (by omega), if_neg q2]
    have b34 : bo_formGroups_b34 111 (D 7 0) k x (smf D x) (hfg D h x) = k ((x + 1 : Nat) : Int) (hfg D h (x + 1)) := by
      simp only [bo_formGroups_b34, bo_formGroups_b74, Nat.reduceAdd]
      by_cases q : smf D x = x
      · have f := (smf_fs hx'.1).mp q
        rw [if_pos q, ix_in hx'.1 (by omega), lt_eq, e3]
        have e3' : hu (hfg D h x) 125 x (cntF D x) 111 3 = cntF D x := by rw [hu_o (by decide), e3]
        rw [e3', ck_in ⟨by omega, by omega⟩, lt_eq, ck_in ⟨by omega, by omega⟩]
        rw [nx (hu (hu (hfg D h x) 125 x (cntF D x)) 111 3 (cntF D x + 1)) (fun c j => by
          have eg : grp D x = cntF D x := by
            unfold grp
            rw [q]
            congr 1
          rw [cntF_s, tb_t f, eg]
          unfold hu
          by_cases c1 : c = 111 ∧ j = 3
          · rw [if_pos c1, if_neg (by omega), if_pos c1]
          · rw [if_neg c1, if_neg c1])]
        rfl
      · have f : ¬ fs D x := fun z => q ((smf_fs hx'.1).mpr z)
        have eg : hfg D h x 125 (smf D x) = grp D x := by
          unfold hfg
          rw [if_pos (show (125 : Nat) = 125 ∧ 0 ≤ smf D x ∧ smf D x < (x : Int) from ⟨rfl, s1.1, by omega⟩)]
          exact grp_smf w hx'.1 (by omega)
        rw [if_neg q, ix_in s1.1 (by omega), ix_in hx'.1 (by omega), lt_eq, eg, ck_in ⟨by omega, by omega⟩]
        rw [nx (hu (hfg D h x) 125 x (grp D x)) (fun c j => by
          rw [cntF_s, tb_f f, Int.add_zero]
          unfold hu
          by_cases c1 : c = 125 ∧ j = x
          · rw [if_pos c1, if_pos c1]
          · rw [if_neg c1, if_neg c1]
            by_cases c2 : c = 111 ∧ j = 3
            · rw [if_pos c2, c2.1, c2.2, e3]
            · rw [if_neg c2])]
        rfl
    unfold bo_formGroups_f7
    rw [if_pos hx'.2, ← b34]
    refine it2_find (F := bo_formGroups_f14 111 (D 7 0) k) (fun _ => (x : Int)) (fun t => (t : Int)) (fun _ => hfg D h x) x (fun t => (t : Int) = x ∨ bnd D t x) (fun k2 t ht hp => ?_) (fun k2 t ht hp hy => ?_) (fun k2 hy => ?_) fuel 0 (Nat.zero_le _) (by unfold fuel; omega) (fun y g => absurd g (Nat.not_lt_zero _))
    · unfold bo_formGroups_f14
      rw [if_pos (by omega), bd_eq (bo_areBound_eq w hrx (by omega) hx'), tb_f (fun z => hp (Or.inr z)), if_pos rfl, ck_in ⟨by omega, by omega⟩]
      rfl
    · have e : smf D x = t := smf_uniq (by omega) (by omega) hp (fun q q0 q1 => fun z => hy q.toNat (by omega) (Or.inr (by rw [Int.toNat_of_nonneg q0]; exact z)))
      unfold bo_formGroups_f14
      rw [if_pos (by omega), bd_eq (bo_areBound_eq w hrx (by omega) hx'), tb_t (hp.resolve_left (by omega)), if_neg (by decide), e]
    · have e : smf D x = x := smf_uniq (by omega) (by omega) (Or.inl rfl) (fun q q0 q1 => fun z => hy q.toNat (by omega) (Or.inr (by rw [Int.toNat_of_nonneg q0]; exact z)))
      unfold bo_formGroups_f14
      rw [if_neg (by omega), e]
  · unfold bo_formGroups_f7
    rw [if_neg (by omega)]
end GRP

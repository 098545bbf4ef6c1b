section TAKEN
variable {h : Hp}
/-- a member of unit u and a dimension of lane l overlap -/
def mt (h : Hp) (th : Nat) (l : Int) (x y : Int) : Prop := h (th + 4) y = l ∧ ¬ h (th + 3) x < h (th + 2) y ∧ ¬ h (th + 3) y < h (th + 2) x
theorem isTaken_in {th : Nat} {l u m : Int} (hm : 0 ≤ m ∧ m ≤ 16) (e15 : h th 15 = m) (k2 : Int → Hp → O Int) {x : Int} (hx : 0 ≤ x ∧ x < m) :
    (h (th + 8) x = u ∧ (∃ y : Nat, y < m.toNat ∧ mt h th l x y) → iter2 (la_isTaken_f13 th l u k2) fuel x 0 h = some (1, h)) ∧ (¬ (h (th + 8) x = u ∧ (∃ y : Nat, y < m.toNat ∧ mt h th l x y)) → iter2 (la_isTaken_f13 th l u k2) fuel x 0 h = k2 (x + 1) h) := by
  have b83 : la_isTaken_b83 th l u k2 x h = k2 (x + 1) h := by
    unfold la_isTaken_b83
    rw [ck_in ⟨by omega, by omega⟩]
  have b77 : ∀ (k : Int → Int → Hp → O Int) (y : Nat), y < m.toNat → la_isTaken_b77 th l u k x y h = k x ((y + 1 : Nat) : Int) h := fun k y hy => by
    unfold la_isTaken_b77
    rw [ck_in ⟨by omega, by omega⟩]
    rfl
  by_cases q0 : h (th + 8) x = u
  · have hs : ∀ (k : Int → Int → Hp → O Int) (y : Nat), y < m.toNat → ¬ mt h th l x y → la_isTaken_f13 th l u k2 k x y h = k x ((y + 1 : Nat) : Int) h := fun k y hy n => by
      unfold la_isTaken_f13
      rw [ix_in hx.1 (by omega), if_pos q0, e15, if_pos (by omega), ix_in (by omega) (by omega)]
      by_cases q1 : h (th + 4) y = l
      · rw [if_pos q1, ix_in (by omega) (by omega), ix_in hx.1 (by omega)]
        by_cases q2 : h (th + 3) x < h (th + 2) y
        · rw [if_pos q2, b77 k y hy]
        · rw [if_neg q2, ix_in hx.1 (by omega), ix_in (by omega) (by omega)]
          by_cases q3 : h (th + 3) y < h (th + 2) x
          · rw [if_pos q3, b77 k y hy]
          · exact absurd ⟨q1, q2, q3⟩ n
      · rw [if_neg q1, b77 k y hy]
    have hf : ∀ (k : Int → Int → Hp → O Int) (y : Nat), y < m.toNat → mt h th l x y → la_isTaken_f13 th l u k2 k x y h = some (1, h) := fun k y hy n => by
      unfold la_isTaken_f13
      rw [ix_in hx.1 (by omega), if_pos q0, e15, if_pos (by omega), ix_in (by omega) (by omega), if_pos n.1, ix_in (by omega) (by omega), ix_in hx.1 (by omega), if_neg n.2.1, ix_in hx.1 (by omega), ix_in (by omega) (by omega), if_neg n.2.2]
    have hl : ∀ (k : Int → Int → Hp → O Int), la_isTaken_f13 th l u k2 k x (m.toNat : Nat) h = k2 (x + 1) h := fun k => by
      unfold la_isTaken_f13
      rw [ix_in hx.1 (by omega), if_pos q0, e15, if_neg (by omega), b83]
    refine ⟨fun z => ?_, fun z => ?_⟩
    · exact it2_find (fun _ => x) (fun k => (k : Int)) (fun _ => h) m.toNat (fun y => mt h th l x y) (R := some (1, h)) hs (fun k y a b _ => hf k y a b) (fun k a => absurd z.2 (fun ⟨y, a1, a2⟩ => a y a1 a2)) fuel 0 (Nat.zero_le _) (by unfold fuel; omega) (fun y g => absurd g (Nat.not_lt_zero _))
    · exact it2_find (fun _ => x) (fun k => (k : Int)) (fun _ => h) m.toNat (fun y => mt h th l x y) (R := k2 (x + 1) h) hs (fun k y a b _ => absurd ⟨q0, y, a, b⟩ z) (fun k _ => hl k) fuel 0 (Nat.zero_le _) (by unfold fuel; omega) (fun y g => absurd g (Nat.not_lt_zero _))
  · refine ⟨fun z => absurd z.1 q0, fun _ => ?_⟩
    show la_isTaken_f13 th l u k2 _ x 0 h = _
    unfold la_isTaken_f13
    rw [ix_in hx.1 (by omega), if_neg q0, b83]
/-- lane l is taken for unit u -/
def tkn (h : Hp) (th : Nat) (l u m : Int) : Prop := ∃ x : Nat, x < m.toNat ∧ h (th + 8) x = u ∧ ∃ y : Nat, y < m.toNat ∧ mt h th l x y
theorem la_isTaken_eq {th : Nat} {l u m : Int} (hm : 0 ≤ m ∧ m ≤ 16) (e15 : h th 15 = m) : (tkn h th l u m → la_isTaken th l u h = some (1, h)) ∧ (¬ tkn h th l u m → la_isTaken th l u h = some (0, h)) := by
  have inn := fun (k2 : Int → Hp → O Int) (x : Nat) (hx : x < m.toNat) => isTaken_in (l := l) (u := u) hm e15 k2 (x := (x : Int)) ⟨by omega, by omega⟩
  have hs : ∀ (k : Int → Hp → O Int) (x : Nat), x < m.toNat → ¬ (h (th + 8) x = u ∧ ∃ y : Nat, y < m.toNat ∧ mt h th l x y) → la_isTaken_f2 th l u k x h = k ((x + 1 : Nat) : Int) h := fun k x hx n => by
    unfold la_isTaken_f2
    rw [e15, if_pos (by omega), (inn k x hx).2 n]
    rfl
  have hf : ∀ (k : Int → Hp → O Int) (x : Nat), x < m.toNat → (h (th + 8) x = u ∧ ∃ y : Nat, y < m.toNat ∧ mt h th l x y) → la_isTaken_f2 th l u k x h = some (1, h) := fun k x hx n => by
    unfold la_isTaken_f2
    rw [e15, if_pos (by omega), (inn k x hx).1 n]
  have hl : ∀ (k : Int → Hp → O Int), la_isTaken_f2 th l u k (m.toNat : Nat) h = some (0, h) := fun k => by
    unfold la_isTaken_f2
    rw [e15, if_neg (by omega)]
  unfold la_isTaken
  refine ⟨fun z => ?_, fun z => ?_⟩
  · exact it1_find (fun k => (k : Int)) (fun _ => h) m.toNat (fun x => h (th + 8) x = u ∧ ∃ y : Nat, y < m.toNat ∧ mt h th l x y) (R := some (1, h)) hs (fun k x a b _ => hf k x a b) (fun k a => by
      obtain ⟨x, b1, b2⟩ := z
      exact absurd b2 (a x b1)) fuel 0 (Nat.zero_le _) (by unfold fuel; omega) (fun y g => absurd g (Nat.not_lt_zero _))
  · exact it1_find (fun k => (k : Int)) (fun _ => h) m.toNat (fun x => h (th + 8) x = u ∧ ∃ y : Nat, y < m.toNat ∧ mt h th l x y) (R := some (0, h)) hs (fun k x a b _ => absurd ⟨x, a, b⟩ z) (fun k _ => hl k) fuel 0 (Nat.zero_le _) (by unfold fuel; omega) (fun y g => absurd g (Nat.not_lt_zero _))
end TAKEN

section WPR
def wp {α : Type} (o : O α) (Q : α → Hp → Prop) : Prop := ∃ r h, o = some (r, h) ∧ Q r h
variable {α β : Type} {Q : α → Hp → Prop} {P : β → Hp → Prop}
theorem wp_ret {r : α} {h : Hp} (hq : Q r h) : wp (some (r, h)) Q := ⟨r, h, rfl, hq⟩
theorem wp_of {o : O α} {r : α} {h : Hp} (he : o = some (r, h)) (hq : Q r h) : wp o Q := ⟨r, h, he, hq⟩
theorem wp_mono {o : O α} {Q' : α → Hp → Prop} (hw : wp o Q) (hq : ∀ r h, Q r h → Q' r h) : wp o Q' := by
  obtain ⟨r, h, h1, h2⟩ := hw
  exact ⟨r, h, h1, hq r h h2⟩
theorem ck_in {z : Int} {E : Option β} (h : inR z) : ck z E = E := if_pos h
theorem ix_in {i n : Int} {E : Option β} (h0 : 0 ≤ i) (h1 : i < n) : ix i n E = E := if_pos ⟨h0, h1⟩
theorem dv_in {x y : Int} {E : Option β} (h0 : 0 ≤ x) (h1 : 0 < y) : dv x y E = E := if_pos ⟨h0, h1⟩
theorem shc_in {x y : Int} {E : Option β} (h0 : 0 ≤ x) (h1 : 0 ≤ y) (h2 : y < 31) : shc x y E = E := if_pos ⟨h0, h1, h2⟩
theorem orc_in {x y : Int} {E : Option β} (h0 : 0 ≤ x) (h1 : 0 ≤ y) : orc x y E = E := if_pos ⟨h0, h1⟩
theorem lt_eq {h : Hp} {K : Hp → β} : lt h K = K h := rfl
theorem bd_eq {o : O β} {r : β} {h : Hp} {K : β → Hp → Option α} (he : o = some (r, h)) : bd o K = K r h := by rw [he]; rfl
theorem wp_bd {o : O β} {K : β → Hp → O α} (hw : wp o P) (hk : ∀ r h, P r h → wp (K r h) Q) : wp (bd o K) Q := by
  obtain ⟨r, h, h1, h2⟩ := hw
  rw [bd_eq h1]
  exact hk r h h2
/-- loops by a number that falls -/
theorem wp_it0 {F : (Hp → O α) → Hp → O α} (I : Hp → Prop) (μ : Hp → Nat) (hs : ∀ h, I h → ∀ k, (∀ h', I h' → μ h' < μ h → wp (k h') Q) → wp (F k h) Q) : ∀ (n : Nat) (h : Hp), I h → μ h < n → wp (iter0 F n h) Q
  | 0, h, _, hn => absurd hn (Nat.not_lt_zero _)
  | n + 1, h, hi, hn => hs h hi _ (fun h' hi' hl => wp_it0 I μ hs n h' hi' (by omega))
theorem wp_it1 {F : (Int → Hp → O α) → Int → Hp → O α} (I : Int → Hp → Prop) (μ : Int → Hp → Nat) (hs : ∀ x h, I x h → ∀ k, (∀ x' h', I x' h' → μ x' h' < μ x h → wp (k x' h') Q) → wp (F k x h) Q) : ∀ (n : Nat) (x : Int) (h : Hp), I x h → μ x h < n → wp (iter1 F n x h) Q
  | 0, _, _, _, hn => absurd hn (Nat.not_lt_zero _)
  | n + 1, x, h, hi, hn => hs x h hi _ (fun x' h' hi' hl => wp_it1 I μ hs n x' h' hi' (by omega))
theorem wp_it2 {F : (Int → Int → Hp → O α) → Int → Int → Hp → O α} (I : Int → Int → Hp → Prop) (μ : Int → Int → Hp → Nat) (hs : ∀ x y h, I x y h → ∀ k, (∀ x' y' h', I x' y' h' → μ x' y' h' < μ x y h → wp (k x' y' h') Q) → wp (F k x y h) Q) : ∀ (n : Nat) (x y : Int) (h : Hp), I x y h → μ x y h < n → wp (iter2 F n x y h) Q
  | 0, _, _, _, _, hn => absurd hn (Nat.not_lt_zero _)
  | n + 1, x, y, h, hi, hn => hs x y h hi _ (fun x' y' h' hi' hl => wp_it2 I μ hs n x' y' h' hi' (by omega))
theorem wp_it3 {F : (Int → Int → Int → Hp → O α) → Int → Int → Int → Hp → O α} (I : Int → Int → Int → Hp → Prop) (μ : Int → Int → Int → Hp → Nat) (hs : ∀ x y z h, I x y z h → ∀ k, (∀ x' y' z' h', I x' y' z' h' → μ x' y' z' h' < μ x y z h → wp (k x' y' z' h') Q) → wp (F k x y z h) Q) : ∀ (n : Nat) (x y z : Int) (h : Hp), I x y z h → μ x y z h < n → wp (iter3 F n x y z h) Q
  | 0, _, _, _, _, _, hn => absurd hn (Nat.not_lt_zero _)
  | n + 1, x, y, z, h, hi, hn => hs x y z h hi _ (fun x' y' z' h' hi' hl => wp_it3 I μ hs n x' y' z' h' hi' (by omega))
theorem wp_it4 {F : (Int → Int → Int → Int → Hp → O α) → Int → Int → Int → Int → Hp → O α} (I : Int → Int → Int → Int → Hp → Prop) (μ : Int → Int → Int → Int → Hp → Nat) (hs : ∀ x y z w h, I x y z w h → ∀ k, (∀ x' y' z' w' h', I x' y' z' w' h' → μ x' y' z' w' h' < μ x y z w h → wp (k x' y' z' w' h') Q) → wp (F k x y z w h) Q) : ∀ (n : Nat) (x y z w : Int) (h : Hp), I x y z w h → μ x y z w h < n → wp (iter4 F n x y z w h) Q
  | 0, _, _, _, _, _, _, hn => absurd hn (Nat.not_lt_zero _)
  | n + 1, x, y, z, w, h, hi, hn => hs x y z w h hi _ (fun x' y' z' w' h' hi' hl => wp_it4 I μ hs n x' y' z' w' h' hi' (by omega))
/-- loops whose numbers and heap are known at each turn -/
theorem it1_seq {F : (Int → Hp → O α) → Int → Hp → O α} (a : Nat → Int) (H : Nat → Hp) (N : Nat) {R : O α} (hs : ∀ (k : Int → Hp → O α) (x : Nat), x < N → F k (a x) (H x) = k (a (x + 1)) (H (x + 1))) (hl : ∀ k, F k (a N) (H N) = R) : ∀ (n x : Nat), x ≤ N → N - x < n → iter1 F n (a x) (H x) = R
  | 0, _, _, hn => absurd hn (Nat.not_lt_zero _)
  | n + 1, x, hx, hn => by
    show F (iter1 F n) (a x) (H x) = R
    rcases Nat.lt_or_ge x N with q | q
    · rw [hs _ x q]
      exact it1_seq a H N hs hl n (x + 1) q (by omega)
    · rw [show x = N by omega]
      exact hl _
theorem it2_seq {F : (Int → Int → Hp → O α) → Int → Int → Hp → O α} (a b : Nat → Int) (H : Nat → Hp) (N : Nat) {R : O α} (hs : ∀ (k : Int → Int → Hp → O α) (x : Nat), x < N → F k (a x) (b x) (H x) = k (a (x + 1)) (b (x + 1)) (H (x + 1))) (hl : ∀ k, F k (a N) (b N) (H N) = R) : ∀ (n x : Nat), x ≤ N → N - x < n → iter2 F n (a x) (b x) (H x) = R
  | 0, _, _, hn => absurd hn (Nat.not_lt_zero _)
  | n + 1, x, hx, hn => by
    show F (iter2 F n) (a x) (b x) (H x) = R
    rcases Nat.lt_or_ge x N with q | q
    · rw [hs _ x q]
      exact it2_seq a b H N hs hl n (x + 1) q (by omega)
    · rw [show x = N by omega]
      exact hl _
theorem it3_seq {F : (Int → Int → Int → Hp → O α) → Int → Int → Int → Hp → O α} (a b c : Nat → Int) (H : Nat → Hp) (N : Nat) {R : O α} (hs : ∀ (k : Int → Int → Int → Hp → O α) (x : Nat), x < N → F k (a x) (b x) (c x) (H x) = k (a (x + 1)) (b (x + 1)) (c (x + 1)) (H (x + 1))) (hl : ∀ k, F k (a N) (b N) (c N) (H N) = R) : ∀ (n x : Nat), x ≤ N → N - x < n → iter3 F n (a x) (b x) (c x) (H x) = R
  | 0, _, _, hn => absurd hn (Nat.not_lt_zero _)
  | n + 1, x, hx, hn => by
    show F (iter3 F n) (a x) (b x) (c x) (H x) = R
    rcases Nat.lt_or_ge x N with q | q
    · rw [hs _ x q]
      exact it3_seq a b c H N hs hl n (x + 1) q (by omega)
    · rw [show x = N by omega]
      exact hl _
/-- sums -/
def sumI (g : Int → Int) : Nat → Int
  | 0 => 0
  | n + 1 => sumI g n + g n
theorem sumI_le {g : Int → Int} {B : Int} : ∀ {n : Nat}, (∀ i : Int, 0 ≤ i → i < n → 0 ≤ g i ∧ g i ≤ B) → 0 ≤ sumI g n ∧ sumI g n ≤ B * n
  | 0, _ => by simp [sumI]
  | n + 1, hb => by
    have h1 := sumI_le (n := n) (fun i h0 h1 => hb i h0 (by omega))
    have h2 := hb n (by omega) (by omega)
    have h3 : B * ((n + 1 : Nat) : Int) = B * (n : Int) + B := by rw [Int.natCast_add, Int.mul_add]; simp
    show 0 ≤ sumI g n + g n ∧ sumI g n + g n ≤ _
    rw [h3]
    omega
theorem sumI_congr {g g' : Int → Int} : ∀ {n : Nat}, (∀ i : Int, 0 ≤ i → i < n → g i = g' i) → sumI g n = sumI g' n
  | 0, _ => rfl
  | n + 1, hb => by
    show sumI g n + g n = sumI g' n + g' n
    rw [sumI_congr (fun i h0 h1 => hb i h0 (by omega)), hb n (by omega) (by omega)]
end WPR
section DRW
/-- a drawing: row 0 positions, 1 first ends, 2 second ends, 3 minus, 4 plus, 5 chains, 6 least lanes; row 7: how many points, how many dimensions, letter, arrow -/
abbrev Dr : Type := Nat → Int → Int
def dC (h : Hp) (th : Nat) : Dr := fun r i => if r = 7 then h th (7 + i) else h (th + 1 + r) i
def Eqv (D E : Dr) : Prop := (∀ i, 0 ≤ i → i < 4 → D 7 i = E 7 i) ∧ (∀ i, 0 ≤ i → i < D 7 0 → D 0 i = E 0 i) ∧ (∀ r, 1 ≤ r → r ≤ 6 → ∀ d, 0 ≤ d → d < D 7 1 → D r d = E r d)
def WF (D : Dr) : Prop := (0 ≤ D 7 0 ∧ D 7 0 ≤ 12) ∧ (0 ≤ D 7 1 ∧ D 7 1 ≤ 16) ∧ (1 ≤ D 7 2 ∧ D 7 2 ≤ 9) ∧ (1 ≤ D 7 3 ∧ D 7 3 ≤ 9) ∧ (∀ i, 0 ≤ i → i < D 7 0 → 0 ≤ D 0 i ∧ D 0 i ≤ 300) ∧ (∀ i j, 0 ≤ i → i < j → j < D 7 0 → D 0 i < D 0 j) ∧
  (∀ d, 0 ≤ d → d < D 7 1 → (0 ≤ D 1 d ∧ D 1 d < D 2 d ∧ D 2 d < D 7 0) ∧ (0 ≤ D 3 d ∧ D 3 d ≤ 20) ∧ (0 ≤ D 4 d ∧ D 4 d ≤ 20) ∧ (0 ≤ D 5 d ∧ D 5 d ≤ 5) ∧ (0 ≤ D 6 d ∧ D 6 d ≤ 9))
theorem Eqv.refl (D : Dr) : Eqv D D := ⟨fun _ _ _ => rfl, fun _ _ _ => rfl, fun _ _ _ _ _ _ => rfl⟩
theorem Eqv.symm {D E : Dr} (h : Eqv D E) : Eqv E D := by
  have h0 := h.1 0 (by omega) (by omega)
  have h1 := h.1 1 (by omega) (by omega)
  exact ⟨fun i a b => (h.1 i a b).symm, fun i a b => (h.2.1 i a (by omega)).symm, fun r a b d c e => (h.2.2 r a b d c (by omega)).symm⟩
theorem Eqv.trans {D E F : Dr} (h : Eqv D E) (g : Eqv E F) : Eqv D F := by
  have h0 := h.1 0 (by omega) (by omega)
  have h1 := h.1 1 (by omega) (by omega)
  exact ⟨fun i a b => (h.1 i a b).trans (g.1 i a b), fun i a b => (h.2.1 i a b).trans (g.2.1 i a (by omega)), fun r a b d c e => (h.2.2 r a b d c e).trans (g.2.2 r a b d c (by omega))⟩
theorem WF.eqv {D E : Dr} (hw : WF D) (h : Eqv D E) : WF E := by
  obtain ⟨w1, w2, w3, w4, w5, w6, w7⟩ := hw
  have h0 := h.1 0 (by omega) (by omega)
  have h1 := h.1 1 (by omega) (by omega)
  have h2 := h.1 2 (by omega) (by omega)
  have h3 := h.1 3 (by omega) (by omega)
  refine ⟨by omega, by omega, by omega, by omega, fun i a b => ?_, fun i j a b c => ?_, fun d a b => ?_⟩
  · rw [← h.2.1 i a (by omega)]
    exact w5 i a (by omega)
  · rw [← h.2.1 i a (by omega), ← h.2.1 j (by omega) (by omega)]
    exact w6 i j a b (by omega)
  · have q := w7 d a (by omega)
    rw [← h.2.2 1 (by omega) (by omega) d a (by omega), ← h.2.2 2 (by omega) (by omega) d a (by omega), ← h.2.2 3 (by omega) (by omega) d a (by omega), ← h.2.2 4 (by omega) (by omega) d a (by omega), ← h.2.2 5 (by omega) (by omega) d a (by omega), ← h.2.2 6 (by omega) (by omega) d a (by omega), ← h0]
    exact q
end DRW

section START0
variable {h : Hp}
theorem hz_o {a c : Nat} (n : c ≠ a) : hz h a c = h c := funext fun j => if_neg n
theorem hz_s {a : Nat} (j : Int) : hz h a a j = 0 := if_pos rfl
theorem dr_init_wp {th : Nat} : wp (dr_init th h) (fun _ h' => (∀ c, (c < th ∨ th + 7 < c) → h' c = h c) ∧ h' th 7 = 0 ∧ h' th 8 = 0 ∧ h' th 9 = 4 ∧ h' th 10 = 3) := by
  unfold dr_init
  simp only [lt_eq]
  refine wp_ret ⟨fun c z => funext fun j => ?_, ?_, ?_, ?_, ?_⟩
  · rw [hu_o (by omega), hu_o (by omega), hu_o (by omega), hu_o (by omega), hz_o (by omega), hz_o (by omega), hz_o (by omega), hz_o (by omega), hz_o (by omega), hz_o (by omega), hz_o (by omega)]
  · rw [hu_j _ (by decide), hu_j _ (by decide), hu_j _ (by decide), hu_s]
  · rw [hu_j _ (by decide), hu_j _ (by decide), hu_s]
  · rw [hu_j _ (by decide), hu_s]
  · rw [hu_s]
theorem hi_init_wp : wp (hi_init 9 h) (fun _ h' => (∀ c, (c < 9 ∨ 74 < c) → h' c = h c) ∧ h' 9 1 = 0 ∧ h' 9 2 = 0) := by
  unfold hi_init
  rw [lt_eq, lt_eq, lt_eq]
  have e1 : hu (hu (hz h (9 + 1)) 9 1 0) 9 2 0 9 1 = 0 := by rw [hu_j _ (by decide), hu_s]
  have e2 : hu (hu (hz h (9 + 1)) 9 1 0) 9 2 0 9 2 = 0 := hu_s
  have e3 : ∀ c, (c < 9 ∨ 74 < c) → hu (hu (hz h (9 + 1)) 9 1 0) 9 2 0 c = h c := fun c z => funext fun j => by
    rw [hu_o (by omega), hu_o (by omega), hz_o (by omega)]
  generalize hu (hu (hz h (9 + 1)) 9 1 0) 9 2 0 = g at *
  refine wp_it1 (fun x h' => (0 ≤ x ∧ x ≤ 8) ∧ (∀ c, (c < 9 ∨ 74 < c) → h' c = h c) ∧ h' 9 1 = 0 ∧ h' 9 2 = 0) (fun x _ => (8 - x).toNat) (fun x h' hI k hk => ?_) fuel _ _ ⟨by omega, e3, e1, e2⟩ (by unfold fuel; omega)
  obtain ⟨hx, f, a1, a2⟩ := hI
  unfold hi_init_f25
  by_cases q : x < 8
  · rw [if_pos q, lt_eq]
    refine wp_bd dr_init_wp (fun _ h2 hq => ?_)
    have fr : ∀ c, (c < 11 ∨ 74 < c) → h2 c = h' c := fun c z => by
      rw [hq.1 c (by omega), hz_o (by omega)]
    rw [ck_in ⟨by omega, by omega⟩]
    exact hk _ _ ⟨by omega, fun c z => by rw [fr c (by omega), f c z], by rw [fr 9 (by decide)]; exact a1, by rw [fr 9 (by decide)]; exact a2⟩ (by omega)
  · rw [if_neg q]
    exact wp_ret ⟨f, a1, a2⟩
theorem tr_init_wp : wp (tr_init 75 h) (fun _ h' => (∀ c, (c < 75 ∨ 84 < c) → h' c = h c) ∧ h' 75 2 = 0 ∧ h' 75 3 = 0 ∧ ∀ j, h' 76 j = 0) := by
  unfold tr_init
  simp only [lt_eq]
  refine wp_bd dr_init_wp (fun _ h2 hq => ?_)
  have fr : ∀ c, (c < 75 ∨ 84 < c) → h2 c = h c := fun c z => by
    rw [hq.1 c (by omega), hz_o (by omega), hz_o (by omega)]
  have f76 : ∀ j, h2 76 j = 0 := fun j => by
    rw [hq.1 76 (by decide), hz_o (by decide)]
    exact hz_s j
  refine wp_ret ⟨fun c z => funext fun j => ?_, ?_, ?_, fun j => ?_⟩
  · rw [hu_o (by omega), hu_o (by omega), hu_o (by omega), hu_o (by omega), hu_o (by omega), fr c z]
  · rw [hu_j _ (by decide), hu_j _ (by decide), hu_j _ (by decide), hu_j _ (by decide), hu_s]
  · rw [hu_j _ (by decide), hu_j _ (by decide), hu_j _ (by decide), hu_s]
  · rw [hu_o (by decide), hu_o (by decide), hu_o (by decide), hu_o (by decide), hu_o (by decide), f76]
theorem la_init_wp {th : Nat} : wp (la_init th h) (fun _ h' => ∀ c, (c < th ∨ th + 12 < c) → h' c = h c) := by
  unfold la_init
  simp only [lt_eq]
  refine wp_ret (fun c z => funext fun j => ?_)
  rw [hu_o (by omega), hz_o (by omega), hz_o (by omega), hz_o (by omega), hz_o (by omega), hz_o (by omega), hz_o (by omega), hu_o (by omega), hu_o (by omega), hu_o (by omega), hz_o (by omega), hz_o (by omega), hz_o (by omega), hz_o (by omega), hz_o (by omega), hz_o (by omega)]
theorem bo_init_wp : wp (bo_init 111 h) (fun _ h' => ∀ c, (c < 111 ∨ 131 < c) → h' c = h c) := by
  unfold bo_init
  simp only [lt_eq]
  refine wp_ret (fun c z => funext fun j => ?_)
  rw [hz_o (by omega), hz_o (by omega), hz_o (by omega), hz_o (by omega), hz_o (by omega), hu_o (by omega), hu_o (by omega), hu_o (by omega), hz_o (by omega), hz_o (by omega)]
  unfold hzr
  rw [if_neg (by omega)]
theorem dl_init_wp : wp (dl_init 0 h) (fun _ h' => (∀ c, 131 < c → h' c = h c) ∧ (h' 1 7 = 0 ∧ h' 1 8 = 0 ∧ h' 1 9 = 4 ∧ h' 1 10 = 3) ∧ (h' 9 1 = 0 ∧ h' 9 2 = 0) ∧ (h' 75 2 = 0 ∧ h' 75 3 = 0 ∧ ∀ j, h' 76 j = 0) ∧ h' 0 6 = 0 ∧ h' 0 7 = 0) := by
  have bz0 : bz 0 = (fun (E : O Unit) => E) := funext fun E => if_pos (Or.inl rfl)
  unfold dl_init
  rw [lt_eq]
  refine wp_bd dr_init_wp (fun _ h2 q2 => ?_)
  rw [lt_eq]
  refine wp_bd hi_init_wp (fun _ h4 q4 => ?_)
  rw [lt_eq]
  refine wp_bd tr_init_wp (fun _ h6 q6 => ?_)
  rw [lt_eq]
  refine wp_bd la_init_wp (fun _ h8 q8 => ?_)
  rw [lt_eq]
  refine wp_bd la_init_wp (fun _ h10 q10 => ?_)
  rw [lt_eq]
  refine wp_bd bo_init_wp (fun _ h12 q12 => ?_)
  rw [bz0, lt_eq, lt_eq]
  have a12 : ∀ c, c < 85 → h12 c = h6 c := fun c z => by
    rw [q12 c (by omega), hz_o (by omega), q10 c (by omega), hz_o (by omega), q8 c (by omega), hz_o (by omega)]
  have a6 : ∀ c, c < 75 → h12 c = h4 c := fun c z => by
    rw [a12 c (by omega), q6.1 c (by omega), hz_o (by omega)]
  have a4 : ∀ c, c < 9 → h12 c = h2 c := fun c z => by
    rw [a6 c (by omega), q4.1 c (by omega), hz_o (by omega)]
  have e : ∀ c, c ≠ 0 → hu (hu h12 0 6 0) 0 7 0 c = h12 c := fun c n => funext fun j => by rw [hu_o n, hu_o n]
  refine wp_ret ⟨fun c z => ?_, ?_, ?_, ?_, ?_, hu_s⟩
  · rw [e c (by omega), q12 c (by omega), hz_o (by omega), q10 c (by omega), hz_o (by omega), q8 c (by omega), hz_o (by omega), q6.1 c (by omega), hz_o (by omega), q4.1 c (by omega), hz_o (by omega), q2.1 c (by omega), hz_o (by omega)]
  · rw [e 1 (by decide), a4 1 (by decide)]
    exact q2.2
  · rw [e 9 (by decide), a6 9 (by decide)]
    exact q4.2
  · rw [e 75 (by decide), e 76 (by decide), a12 75 (by decide), a12 76 (by decide)]
    exact q6.2
  · rw [hu_j _ (by decide), hu_s]
/-- the drawing without points -/
def D0 : Dr := fun r i => if r = 7 then (if i = 2 then 4 else if i = 3 then 3 else 0) else 0
theorem D0_wf : WF D0 := by
  have e0 : D0 7 0 = 0 := rfl
  have e1 : D0 7 1 = 0 := rfl
  have e2 : D0 7 2 = 4 := rfl
  have e3 : D0 7 3 = 3 := rfl
  refine ⟨by omega, by omega, by omega, by omega, fun i a b => by omega, fun i j a b c => by omega, fun d a b => by omega⟩
end START0

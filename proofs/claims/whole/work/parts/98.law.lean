section LAWLOOP
theorem swt_at {β : Type} {x lo : Int} {Es : List (Option β)} {d : Option β} (k : Nat) (hx : x = lo + k) (hk : k < Es.length) : swt x lo Es d = Es.getD k none := by
  unfold swt
  rw [if_pos (by omega), show (x - lo).toNat = k by omega]
/-- one call of each, and on -/
theorem go_step {c m : Hp → O Int} (s : STEP FR c m) {h : Hp} (hI : INV FR h) {K : Int → Hp → O Int} {Q : Int → Hp → Prop} (hK : ∀ r h1, c h = some (r, h1) → (∃ h2, m h1 = some (r, h2) ∧ INV FR h2) → wp (K r h1) Q) : wp (bd (c h) K) Q := by
  obtain ⟨r, h1, h2, e1, e2, i⟩ := s h hI
  rw [bd_eq e1]
  exact hK r h1 e1 ⟨h2, e2, i⟩
variable {L : Nat} {xs : Nat → Int32} {k18 : Int → Hp → O Int} {x : Int} {h : Hp}
set_option maxRecDepth 10000 in
theorem law_in (hL : L ≤ 2048) (hx : 0 ≤ x ∧ x ≤ (L : Int) - 4) (hI : INV FR h) (hk : ∀ h1, INV FR h1 → wp (k18 (x + 4) h1) (fun r _ => r = 1)) : wp (lw_f18 0 132 L xs k18 x h) (fun r _ => r = 1) := by
  have b857 : ∀ h1, INV FR h1 → wp (lw_b857 0 132 L xs k18 x h1) (fun r _ => r = 1) := fun h1 i => by
    unfold lw_b857
    rw [ck_in ⟨by omega, by omega⟩]
    exact hk h1 i
  have c1 : ∀ E : O Int, ck (x + 1) E = E := fun E => ck_in ⟨by omega, by omega⟩
  have c2 : ∀ E : O Int, ck (x + 2) E = E := fun E => ck_in ⟨by omega, by omega⟩
  have c3 : ∀ E : O Int, ck (x + 3) E = E := fun E => ck_in ⟨by omega, by omega⟩
  have i1 : ∀ E : O Int, ix (x + 1) L E = E := fun E => ix_in (by omega) (by omega)
  have i2 : ∀ E : O Int, ix (x + 2) L E = E := fun E => ix_in (by omega) (by omega)
  have i3 : ∀ E : O Int, ix (x + 3) L E = E := fun E => ix_in (by omega) (by omega)
  unfold lw_f18
  rw [ck_in ⟨by omega, by omega⟩, if_neg (by omega), ix_in (by omega) (by omega)]
  generalize ev : (xs x.toNat).toInt % 32 = v
  generalize ea1 : (xs (x + 1).toNat).toInt = a1
  generalize ea2 : (xs (x + 2).toNat).toInt = a2
  generalize ea : (xs (x + 3).toNat).toInt = a3
  by_cases q : 0 ≤ v ∧ v < 26
  · rcases (by omega : v = 0 ∨ v = 1 ∨ v = 2 ∨ v = 3 ∨ v = 4 ∨ v = 5 ∨ v = 6 ∨ v = 7 ∨ v = 8 ∨ v = 9 ∨ v = 10 ∨ v = 11 ∨ v = 12 ∨ v = 13 ∨ v = 14 ∨ v = 15 ∨ v = 16 ∨ v = 17 ∨ v = 18 ∨ v = 19 ∨ v = 20 ∨ v = 21 ∨ v = 22 ∨ v = 23 ∨ v = 24 ∨ v = 25) with e | e | e | e | e | e | e | e | e | e | e | e | e | e | e | e | e | e | e | e | e | e | e | e | e | e
    · -- type
      rw [swt_at 0 (by rw [e]; rfl) (Nat.le_of_ble_eq_true rfl)]
      show wp (ck (x + 1) (ix (x + 1) L (bd (dl_type 0 a1 h) fun r1 h1 => ck (x + 1) (ix (x + 1) L (bd (mo_type 132 a1 h1) fun r2 h2 => if r1 = r2 then lw_b857 0 132 L xs k18 x h2 else some (0, h2)))))) _
      rw [c1, i1]
      refine go_step (c := fun h => dl_type 0 a1 h) (m := fun h => mo_type 132 a1 h) (st_type FR_k _) hI (fun r h1 _ z => ?_)
      obtain ⟨h2, z1, z2⟩ := z
      rw [c1, i1, bd_eq z1, if_pos rfl]
      exact b857 h2 z2
    · -- clearText
      rw [swt_at 1 (by rw [e]; rfl) (Nat.le_of_ble_eq_true rfl)]
      show wp (bd (dl_clearText 0 h) fun r1 h1 => bd (mo_clearText 132 h1) fun r2 h2 => if r1 = r2 then lw_b857 0 132 L xs k18 x h2 else some (0, h2)) _
      refine go_step (c := fun h => dl_clearText 0 h) (m := fun h => mo_clearText 132 h) (st_clearText FR_k) hI (fun r h1 _ z => ?_)
      obtain ⟨h2, z1, z2⟩ := z
      rw [bd_eq z1, if_pos rfl]
      exact b857 h2 z2
    · -- load
      rw [swt_at 2 (by rw [e]; rfl) (Nat.le_of_ble_eq_true rfl)]
      show wp (bd (dl_load 0 h) fun r1 h1 => bd (mo_load 132 h1) fun r2 h2 => if r1 = r2 then lw_b857 0 132 L xs k18 x h2 else some (0, h2)) _
      refine go_step (c := fun h => dl_load 0 h) (m := fun h => mo_load 132 h) (st_load FR_k) hI (fun r h1 _ z => ?_)
      obtain ⟨h2, z1, z2⟩ := z
      rw [bd_eq z1, if_pos rfl]
      exact b857 h2 z2
    · -- faultKind
      rw [swt_at 3 (by rw [e]; rfl) (Nat.le_of_ble_eq_true rfl)]
      show wp (bd (dl_faultKind 0 h) fun r1 h1 => bd (mo_faultKind 132 h1) fun r2 h2 => if r1 = r2 then lw_b857 0 132 L xs k18 x h2 else some (0, h2)) _
      refine go_step (c := fun h => dl_faultKind 0 h) (m := fun h => mo_faultKind 132 h) (st_faultKind FR_k) hI (fun r h1 _ z => ?_)
      obtain ⟨h2, z1, z2⟩ := z
      rw [bd_eq z1, if_pos rfl]
      exact b857 h2 z2
    · -- addPoint
      rw [swt_at 4 (by rw [e]; rfl) (Nat.le_of_ble_eq_true rfl)]
      show wp (ck (x + 1) (ix (x + 1) L (bd (dl_addPoint 0 a1 h) fun r1 h1 => ck (x + 1) (ix (x + 1) L (bd (mo_addPoint 132 a1 h1) fun r2 h2 => if r1 = r2 then lw_b857 0 132 L xs k18 x h2 else some (0, h2)))))) _
      rw [c1, i1]
      refine go_step (c := fun h => dl_addPoint 0 a1 h) (m := fun h => mo_addPoint 132 a1 h) (st_addPoint FR_k _) hI (fun r h1 _ z => ?_)
      obtain ⟨h2, z1, z2⟩ := z
      rw [c1, i1, bd_eq z1, if_pos rfl]
      exact b857 h2 z2
    · -- movePoint
      rw [swt_at 5 (by rw [e]; rfl) (Nat.le_of_ble_eq_true rfl)]
      show wp (ck (x + 1) (ix (x + 1) L (ck (x + 2) (ix (x + 2) L (bd (dl_movePoint 0 a1 a2 h) fun r1 h1 => ck (x + 1) (ix (x + 1) L (ck (x + 2) (ix (x + 2) L (bd (mo_movePoint 132 a1 a2 h1) fun r2 h2 => if r1 = r2 then lw_b857 0 132 L xs k18 x h2 else some (0, h2)))))))))) _
      rw [c1, i1, c2, i2]
      refine go_step (c := fun h => dl_movePoint 0 a1 a2 h) (m := fun h => mo_movePoint 132 a1 a2 h) (st_movePoint FR_k _ _) hI (fun r h1 _ z => ?_)
      obtain ⟨h2, z1, z2⟩ := z
      rw [c1, i1, c2, i2, bd_eq z1, if_pos rfl]
      exact b857 h2 z2
    · -- dropPoint
      rw [swt_at 6 (by rw [e]; rfl) (Nat.le_of_ble_eq_true rfl)]
      show wp (ck (x + 1) (ix (x + 1) L (bd (dl_dropPoint 0 a1 h) fun r1 h1 => ck (x + 1) (ix (x + 1) L (bd (mo_dropPoint 132 a1 h1) fun r2 h2 => if r1 = r2 then lw_b857 0 132 L xs k18 x h2 else some (0, h2)))))) _
      rw [c1, i1]
      refine go_step (c := fun h => dl_dropPoint 0 a1 h) (m := fun h => mo_dropPoint 132 a1 h) (st_dropPoint FR_k _) hI (fun r h1 _ z => ?_)
      obtain ⟨h2, z1, z2⟩ := z
      rw [c1, i1, bd_eq z1, if_pos rfl]
      exact b857 h2 z2
    · -- add
      rw [swt_at 7 (by rw [e]; rfl) (Nat.le_of_ble_eq_true rfl)]
      show wp (ck (x + 1) (ix (x + 1) L (ck (x + 2) (ix (x + 2) L (bd (dl_add 0 a1 a2 h) fun r1 h1 => ck (x + 1) (ix (x + 1) L (ck (x + 2) (ix (x + 2) L (bd (mo_add 132 a1 a2 h1) fun r2 h2 => if r1 = r2 then lw_b857 0 132 L xs k18 x h2 else some (0, h2)))))))))) _
      rw [c1, i1, c2, i2]
      refine go_step (c := fun h => dl_add 0 a1 a2 h) (m := fun h => mo_add 132 a1 a2 h) (st_add FR_k _ _) hI (fun r h1 _ z => ?_)
      obtain ⟨h2, z1, z2⟩ := z
      rw [c1, i1, c2, i2, bd_eq z1, if_pos rfl]
      exact b857 h2 z2
    · -- drop
      rw [swt_at 8 (by rw [e]; rfl) (Nat.le_of_ble_eq_true rfl)]
      show wp (ck (x + 1) (ix (x + 1) L (bd (dl_drop 0 a1 h) fun r1 h1 => ck (x + 1) (ix (x + 1) L (bd (mo_drop 132 a1 h1) fun r2 h2 => if r1 = r2 then lw_b857 0 132 L xs k18 x h2 else some (0, h2)))))) _
      rw [c1, i1]
      refine go_step (c := fun h => dl_drop 0 a1 h) (m := fun h => mo_drop 132 a1 h) (st_drop FR_k _) hI (fun r h1 _ z => ?_)
      obtain ⟨h2, z1, z2⟩ := z
      rw [c1, i1, bd_eq z1, if_pos rfl]
      exact b857 h2 z2
    · -- setTolerance
      rw [swt_at 9 (by rw [e]; rfl) (Nat.le_of_ble_eq_true rfl)]
      show wp (ck (x + 1) (ix (x + 1) L (ck (x + 2) (ix (x + 2) L (ck (x + 3) (ix (x + 3) L (bd (dl_setTolerance 0 a1 a2 a3 h) fun r1 h1 => ck (x + 1) (ix (x + 1) L (ck (x + 2) (ix (x + 2) L (ck (x + 3) (ix (x + 3) L (bd (mo_setTolerance 132 a1 a2 a3 h1) fun r2 h2 => if r1 = r2 then lw_b857 0 132 L xs k18 x h2 else some (0, h2)))))))))))))) _
      rw [c1, i1, c2, i2, c3, i3]
      refine go_step (c := fun h => dl_setTolerance 0 a1 a2 a3 h) (m := fun h => mo_setTolerance 132 a1 a2 a3 h) (st_setTolerance FR_k _ _ _) hI (fun r h1 _ z => ?_)
      obtain ⟨h2, z1, z2⟩ := z
      rw [c1, i1, c2, i2, c3, i3, bd_eq z1, if_pos rfl]
      exact b857 h2 z2
    · -- setChain
      rw [swt_at 10 (by rw [e]; rfl) (Nat.le_of_ble_eq_true rfl)]
      show wp (ck (x + 1) (ix (x + 1) L (ck (x + 2) (ix (x + 2) L (bd (dl_setChain 0 a1 a2 h) fun r1 h1 => ck (x + 1) (ix (x + 1) L (ck (x + 2) (ix (x + 2) L (bd (mo_setChain 132 a1 a2 h1) fun r2 h2 => if r1 = r2 then lw_b857 0 132 L xs k18 x h2 else some (0, h2)))))))))) _
      rw [c1, i1, c2, i2]
      refine go_step (c := fun h => dl_setChain 0 a1 a2 h) (m := fun h => mo_setChain 132 a1 a2 h) (st_setChain FR_k _ _) hI (fun r h1 _ z => ?_)
      obtain ⟨h2, z1, z2⟩ := z
      rw [c1, i1, c2, i2, bd_eq z1, if_pos rfl]
      exact b857 h2 z2
    · -- setLeast
      rw [swt_at 11 (by rw [e]; rfl) (Nat.le_of_ble_eq_true rfl)]
      show wp (ck (x + 1) (ix (x + 1) L (ck (x + 2) (ix (x + 2) L (bd (dl_setLeast 0 a1 a2 h) fun r1 h1 => ck (x + 1) (ix (x + 1) L (ck (x + 2) (ix (x + 2) L (bd (mo_setLeast 132 a1 a2 h1) fun r2 h2 => if r1 = r2 then lw_b857 0 132 L xs k18 x h2 else some (0, h2)))))))))) _
      rw [c1, i1, c2, i2]
      refine go_step (c := fun h => dl_setLeast 0 a1 a2 h) (m := fun h => mo_setLeast 132 a1 a2 h) (st_setLeast FR_k _ _) hI (fun r h1 _ z => ?_)
      obtain ⟨h2, z1, z2⟩ := z
      rw [c1, i1, c2, i2, bd_eq z1, if_pos rfl]
      exact b857 h2 z2
    · -- setLetter
      rw [swt_at 12 (by rw [e]; rfl) (Nat.le_of_ble_eq_true rfl)]
      show wp (ck (x + 1) (ix (x + 1) L (bd (dl_setLetter 0 a1 h) fun r1 h1 => ck (x + 1) (ix (x + 1) L (bd (mo_setLetter 132 a1 h1) fun r2 h2 => if r1 = r2 then lw_b857 0 132 L xs k18 x h2 else some (0, h2)))))) _
      rw [c1, i1]
      refine go_step (c := fun h => dl_setLetter 0 a1 h) (m := fun h => mo_setLetter 132 a1 h) (st_setLetter FR_k _) hI (fun r h1 _ z => ?_)
      obtain ⟨h2, z1, z2⟩ := z
      rw [c1, i1, bd_eq z1, if_pos rfl]
      exact b857 h2 z2
    · -- setArrow
      rw [swt_at 13 (by rw [e]; rfl) (Nat.le_of_ble_eq_true rfl)]
      show wp (ck (x + 1) (ix (x + 1) L (bd (dl_setArrow 0 a1 h) fun r1 h1 => ck (x + 1) (ix (x + 1) L (bd (mo_setArrow 132 a1 h1) fun r2 h2 => if r1 = r2 then lw_b857 0 132 L xs k18 x h2 else some (0, h2)))))) _
      rw [c1, i1]
      refine go_step (c := fun h => dl_setArrow 0 a1 h) (m := fun h => mo_setArrow 132 a1 h) (st_setArrow FR_k _) hI (fun r h1 _ z => ?_)
      obtain ⟨h2, z1, z2⟩ := z
      rw [c1, i1, bd_eq z1, if_pos rfl]
      exact b857 h2 z2
    · -- point
      rw [swt_at 14 (by rw [e]; rfl) (Nat.le_of_ble_eq_true rfl)]
      show wp (ck (x + 1) (ix (x + 1) L (ck (x + 2) (ix (x + 2) L (bd (dl_point 0 a1 a2 h) fun r1 h1 => ck (x + 1) (ix (x + 1) L (ck (x + 2) (ix (x + 2) L (bd (mo_point 132 a1 a2 h1) fun r2 h2 => if r1 = r2 then lw_b857 0 132 L xs k18 x h2 else some (0, h2)))))))))) _
      rw [c1, i1, c2, i2]
      refine go_step (c := fun h => dl_point 0 a1 a2 h) (m := fun h => mo_point 132 a1 a2 h) ask_point.step hI (fun r h1 _ z => ?_)
      obtain ⟨h2, z1, z2⟩ := z
      rw [c1, i1, c2, i2, bd_eq z1, if_pos rfl]
      exact b857 h2 z2
    · -- dimension
      rw [swt_at 15 (by rw [e]; rfl) (Nat.le_of_ble_eq_true rfl)]
      show wp (ck (x + 1) (ix (x + 1) L (ck (x + 2) (ix (x + 2) L (bd (dl_dimension 0 a1 a2 h) fun r1 h1 => ck (x + 1) (ix (x + 1) L (ck (x + 2) (ix (x + 2) L (bd (mo_dimension 132 a1 a2 h1) fun r2 h2 => if r1 = r2 then lw_b857 0 132 L xs k18 x h2 else some (0, h2)))))))))) _
      rw [c1, i1, c2, i2]
      refine go_step (c := fun h => dl_dimension 0 a1 a2 h) (m := fun h => mo_dimension 132 a1 a2 h) ask_dimension.step hI (fun r h1 _ z => ?_)
      obtain ⟨h2, z1, z2⟩ := z
      rw [c1, i1, c2, i2, bd_eq z1, if_pos rfl]
      exact b857 h2 z2
    · -- at
      rw [swt_at 16 (by rw [e]; rfl) (Nat.le_of_ble_eq_true rfl)]
      show wp (ck (x + 1) (ix (x + 1) L (ck (x + 2) (ix (x + 2) L (bd (dl_at 0 a1 a2 h) fun r1 h1 => ck (x + 1) (ix (x + 1) L (ck (x + 2) (ix (x + 2) L (bd (mo_at 132 a1 a2 h1) fun r2 h2 => if r1 = r2 then lw_b857 0 132 L xs k18 x h2 else some (0, h2)))))))))) _
      rw [c1, i1, c2, i2]
      refine go_step (c := fun h => dl_at 0 a1 a2 h) (m := fun h => mo_at 132 a1 a2 h) ask_at.step hI (fun r h1 _ z => ?_)
      obtain ⟨h2, z1, z2⟩ := z
      rw [c1, i1, c2, i2, bd_eq z1, if_pos rfl]
      exact b857 h2 z2
    · -- distance
      rw [swt_at 17 (by rw [e]; rfl) (Nat.le_of_ble_eq_true rfl)]
      show wp (ck (x + 1) (ix (x + 1) L (ck (x + 2) (ix (x + 2) L (ck (x + 3) (ix (x + 3) L (if a3 = 0 then lw_b627 0 132 L xs k18 x 0 a2 a1 h else lw_b627 0 132 L xs k18 x 1 a2 a1 h))))))) _
      rw [c1, i1, c2, i2, c3, i3]
      have b654 : ∀ (g r : Int) (h1 : Hp), (∃ h2, mo_distance 132 a1 a2 g h1 = some (r, h2) ∧ INV FR h2) → wp (lw_b654 0 132 L xs k18 x g a2 a1 r h1) (fun r _ => r = 1) := fun g r h1 z => by
        obtain ⟨h2, z1, z2⟩ := z
        unfold lw_b654
        rw [bd_eq z1, if_pos rfl]
        exact b857 h2 z2
      by_cases y : a3 = 0
      · rw [if_pos y]
        unfold lw_b627
        refine go_step (ask_distance (a := a1) (b := a2) (g := 0)).step hI (fun r h1 _ z => ?_)
        rw [c1, i1, c2, i2, c3, i3, ea, ea1, ea2, if_pos y]
        exact b654 0 r h1 z
      · rw [if_neg y]
        unfold lw_b627
        refine go_step (ask_distance (a := a1) (b := a2) (g := 1)).step hI (fun r h1 _ z => ?_)
        rw [c1, i1, c2, i2, c3, i3, ea, ea1, ea2, if_neg y]
        exact b654 1 r h1 z
    · -- ifExact
      rw [swt_at 18 (by rw [e]; rfl) (Nat.le_of_ble_eq_true rfl)]
      show wp (ck (x + 1) (ix (x + 1) L (ck (x + 2) (ix (x + 2) L (ck (x + 3) (ix (x + 3) L (bd (dl_ifExact 0 a1 a2 a3 h) fun r1 h1 => ck (x + 1) (ix (x + 1) L (ck (x + 2) (ix (x + 2) L (ck (x + 3) (ix (x + 3) L (bd (mo_ifExact 132 a1 a2 a3 h1) fun r2 h2 => if r1 = r2 then lw_b857 0 132 L xs k18 x h2 else some (0, h2)))))))))))))) _
      rw [c1, i1, c2, i2, c3, i3]
      refine go_step (c := fun h => dl_ifExact 0 a1 a2 a3 h) (m := fun h => mo_ifExact 132 a1 a2 a3 h) ask_ifExact.step hI (fun r h1 _ z => ?_)
      obtain ⟨h2, z1, z2⟩ := z
      rw [c1, i1, c2, i2, c3, i3, bd_eq z1, if_pos rfl]
      exact b857 h2 z2
    · -- critical
      rw [swt_at 19 (by rw [e]; rfl) (Nat.le_of_ble_eq_true rfl)]
      show wp (ck (x + 1) (ix (x + 1) L (ck (x + 2) (ix (x + 2) L (bd (dl_critical 0 a1 a2 h) fun r1 h1 => ck (x + 1) (ix (x + 1) L (ck (x + 2) (ix (x + 2) L (bd (mo_critical 132 a1 a2 h1) fun r2 h2 => if r1 = r2 then lw_b857 0 132 L xs k18 x h2 else some (0, h2)))))))))) _
      rw [c1, i1, c2, i2]
      refine go_step (c := fun h => dl_critical 0 a1 a2 h) (m := fun h => mo_critical 132 a1 a2 h) ask_critical.step hI (fun r h1 _ z => ?_)
      obtain ⟨h2, z1, z2⟩ := z
      rw [c1, i1, c2, i2, bd_eq z1, if_pos rfl]
      exact b857 h2 z2
    · -- needed
      rw [swt_at 20 (by rw [e]; rfl) (Nat.le_of_ble_eq_true rfl)]
      show wp (bd (dl_needed 0 h) fun r1 h1 => bd (mo_needed 132 h1) fun r2 h2 => if r1 = r2 then lw_b857 0 132 L xs k18 x h2 else some (0, h2)) _
      refine go_step (c := fun h => dl_needed 0 h) (m := fun h => mo_needed 132 h) ask_needed.step hI (fun r h1 _ z => ?_)
      obtain ⟨h2, z1, z2⟩ := z
      rw [bd_eq z1, if_pos rfl]
      exact b857 h2 z2
    · -- chain
      rw [swt_at 21 (by rw [e]; rfl) (Nat.le_of_ble_eq_true rfl)]
      show wp (ck (x + 1) (ix (x + 1) L (ck (x + 2) (ix (x + 2) L (bd (dl_chain 0 a1 a2 h) fun r1 h1 => ck (x + 1) (ix (x + 1) L (ck (x + 2) (ix (x + 2) L (bd (mo_chain 132 a1 a2 h1) fun r2 h2 => if r1 = r2 then lw_b857 0 132 L xs k18 x h2 else some (0, h2)))))))))) _
      rw [c1, i1, c2, i2]
      refine go_step (c := fun h => dl_chain 0 a1 a2 h) (m := fun h => mo_chain 132 a1 a2 h) ask_chain.step hI (fun r h1 _ z => ?_)
      obtain ⟨h2, z1, z2⟩ := z
      rw [c1, i1, c2, i2, bd_eq z1, if_pos rfl]
      exact b857 h2 z2
    · -- ifArrow
      rw [swt_at 22 (by rw [e]; rfl) (Nat.le_of_ble_eq_true rfl)]
      show wp (ck (x + 1) (ix (x + 1) L (bd (dl_ifArrow 0 a1 h) fun r1 h1 => ck (x + 1) (ix (x + 1) L (bd (mo_ifArrow 132 a1 h1) fun r2 h2 => if r1 = r2 then lw_b857 0 132 L xs k18 x h2 else some (0, h2)))))) _
      rw [c1, i1]
      refine go_step (c := fun h => dl_ifArrow 0 a1 h) (m := fun h => mo_ifArrow 132 a1 h) ask_ifArrow.step hI (fun r h1 _ z => ?_)
      obtain ⟨h2, z1, z2⟩ := z
      rw [c1, i1, bd_eq z1, if_pos rfl]
      exact b857 h2 z2
    · -- undo
      rw [swt_at 23 (by rw [e]; rfl) (Nat.le_of_ble_eq_true rfl)]
      show wp (bd (dl_undo 0 h) fun r1 h1 => bd (mo_undo 132 h1) fun r2 h2 => if r1 = r2 then lw_b857 0 132 L xs k18 x h2 else some (0, h2)) _
      refine go_step (c := fun h => dl_undo 0 h) (m := fun h => mo_undo 132 h) (st_undo FR_k) hI (fun r h1 _ z => ?_)
      obtain ⟨h2, z1, z2⟩ := z
      rw [bd_eq z1, if_pos rfl]
      exact b857 h2 z2
    · -- count
      rw [swt_at 24 (by rw [e]; rfl) (Nat.le_of_ble_eq_true rfl)]
      show wp (ck (x + 1) (ix (x + 1) L (bd (dl_count 0 a1 h) fun r1 h1 => ck (x + 1) (ix (x + 1) L (bd (mo_count 132 a1 h1) fun r2 h2 => if r1 = r2 then lw_b857 0 132 L xs k18 x h2 else some (0, h2)))))) _
      rw [c1, i1]
      refine go_step (c := fun h => dl_count 0 a1 h) (m := fun h => mo_count 132 a1 h) ask_count.step hI (fun r h1 _ z => ?_)
      obtain ⟨h2, z1, z2⟩ := z
      rw [c1, i1, bd_eq z1, if_pos rfl]
      exact b857 h2 z2
    · -- digest
      rw [swt_at 25 (by rw [e]; rfl) (Nat.le_of_ble_eq_true rfl)]
      show wp (bd (dl_digest 0 h) fun r1 h1 => bd (mo_digest 132 h1) fun r2 h2 => if r1 = r2 then lw_b857 0 132 L xs k18 x h2 else none) _
      refine go_step (c := fun h => dl_digest 0 h) (m := fun h => mo_digest 132 h) st_digest hI (fun r h1 _ z => ?_)
      obtain ⟨h2, z1, z2⟩ := z
      rw [bd_eq z1, if_pos rfl]
      exact b857 h2 z2
  · rw [swt_d (by simp only [List.length]; omega)]
    exact b857 h hI
end LAWLOOP
section LAWTRUE
theorem lw_true (L : Nat) (xs : Nat → Int32) (hL : L ≤ 2048) : ∃ h', lw_all L xs (fun _ _ => 0) = some (1, h') := by
  have key : wp (lw_all L xs (fun _ _ => 0)) (fun r _ => r = 1) := by
    have st := inv_start
    unfold lw_all
    rw [lt_eq]
    obtain ⟨u, h2, e1, e2⟩ := dl_init_wp (h := hz (fun _ _ => 0) 0)
    rw [bd_eq e1] at st ⊢
    rw [lt_eq]
    refine wp_bd st (fun _ h4 hI => ?_)
    refine wp_it1 (fun x h' => (0 ≤ x ∧ x ≤ 2100) ∧ INV FR h') (fun x _ => (2200 - x).toNat) (fun x h' hJ k hk => ?_) fuel _ _ ⟨by omega, hI⟩ (by unfold fuel; omega)
    by_cases q : (L : Int) - 4 < x
    · unfold lw_f18
      rw [ck_in ⟨by omega, by omega⟩, if_pos q]
      exact wp_ret rfl
    · exact law_in hL ⟨hJ.1.1, by omega⟩ hJ.2 (fun h1 i => hk _ _ ⟨by omega, i⟩ (by omega))
  obtain ⟨r, h', e1, e2⟩ := key
  exact ⟨h', by rw [e1, e2]⟩
end LAWTRUE

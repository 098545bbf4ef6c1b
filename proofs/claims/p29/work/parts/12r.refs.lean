theorem dl_laidLanes_ref {th r : Nat} {h h1 : Hp} (he : dl_laidLanes th h = some (r, h1)) : r = th + 85 := by
  unfold dl_laidLanes dl_laidLanes_b30 at he
  split at he
  · obtain ⟨a, h2, -, he⟩ := bd_some he
    obtain ⟨-, he⟩ := bz_some he
    unfold lt at he
    cases he
    rfl
  · cases he
    rfl
theorem dl_knownBounds_ref {th r : Nat} {h h1 : Hp} (he : dl_knownBounds th h = some (r, h1)) : r = th + 111 := by
  unfold dl_knownBounds dl_knownBounds_b23 at he
  split at he
  · obtain ⟨a, h2, -, he⟩ := bd_some he
    obtain ⟨-, he⟩ := bz_some he
    unfold lt at he
    cases he
    rfl
  · cases he
    rfl

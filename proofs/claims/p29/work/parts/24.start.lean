theorem zw_nil {ci : zCI} {base : Nat} {h : Hp} : zw ci base [] h = [] := rfl
set_option maxHeartbeats 4000000 in
theorem start_of (hw : ∀ (L : Nat) (xs : Nat → Int32), L ≤ 260 → ∃ h', lw_all L xs (fun _ _ => 0) = some (1, h')) {p : Program} {e : Env} {s : State} {m : MethodId} {below : List Frame} {meth : Method} {c : Code} (l : Launch) {b L : Nat} {xs : Nat → Int32} (hL : L ≤ 260) (C0 : lw_At p s m meth c b L xs) : W p l e room_1 s m #[Value.ref b] below meth c s.heap [] 0 0 (lw_Z below #[Value.ref b] s) (entryFrame m ([Value.ref b] : List Value).toArray 7) := by
  obtain ⟨hx, hb, hr, hml, hown, hts, hX, hbl, hlocks, hgv⟩ := C0
  obtain ⟨h', hE⟩ := hw L xs hL
  have hUW : ∀ w ∈ UW, w.before #[Value.ref b] s = true := fun w q => hts w (List.mem_filter.mp q).1
  have hNW : ∀ w ∈ NWs, va_Nw w s := fun w q => by
    obtain ⟨a, i, x, bb, rfl⟩ := nws_form q
    exact va_Nw.of rfl (hts _ (List.mem_filter.mp q).1)
  -- the classes
  have hcl : ∀ t : Nat, ∃ (cC : ClassId) (iS : Nat → Nat), ∀ (q : vw_C), vwCl[t]? = some q → u_Kn s q.1 q.2.1 q.2.2 cC iS := by
    intro t
    match t with
    | 0 => obtain ⟨cC, iS, h⟩ := u_known (n := 11) hUW zc_0.2.1 (hUW _ kin_X0); exact ⟨cC, iS, fun q hq => by cases hq; exact h⟩
    | 1 => obtain ⟨cC, iS, h⟩ := u_known (n := 11) hUW zc_1.2.1 (hUW _ kin_X1); exact ⟨cC, iS, fun q hq => by cases hq; exact h⟩
    | 2 => obtain ⟨cC, iS, h⟩ := u_known (n := 3) hUW zc_2.2.1 (hUW _ kin_X2); exact ⟨cC, iS, fun q hq => by cases hq; exact h⟩
    | 3 => obtain ⟨cC, iS, h⟩ := u_known (n := 16) hUW zc_3.2.1 (hUW _ kin_X3); exact ⟨cC, iS, fun q hq => by cases hq; exact h⟩
    | 4 => obtain ⟨cC, iS, h⟩ := u_known (n := 7) hUW zc_4.2.1 (hUW _ kin_X4); exact ⟨cC, iS, fun q hq => by cases hq; exact h⟩
    | 5 => obtain ⟨cC, iS, h⟩ := u_known (n := 8) hUW zc_5.2.1 (hUW _ kin_X5); exact ⟨cC, iS, fun q hq => by cases hq; exact h⟩
    | t + 6 => exact ⟨0, fun _ => 0, fun q hq => by cases hq⟩
  -- the arrays
  obtain ⟨cI, kI, coI, nI1, nI2, nI3⟩ := Cond.arrayClass_spec (hUW _ kac_int)
  obtain ⟨cZ, kZ, coZ, nZ1, nZ2, nZ3⟩ := Cond.arrayClass_spec (hUW _ kac_boolean)
  have hAO : (Cond.arrayOver (.object RX1)).before #[Value.ref b] s = true := hts _ (List.mem_append_right _ (List.mem_of_getElem? (i := 91) (by decide +kernel)))
  have hAOA : (Cond.arrayOver (.array .int)).before #[Value.ref b] s = true := hts _ (List.mem_append_right _ (List.mem_of_getElem? (i := 206) (by decide +kernel)))
  obtain ⟨coD, cD, kD, nD1, -, nD2, nD3, nD4⟩ := Cond.arrayOver_spec hAO
  obtain ⟨coA, cA, kA, nA1, -, nA2, nA3, nA4⟩ := arrayOverA_spec hAOA
  have hK : KK (fun t => Classical.choose (hcl t), fun t => Classical.choose (Classical.choose_spec (hcl t))) (cI, cZ, cD, cA) s := by
    refine ⟨⟨fun t q hq => Classical.choose_spec (Classical.choose_spec (hcl t)) q hq, fun k q hk => ?_⟩, hNW, va_AO.of hAO, over_moved (Vm.Alike.refl _) hAOA⟩
    match k with
    | 0 => cases hk; exact ⟨fun n z => ⟨fun _ q => (by cases q), kI, nI2, coI, nI3⟩, nI1⟩
    | 1 => cases hk; exact ⟨fun n z => ⟨fun _ q => (by cases q), kZ, nZ2, coZ, nZ3⟩, nZ1⟩
    | 2 => cases hk; exact ⟨fun n z => ⟨fun _ q => (by cases q), kD, nD2, coD, nD3⟩, kD, coD, nD2, nD3, nD1, nD4⟩
    | 3 => cases hk; exact ⟨fun n z => ⟨fun _ q => (by cases q), kA, nA2, coA, nA3⟩, nA4⟩
    | k + 4 => cases hk
  have hLr : inR (L : Int) := ⟨by omega, by omega⟩
  have C : CX (mi_lw L xs) p room_1 s m #[Value.ref b] meth c (fun t => Classical.choose (hcl t), fun t => Classical.choose (Classical.choose_spec (hcl t))) (cI, cZ, cD, cA) s.heap.size b :=
    ⟨hx, hb, hml, hown, hUW, hK, hlocks, hr, fun q => absurd q (show ¬ ("law" = "<init>") by decide), rfl, rfl, rfl, rfl, Nat.le_refl _, fun L' xs' f' q => by cases q; exact ⟨hX, hbl, fun _ => ⟨rfl, rfl, rfl, rfl, rfl⟩⟩⟩
  have hlv := lv_entry [Value.ref b] (n := 7) (Nat.le_of_ble_eq_true rfl)
  rw [lg_entry_eq]
  have hW := j_law_all hLr (fun _ _ => 0) p l e room_1 s m #[Value.ref b] below meth c _ _ s.heap.size b C s.heap [] _ 1 h' hE ⟨fun q hq => by
      rcases List.mem_cons.mp hq with rfl | hq
      · trivial
      · exact absurd hq List.not_mem_nil, fun v hv => absurd hv List.not_mem_nil, fun a k i hk => by simp at hk, hlv, ⟨rfl, fun k q hq => by simp [zw] at hq⟩, va_S.rf⟩
  intro T hT X
  obtain ⟨t, a1, b1⟩ := hW T hT X
  exact ⟨t, a1, b1 rfl⟩

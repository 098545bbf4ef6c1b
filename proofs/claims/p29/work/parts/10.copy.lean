section CP
variable {α : Type} {mi : MI} {enc : α → Option V} {FL : List LK → Prop} {lay : List LK} {nc ns pc : Nat} {lv : List (Nat × V)} {stk : List V} {h : Hp}
theorem j_copy {index a0 a n0 n1 st0 st1 p0 p1 : Nat} {n : Int} {K : Hp → O α} (hd : decode mi.2.1 pc = .ok (.invokestatic index, 3)) (hl : MM mi.1.cls index arraycopyName) (w1 : Cond.native arraycopyName ∈ UW) (w2 : Cond.static arraycopyName ∈ UW) (w3 : Cond.initialized "java/lang/System" ∈ UW)
    (hk0 : lay[a0]? = some (0, n0, st0, p0)) (hk1 : lay[a]? = some (0, n1, st1, p1)) (hn0 : 0 ≤ n) (hn1 : n ≤ n0) (hn2 : n ≤ n1) (hf : 1 ≤ mi.2.2.2.2.1) (hlo : (stk.map zcat).sum + (nativeFrameWords "java/lang/System" "arraycopy" 5 + 11) ≤ mi.2.2.2.2.2.1)
    (kk : ∀ h1, h1 = hcp h a0 a n → J mi enc FL lay nc ns (pc + 3) lv stk h1 (K h1)) : J mi enc FL lay nc ns pc lv (vi n :: vi 0 :: vr a :: vi 0 :: vr a0 :: stk) h (lt (hcp h a0 a n) K) := by
  intro p l e R s m args below meth c D ci base b CC H locs ls r h2 hE S
  have hR := CC.2.2.2.2.2.2.2.2.2
  have hts := CC.2.2.2.2.1
  have hnr : inR n := S.top
  have hc0 := S.2.2.2.2.1.2 a0 _ (zw_at hk0)
  have hc1 := S.2.2.2.2.1.2 a _ (zw_at hk1)
  have hc0' : H[base + a0]? = some (vp_cell ci.1 (n0, .inl (fun j => Int32.ofInt (h a0 j)))) := hc0
  have hc1' : H[base + a]? = some (vp_cell ci.1 (n1, .inl (fun j => Int32.ofInt (h a j)))) := hc1
  obtain ⟨-, k0, hk0', cm0, hkk0⟩ := (CC.2.2.2.2.2.1.arr 0 rfl).1 n0 (fun j => .int (Int32.ofInt (h a0 j)))
  obtain ⟨-, k1, hk1', cm1, hkk1⟩ := (CC.2.2.2.2.2.1.arr 0 rfl).1 n1 (fun j => .int (Int32.ofInt (h a j)))
  have z0 : ¬ Int32.ofInt 0 < 0 := by decide
  have z1 : ¬ Int32.ofInt n < 0 := fun q => by have := (i32_lt hnr inR0).mp q; omega
  have e0 : (Int32.ofInt 0).toInt = 0 := rfl
  have en : (Int32.ofInt n).toInt = n := i32_toInt hnr
  intro T hT X
  obtain ⟨vm', X', step⟩ := X.arraycopy CC.1 CC.2.2.2.1 (hts _ hl) (hts _ w1) (hts _ w2) (hts _ w3) (src := base + a0) (dst := base + a) (cs := vp_cell ci.1 (n0, .inl (fun j => Int32.ofInt (h a0 j)))) (cd := vp_cell ci.1 (n1, .inl (fun j => Int32.ofInt (h a j)))) (srcPos := Int32.ofInt 0) (destPos := Int32.ofInt 0) (n := Int32.ofInt n) (by rw [hT]; exact hc0') (by rw [hT]; exact hc1')
    (fun _ h => by cases h) (fun _ h => by cases h) (fun h => by cases h) (fun h => by cases h) hk0' hk1' hkk0 hkk1 (by simp [refKind]) z0 z0 z1
    (by rw [e0, en]; show ¬ _ > ((arrV ci.1 n0 (fun j => .int (Int32.ofInt (h a0 j)))).slots.size : Int); rw [arrV_size]; omega)
    (by rw [e0, en]; show ¬ _ > ((arrV ci.1 n1 (fun j => .int (Int32.ofInt (h a j)))).slots.size : Int); rw [arrV_size]; omega)
    (fun vm₁ _ i hi => by
      have hi' : i < n0 := by rw [i32_cl hnr] at hi; omega
      have e : (vp_cell ci.1 (n0, .inl (fun j => Int32.ofInt (h a0 j)))).slots.getD ((Int32.ofInt 0).toNatClampNeg + i) .null = .int (Int32.ofInt (h a0 i)) := by
        show (arrV ci.1 n0 (fun j => .int (Int32.ofInt (h a0 j)))).slots.getD (0 + i) _ = _
        rw [Nat.zero_add, Array.getD_eq_getD_getElem?, arrV_read _ _ hi']
        rfl
      refine ⟨?_, ?_⟩
      · rw [e]
        rfl
      · rw [e]
        exact trivial)
    (g := F0 m pc ls (.int (Int32.ofInt n) :: .int (Int32.ofInt 0) :: .ref (base + a) :: .int (Int32.ofInt 0) :: .ref (base + a0) :: stk.map (zc base b))) rfl (by rw [CC.2.2.1]; exact S.2.2.2.1.1) (rest := stk.map (zc base b)) rfl (by rw [CC.2.1]; exact hd) (by rw [hR.1]; exact hf) (by rw [hR.2.1]; show 2 * 0 + _ + _ ≤ _; rw [zc_sum]; omega)
  have e1 : copied (vp_cell ci.1 (n0, .inl (fun j => Int32.ofInt (h a0 j)))) (vp_cell ci.1 (n1, .inl (fun j => Int32.ofInt (h a j)))) (Int32.ofInt 0) (Int32.ofInt 0) (Int32.ofInt n) = vp_cell ci.1 (n1, .inl (fun j => Int32.ofInt (hcp h a0 a n a j))) := by
    have e2 := va_copied (fun z => Value.int z) ci.1 ci.1 (n1 := n1) (dp := (Int32.ofInt 0).toNatClampNeg) (fun j => Int32.ofInt (h a0 j)) (fun j => Int32.ofInt (h a j)) (sp := (Int32.ofInt 0).toNatClampNeg) (n := (Int32.ofInt n).toNatClampNeg) (n0 := n0) (by rw [i32_cl hnr]; show 0 + _ ≤ _; omega)
    refine e2.trans ?_
    rw [vp_cell_i]
    congr 1
    funext j
    congr 1
    show va_cpy _ _ 0 0 (Int32.ofInt n).toNatClampNeg j = _
    rw [i32_cl hnr]
    unfold va_cpy hcp
    by_cases hj : j < n.toNat
    · rw [if_pos ⟨Nat.zero_le _, by omega⟩, if_pos ⟨rfl, by omega, by omega⟩]
      simp
    · rw [if_neg (fun q => hj (by omega)), if_neg (fun q => hj (by omega))]
  rw [e1] at X' step
  have hlt : base + a < H.size := (Array.getElem?_eq_some_iff.mp hc1').1
  have hheap : ((T.setVm vm').setCell (base + a) (vp_cell ci.1 (n1, .inl (fun j => Int32.ofInt (hcp h a0 a n a j))))).heap = H.setIfInBounds (base + a) (vp_cell ci.1 (n1, .inl (fun j => Int32.ofInt (hcp h a0 a n a j)))) := by rw [← hT]; rfl
  have oq : ∀ q : Nat, q ≠ base + a → (H.setIfInBounds (base + a) (vp_cell ci.1 (n1, .inl (fun j => Int32.ofInt (hcp h a0 a n a j)))))[q]? = H[q]? := fun q hq => by simp [Array.getElem?_setIfInBounds, Ne.symm hq]
  have hRel : RelH D ci base lay (hcp h a0 a n) (H.setIfInBounds (base + a) (vp_cell ci.1 (n1, .inl (fun j => Int32.ofInt (hcp h a0 a n a j))))) :=
    RelH.upd S.2.2.2.2.1 hk1 (by simp) oq (show (H.setIfInBounds (base + a) _)[base + a]? = some _ by simp [Array.getElem?_setIfInBounds, hlt]) (fun j hj => by
      funext x
      unfold hcp
      rw [if_neg (fun q => hj q.1)])
  have hIn : InR lay (hcp h a0 a n) := by
    intro c2 k2 j hk2 hj
    unfold hcp
    split
    · exact S.2.2.1 a0 _ _ hk0 (Or.inl (show 0 < 4 by decide))
    · exact S.2.2.1 c2 k2 j hk2 hj
  have hS5 := S.2.2.2.2.2
  obtain ⟨t, a1, b1⟩ := kk _ rfl p l e R s m args below meth c D ci base b CC _ _ ls r h2 hE (S.pop.pop.pop.pop.pop.heap hIn hRel ⟨by simp; exact hS5.1, fun q g1 g2 => by
      rw [oq q (fun e => g2 (by omega))]
      exact hS5.2.1 q g1 g2, fun q hq => by
      rcases List.mem_append.mp hq with g | g
      · exact hS5.2.2 q g
      · obtain ⟨z, -, hz⟩ := List.mem_map.mp g
        rw [← hz]
        exact Nat.le_add_right _ _⟩) _ hheap X'
  exact ⟨t, step t a1, b1⟩
end CP

section MR
abbrev encI : Int → Option V := fun x => some (vi x)
abbrev encL : Int → Option V := fun x => some (vl x)
abbrev encR : Nat → Option V := fun a => some (vr a)
abbrev encV : Unit → Option V := fun _ => none
/-- no cell is made -/
abbrev Same (lay : List LK) : List LK → Prop := fun l => l = lay
/-- a block of cells lies at a -/
def sub (lay : List LK) (a : Nat) (blk : List LK) : Prop := ∀ (i : Nat) (k : LK), blk[i]? = some k → lay[a + i]? = some k
theorem sub_drop {lay : List LK} {a : Nat} {blk blk' : List LK} (hs : sub lay a blk) (o : Nat) (he : (blk.drop o).take blk'.length = blk') {a' : Nat} (ha : a + o = a') : sub lay a' blk' := by
  intro i k hk
  subst ha
  rw [Nat.add_assoc]
  refine hs (o + i) k ?_
  rw [← he] at hk
  rw [List.getElem?_take] at hk
  split at hk
  · rwa [List.getElem?_drop] at hk
  · cases hk
abbrev blkDrawing : List LK := [(5, 0, 0, 7), (0, 12, 0, 0), (0, 16, 0, 0), (0, 16, 0, 0), (0, 16, 0, 0), (0, 16, 0, 0), (0, 16, 0, 0), (0, 16, 0, 0)]
abbrev blkHistory : List LK := [(6, 0, 0, 1), (2, 8, 8, 8)] ++ (blkDrawing ++ (blkDrawing ++ (blkDrawing ++ (blkDrawing ++ (blkDrawing ++ (blkDrawing ++ (blkDrawing ++ blkDrawing)))))))
abbrev blkReader : List LK := [(8, 0, 0, 2), (0, 80, 0, 0)] ++ blkDrawing
abbrev blkLanes : List LK := [(7, 0, 0, 12), (0, 16, 0, 0), (0, 16, 0, 0), (0, 16, 0, 0), (0, 16, 0, 0), (0, 16, 0, 0), (0, 12, 0, 0), (0, 12, 0, 0), (0, 16, 0, 0), (0, 16, 0, 0), (0, 16, 0, 0), (0, 16, 0, 0), (0, 16, 0, 0)]
abbrev blkBounds : List LK := [(4, 0, 0, 8), (3, 12, 0, 0), (0, 12, 0, 0), (0, 12, 0, 0), (0, 12, 0, 0), (0, 12, 0, 0), (0, 12, 0, 0), (0, 12, 0, 0), (0, 12, 0, 0), (0, 12, 0, 0), (0, 12, 0, 0), (0, 12, 0, 0), (0, 12, 0, 0), (0, 12, 0, 0), (0, 12, 0, 0), (1, 16, 0, 0), (1, 16, 0, 0), (0, 12, 0, 0), (0, 32, 0, 0), (0, 32, 0, 0), (0, 32, 0, 0)]
abbrev blkLines : List LK := [(9, 0, 0, 6)] ++ (blkDrawing ++ (blkHistory ++ (blkReader ++ (blkLanes ++ (blkLanes ++ blkBounds)))))
abbrev blkModel : List LK := [(10, 0, 0, 9), (0, 1120, 0, 0), (0, 80, 0, 0), (0, 16, 0, 0), (0, 16, 0, 0), (0, 16, 0, 0), (0, 16, 0, 0), (0, 16, 0, 0), (1, 16, 0, 0), (0, 144, 0, 0)]
theorem sub_hist {lay : List LK} {a : Nat} (hs : sub lay a blkHistory) {i : Int} (h0 : 0 ≤ i) (h1 : i < 8) {a' : Nat} (ha : a + 1 + 1 + 8 * i.toNat = a') : sub lay a' blkDrawing := by
  have hj : ∀ j : Nat, j < 8 → a + 1 + 1 + 8 * j = a' → sub lay a' blkDrawing := by
    intro j hj e
    match j, hj with
    | 0, _ => exact sub_drop hs 2 rfl (by omega)
    | 1, _ => exact sub_drop hs 10 rfl (by omega)
    | 2, _ => exact sub_drop hs 18 rfl (by omega)
    | 3, _ => exact sub_drop hs 26 rfl (by omega)
    | 4, _ => exact sub_drop hs 34 rfl (by omega)
    | 5, _ => exact sub_drop hs 42 rfl (by omega)
    | 6, _ => exact sub_drop hs 50 rfl (by omega)
    | 7, _ => exact sub_drop hs 58 rfl (by omega)
  exact hj i.toNat (by omega) ha
theorem sub_row {lay : List LK} {a : Nat} (hs : sub lay a blkBounds) {i : Int} (h0 : 0 ≤ i) (h1 : i < 12) {a' : Nat} (ha : a + 1 + 1 + i.toNat = a') : lay[a']? = some (0, 12, 0, 0) := by
  have hj : ∀ j : Nat, j < 12 → a + 1 + 1 + j = a' → lay[a']? = some (0, 12, 0, 0) := by
    intro j hj e
    subst e
    rw [Nat.add_assoc, Nat.add_assoc]
    refine hs (1 + (1 + j)) _ ?_
    match j, hj with
    | 0, _ => rfl
    | 1, _ => rfl
    | 2, _ => rfl
    | 3, _ => rfl
    | 4, _ => rfl
    | 5, _ => rfl
    | 6, _ => rfl
    | 7, _ => rfl
    | 8, _ => rfl
    | 9, _ => rfl
    | 10, _ => rfl
    | 11, _ => rfl
  exact hj i.toNat (by omega) ha
theorem sub_k {lay : List LK} {a a' : Nat} {blk : List LK} {k : LK} (hs : sub lay a blk) (i : Nat) (ha : a + i = a') (hk : blk[i]? = some k) : lay[a']? = some k := ha ▸ hs i k hk
theorem bz1 {β : Type} {E : Option β} : bz 1 E = E := rfl
theorem bz0 {β : Type} {E : Option β} : bz 0 E = E := rfl
def zst2 (lv : List (Nat × V)) (i : Nat) (v : V) : List (Nat × V) :=
  (i, v) :: lv.filter fun q => !(q.1 == i) && (!(q.1 == i + 1) && !(q.1 + 1 == i && (match q.2 with | .inr (.inr (.inl _)) => true | _ => false)))
theorem zst2_map (base b : Nat) (lv : List (Nat × V)) (i : Nat) (v : V) : (i, zc base b v) :: (lv.map fun q => (q.1, zc base b q.2)).filter (fun q => !(q.1 == i) && (!(q.1 == i + 1) && !(q.1 + 1 == i && q.2.category == 2))) = (zst2 lv i v).map fun q => (q.1, zc base b q.2) := by
  unfold zst2
  rw [List.map_cons, List.filter_map]
  congr 2
  apply List.filter_congr
  intro q _
  simp only [Function.comp, zc_cat]
  rfl
theorem zst2_ok {lv : List (Nat × V)} {i : Nat} {v : V} (h : ∀ q ∈ lv, okV q.2) (hv : okV v) : ∀ q ∈ zst2 lv i v, okV q.2 := by
  intro q hq
  rcases List.mem_cons.mp hq with rfl | hq
  · exact hv
  · exact h q (List.mem_filter.mp hq).1
variable {α : Type} {mi : MI} {enc : α → Option V} {FL : List LK → Prop} {lay : List LK} {nc ns pc : Nat} {lv : List (Nat × V)} {stk : List V} {h : Hp}
theorem j_sub {lv' : List (Nat × V)} {E : O α} (is : List Nat) (hs : is.filterMap (fun i => lv[i]?) = lv') (k : J mi enc FL lay nc ns pc lv' stk h E) : J mi enc FL lay nc ns pc lv stk h E := by
  intro p l e R s m args below meth c D ci base b C H locs ls r h2 hE S
  have hm : ∀ q ∈ lv', q ∈ lv := by
    intro q hq
    rw [← hs] at hq
    obtain ⟨i, -, hi⟩ := List.mem_filterMap.mp hq
    exact List.mem_of_getElem? hi
  refine k p l e R s m args below meth c D ci base b C H locs _ r h2 hE (S.reLv (fun q hq => S.1 q (hm q hq)) ⟨S.2.2.2.1.1, S.2.2.2.1.2.1, fun q hq => ?_⟩)
  obtain ⟨q', hq', rfl⟩ := List.mem_map.mp hq
  exact S.2.2.2.1.2.2 _ (List.mem_map.mpr ⟨q', hm q' hq', rfl⟩)
theorem j_lay {lay' : List LK} {E : O α} (hl : lay' = lay) (k : J mi enc FL lay' nc ns pc lv stk h E) : J mi enc FL lay nc ns pc lv stk h E := hl ▸ k
theorem j_cnt {nc' ns' : Nat} {E : O α} (h1 : nc = nc') (h2 : ns = ns') (k : J mi enc FL lay nc' ns' pc lv stk h E) : J mi enc FL lay nc ns pc lv stk h E := by subst h1; subst h2; exact k
theorem j_if_eq0 {off : Int} {tgt : Nat} {E : O α} (hd : decode mi.2.1 pc = .ok (.ifCond .eq off, 3)) (ht : (pc : Int) + off = (tgt : Int)) (k : J mi enc FL lay nc ns tgt lv stk h E) : J mi enc FL lay nc ns pc lv (vi 0 :: stk) h E := by
  intro p l e R s m args below meth c D ci base b C H locs ls r h2 hE S
  refine lv_if_eq C.1 C.2.1 hd ht (fun _ => ?_) (fun hc => absurd rfl hc)
  exact k p l e R s m args below meth c D ci base b C H locs _ r h2 hE S.pop
/-- calls of methods that make no cell -/
theorem j_cV {β : Type} {mi2 : MI} {enc2 : β → Option V} {E0 : O β} {K : β → Hp → O α} {index n t nn sd pr : Nat} {T : u_T} {N : Nat} {ty : Nat → FieldType} (avs : List V) (a : Nat) {stk0 : List V} (hd : decode mi.2.1 pc = .ok (.invokevirtual index, 3)) (hMV : MV mi2 n ∧ Cond.instanceMethod mi2.1 ∈ UW ∧ Cond.selects mi2.1.cls mi2.1 mi2.1 ∈ UW) (hl : MM mi.1.cls index mi2.1)
    (hk : lay[a]? = some (t + 4, nn, sd, pr)) (hZ : ZC t mi2.1.cls T N ty) (hCT : CT mi2 enc2 (Same lay) lay (vr a :: avs) h E0) (hn : avs.length = n) (hst : stk0 = avs.reverse ++ vr a :: stk) (hroom : RoomOk mi mi2 nc ns) (hW : (stk.map zcat).sum ≤ 8) (hmc : mi2.2.2.2.2.2.2.1 = 0) (hms : mi2.2.2.2.2.2.2.2.1 = 0)
    (kk : ∀ r h1, E0 = some (r, h1) → J mi enc FL lay nc ns (pc + 3) lv ((enc2 r).toList ++ stk) h1 (K r h1)) : J mi enc FL lay nc ns pc lv stk0 h (bd E0 K) :=
  j_callV (FL2 := Same lay) avs a hd hMV.1 hMV.2.1 hMV.2.2 hl hk hZ hCT hn hst hroom hW (fun r h1 lay' hL hE => by subst hL; exact j_cnt (by rw [hmc, Nat.add_zero]) (by rw [hms, Nat.add_zero]) (kk r h1 hE))
theorem j_cS {β : Type} {mi2 : MI} {enc2 : β → Option V} {E0 : O β} {K : β → Hp → O α} {index n : Nat} (avs : List V) {stk0 : List V} (hd : decode mi.2.1 pc = .ok (.invokestatic index, 3)) (hMV : MV mi2 n ∧ Cond.static mi2.1 ∈ UW) (hl : MM mi.1.cls index mi2.1)
    (hCT : CT mi2 enc2 (Same lay) lay avs h E0) (hn : avs.length = n) (hst : stk0 = avs.reverse ++ stk) (hroom : RoomOk mi mi2 nc ns) (hW : (stk.map zcat).sum ≤ 8) (hmc : mi2.2.2.2.2.2.2.1 = 0) (hms : mi2.2.2.2.2.2.2.2.1 = 0)
    (kk : ∀ r h1, E0 = some (r, h1) → J mi enc FL lay nc ns (pc + 3) lv ((enc2 r).toList ++ stk) h1 (K r h1)) : J mi enc FL lay nc ns pc lv stk0 h (bd E0 K) :=
  j_callS (FL2 := Same lay) avs hd hMV.1 hMV.2 hl hCT hn hst hroom hW (fun r h1 lay' hL hE => by subst hL; exact j_cnt (by rw [hmc, Nat.add_zero]) (by rw [hms, Nat.add_zero]) (kk r h1 hE))
theorem j_cSN {β : Type} {mi2 : MI} {enc2 : β → Option V} {E0 : O β} {K : β → Hp → O α} {index n : Nat} {host : String} (avs : List V) {stk0 : List V} (hd : decode mi.2.1 pc = .ok (.invokestatic index, 3)) (hMV : MV mi2 n ∧ Cond.static mi2.1 ∈ UW) (hl : Cond.methodLinkNest mi.1.cls index mi2.1 host ∈ NWs)
    (hCT : CT mi2 enc2 (Same lay) lay avs h E0) (hn : avs.length = n) (hst : stk0 = avs.reverse ++ stk) (hroom : RoomOk mi mi2 nc ns) (hW : (stk.map zcat).sum ≤ 8) (hmc : mi2.2.2.2.2.2.2.1 = 0) (hms : mi2.2.2.2.2.2.2.2.1 = 0)
    (kk : ∀ r h1, E0 = some (r, h1) → J mi enc FL lay nc ns (pc + 3) lv ((enc2 r).toList ++ stk) h1 (K r h1)) : J mi enc FL lay nc ns pc lv stk0 h (bd E0 K) :=
  j_callSN (FL2 := Same lay) avs hd hMV.1 hMV.2 hl hCT hn hst hroom hW (fun r h1 lay' hL hE => by subst hL; exact j_cnt (by rw [hmc, Nat.add_zero]) (by rw [hms, Nat.add_zero]) (kk r h1 hE))
theorem j_lstore_n {q : Fin 4} {lv' : List (Nat × V)} {x : Int} {E : O α} (hd : decode mi.2.1 pc = .ok (.lstore_n q, 1)) (hn : (q : Nat) + 1 < mi.2.2.1) (hl : zst2 lv q (vl x) = lv') (k : J mi enc FL lay nc ns (pc + 1) lv' stk h E) : J mi enc FL lay nc ns pc lv (vl x :: stk) h E := by
  intro p l e R s m args below meth c D ci base b C H locs ls r h2 hE S
  subst hl
  refine lv_lstore_n C.1 C.2.1 hd rfl S.2.2.2.1 hn (zst2_map base b lv q (vl x)) (fun ls' hl' => ?_)
  exact k p l e R s m args below meth c D ci base b C H locs _ r h2 hE (S.pop.reLv (zst2_ok S.1 S.top) hl')
/-- loops -/
theorem j_iter0 {F : (Hp → O α) → Hp → O α} (hF : ∀ k : Hp → O α, (∀ h, J mi enc FL lay nc ns pc lv stk h (k h)) → ∀ h, J mi enc FL lay nc ns pc lv stk h (F k h)) : ∀ (n : Nat) (h : Hp), J mi enc FL lay nc ns pc lv stk h (iter0 F n h)
  | 0, h => fun _ _ _ _ _ _ _ _ _ _ _ _ _ _ _ _ _ _ _ _ hE => by cases hE
  | n + 1, h => hF _ (j_iter0 hF n) h
theorem j_iter1 {lf : Int → List (Nat × V)} {F : (Int → Hp → O α) → Int → Hp → O α} (hF : ∀ k : Int → Hp → O α, (∀ x h, J mi enc FL lay nc ns pc (lf x) stk h (k x h)) → ∀ x h, J mi enc FL lay nc ns pc (lf x) stk h (F k x h)) : ∀ (n : Nat) (x : Int) (h : Hp), J mi enc FL lay nc ns pc (lf x) stk h (iter1 F n x h)
  | 0, x, h => fun _ _ _ _ _ _ _ _ _ _ _ _ _ _ _ _ _ _ _ _ hE => by cases hE
  | n + 1, x, h => hF _ (j_iter1 hF n) x h
theorem j_iter2 {lf : Int → Int → List (Nat × V)} {F : (Int → Int → Hp → O α) → Int → Int → Hp → O α} (hF : ∀ k : Int → Int → Hp → O α, (∀ x y h, J mi enc FL lay nc ns pc (lf x y) stk h (k x y h)) → ∀ x y h, J mi enc FL lay nc ns pc (lf x y) stk h (F k x y h)) : ∀ (n : Nat) (x y : Int) (h : Hp), J mi enc FL lay nc ns pc (lf x y) stk h (iter2 F n x y h)
  | 0, x, y, h => fun _ _ _ _ _ _ _ _ _ _ _ _ _ _ _ _ _ _ _ _ hE => by cases hE
  | n + 1, x, y, h => hF _ (j_iter2 hF n) x y h
theorem j_iter3 {lf : Int → Int → Int → List (Nat × V)} {F : (Int → Int → Int → Hp → O α) → Int → Int → Int → Hp → O α} (hF : ∀ k : Int → Int → Int → Hp → O α, (∀ x y z h, J mi enc FL lay nc ns pc (lf x y z) stk h (k x y z h)) → ∀ x y z h, J mi enc FL lay nc ns pc (lf x y z) stk h (F k x y z h)) : ∀ (n : Nat) (x y z : Int) (h : Hp), J mi enc FL lay nc ns pc (lf x y z) stk h (iter3 F n x y z h)
  | 0, x, y, z, h => fun _ _ _ _ _ _ _ _ _ _ _ _ _ _ _ _ _ _ _ _ hE => by cases hE
  | n + 1, x, y, z, h => hF _ (j_iter3 hF n) x y z h
theorem j_iter4 {lf : Int → Int → Int → Int → List (Nat × V)} {F : (Int → Int → Int → Int → Hp → O α) → Int → Int → Int → Int → Hp → O α} (hF : ∀ k : Int → Int → Int → Int → Hp → O α, (∀ x y z w h, J mi enc FL lay nc ns pc (lf x y z w) stk h (k x y z w h)) → ∀ x y z w h, J mi enc FL lay nc ns pc (lf x y z w) stk h (F k x y z w h)) : ∀ (n : Nat) (x y z w : Int) (h : Hp), J mi enc FL lay nc ns pc (lf x y z w) stk h (iter4 F n x y z w h)
  | 0, x, y, z, w, h => fun _ _ _ _ _ _ _ _ _ _ _ _ _ _ _ _ _ _ _ _ hE => by cases hE
  | n + 1, x, y, z, w, h => hF _ (j_iter4 hF n) x y z w h
theorem j_iter5 {lf : Int → Int → Int → Int → Int → List (Nat × V)} {F : (Int → Int → Int → Int → Int → Hp → O α) → Int → Int → Int → Int → Int → Hp → O α} (hF : ∀ k : Int → Int → Int → Int → Int → Hp → O α, (∀ x y z w u h, J mi enc FL lay nc ns pc (lf x y z w u) stk h (k x y z w u h)) → ∀ x y z w u h, J mi enc FL lay nc ns pc (lf x y z w u) stk h (F k x y z w u h)) : ∀ (n : Nat) (x y z w u : Int) (h : Hp), J mi enc FL lay nc ns pc (lf x y z w u) stk h (iter5 F n x y z w u h)
  | 0, x, y, z, w, u, h => fun _ _ _ _ _ _ _ _ _ _ _ _ _ _ _ _ _ _ _ _ hE => by cases hE
  | n + 1, x, y, z, w, u, h => hF _ (j_iter5 hF n) x y z w u h
end MR

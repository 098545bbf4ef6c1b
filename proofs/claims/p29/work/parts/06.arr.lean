section AR
variable {α : Type} {mi : MI} {enc : α → Option V} {FL : List LK → Prop} {lay : List LK} {nc ns pc : Nat} {lv : List (Nat × V)} {stk : List V} {h : Hp} {E E2 : O α}
theorem KK.arr {D : va_G} {ci : zCI} {U : State} (h : KK D ci U) (t : Nat) {q : ClassId × FieldType} (hq : [(ci.1, FieldType.int), (ci.2.1, .boolean), (ci.2.2.1, .object RX1), (ci.2.2.2, .array .int)][t]? = some q) : ArrOfT U q.1 q.2 ∧ va_RA U q.1 q.2 := h.1.2 t q hq
theorem zarr_set {cA : ClassId} {n : Nat} {h : Hp} {a : Nat} {i x : Int} (h0 : 0 ≤ i) : (vp_cell cA (n, .inl (fun j => Int32.ofInt (h a j)))).setSlot i.toNat (.int (Int32.ofInt x)) = vp_cell cA (n, .inl (fun j => Int32.ofInt (hu h a i x a j))) := by
  rw [vp_cell_i, vp_cell_i, arrV_store]
  congr 1
  funext q
  unfold updV hu
  by_cases hq : q = i.toNat
  · rw [if_pos hq, if_pos ⟨rfl, by omega⟩]
  · rw [if_neg hq, if_neg (fun z => hq (by omega))]
theorem j_iald {a n st p : Nat} {i nI : Int} (hd : decode mi.2.1 pc = .ok (.iaload, 1)) (hk : lay[a]? = some (0, n, st, p)) (hn : (n : Int) = nI) (kk : J mi enc FL lay nc ns (pc + 1) lv (vi (h a i) :: stk) h E) : J mi enc FL lay nc ns pc lv (vi i :: vr a :: stk) h (ix i nI E) := by
  intro p' l e R s m args below meth c D ci base b CC H locs ls r h2 hE S
  subst hn
  obtain ⟨hin, hE⟩ := ix_some hE
  have hi : inR i := S.top
  refine va_iald CC.1 CC.2.1 CC.2.2.2.2.2.1.1 S.2.2.2.2.1.2 a 0 (zw_at hk) rfl (i32_in hi hin) hd ?_
  rw [i32_cl hi, Int.toNat_of_nonneg hin.1]
  exact kk p' l e R s m args below meth c D ci base b CC H locs _ r h2 hE (S.pop.pop.push (v := vi (h a i)) (S.2.2.1 a _ _ hk (Or.inl (show _ < 4 by simp))))
theorem j_zald {a n st p : Nat} {i nI : Int} (hd : decode mi.2.1 pc = .ok (.baload, 1)) (hk : lay[a]? = some (1, n, st, p)) (hn : (n : Int) = nI) (kk : J mi enc FL lay nc ns (pc + 1) lv (vi (h a i) :: stk) h E) : J mi enc FL lay nc ns pc lv (vi i :: vr a :: stk) h (ix i nI E) := by
  intro p' l e R s m args below meth c D ci base b CC H locs ls r h2 hE S
  subst hn
  obtain ⟨hin, hE⟩ := ix_some hE
  have hi : inR i := S.top
  refine va_zald CC.1 CC.2.1 CC.2.2.2.2.2.1.1 S.2.2.2.2.1.2 a 1 (zw_at hk) rfl (i32_in hi hin) hd ?_
  rw [i32_cl hi, Int.toNat_of_nonneg hin.1]
  exact kk p' l e R s m args below meth c D ci base b CC H locs _ r h2 hE (S.pop.pop.push (v := vi (h a i)) (S.2.2.1 a _ _ hk (Or.inl (show _ < 4 by simp))))
theorem j_iast {a n st p : Nat} {i x nI : Int} {K : Hp → O α} (hd : decode mi.2.1 pc = .ok (.iastore, 1)) (hk : lay[a]? = some (0, n, st, p)) (hn : (n : Int) = nI) (kk : ∀ h1, h1 = hu h a i x → J mi enc FL lay nc ns (pc + 1) lv stk h1 (K h1)) : J mi enc FL lay nc ns pc lv (vi x :: vi i :: vr a :: stk) h (ix i nI (lt (hu h a i x) K)) := by
  intro p' l e R s m args below meth c D ci base b CC H locs ls r h2 hE S
  subst hn
  obtain ⟨hin, hE⟩ := ix_some hE
  have hx : inR x := S.top
  have hi : inR i := S.top2
  have hcell := S.2.2.2.2.1.2 a _ (zw_at hk)
  refine W.iast CC.1 CC.2.1 hcell ((CC.2.2.2.2.2.1.arr 0 rfl).1 n (fun j => .int (Int32.ofInt (h a j)))) (fun q => by cases q) (by show ¬ (_ ∨ (arrV _ _ _).slots.size ≤ _); rw [arrV_size]; exact i32_in hi hin) rfl rfl hd fun H1 e1 z oq => ?_
  rw [i32_cl hi] at e1 ⊢
  have hP' : RelH D ci base lay (hu h a i x) H1 := RelH.upd S.2.2.2.2.1 hk z oq (by rw [zarr_set hin.1] at e1; exact e1) (fun j hj => hu_ne hj)
  exact kk _ rfl p' l e R s m args below meth c D ci base b CC H1 _ _ r h2 hE (S.pop.pop.pop.heap (inR_hu S.2.2.1 hx) hP' (S.2.2.2.2.2.put z oq (Nat.le_add_right _ _)))
theorem j_zast {a n st p : Nat} {i x nI : Int} {K : Hp → O α} (hd : decode mi.2.1 pc = .ok (.bastore, 1)) (hk : lay[a]? = some (1, n, st, p)) (hn : (n : Int) = nI) (kk : ∀ h1, h1 = hu h a i x → J mi enc FL lay nc ns (pc + 1) lv stk h1 (K h1)) : J mi enc FL lay nc ns pc lv (vi x :: vi i :: vr a :: stk) h (ix i nI (bz x (lt (hu h a i x) K))) := by
  intro p' l e R s m args below meth c D ci base b CC H locs ls r h2 hE S
  subst hn
  obtain ⟨hin, hE⟩ := ix_some hE
  obtain ⟨h01, hE⟩ := bz_some hE
  have hx : inR x := S.top
  have hi : inR i := S.top2
  have hcell := S.2.2.2.2.1.2 a _ (zw_at hk)
  refine W.zast CC.1 CC.2.1 hcell ((CC.2.2.2.2.2.1.arr 1 rfl).1 n (fun j => .int (Int32.ofInt (h a j)))) (fun q => by cases q) (by show ¬ (_ ∨ (arrV _ _ _).slots.size ≤ _); rw [arrV_size]; exact i32_in hi hin) rfl rfl hd fun H1 e1 z oq => ?_
  have hn : narrow .boolean (.int (Int32.ofInt x)) = .int (Int32.ofInt x) := by rcases h01 with rfl | rfl <;> rfl
  rw [i32_cl hi, hn] at e1
  rw [i32_cl hi]
  have hP' : RelH D ci base lay (hu h a i x) H1 := RelH.upd S.2.2.2.2.1 hk z oq (by rw [zarr_set hin.1] at e1; exact e1) (fun j hj => hu_ne hj)
  exact kk _ rfl p' l e R s m args below meth c D ci base b CC H1 _ _ r h2 hE (S.pop.pop.pop.heap (inR_hu S.2.2.1 hx) hP' (S.2.2.2.2.2.put z oq (Nat.le_add_right _ _)))
/-- a Drawing out of a row of them -/
theorem j_aaldD {a n st p : Nat} {i nI : Int} (hd : decode mi.2.1 pc = .ok (.aaload, 1)) (hk : lay[a]? = some (2, n, st, p)) (hp : n ≤ p) (hn : (n : Int) = nI) {a' : Nat} (ha' : a + 1 + st * i.toNat = a') (kk : 0 ≤ i → i < nI → J mi enc FL lay nc ns (pc + 1) lv (vr a' :: stk) h E) : J mi enc FL lay nc ns pc lv (vi i :: vr a :: stk) h (ix i nI E) := by
  intro p' l e R s m args below meth c D ci base b CC H locs ls r h2 hE S
  subst hn
  subst ha'
  obtain ⟨hin, hE⟩ := ix_some hE
  have hi : inR i := S.top
  refine va_aldq (C := RX1) CC.1 CC.2.1 CC.2.2.2.2.2.1.1 S.2.2.2.2.1.2 a 2 (zw_at hk) rfl (i32_in hi hin) hd ?_
  rw [i32_cl hi]
  dsimp only
  rw [if_pos (by omega)]
  exact kk hin.1 hin.2 p' l e R s m args below meth c D ci base b CC H locs _ r h2 hE (S.pop.pop.push (v := vr (a + 1 + st * i.toNat)) trivial)
/-- a row out of a row of rows -/
theorem j_aaldI {a n st p : Nat} {i nI : Int} (hd : decode mi.2.1 pc = .ok (.aaload, 1)) (hk : lay[a]? = some (3, n, st, p)) (hn : (n : Int) = nI) {a' : Nat} (ha' : a + 1 + i.toNat = a') (kk : 0 ≤ i → i < nI → J mi enc FL lay nc ns (pc + 1) lv (vr a' :: stk) h E) : J mi enc FL lay nc ns pc lv (vi i :: vr a :: stk) h (ix i nI E) := by
  intro p' l e R s m args below meth c D ci base b CC H locs ls r h2 hE S
  subst hn
  subst ha'
  obtain ⟨hin, hE⟩ := ix_some hE
  have hi : inR i := S.top
  have hlt : i.toNat < n := by omega
  have hcell := S.2.2.2.2.1.2 a _ (zw_at hk)
  refine W.aald (ty := .array .int) (v := .ref (base + (a + 1 + i.toNat))) CC.1 CC.2.1 hcell ((CC.2.2.2.2.2.1.arr 3 rfl).1 n (fun j => va_rf (if j < n then some (base + (a + 1 + j)) else none))) rfl (fun q => by cases q) (by show ¬ (_ ∨ (arrV _ _ _).slots.size ≤ _); rw [arrV_size]; exact i32_in hi hin) ?_ rfl rfl hd ?_
  · rw [i32_cl hi]
    show (arrV _ _ _).slots[_]? = _
    rw [arrV_read _ _ hlt]
    dsimp only
    rw [if_pos hlt]
    rfl
  · exact kk hin.1 hin.2 p' l e R s m args below meth c D ci base b CC H locs _ r h2 hE (S.pop.pop.push (v := vr (a + 1 + i.toNat)) trivial)
theorem j_alen {a n st p : Nat} {nI : Int} (hd : decode mi.2.1 pc = .ok (.arraylength, 1)) (hk : lay[a]? = some (0, n, st, p)) (hn : (n : Int) = nI) (hnr : inR nI) (kk : J mi enc FL lay nc ns (pc + 1) lv (vi nI :: stk) h E) : J mi enc FL lay nc ns pc lv (vr a :: stk) h E := by
  intro p' l e R s m args below meth c D ci base b CC H locs ls r h2 hE S
  refine va_alen CC.1 CC.2.1 CC.2.2.2.2.2.1.1 S.2.2.2.2.1.2 a 0 (zw_at hk) rfl (v := Int32.ofInt nI) (by subst hn; exact Int32.ofInt_eq_ofNat.symm) hd ?_
  exact kk p' l e R s m args below meth c D ci base b CC H locs _ r h2 hE (S.pop.push (v := vi nI) hnr)
/-- the law's own script -/
theorem j_slen {L : Nat} {xs : Nat → Int32} {f : Bool} (hd : decode mi.2.1 pc = .ok (.arraylength, 1)) (hs : mi.2.2.2.2.2.2.2.2 = some (L, xs, f)) (hL : inR L) (kk : J mi enc FL lay nc ns (pc + 1) lv (vi L :: stk) h E) : J mi enc FL lay nc ns pc lv (vsc :: stk) h E := by
  intro p' l e R s m args below meth c D ci base b CC H locs ls r h2 hE S
  obtain ⟨hX, hb, -⟩ := CC.2.2.2.2.2.2.2.2.2.2.2.2.2.2 L xs f hs
  have hbs := CC.2.2.2.2.2.2.2.2.2.2.2.2.2.1
  refine va_slen CC.1 CC.2.1 hX (by omega) (by omega) S.2.2.2.2.2 hd ?_
  rw [show Int32.ofNat L = Int32.ofInt (L : Int) from Int32.ofInt_eq_ofNat.symm]
  exact kk p' l e R s m args below meth c D ci base b CC H locs _ r h2 hE (S.pop.push (v := vi L) hL)
theorem j_sld {L : Nat} {xs : Nat → Int32} {f : Bool} {i : Int} (hd : decode mi.2.1 pc = .ok (.iaload, 1)) (hs : mi.2.2.2.2.2.2.2.2 = some (L, xs, f)) (kk : J mi enc FL lay nc ns (pc + 1) lv (vi (xs i.toNat).toInt :: stk) h E) : J mi enc FL lay nc ns pc lv (vi i :: vsc :: stk) h (ix i L E) := by
  intro p' l e R s m args below meth c D ci base b CC H locs ls r h2 hE S
  obtain ⟨hX, hb, -⟩ := CC.2.2.2.2.2.2.2.2.2.2.2.2.2.2 L xs f hs
  have hbs := CC.2.2.2.2.2.2.2.2.2.2.2.2.2.1
  obtain ⟨hin, hE⟩ := ix_some hE
  have hi : inR i := S.top
  refine va_sld CC.1 CC.2.1 hX (by omega) (by omega) S.2.2.2.2.2 (i32_in hi hin) hd ?_
  rw [i32_cl hi, ← Int32.ofInt_toInt (xs i.toNat)]
  exact kk p' l e R s m args below meth c D ci base b CC H locs _ r h2 hE (S.pop.pop.push (v := vi (xs i.toNat).toInt) ⟨(xs i.toNat).minValue_le_toInt, (xs i.toNat).toInt_le⟩)
/-- masks -/
theorem and_mask {x : Int} (k : Nat) {m : Int} (hm : (Int32.ofInt m).toBitVec.toNat = 2 ^ k - 1) (hk : k ≤ 30) : Int32.ofInt x &&& Int32.ofInt m = Int32.ofInt (x % ((2 ^ k : Nat) : Int)) := by
  rw [pk_and (Int32.ofInt x) k hm]
  show Int32.ofNat _ = _
  rw [← Int32.ofInt_eq_ofNat]
  congr 1
  have h1 : (Int32.ofInt x).toBitVec.toNat = (x % (2 ^ 32 : Int)).toNat := by
    show (BitVec.ofInt 32 x).toNat = _
    rw [BitVec.toNat_ofInt]
    rfl
  rw [h1]
  have h2 : (2 ^ 32 : Int) = ((2 ^ k : Nat) : Int) * ((2 ^ (32 - k) : Nat) : Int) := by
    rw [← Int.natCast_mul, ← Nat.pow_add, show k + (32 - k) = 32 by omega]
    rfl
  have h3 : 0 ≤ x % (2 ^ 32 : Int) := Int.emod_nonneg _ (by decide)
  rw [Int.natCast_emod, Int.toNat_of_nonneg h3, h2, Int.emod_emod_of_dvd _ (Int.dvd_mul_right _ _)]
theorem j_iand (k : Nat) (q : Int) {x m : Int} (hd : decode mi.2.1 pc = .ok (.iand, 1)) (hm : (Int32.ofInt m).toBitVec.toNat = 2 ^ k - 1) (hk : k ≤ 30) (hq : ((2 ^ k : Nat) : Int) = q) (hq2 : 0 < q ∧ q ≤ 1073741824) (kk : J mi enc FL lay nc ns (pc + 1) lv (vi (x % q) :: stk) h E) : J mi enc FL lay nc ns pc lv (vi m :: vi x :: stk) h E := by
  intro p' l e R s m' args below meth c D ci base b CC H locs ls r h2 hE S
  refine lv_iand CC.1 CC.2.1 hd ?_
  rw [and_mask k hm hk, hq]
  have h1 := Int.emod_nonneg x (show q ≠ 0 by omega)
  have h3 := Int.emod_lt_of_pos x hq2.1
  exact kk p' l e R s m' args below meth c D ci base b CC H locs _ r h2 hE (S.pop.pop.push (v := vi (x % q)) ⟨by omega, by omega⟩)
theorem i32_nI {x : Int} (hx : 0 ≤ x) : Int32.ofInt x = nI x.toNat := by
  show _ = Int32.ofNat _
  rw [← Int32.ofInt_eq_ofNat, Int.toNat_of_nonneg hx]
theorem zs_l : ∀ n, n < 32 → ((nI n &&& 31).toBitVec.smod 32).toNat = n := by decide +kernel
theorem j_ishl1 {y : Int} (hd : decode mi.2.1 pc = .ok (.ishl, 1)) (kk : J mi enc FL lay nc ns (pc + 1) lv (vi (pw2 y) :: stk) h E) : J mi enc FL lay nc ns pc lv (vi y :: vi 1 :: stk) h (shc 1 y (ck (pw2 y) E)) := by
  intro p' l e R s m' args below meth c D ci base b CC H locs ls r h2 hE S
  obtain ⟨hz, hE⟩ := shc_some hE
  obtain ⟨hr, hE⟩ := ck_some hE
  refine lv_ishl CC.1 CC.2.1 hd ?_
  have hy : y.toNat < 31 := by omega
  have hlt : 2 ^ y.toNat < 2 ^ 31 := Nat.pow_lt_pow_right (by decide) hy
  have e1 : Int32.ofInt 1 <<< (Int32.ofInt y &&& 31) = Int32.ofInt (pw2 y) := by
    rw [i32_nI hz.2.1, show Int32.ofInt 1 = nI 1 from rfl, pk_shlN (nI y.toNat &&& 31) y.toNat (zs_l _ (by omega)) (by omega), Nat.one_mul]
    unfold pw2
    rw [i32_nI (Int.natCast_nonneg _), Int.toNat_natCast]
  rw [e1]
  exact kk p' l e R s m' args below meth c D ci base b CC H locs _ r h2 hE (S.pop.pop.push (v := vi (pw2 y)) hr)
theorem j_ishr {x y : Int} (hd : decode mi.2.1 pc = .ok (.ishr, 1)) (kk : J mi enc FL lay nc ns (pc + 1) lv (vi (x / pw2 y) :: stk) h E) : J mi enc FL lay nc ns pc lv (vi y :: vi x :: stk) h (shc x y E) := by
  intro p' l e R s m' args below meth c D ci base b CC H locs ls r h2 hE S
  obtain ⟨hz, hE⟩ := shc_some hE
  have hx : inR x := S.top2
  refine lv_ishr CC.1 CC.2.1 hd ?_
  have e1 : Int32.ofInt x >>> (Int32.ofInt y &&& 31) = Int32.ofInt (x / pw2 y) := by
    have hxn : x.toNat < 2 ^ 31 := by have := hx.2; omega
    rw [i32_nI hz.2.1, i32_nI hz.1, pk_shrN hxn (nI y.toNat &&& 31) y.toNat (zs_l _ (by omega))]
    unfold pw2
    rw [i32_nI (Int.ediv_nonneg hz.1 (Int.natCast_nonneg _))]
    congr 1
    apply Int.ofNat.inj
    show ((x.toNat / 2 ^ y.toNat : Nat) : Int) = ((x / ((2 ^ y.toNat : Nat) : Int)).toNat : Int)
    rw [Int.toNat_of_nonneg (Int.ediv_nonneg hz.1 (Int.natCast_nonneg _)), Int.natCast_ediv, Int.toNat_of_nonneg hz.1]
  rw [e1]
  have h1 : 0 ≤ x / pw2 y := Int.ediv_nonneg hz.1 (Int.natCast_nonneg _)
  have h3 : x / pw2 y ≤ x := Int.ediv_le_self _ hz.1
  exact kk p' l e R s m' args below meth c D ci base b CC H locs _ r h2 hE (S.pop.pop.push (v := vi (x / pw2 y)) ⟨by omega, by have := hx.2; omega⟩)
theorem j_ior {x y : Int} (hd : decode mi.2.1 pc = .ok (.ior, 1)) (kk : J mi enc FL lay nc ns (pc + 1) lv (vi (orI x y) :: stk) h E) : J mi enc FL lay nc ns pc lv (vi y :: vi x :: stk) h (orc x y E) := by
  intro p' l e R s m' args below meth c D ci base b CC H locs ls r h2 hE S
  obtain ⟨hz, hE⟩ := orc_some hE
  have hx : inR x := S.top2
  have hy : inR y := S.top
  refine lv_ior CC.1 CC.2.1 hd ?_
  have hlt : x.toNat ||| y.toNat < 2 ^ 31 := Nat.or_lt_two_pow (by have := hx.2; omega) (by have := hy.2; omega)
  have e1 : Int32.ofInt x ||| Int32.ofInt y = Int32.ofInt (orI x y) := by
    unfold orI
    rw [i32_nI hz.1, i32_nI hz.2, i32_nI (Int.natCast_nonneg _), Int.toNat_natCast]
    apply Int32.toBitVec.inj
    apply BitVec.eq_of_toNat_eq
    show ((nI x.toNat).toBitVec ||| (nI y.toNat).toBitVec).toNat = _
    rw [BitVec.toNat_or, pk_tn (by have := hx.2; omega), pk_tn (by have := hy.2; omega), pk_tn (by omega)]
  rw [e1]
  have h1 : 0 ≤ orI x y := Int.natCast_nonneg _
  have h3 : orI x y < 2147483648 := by unfold orI; omega
  exact kk p' l e R s m' args below meth c D ci base b CC H locs _ r h2 hE (S.pop.pop.push (v := vi (orI x y)) ⟨by omega, by omega⟩)
end AR

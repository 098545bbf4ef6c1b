section HR
theorem RelH.upd {D : va_G} {ci : zCI} {base : Nat} {lay : List LK} {h h1 : Hp} {H H1 : Heap} (hP : RelH D ci base lay h H) {a : Nat} {k : LK} (hk : lay[a]? = some k) (hz : H1.size = H.size) (ho : ∀ q, q ≠ base + a → H1[q]? = H[q]?) (hat : va_at D vwCl (base + a, zcell ci base a k h1) H1) (hh : ∀ j, j ≠ a → h1 j = h j) : RelH D ci base lay h1 H1 := by
  refine ⟨by rw [hz]; exact hP.1, fun j q hq => ?_⟩
  obtain ⟨k', hk', rfl⟩ := zw_inv hq
  by_cases hj : j = a
  · subst hj
    cases hk.symm.trans hk'
    exact hat
  · have h2 := hP.2 j _ (zw_at hk')
    have e : zcell ci base j k' h1 = zcell ci base j k' h := by
      unfold zcell
      rw [hh j hj]
    rw [e]
    exact h2.kept (ho _ (by show base + j ≠ base + a; omega))
theorem zfl_at {base a p t k : Nat} {f : Int → Int} (hk : k < znf t) : (zfl base a p t f)[k]? = some (zval base a p f (zfd t k) k) := by
  simp [zfl, hk]
theorem zfl_len {base a p t : Nat} {f : Int → Int} : (zfl base a p t f).length = znf t := by simp [zfl]
theorem zfl_V {base a p t k : Nat} {f : Int → Int} (hk : k < znf t) : vp_V (zfl base a p t f) k = zval base a p f (zfd t k) k := by
  unfold vp_V
  rw [List.getD_eq_getElem?_getD, zfl_at hk]
  rfl
theorem hu_ne {h : Hp} {a : Nat} {i v : Int} {j : Nat} (hj : j ≠ a) : hu h a i v j = h j := by
  funext x
  unfold hu
  rw [if_neg (fun q => hj q.1)]
theorem zval_hu {base a p : Nat} {h : Hp} {i x : Int} {d : Nat × Nat × Nat} {k : Nat} (hki : (k : Int) ≠ i) : zval base a p (hu h a i x a) d k = zval base a p (h a) d k := by
  have e : hu h a i x a k = h a k := by
    unfold hu
    rw [if_neg (fun q => hki q.2)]
  unfold zval
  rw [e]
theorem inR_hu {lay : List LK} {h : Hp} (hR : InR lay h) {a : Nat} {i x : Int} (hx : inR x) : InR lay (hu h a i x) := by
  intro c k j hk hj
  unfold hu
  split
  · exact hx
  · exact hR c k j hk hj
theorem inR_huL {lay : List LK} {h : Hp} (hR : InR lay h) {a : Nat} {k0 : LK} {i x : Int} (hk0 : lay[a]? = some k0) (hi : ¬ zint k0 i) : InR lay (hu h a i x) := by
  intro c k j hk hj
  unfold hu
  split
  · rename_i q
    obtain ⟨rfl, rfl⟩ := q
    cases hk0.symm.trans hk
    exact absurd hj hi
  · exact hR c k j hk hj
variable {α : Type} {mi : MI} {enc : α → Option V} {FL : List LK → Prop} {lay : List LK} {nc ns pc : Nat} {lv : List (Nat × V)} {stk : List V} {h : Hp} {E E2 : O α}
theorem j_get {t k N n st p a index : Nat} {C : String} {T : u_T} {ty : Nat → FieldType} {v : V} (hd : decode mi.2.1 pc = .ok (.getfield index, 3)) (hZ : ZC t C T N ty) (hN : znf t = N) (hk : lay[a]? = some (t + 4, n, st, p)) (hkN : k < N)
    (hw : Cond.fieldLink mi.1.cls index (T k).1 (T k).2.1 (T k).2.2.1 ∈ UW) (hv : ∀ base b, zval base a p (h a) (zfd t k) k = zc base b v) (ho : InR lay h → okV v) (kk : J mi enc FL lay nc ns (pc + 3) lv (v :: stk) h E) : J mi enc FL lay nc ns pc lv (vr a :: stk) h E := by
  intro p' l e R s m args below meth c D ci base b CC H locs ls r h2 hE S
  refine va_get (D := D) (cl := vwCl) (ci := t) (v := zc base b v) (C := C) (T := T) (N := N) (fs := zfl base a p t (h a)) CC.1 CC.2.1 CC.2.2.2.2.1 hZ.2.1 CC.2.2.2.1 CC.2.2.2.2.2.1.1 S.2.2.2.2.1.2 a (zw_at hk) hZ.1 k hkN (CC.2.2.2.2.1 _ hw) (fun _ h9 => h9) (by rw [zfl_at (by rw [hN]; exact hkN), hv base b]) hd ?_
  exact kk p' l e R s m args below meth c D ci base b CC H locs _ r h2 hE (S.pop.push (ho S.2.2.1))
theorem j_getI (k : Nat) (kI : Int) {t N n st p a index : Nat} {C : String} {T : u_T} {ty : Nat → FieldType} (hd : decode mi.2.1 pc = .ok (.getfield index, 3)) (hZ : ZC t C T N ty) (hN : znf t = N) (hk : lay[a]? = some (t + 4, n, st, p)) (hkN : k < N)
    (hw : Cond.fieldLink mi.1.cls index (T k).1 (T k).2.1 (T k).2.2.1 ∈ UW) (hz : (zfd t k).1 = 0) (hkI : (k : Int) = kI) (kk : J mi enc FL lay nc ns (pc + 3) lv (vi (h a kI) :: stk) h E) : J mi enc FL lay nc ns pc lv (vr a :: stk) h E := by
  subst hkI
  refine j_get hd hZ hN hk hkN hw (v := vi (h a k)) (fun base b => ?_) (fun hR => ?_) kk
  · unfold zval
    rw [hz]
    rfl
  · refine hR a _ _ hk (Or.inr ?_)
    show (zfd (t + 4 - 4) (Int.toNat k)).1 ≠ 1
    rw [Nat.add_sub_cancel, Int.toNat_natCast, hz]
    decide
theorem j_getL (k : Nat) (kI : Int) {t N n st p a index : Nat} {C : String} {T : u_T} {ty : Nat → FieldType} (hd : decode mi.2.1 pc = .ok (.getfield index, 3)) (hZ : ZC t C T N ty) (hN : znf t = N) (hk : lay[a]? = some (t + 4, n, st, p)) (hkN : k < N)
    (hw : Cond.fieldLink mi.1.cls index (T k).1 (T k).2.1 (T k).2.2.1 ∈ UW) (hz : (zfd t k).1 = 1) (hkI : (k : Int) = kI) (kk : J mi enc FL lay nc ns (pc + 3) lv (vl (h a kI) :: stk) h E) : J mi enc FL lay nc ns pc lv (vr a :: stk) h E := by
  subst hkI
  refine j_get hd hZ hN hk hkN hw (v := vl (h a k)) (fun base b => ?_) (fun _ => trivial) kk
  unfold zval
  rw [hz]
  rfl
theorem j_getR (k o j : Nat) {t N n st p a index : Nat} {C : String} {T : u_T} {ty : Nat → FieldType} (hd : decode mi.2.1 pc = .ok (.getfield index, 3)) (hZ : ZC t C T N ty) (hN : znf t = N) (hk : lay[a]? = some (t + 4, n, st, p)) (hkN : k < N)
    (hw : Cond.fieldLink mi.1.cls index (T k).1 (T k).2.1 (T k).2.2.1 ∈ UW) (hz : zfd t k = (2, o, j)) (hj : j < p) {a' : Nat} (ha' : a + o = a') (kk : J mi enc FL lay nc ns (pc + 3) lv (vr a' :: stk) h E) : J mi enc FL lay nc ns pc lv (vr a :: stk) h E := by
  subst ha'
  refine j_get hd hZ hN hk hkN hw (v := vr (a + o)) (fun base b => ?_) (fun _ => trivial) kk
  unfold zval
  rw [hz]
  show (if j < p then Value.ref (base + a + o) else .null) = .ref (base + (a + o))
  rw [if_pos hj, Nat.add_assoc]
theorem j_put {t k N n st p a index : Nat} {kI x : Int} {C : String} {T : u_T} {ty : Nat → FieldType} {v : V} {K : Hp → O α} (hd : decode mi.2.1 pc = .ok (.putfield index, 3)) (hZ : ZC t C T N ty) (hN : znf t = N) (hk : lay[a]? = some (t + 4, n, st, p)) (hkN : k < N)
    (hw : Cond.fieldLink mi.1.cls index (T k).1 (T k).2.1 (T k).2.2.1 ∈ UW) (hfin : (T k).2.2.2 = false) (hkI : (k : Int) = kI)
    (hn : ∀ base b, okV v → narrow (ty k) (zc base b v) = zc base b v ∧ fits (ty k) (zc base b v) = true) (hv : ∀ base b, zval base a p (hu h a kI x a) (zfd t k) k = zc base b v) (ho : InR lay h → okV v → InR lay (hu h a kI x)) (kk : ∀ h1, h1 = hu h a kI x → J mi enc FL lay nc ns (pc + 3) lv stk h1 (K h1)) : J mi enc FL lay nc ns pc lv (v :: vr a :: stk) h (lt (hu h a kI x) K) := by
  intro p' l e R s m args below meth c D ci base b CC H locs ls r h2 hE S
  have hts := CC.2.2.2.2.1
  have hK := CC.2.2.2.2.2.1.1
  have hc := hZ.1
  have hap := va_apart (own := mi.1.cls) hts hZ.2.1 ty hZ.2.2.1 hZ.2.2.2 hK hc
  obtain ⟨rr, h1, cell, q1, q2, q3, q4⟩ := S.2.2.2.2.1.2 a _ (zw_at hk)
  have hr : rr = (C, T, N) := Option.some.inj (h1.symm.trans hc)
  subst hr
  obtain ⟨hS, hfc, kC, hkC, hkind⟩ := hK.1 t _ hc
  obtain ⟨cf, kf, fi, f, hi, hsl⟩ := hS k hkN
  have hlay := hts _ (hZ.2.1 _ (u_in_lay hkN))
  unfold u_lay at hlay
  rw [if_neg (by rw [hfin]; decide)] at hlay
  have hst := (u_facts hfc hkC (u_lays hts hZ.2.1 hkN) hi).1
  obtain ⟨n1, n2⟩ := hn base b S.top
  have h6 := u_store hfc hkC hkind hlay hi (hZ.2.2.1 k hkN) n1 n2
  refine W.putK CC.1 CC.2.1 (f := f) ⟨CC.2.2.2.1, hts _ hw, ⟨_, _, _, hi⟩, hst⟩ (by rw [q2]; exact h6) q1 q3 (by rw [hsl]; exact k2_hasslot (q4 k hkN)) rfl rfl hd fun H' e1 e2 e3 => ?_
  rw [hsl] at e1 ⊢
  subst hkI
  have hP' : RelH D ci base lay (hu h a k x) H' := by
    refine RelH.upd S.2.2.2.2.1 hk e2 e3 ⟨_, hc, t_OB.to (V := updV (vp_V (zfl base a p t (h a))) k (zc base b v)) ⟨_, e1, q2, q3, t_set q4 hap hkN _⟩ (fun j hj => ?_)⟩ (fun j hj => hu_ne hj)
    have hj' : j < znf t := by rw [hN]; exact hj
    unfold updV
    show _ = vp_V (zfl base a p t (hu h a k x a)) j
    rw [zfl_V hj', zfl_V hj']
    split
    · rename_i hjk
      subst hjk
      exact (hv base b).symm
    · rename_i hjk
      exact (zval_hu (fun q => hjk (by omega))).symm
  exact kk _ rfl p' l e R s m args below meth c D ci base b CC H' _ _ r h2 hE (S.pop.pop.heap (ho S.2.2.1 S.top) hP' (S.2.2.2.2.2.put e2 e3 (Nat.le_add_right _ _)))
theorem j_putI (k : Nat) (kI : Int) {t N n st p a index : Nat} {x : Int} {C : String} {T : u_T} {ty : Nat → FieldType} {K : Hp → O α} (hd : decode mi.2.1 pc = .ok (.putfield index, 3)) (hZ : ZC t C T N ty) (hN : znf t = N) (hk : lay[a]? = some (t + 4, n, st, p)) (hkN : k < N)
    (hw : Cond.fieldLink mi.1.cls index (T k).1 (T k).2.1 (T k).2.2.1 ∈ UW) (hfin : (T k).2.2.2 = false) (hty : ty k = .int) (hz : (zfd t k).1 = 0) (hkI : (k : Int) = kI) (kk : ∀ h1, h1 = hu h a kI x → J mi enc FL lay nc ns (pc + 3) lv stk h1 (K h1)) : J mi enc FL lay nc ns pc lv (vi x :: vr a :: stk) h (lt (hu h a kI x) K) := by
  refine j_put hd hZ hN hk hkN hw hfin hkI (fun base b _ => by rw [hty]; exact ⟨rfl, rfl⟩) (fun base b => ?_) (fun hR hx => inR_hu hR hx) kk
  unfold zval
  rw [hz]
  simp [hu, hkI, zc]
theorem j_putL (k : Nat) (kI : Int) {t N n st p a index : Nat} {x : Int} {C : String} {T : u_T} {ty : Nat → FieldType} {K : Hp → O α} (hd : decode mi.2.1 pc = .ok (.putfield index, 3)) (hZ : ZC t C T N ty) (hN : znf t = N) (hk : lay[a]? = some (t + 4, n, st, p)) (hkN : k < N)
    (hw : Cond.fieldLink mi.1.cls index (T k).1 (T k).2.1 (T k).2.2.1 ∈ UW) (hfin : (T k).2.2.2 = false) (hty : ty k = .long) (hz : (zfd t k).1 = 1) (hkI : (k : Int) = kI) (kk : ∀ h1, h1 = hu h a kI x → J mi enc FL lay nc ns (pc + 3) lv stk h1 (K h1)) : J mi enc FL lay nc ns pc lv (vl x :: vr a :: stk) h (lt (hu h a kI x) K) := by
  refine j_put hd hZ hN hk hkN hw hfin hkI (fun base b _ => by rw [hty]; exact ⟨rfl, rfl⟩) (fun base b => ?_) (fun hR _ => inR_huL hR hk ?_) kk
  · unfold zval
    rw [hz]
    simp [hu, hkI, zc]
  · rintro (q | q)
    · exact absurd (show t + 4 < 4 from q) (by omega)
    · refine q ?_
      show (zfd (t + 4 - 4) kI.toNat).1 = 1
      rw [Nat.add_sub_cancel, ← hkI, Int.toNat_natCast, hz]
theorem j_putZ (k : Nat) (kI : Int) {t N n st p a index : Nat} {x : Int} {C : String} {T : u_T} {ty : Nat → FieldType} {K : Hp → O α} (hd : decode mi.2.1 pc = .ok (.putfield index, 3)) (hZ : ZC t C T N ty) (hN : znf t = N) (hk : lay[a]? = some (t + 4, n, st, p)) (hkN : k < N)
    (hw : Cond.fieldLink mi.1.cls index (T k).1 (T k).2.1 (T k).2.2.1 ∈ UW) (hfin : (T k).2.2.2 = false) (hty : ty k = .boolean) (hz : (zfd t k).1 = 0) (hkI : (k : Int) = kI) (kk : ∀ h1, h1 = hu h a kI x → J mi enc FL lay nc ns (pc + 3) lv stk h1 (K h1)) : J mi enc FL lay nc ns pc lv (vi x :: vr a :: stk) h (bz x (lt (hu h a kI x) K)) := by
  intro p' l e R s m args below meth c D ci base b CC H locs ls r h2 hE S
  obtain ⟨h01, hE⟩ := bz_some hE
  refine j_put (v := vi x) (x := x) hd hZ hN hk hkN hw hfin hkI (fun base b _ => ?_) (fun base b => ?_) (fun hR hx => inR_hu hR hx) kk p' l e R s m args below meth c D ci base b CC H locs ls r h2 hE S
  · rw [hty]
    rcases h01 with rfl | rfl <;> exact ⟨rfl, rfl⟩
  · unfold zval
    rw [hz]
    simp [hu, hkI, zc]
end HR

section NR
theorem ap_at {A l : List LK} {i : Nat} {k : LK} {a : Nat} (h : l[i]? = some k) (ha : A.length + i = a) : (A ++ l)[a]? = some k := by
  subst ha
  rw [List.getElem?_append_right (Nat.le_add_right _ _), Nat.add_sub_cancel_left]
  exact h
theorem zcell_hz {ci : zCI} {base a n : Nat} {k : LK} {h : Hp} (ha : a ≠ n) : zcell ci base a k (hz h n) = zcell ci base a k h := by
  have e : hz h n a = h a := by
    funext i
    unfold hz
    rw [if_neg ha]
  unfold zcell
  rw [e]
theorem hz_at {h : Hp} {n : Nat} {i : Int} : hz h n n i = 0 := by
  unfold hz
  rw [if_pos rfl]
theorem RelH.push {D : va_G} {ci : zCI} {base : Nat} {lay : List LK} {h : Hp} {H H1 : Heap} {k : LK} (hP : RelH D ci base lay h H) (hz1 : H1.size = H.size + 1) (ho : ∀ q, q < H.size → H1[q]? = H[q]?) (hat : va_at D vwCl (base + lay.length, zcell ci base lay.length k (hz h lay.length)) H1) : RelH D ci base (lay ++ [k]) (hz h lay.length) H1 := by
  refine ⟨by rw [hz1, hP.1, List.length_append]; rfl, fun j q hq => ?_⟩
  obtain ⟨k', hk', rfl⟩ := zw_inv hq
  by_cases hj : j < lay.length
  · rw [List.getElem?_append_left hj] at hk'
    rw [zcell_hz (Nat.ne_of_lt hj)]
    exact (hP.2 j _ (zw_at hk')).kept (ho _ (by show base + j < H.size; rw [hP.1]; omega))
  · rw [List.getElem?_append_right (by omega)] at hk'
    have h0 : j - lay.length < 1 := (List.getElem?_eq_some_iff.mp hk').1
    have hj0 : j = lay.length := by omega
    subst hj0
    rw [Nat.sub_self] at hk'
    cases hk'
    exact hat
theorem InR.push {lay : List LK} {h : Hp} {k : LK} (hR : InR lay h) : InR (lay ++ [k]) (hz h lay.length) := by
  intro c k' j hk hj
  unfold hz
  split
  · exact inR0
  · rename_i hc
    refine hR c k' j ?_ hj
    have h1 := (List.getElem?_eq_some_iff.mp hk).1
    rw [List.length_append] at h1
    rw [List.getElem?_append_left (by simp at h1; omega)] at hk
    exact hk
/-- a cell's kind goes on: one reference more is set -/
theorem RelH.kind {D : va_G} {ci : zCI} {base : Nat} {lay : List LK} {h : Hp} {H H1 : Heap} (hP : RelH D ci base lay h H) {a : Nat} {k k1 : LK} (hk : lay[a]? = some k) (hz1 : H1.size = H.size) (ho : ∀ q, q ≠ base + a → H1[q]? = H[q]?) (hat : va_at D vwCl (base + a, zcell ci base a k1 h) H1) : RelH D ci base (lay.set a k1) h H1 := by
  have hl : a < lay.length := (List.getElem?_eq_some_iff.mp hk).1
  refine ⟨by rw [hz1, hP.1, List.length_set], fun j q hq => ?_⟩
  obtain ⟨k', hk', rfl⟩ := zw_inv hq
  by_cases hj : j = a
  · subst hj
    rw [List.getElem?_set_self hl] at hk'
    cases hk'
    exact hat
  · rw [List.getElem?_set_ne (fun q => hj q.symm)] at hk'
    exact (hP.2 j _ (zw_at hk')).kept (ho _ (by show base + j ≠ base + a; omega))
theorem InR.kind {lay : List LK} {h : Hp} (hR : InR lay h) {a : Nat} {k k1 : LK} (hk : lay[a]? = some k) (he : ∀ i, zint k1 i → zint k i) : InR (lay.set a k1) h := by
  have hl : a < lay.length := (List.getElem?_eq_some_iff.mp hk).1
  intro c k' j hk' hj
  by_cases hc : c = a
  · subst hc
    rw [List.getElem?_set_self hl] at hk'
    cases hk'
    exact hR c k j hk (he j hj)
  · rw [List.getElem?_set_ne (fun q => hc q.symm)] at hk'
    exact hR c k' j hk' hj
theorem ap_set {A l : List LK} {i : Nat} {k : LK} : (A ++ l).set (A.length + i) k = A ++ l.set i k := by
  rw [List.set_append_right _ _ (Nat.le_add_right _ _), Nat.add_sub_cancel_left]
theorem zfd2 {t j d : Nat} (h : (zfd t j).1 = d + 2) : d = 0 := by
  have hall : ∀ L : List (Nat × Nat × Nat), (L.all fun q => decide (q.1 ≤ 2)) = true → (L.getD j (0, 0, 0)).1 ≤ 2 := by
    intro L hL
    rw [List.getD_eq_getElem?_getD]
    cases hq : L[j]? with
    | none => exact Nat.zero_le 2
    | some q => exact of_decide_eq_true (List.all_eq_true.mp hL q (List.mem_of_getElem? hq))
  have h2 : (zfd t j).1 ≤ 2 := by
    unfold zfd
    split <;> exact hall _ (by decide)
  omega
variable {α : Type} {mi : MI} {enc : α → Option V} {FL : List LK → Prop} {A l : List LK} {nc ns pc : Nat} {lv : List (Nat × V)} {stk : List V} {h : Hp}
theorem j_obj {index a : Nat} {lay : List LK} {E : O α} (hd : decode mi.2.1 pc = .ok (.invokespecial index, 3)) (hl : Cond.methodLink mi.1.cls index objectInit ∈ UW) (h1 : Cond.instanceMethod objectInit ∈ UW) (h2' : Cond.code objectInit ⟨#[0xb1]⟩ 1 none ∈ UW) (hf : 1 ≤ mi.2.2.2.2.1) (hlo : (stk.map zcat).sum + 12 ≤ mi.2.2.2.2.2.1) (kk : J mi enc FL lay nc ns (pc + 3) lv stk h E) : J mi enc FL lay nc ns pc lv (vr a :: stk) h E := by
  intro p' l e R s m args below meth c D ci base b CC H locs ls r h2 hE S
  have hts := CC.2.2.2.2.1
  have hR := CC.2.2.2.2.2.2.2.2.2
  refine W.objInit CC.1 CC.2.1 CC.2.2.2.1 (hts _ hl) (hts _ h1) (hts _ h2') rfl (by rw [CC.2.2.1]; exact S.2.2.2.1.1) rfl hd (by rw [hR.1]; exact hf) (by rw [hR.2.1]; show 2 * 0 + _ + 12 ≤ _; rw [zc_sum]; omega) ?_
  exact kk p' l e R s m args below meth c D ci base b CC H locs _ r h2 hE S.pop
theorem j_new {t N index a' : Nat} {C : String} {T : u_T} {ty : Nat → FieldType} {K : Hp → O α} (hd : decode mi.2.1 pc = .ok (.new index, 3)) (hZ : ZC t C T N ty) (hN : znf t = N) (hl : Cond.classLink mi.1.cls index C ∈ UW) (h1 : Cond.instantiable C N ∈ UW) (h2' : Cond.initialized C ∈ UW) (hty : ∀ k, k < N → defaultValue (ty k) = zval 0 0 0 (fun _ => 0) (zfd t k) k)
    (hc : nc + 1 ≤ mi.2.2.2.2.2.2.1) (hs : ns + N ≤ mi.2.2.2.2.2.2.2.1) (ha : A.length + l.length = a') (kk : ∀ h1, h1 = hz h a' → J mi enc FL (A ++ (l ++ [(t + 4, 0, 0, 0)])) (nc + 1) (ns + N) (pc + 3) lv (vr a' :: stk) h1 (K h1)) : J mi enc FL (A ++ l) nc ns pc lv stk h (lt (hz h a') K) := by
  intro p' l' e R s m args below meth c D ci base b CC H locs ls r h2 hE S
  have hts := CC.2.2.2.2.1
  have hR := CC.2.2.2.2.2.2.2.2.2
  have hKn := CC.2.2.2.2.2.1.1.1 t _ hZ.1
  have hlen : (A ++ l).length = a' := by rw [List.length_append, ha]
  refine W.newcK CC.1 CC.2.1 CC.2.2.2.1 (hts _ hl) (hts _ h1) (hts _ h2') rfl hd (by rw [hR.2.2.1]; exact hc) (by rw [hR.2.2.2.1]; exact hs) hKn.2.1 rfl fun H1 kC hkC e1 z1 o1 => ?_
  have hsz : H.size = base + a' := by rw [S.2.2.2.2.1.1, hlen]
  have hP : RelH D ci base ((A ++ l) ++ [(t + 4, 0, 0, 0)]) (hz h a') H1 := by
    have hq := S.2.2.2.2.1.push (H1 := H1) (k := (t + 4, 0, 0, 0)) z1 o1
    rw [hlen] at hq
    refine hq ⟨_, hZ.1, ?_⟩
    rw [hsz] at e1
    refine (u_born ty hts hZ.2.1 hKn hkC e1 hZ.2.2.1).to (fun k hk => ?_)
    rw [hty k hk]
    show _ = vp_V (zfl base a' 0 t (hz h a' a')) k
    rw [zfl_V (by rw [hN]; exact hk)]
    unfold zval
    rw [hz_at]
    rcases (zfd t k).1 with _ | _ | _ <;> rfl
  have hS := S.2.2.2.2.2
  have hS1 : va_S (fun q => base ≤ q) s.heap H1 locs := ⟨Nat.le_trans hS.1 (by omega), fun q g1 g2 => (o1 q (Nat.lt_of_lt_of_le g1 hS.1)).trans (hS.2.1 q g1 g2), hS.2.2⟩
  have hI : InR ((A ++ l) ++ [(t + 4, 0, 0, 0)]) (hz h a') := by
    have := S.2.2.1.push (k := (t + 4, 0, 0, 0))
    rw [hlen] at this
    exact this
  have hkk := kk _ rfl p' l' e R s m args below meth c D ci base b CC H1 locs ls r h2 hE ⟨S.1, fun v hv => by
    rcases List.mem_cons.mp hv with rfl | hv
    · trivial
    · exact S.2.1 v hv, by rw [← List.append_assoc]; exact hI, S.2.2.2.1, by rw [← List.append_assoc]; exact hP, hS1⟩
  rw [hsz]
  exact hkk
theorem j_newI {a' n : Nat} {nI : Int} {K : Hp → O α} (hd : decode mi.2.1 pc = .ok (.newarray .int, 2)) (hw : Cond.arrayClass .int ∈ UW) (hn : (n : Int) = nI) (hb : n * componentBytes .int ≤ 536870912) (hc : nc + 1 ≤ mi.2.2.2.2.2.2.1) (hs : ns + n ≤ mi.2.2.2.2.2.2.2.1) (ha : A.length + l.length = a') (kk : ∀ h1, h1 = hz h a' → J mi enc FL (A ++ (l ++ [(0, n, 0, 0)])) (nc + 1) (ns + n) (pc + 2) lv (vr a' :: stk) h1 (K h1)) : J mi enc FL (A ++ l) nc ns pc lv (vi nI :: stk) h (lt (hz h a') K) := by
  intro p' l' e R s m args below meth c D ci base b CC H locs ls r h2 hE S
  subst hn
  have hts := CC.2.2.2.2.1
  have hR := CC.2.2.2.2.2.2.2.2.2
  have hnr : inR (n : Int) := S.top
  have hlen : (A ++ l).length = a' := by rw [List.length_append, ha]
  have hsz : H.size = base + a' := by rw [S.2.2.2.2.1.1, hlen]
  refine va_newaK (atype := .int) CC.1 CC.2.1 (hts _ hw) rfl hd rfl (fun q => by have := (i32_lt hnr inR0).mp q; omega) (N := n) (by rw [i32_cl hnr]; exact Int.toNat_natCast n) hb (by rw [hR.2.2.1]; exact hc) (by rw [hR.2.2.2.1]; exact hs) rfl fun H1 cA e1 z1 o1 hAr hNm => ?_
  have hcA : cA = ci.1 := by
    have h3 : s.vm.findClass ("[" ++ FieldType.int.toString) = some ci.1 := (CC.2.2.2.2.2.1.arr 0 rfl).2
    exact Option.some.inj (hNm.symm.trans h3)
  subst hcA
  have hP : RelH D ci base ((A ++ l) ++ [(0, n, 0, 0)]) (hz h a') H1 := by
    have hq := S.2.2.2.2.1.push (H1 := H1) (k := (0, n, 0, 0)) z1 o1
    rw [hlen] at hq
    refine hq ?_
    rw [hsz] at e1
    show H1[base + a']? = some (vp_cell ci.1 (n, .inl (fun j => Int32.ofInt (hz h a' a' j))))
    rw [e1, vp_cell_i]
    congr 2
    funext j
    rw [hz_at]
    rfl
  have hS := S.2.2.2.2.2
  have hS1 : va_S (fun q => base ≤ q) s.heap H1 locs := ⟨Nat.le_trans hS.1 (by omega), fun q g1 g2 => (o1 q (Nat.lt_of_lt_of_le g1 hS.1)).trans (hS.2.1 q g1 g2), hS.2.2⟩
  have hI : InR ((A ++ l) ++ [(0, n, 0, 0)]) (hz h a') := by
    have := S.2.2.1.push (k := (0, n, 0, 0))
    rw [hlen] at this
    exact this
  have hkk := kk _ rfl p' l' e R s m args below meth c D ci base b CC H1 locs ls r h2 hE ⟨S.1, fun v hv => by
    rcases List.mem_cons.mp hv with rfl | hv
    · trivial
    · exact S.pop.2.1 v hv, by rw [← List.append_assoc]; exact hI, S.2.2.2.1, by rw [← List.append_assoc]; exact hP, hS1⟩
  rw [hsz]
  exact hkk
theorem j_newZ {a' n : Nat} {nI : Int} {K : Hp → O α} (hd : decode mi.2.1 pc = .ok (.newarray .boolean, 2)) (hw : Cond.arrayClass .boolean ∈ UW) (hn : (n : Int) = nI) (hb : n * componentBytes .boolean ≤ 536870912) (hc : nc + 1 ≤ mi.2.2.2.2.2.2.1) (hs : ns + n ≤ mi.2.2.2.2.2.2.2.1) (ha : A.length + l.length = a') (kk : ∀ h1, h1 = hz h a' → J mi enc FL (A ++ (l ++ [(1, n, 0, 0)])) (nc + 1) (ns + n) (pc + 2) lv (vr a' :: stk) h1 (K h1)) : J mi enc FL (A ++ l) nc ns pc lv (vi nI :: stk) h (lt (hz h a') K) := by
  intro p' l' e R s m args below meth c D ci base b CC H locs ls r h2 hE S
  subst hn
  have hts := CC.2.2.2.2.1
  have hR := CC.2.2.2.2.2.2.2.2.2
  have hnr : inR (n : Int) := S.top
  have hlen : (A ++ l).length = a' := by rw [List.length_append, ha]
  have hsz : H.size = base + a' := by rw [S.2.2.2.2.1.1, hlen]
  refine va_newaK (atype := .boolean) CC.1 CC.2.1 (hts _ hw) rfl hd rfl (fun q => by have := (i32_lt hnr inR0).mp q; omega) (N := n) (by rw [i32_cl hnr]; exact Int.toNat_natCast n) hb (by rw [hR.2.2.1]; exact hc) (by rw [hR.2.2.2.1]; exact hs) rfl fun H1 cA e1 z1 o1 hAr hNm => ?_
  have hcA : cA = ci.2.1 := by
    have h3 : s.vm.findClass ("[" ++ FieldType.boolean.toString) = some ci.2.1 := (CC.2.2.2.2.2.1.arr 1 rfl).2
    exact Option.some.inj (hNm.symm.trans h3)
  subst hcA
  have hP : RelH D ci base ((A ++ l) ++ [(1, n, 0, 0)]) (hz h a') H1 := by
    have hq := S.2.2.2.2.1.push (H1 := H1) (k := (1, n, 0, 0)) z1 o1
    rw [hlen] at hq
    refine hq ?_
    rw [hsz] at e1
    show H1[base + a']? = some (vp_cell ci.2.1 (n, .inl (fun j => Int32.ofInt (hz h a' a' j))))
    rw [e1, vp_cell_i]
    congr 2
    funext j
    rw [hz_at]
    rfl
  have hS := S.2.2.2.2.2
  have hS1 : va_S (fun q => base ≤ q) s.heap H1 locs := ⟨Nat.le_trans hS.1 (by omega), fun q g1 g2 => (o1 q (Nat.lt_of_lt_of_le g1 hS.1)).trans (hS.2.1 q g1 g2), hS.2.2⟩
  have hI : InR ((A ++ l) ++ [(1, n, 0, 0)]) (hz h a') := by
    have := S.2.2.1.push (k := (1, n, 0, 0))
    rw [hlen] at this
    exact this
  have hkk := kk _ rfl p' l' e R s m args below meth c D ci base b CC H1 locs ls r h2 hE ⟨S.1, fun v hv => by
    rcases List.mem_cons.mp hv with rfl | hv
    · trivial
    · exact S.pop.2.1 v hv, by rw [← List.append_assoc]; exact hI, S.2.2.2.1, by rw [← List.append_assoc]; exact hP, hS1⟩
  rw [hsz]
  exact hkk
theorem j_newD {a' n index : Nat} {nI : Int} {K : Hp → O α} (hd : decode mi.2.1 pc = .ok (.anewarray index, 3)) (hl : Cond.classLink mi.1.cls index RX1 ∈ UW) (hn : (n : Int) = nI) (hb : n * 4 ≤ 536870912) (hc : nc + 1 ≤ mi.2.2.2.2.2.2.1) (hs : ns + n ≤ mi.2.2.2.2.2.2.2.1) (ha : A.length + l.length = a') (kk : ∀ h1, h1 = hz h a' → J mi enc FL (A ++ (l ++ [(2, n, 8, 0)])) (nc + 1) (ns + n) (pc + 3) lv (vr a' :: stk) h1 (K h1)) : J mi enc FL (A ++ l) nc ns pc lv (vi nI :: stk) h (lt (hz h a') K) := by
  intro p' l' e R s m args below meth c D ci base b CC H locs ls r h2 hE S
  subst hn
  have hts := CC.2.2.2.2.1
  have hR := CC.2.2.2.2.2.2.2.2.2
  have hnr : inR (n : Int) := S.top
  have hcl : (Int32.ofInt (n : Int)).toNatClampNeg = n := by rw [i32_cl hnr]; exact Int.toNat_natCast n
  have hlen : (A ++ l).length = a' := by rw [List.length_append, ha]
  have hsz : H.size = base + a' := by rw [S.2.2.2.2.1.1, hlen]
  refine W.anew CC.1 CC.2.1 CC.2.2.2.1 (hts _ hl) (CC.2.2.2.2.2.1.2.2.1.use) rfl hd rfl (fun q => by have := (i32_lt hnr inR0).mp q; omega) (by rw [hcl]; exact hb) (by rw [hR.2.2.1]; exact hc) (by rw [hR.2.2.2.1, hcl]; exact hs) fun cA kA comp f1 f2 f3 f4 => ?_
  rw [hcl]
  have hcA : cA = ci.2.2.1 := by
    obtain ⟨_, _, -, -, -, h3⟩ : ∃ (kA : Class) (comp : ClassId), s.vm.classes[ci.2.2.1]? = some kA ∧ kA.kind = .array comp (.object RX1) ∧ s.vm.findClass RX1 = some comp ∧ s.vm.findClass ("[" ++ (FieldType.object RX1).toString) = some ci.2.2.1 := (CC.2.2.2.2.2.1.arr 2 rfl).2
    exact Option.some.inj (f1.symm.trans h3)
  subst hcA
  have hP : RelH D ci base ((A ++ l) ++ [(2, n, 8, 0)]) (hz h a') (H.push { cls := ci.2.2.1, slots := Array.replicate n .null, vm := .none }) := by
    have hq := S.2.2.2.2.1.push (H1 := H.push { cls := ci.2.2.1, slots := Array.replicate n .null, vm := .none }) (k := (2, n, 8, 0)) (by simp) (fun q hq => by rw [Array.getElem?_push, if_neg (Nat.ne_of_lt hq)])
    rw [hlen] at hq
    refine hq ?_
    show (H.push _)[base + a']? = some (vp_cell ci.2.2.1 (n, .inr (.inr (.inr (.inr (fun i => if i < 0 then some (base + (a' + 1 + 8 * i)) else none))))))
    rw [← hsz, Array.getElem?_push, if_pos rfl, vp_cell_q]
    congr 1
    rw [arrV_new]
    congr 1
  have hS := S.2.2.2.2.2
  have hS1 : va_S (fun q => base ≤ q) s.heap (H.push { cls := ci.2.2.1, slots := Array.replicate n .null, vm := .none }) locs := ⟨Nat.le_trans hS.1 (by simp), fun q g1 g2 => by rw [Array.getElem?_push, if_neg (Nat.ne_of_lt (Nat.lt_of_lt_of_le g1 hS.1))]; exact hS.2.1 q g1 g2, hS.2.2⟩
  have hI : InR ((A ++ l) ++ [(2, n, 8, 0)]) (hz h a') := by
    have := S.2.2.1.push (k := (2, n, 8, 0))
    rw [hlen] at this
    exact this
  have hkk := kk _ rfl p' l' e R s m args below meth c D ci base b CC _ locs ls r h2 hE ⟨S.1, fun v hv => by
    rcases List.mem_cons.mp hv with rfl | hv
    · trivial
    · exact S.pop.2.1 v hv, by rw [← List.append_assoc]; exact hI, S.2.2.2.1, by rw [← List.append_assoc]; exact hP, hS1⟩
  rw [hsz]
  exact hkk
/-- a final reference's first value, in the constructor -/
theorem j_putR (k o i : Nat) {t N n st p a v index : Nat} {C : String} {T : u_T} {ty : Nat → FieldType} {E : O α} (hd : decode mi.2.1 pc = .ok (.putfield index, 3)) (hZ : ZC t C T N ty) (hN : znf t = N) (hk : l[i]? = some (t + 4, n, st, p)) (ha : A.length + i = a) (hkN : k < N)
    (hw : Cond.fieldLink mi.1.cls index (T k).1 (T k).2.1 (T k).2.2.1 ∈ UW) (hfin : (T k).2.2.2 = true) (hdecl : (T k).1 = mi.1.cls) (hinit : mi.1.name = "<init>") (hz : zfd t k = (2, o, p)) (hv : a + o = v) (hfit : ∀ q : Nat, fits (ty k) (.ref q) = true ∧ narrow (ty k) (.ref q) = .ref q) (hone : ∀ j, j < N → zfd t j ≠ (2, (zfd t j).2.1, p) ∨ j = k)
    (kk : J mi enc FL (A ++ l.set i (t + 4, n, st, p + 1)) nc ns (pc + 3) lv stk h E) : J mi enc FL (A ++ l) nc ns pc lv (vr v :: vr a :: stk) h E := by
  intro p' l' e R s m args below meth c D ci base b CC H locs ls r h2 hE S
  subst ha
  have hts := CC.2.2.2.2.1
  have hK := CC.2.2.2.2.2.1.1
  have hc := hZ.1
  have hkA : (A ++ l)[A.length + i]? = some (t + 4, n, st, p) := ap_at hk rfl
  have hap := va_apart (own := mi.1.cls) hts hZ.2.1 ty hZ.2.2.1 hZ.2.2.2 hK hc
  obtain ⟨rr, h1, cell, q1, q2, q3, q4⟩ := S.2.2.2.2.1.2 _ _ (zw_at hkA)
  have hr : rr = (C, T, N) := Option.some.inj (h1.symm.trans hc)
  subst hr
  obtain ⟨hS, hfc, kC, hkC, hkind⟩ := hK.1 t _ hc
  obtain ⟨cf, kf, fi, f, hi, hsl⟩ := hS k hkN
  have hlay := hts _ (hZ.2.1 _ (u_in_lay hkN))
  unfold u_lay at hlay
  rw [if_pos hfin] at hlay
  have hst := (u_facts hfc hkC (u_lays hts hZ.2.1 hkN) hi).1
  have hcf : m.cls = cf := by
    obtain ⟨_, _, c', _, _, _, -, -, hf', -, -, -, hown2, -⟩ := Cond.laysFinal_spec hlay
    have e1 : c' = cf := by have := hi.symm.trans hf'; simp at this; exact this.1.symm
    rw [hdecl] at hown2
    rw [← e1]; exact Option.some.inj (CC.2.2.2.1.symm.trans hown2)
  obtain ⟨f1, f2⟩ := hfit (base + v)
  have h6 := u_fits hfc hkC hkind (Or.inr hlay) hi (hZ.2.2.1 k hkN) f2 f1
  refine W.putFinK CC.1 CC.2.1 CC.2.2.2.1 (hts _ hw) hi hst hcf (CC.2.2.2.2.2.2.2.2.1 hinit) (by rw [q2]; exact h6) q1 q3 (by rw [hsl]; exact k2_hasslot (q4 k hkN)) rfl rfl hd fun H' e1 e2 e3 => ?_
  rw [hsl] at e1 ⊢
  have hP' : RelH D ci base (A ++ l.set i (t + 4, n, st, p + 1)) h H' := by
    rw [← ap_set]
    refine RelH.kind S.2.2.2.2.1 hkA e2 e3 ⟨_, hc, t_OB.to (V := updV (vp_V (zfl base (A.length + i) p t (h (A.length + i)))) k (.ref (base + v))) ⟨_, e1, q2, q3, t_set q4 hap hkN _⟩ (fun j hj => ?_)⟩
    have hj' : j < znf t := by rw [hN]; exact hj
    unfold updV
    show _ = vp_V (zfl base (A.length + i) (p + 1) t (h (A.length + i))) j
    rw [zfl_V hj', zfl_V hj']
    split
    · rename_i hjk
      subst hjk
      unfold zval
      rw [hz]
      show Value.ref (base + v) = if p < p + 1 then .ref (base + (A.length + i) + o) else .null
      rw [if_pos (Nat.lt_succ_self p), ← hv, Nat.add_assoc base]
    · rename_i hjk
      rcases hone j hj with h7 | h7
      · unfold zval
        generalize hg : zfd t j = d at h7 ⊢
        obtain ⟨d1, d2, d3⟩ := d
        rcases d1 with _ | _ | d1
        · rfl
        · rfl
        · show (if d3 < p then _ else _) = (if d3 < p + 1 then _ else _)
          have h8 : d3 ≠ p ∨ d1 ≠ 0 := by
            by_cases h9 : d3 = p
            · right
              intro h10
              subst h9; subst h10
              exact h7 rfl
            · exact Or.inl h9
          rcases h8 with h8 | h8
          · by_cases h9 : d3 < p
            · rw [if_pos h9, if_pos (by omega)]
            · rw [if_neg h9, if_neg (by omega)]
          · exfalso
            have h11 : (zfd t j).1 = d1 + 2 := by rw [hg]
            exact h8 (zfd2 h11)
      · exact absurd h7 hjk
  refine kk p' l' e R s m args below meth c D ci base b CC H' _ ls r h2 hE ⟨S.1, S.pop.pop.2.1, ?_, S.2.2.2.1, hP', S.2.2.2.2.2.put e2 e3 (Nat.le_add_right _ _)⟩
  rw [← ap_set]
  exact S.2.2.1.kind hkA (fun i hi => hi)
theorem j_icmp_geC {x y off : Int} {tgt : Nat} {lay : List LK} {E E2 : O α} (hd : decode mi.2.1 pc = .ok (.if_icmp .ge off, 3)) (ht : (pc : Int) + off = (tgt : Int)) (kA : x < y → J mi enc FL lay nc ns (pc + 3) lv stk h E) (kB : ¬ x < y → J mi enc FL lay nc ns tgt lv stk h E2) : J mi enc FL lay nc ns pc lv (vi y :: vi x :: stk) h (if x < y then E else E2) := by
  by_cases hxy : x < y
  · rw [if_pos hxy]
    intro p l e R s m args below meth c D ci base b C H locs ls r h2 hE S
    have hy : inR y := S.top
    have hx : inR x := S.top2
    refine lv_icmp_ge C.1 C.2.1 hd ht (fun hc => absurd hxy (Int.not_lt.mpr ((i32_le hy hx).mp hc))) (fun _ => ?_)
    exact kA hxy p l e R s m args below meth c D ci base b C H locs _ r h2 hE S.pop.pop
  · rw [if_neg hxy]
    intro p l e R s m args below meth c D ci base b C H locs ls r h2 hE S
    have hy : inR y := S.top
    have hx : inR x := S.top2
    refine lv_icmp_ge C.1 C.2.1 hd ht (fun _ => ?_) (fun hc => absurd ((i32_le hy hx).mpr (by omega)) hc)
    exact kB hxy p l e R s m args below meth c D ci base b C H locs _ r h2 hE S.pop.pop
/-- the next place of a row of Drawings -/
theorem j_aastD {a v i n p : Nat} {x : Int} {nn sd pr : Nat} {E : O α} (hd : decode mi.2.1 pc = .ok (.aastore, 1)) (hk : l[i]? = some (2, n, 8, p)) (ha : A.length + i = a) (hv : a + 1 + 8 * p = v) (hx : (p : Int) = x) (hp : p < n) (hkv : (A ++ l)[v]? = some (5, nn, sd, pr)) (kk : J mi enc FL (A ++ l.set i (2, n, 8, p + 1)) nc ns (pc + 1) lv stk h E) : J mi enc FL (A ++ l) nc ns pc lv (vr v :: vi x :: vr a :: stk) h E := by
  intro p' l' e R s m args below meth c D ci base b CC H locs ls r h2 hE S
  subst ha
  subst hx
  have hkA : (A ++ l)[A.length + i]? = some (2, n, 8, p) := ap_at hk rfl
  have hxr : inR (p : Int) := S.top2
  have hcl : (Int32.ofInt (p : Int)).toNatClampNeg = p := by rw [i32_cl hxr]; exact Int.toNat_natCast p
  have hcell := S.2.2.2.2.1.2 _ _ (zw_at hkA)
  obtain ⟨r', hr', cellV, g1, g2, g3, -⟩ := S.2.2.2.2.1.2 _ _ (zw_at hkv)
  have hK := CC.2.2.2.2.2.1
  have hcls := (hK.1.1 1 _ rfl).2
  obtain ⟨kA, comp, k1, k2, k3, -⟩ : ∃ (kA : Class) (comp : ClassId), s.vm.classes[ci.2.2.1]? = some kA ∧ kA.kind = .array comp (.object RX1) ∧ s.vm.findClass RX1 = some comp ∧ s.vm.findClass ("[" ++ (FieldType.object RX1).toString) = some ci.2.2.1 := (hK.arr 2 rfl).2
  have hcomp : comp = D.1 1 := Option.some.inj (k3.symm.trans hcls.1)
  subst hcomp
  obtain ⟨kC, hkC, -⟩ := hcls.2
  have h0 : ¬ Int32.ofInt (p : Int) < 0 := fun q => by have := (i32_lt hxr inR0).mp q; omega
  refine W.aast CC.1 CC.2.1 hcell (fun q h => by cases h) (fun h => by cases h) k1 k2 rfl hkC ⟨h0, by show _ < (arrV _ _ _).slots.size; rw [arrV_size, hcl]; exact hp⟩ g1 (fun q h => by rw [g3] at h; cases h) (by rw [g2]; exact hkC) (by rw [g2]; exact va_assign hcls) rfl rfl hd fun H1 e1 z oq => ?_
  rw [hcl] at e1 ⊢
  have hP' : RelH D ci base (A ++ l.set i (2, n, 8, p + 1)) h H1 := by
    rw [← ap_set]
    refine RelH.kind S.2.2.2.2.1 hkA z oq ?_
    show H1[base + (A.length + i)]? = some (vp_cell ci.2.2.1 (n, .inr (.inr (.inr (.inr (fun j => if j < p + 1 then some (base + (A.length + i + 1 + 8 * j)) else none))))))
    rw [e1]
    show some ((vp_cell ci.2.2.1 (n, .inr (.inr (.inr (.inr (fun j => if j < p then some (base + (A.length + i + 1 + 8 * j)) else none)))))).setSlot p (.ref (base + v))) = _
    rw [vp_cell_q, vp_cell_q, arrV_store]
    congr 2
    funext j
    unfold updV
    by_cases hj : j = p
    · subst hj
      rw [if_pos rfl, if_pos (Nat.lt_succ_self j), ← hv]
      rfl
    · rw [if_neg hj]
      dsimp only
      by_cases hj2 : j < p
      · rw [if_pos hj2, if_pos (by omega)]
      · rw [if_neg hj2, if_neg (by omega)]
  refine kk p' l' e R s m args below meth c D ci base b CC H1 _ ls r h2 hE ⟨S.1, S.pop.pop.pop.2.1, ?_, S.2.2.2.1, hP', S.2.2.2.2.2.put z oq (Nat.le_add_right _ _)⟩
  rw [← ap_set]
  exact S.2.2.1.kind hkA (fun i hi => Or.inl (show 2 < 4 by decide))
end NR

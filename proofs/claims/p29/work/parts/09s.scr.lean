/-! ===== what the law's own methods want beside: the script, wrapped numbers, shifts of any number, room ===== -/
/-- a number as an int keeps it -/
def wr (z : Int) : Int := (Int32.ofInt z).toInt
theorem wr_inR (z : Int) : inR (wr z) := ⟨(Int32.ofInt z).minValue_le_toInt, (Int32.ofInt z).toInt_le⟩
section SCR
variable {α : Type} {mi : MI} {enc : α → Option V} {FL : List LK → Prop} {lay : List LK} {nc ns pc : Nat} {lv : List (Nat × V)} {stk : List V} {h : Hp}
theorem j_imulW {x y : Int} {E : O α} (hd : decode mi.2.1 pc = .ok (.imul, 1)) (k : J mi enc FL lay nc ns (pc + 1) lv (vi (wr (x * y)) :: stk) h E) : J mi enc FL lay nc ns pc lv (vi y :: vi x :: stk) h E := by
  intro p l e R s m args below meth c D ci base b C H locs ls r h2 hE S
  refine lv_imul C.1 C.2.1 hd ?_
  rw [← Int32.ofInt_mul x y, ← Int32.ofInt_toInt (Int32.ofInt (x * y))]
  exact k p l e R s m args below meth c D ci base b C H locs _ r h2 hE (S.pop.pop.push (v := vi (wr (x * y))) (wr_inR _))
theorem j_iaddW {x y : Int} {E : O α} (hd : decode mi.2.1 pc = .ok (.iadd, 1)) (k : J mi enc FL lay nc ns (pc + 1) lv (vi (wr (x + y)) :: stk) h E) : J mi enc FL lay nc ns pc lv (vi y :: vi x :: stk) h E := by
  intro p l e R s m args below meth c D ci base b C H locs ls r h2 hE S
  refine lv_iadd C.1 C.2.1 hd ?_
  rw [← Int32.ofInt_add x y, ← Int32.ofInt_toInt (Int32.ofInt (x + y))]
  exact k p l e R s m args below meth c D ci base b C H locs _ r h2 hE (S.pop.pop.push (v := vi (wr (x + y))) (wr_inR _))
theorem and31 (x : Int) : Int32.ofInt x &&& Int32.ofInt 2147483647 = Int32.ofInt (x % 2147483648) := by
  rw [pk_and (Int32.ofInt x) 31 (by decide)]
  show Int32.ofNat _ = _
  rw [← Int32.ofInt_eq_ofNat]
  congr 1
  have h1 : (Int32.ofInt x).toBitVec.toNat = (x % (4294967296 : Int)).toNat := by
    show (BitVec.ofInt 32 x).toNat = _
    rw [BitVec.toNat_ofInt]
    rfl
  rw [h1]
  have h2 : (2 : Nat) ^ 31 = 2147483648 := by decide
  rw [h2]
  omega
theorem j_iand31 {x : Int} {E : O α} (hd : decode mi.2.1 pc = .ok (.iand, 1)) (kk : J mi enc FL lay nc ns (pc + 1) lv (vi (x % 2147483648) :: stk) h E) : J mi enc FL lay nc ns pc lv (vi 2147483647 :: vi x :: stk) h E := by
  intro p' l e R s m' args below meth c D ci base b CC H locs ls r h2 hE S
  refine lv_iand CC.1 CC.2.1 hd ?_
  rw [and31]
  exact kk p' l e R s m' args below meth c D ci base b CC H locs _ r h2 hE (S.pop.pop.push (v := vi (x % 2147483648)) ⟨by omega, by omega⟩)
theorem j_ishrC (k : Nat) (q : Int) {x y : Int} {E : O α} (hk : k < 31) (hq : ((2 ^ k : Nat) : Int) = q) (hy : (k : Int) = y) (hd : decode mi.2.1 pc = .ok (.ishr, 1)) (kk : J mi enc FL lay nc ns (pc + 1) lv (vi (x / q) :: stk) h E) : J mi enc FL lay nc ns pc lv (vi y :: vi x :: stk) h E := by
  intro p' l e R s m' args below meth c D ci base b CC H locs ls r h2 hE S
  have hx : inR x := S.top2
  refine lv_ishr CC.1 CC.2.1 hd ?_
  have hq1 : 1 ≤ q := by
    rw [← hq]
    have : 1 ≤ 2 ^ k := Nat.one_le_two_pow
    omega
  have h1 : inR (x / q) := by
    have h3 := hx.1
    have h4 := hx.2
    refine ⟨?_, ?_⟩
    · by_cases h5 : 0 ≤ x
      · have h9 : 0 ≤ x / q := Int.ediv_nonneg h5 (by omega)
        omega
      · refine Int.le_trans h3 ?_
        refine (Int.le_ediv_iff_mul_le (by omega)).mpr ?_
        have : x * q ≤ x * 1 := Int.mul_le_mul_of_nonpos_left (by omega) hq1
        omega
    · by_cases h5 : 0 ≤ x
      · exact Int.le_trans (Int.ediv_le_self _ h5) h4
      · have : x / q < 0 := Int.ediv_neg_of_neg_of_pos (by omega) (by omega)
        omega
  have e1 : Int32.ofInt x >>> (Int32.ofInt y &&& 31) = Int32.ofInt (x / q) := by
    apply Int32.toInt_inj.mp
    subst hy
    rw [i32_nI (Int.natCast_nonneg k), Int.toNat_natCast, pk_shr _ (nI k &&& 31) k (zs_l _ (by omega)), i32_toInt hx, i32_toInt h1, Int.shiftRight_eq_div_pow, ← hq]
  rw [e1]
  exact kk p' l e R s m' args below meth c D ci base b CC H locs _ r h2 hE (S.pop.pop.push (v := vi (x / q)) h1)
/-- a method that reads the script: its contract -/
def CTs (L : Nat) (xs : Nat → Int32) {α : Type} (mi : MI) (enc : α → Option V) (FL : List LK → Prop) (lay : List LK) (avs : List V) (h : Hp) (E : O α) : Prop :=
  ∀ (l : Launch) (D : va_G) (ci : zCI) (base b : Nat) (r : α) (h' : Hp), E = some (r, h') →
    Met l mi.1 (.code mi.1 mi.2.1 mi.2.2.1 mi.2.2.2.1 :: UW) ({ frames := mi.2.2.2.2.1, cells := mi.2.2.2.2.2.2.1, slots := mi.2.2.2.2.2.2.2.1, locals := mi.2.2.2.2.2.1 } : Room) (va_Pc (avs.map (zc base b)) (fun U => (RelH D ci base lay h U.heap ∧ KK D ci U ∧ InR lay h ∧ ∀ v ∈ avs, okV v) ∧ va_X b L xs U U.heap ∧ b < base)) (zQ enc FL D ci base b r h') mi.2.2.2.2.2.2.1 mi.2.2.2.2.2.2.2.1 (fun q => base ≤ q)
theorem CTs.of {L : Nat} {xs : Nat → Int32} {avs : List V} {E : O α} (hy : plainName mi.1.cls = true) (hs : mi.2.2.2.2.2.2.2.2 = some (L, xs, false)) (hl : (avs.map zcat).sum ≤ mi.2.2.1) (hJ : J mi enc FL lay 0 0 0 (zargs 0 avs) [] h E) : CTs L xs mi enc FL lay avs h E := by
  intro l D ci base b r h' hE
  refine Met.ofW (cc := mi.2.1) (maxL := mi.2.2.1) (ret := mi.2.2.2.1) hy rfl ?_
  intro p e s m args below meth c s₁ B hml hv
  obtain ⟨rfl, ⟨hP, hK, hR, hok⟩, hX, hbb⟩ := hv
  have hts := atoms_spec (ws := .code mi.1 mi.2.1 mi.2.2.1 mi.2.2.2.1 :: UW) B.pre
  have hbase : base ≤ s.heap.size := by rw [hP.1]; exact Nat.le_add_right _ _
  have hlv := lv_entry (avs.map (zc base b)) (n := mi.2.2.1) (by rw [lg_len]; exact hl)
  rw [lg_entry_eq]
  rw [zargs_eq base b avs 0] at hlv
  have C : CX mi p ({ frames := mi.2.2.2.2.1, cells := mi.2.2.2.2.2.2.1, slots := mi.2.2.2.2.2.2.2.1, locals := mi.2.2.2.2.2.1 } : Room) s m ((avs.map (zc base b)).toArray) meth c D ci base b :=
    ⟨B.exec, B.bytes, hml, findClass_of_methodNamed B.named, fun w hw => hts w (List.mem_cons_of_mem _ hw), hK, B.notSynchronized, B.returns, (fun q => (name_of_methodNamed B.named B.method).1.trans q), rfl, rfl, rfl, rfl, hbase, fun L xs f q => by rw [hs] at q; cases q; exact ⟨hX, hbb, fun q => by cases q⟩⟩
  have hW := hJ p l e _ s m _ below meth c D ci base b C s.heap [] _ r h' hE ⟨fun q hq => hok _ (zargs_mem avs 0 q hq), (fun v hv => absurd hv List.not_mem_nil), hR, hlv, hP, va_S.rf⟩
  rw [zpost_none (by unfold isL; rw [hs])] at hW
  exact hW
theorem j_callSs {β : Type} {mi2 : MI} {enc2 : β → Option V} {FL2 : List LK → Prop} {E0 : O β} {K : β → Hp → O α} {index n : Nat} {L : Nat} {xs : Nat → Int32} {f : Bool} (hsc : mi.2.2.2.2.2.2.2.2 = some (L, xs, f)) (avs : List V) {stk0 : List V} (hd : decode mi.2.1 pc = .ok (.invokestatic index, 3)) (hMV : MV mi2 n) (hi : Cond.static mi2.1 ∈ UW) (hl : MM mi.1.cls index mi2.1)
    (hCT : CTs L xs mi2 enc2 FL2 lay avs h E0) (hn : avs.length = n) (hst : stk0 = avs.reverse ++ stk) (hroom : RoomOk mi mi2 nc ns) (hW : (stk.map zcat).sum ≤ 8)
    (kk : ∀ r h1 lay', FL2 lay' → E0 = some (r, h1) → J mi enc FL lay' (nc + mi2.2.2.2.2.2.2.1) (ns + mi2.2.2.2.2.2.2.2.1) (pc + 3) lv ((enc2 r).toList ++ stk) h1 (K r h1)) : J mi enc FL lay nc ns pc lv stk0 h (bd E0 K) := by
  intro p l e R s m args below meth c D ci base b CC H locs ls r h2 hE S
  subst hst
  have hR := CC.2.2.2.2.2.2.2.2.2
  obtain ⟨hX, hbb, -⟩ := CC.2.2.2.2.2.2.2.2.2.2.2.2.2.2 L xs f hsc
  have hbs := CC.2.2.2.2.2.2.2.2.2.2.2.2.2.1
  refine j_back (stk := stk) (mi2 := mi2) (a := (avs.map (zc base b)).toArray) kk CC hE S (fun v hv => List.mem_append_right _ hv) (fun r0 h1 hE0 => ?_)
  have hpre : PreS s H (va_Pc (avs.map (zc base b)) (fun U => (RelH D ci base lay h U.heap ∧ KK D ci U ∧ InR lay h ∧ ∀ v ∈ avs, okV v) ∧ va_X b L xs U U.heap ∧ b < base)) (avs.map (zc base b)) :=
    ⟨fun a U g mk q => ⟨q.1, ⟨q.2.1.1, q.2.1.2.1.call, q.2.1.2.2⟩, va_X.moved (u := U) (U := U.calling g mk a) (Vm.Alike.refl U.vm) q.2.2.1, q.2.2.2⟩, fun U hU hW => ⟨rfl, ⟨by rw [hU]; exact S.2.2.2.2.1, CC.2.2.2.2.2.1.warm hW, S.2.2.1, fun v hv => S.2.1 v (List.mem_append_left _ (List.mem_reverse.mpr hv))⟩, (va_X.moved hW.alike hX).kept (by rw [hU]; exact S.2.2.2.2.2.2.1 b (by omega) (fun q => by omega)), hbb⟩⟩
  have hts := CC.2.2.2.2.1
  refine va_runS (As := avs.map (zc base b)) (n := n) (ret := mi2.2.2.2.1) (cx_fix CC) (hCT l D ci base b r0 h1 hE0) ⟨callB_of n hts (mv_good hMV) rfl rfl rfl (hts _ hMV.2.1) (hts _ hl) ⟨hMV.2.2.1.1, hMV.2.2.1.2, hMV.2.2.2⟩ (by rw [hR.1, hR.2.1]; exact hroom.1), hts _ hi⟩ hpre rfl (by rw [List.length_map]; exact hn) S.2.2.2.1.1 ?_ (lv_room (by rw [zc_sum]; exact hW)) hd (by rw [hR.2.2.1, hR.2.2.2.1]; exact hroom.2)
  show (avs.reverse ++ stk).map (zc base b) = _
  rw [List.map_append, List.map_reverse]
theorem j_cSs {β : Type} {mi2 : MI} {enc2 : β → Option V} {E0 : O β} {K : β → Hp → O α} {index n : Nat} {L : Nat} {xs : Nat → Int32} {f : Bool} (hsc : mi.2.2.2.2.2.2.2.2 = some (L, xs, f)) (avs : List V) {stk0 : List V} (hd : decode mi.2.1 pc = .ok (.invokestatic index, 3)) (hMV : MV mi2 n ∧ Cond.static mi2.1 ∈ UW) (hl : MM mi.1.cls index mi2.1)
    (hCT : CTs L xs mi2 enc2 (Same lay) lay avs h E0) (hn : avs.length = n) (hst : stk0 = avs.reverse ++ stk) (hroom : RoomOk mi mi2 nc ns) (hW : (stk.map zcat).sum ≤ 8) (hmc : mi2.2.2.2.2.2.2.1 = 0) (hms : mi2.2.2.2.2.2.2.2.1 = 0)
    (kk : ∀ r h1, E0 = some (r, h1) → J mi enc FL lay nc ns (pc + 3) lv ((enc2 r).toList ++ stk) h1 (K r h1)) : J mi enc FL lay nc ns pc lv stk0 h (bd E0 K) :=
  j_callSs (FL2 := Same lay) hsc avs hd hMV.1 hMV.2 hl hCT hn hst hroom hW (fun r h1 lay' hL hE => by subst hL; exact j_cnt (by rw [hmc, Nat.add_zero]) (by rw [hms, Nat.add_zero]) (kk r h1 hE))
/-- more room may be counted than was taken -/
theorem j_widen {nc' ns' : Nat} {E : O α} (h1 : nc ≤ nc') (h2 : ns ≤ ns') (k : J mi enc FL lay nc' ns' pc lv stk h E) : J mi enc FL lay nc ns pc lv stk h E := by
  intro p l e R s m args below meth c D ci base b C H locs ls r h3 hE S
  exact W.widen h1 h2 (k p l e R s m args below meth c D ci base b C H locs ls r h3 hE S)
theorem j_ix {i n : Int} {E : O α} (k : 0 ≤ i ∧ i < n → J mi enc FL lay nc ns pc lv stk h E) : J mi enc FL lay nc ns pc lv stk h (ix i n E) := by
  intro p l e R s m args below meth c D ci base b C H locs ls r h3 hE S
  obtain ⟨hi, hE⟩ := ix_some hE
  exact k hi p l e R s m args below meth c D ci base b C H locs ls r h3 hE S
theorem sub_app {e : List LK} {a : Nat} {blk : List LK} (hs : sub lay a blk) : sub (lay ++ e) a blk := by
  intro i k hk
  have h1 := hs i k hk
  rw [List.getElem?_append_left (List.getElem?_eq_some_iff.mp h1).1]
  exact h1
theorem at_app {e : List LK} {a : Nat} {k : LK} (hs : lay[a]? = some k) : (lay ++ e)[a]? = some k := by
  rw [List.getElem?_append_left (List.getElem?_eq_some_iff.mp hs).1]
  exact hs
end SCR

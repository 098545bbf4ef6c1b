section ME
/-- what a method does, as a contract: it comes to its end with what E says -/
def CT {α : Type} (mi : MI) (enc : α → Option V) (FL : List LK → Prop) (lay : List LK) (avs : List V) (h : Hp) (E : O α) : Prop :=
  ∀ (l : Launch) (D : va_G) (ci : zCI) (base b : Nat) (r : α) (h' : Hp), E = some (r, h') →
    Met l mi.1 (.code mi.1 mi.2.1 mi.2.2.1 mi.2.2.2.1 :: UW) ({ frames := mi.2.2.2.2.1, cells := mi.2.2.2.2.2.2.1, slots := mi.2.2.2.2.2.2.2.1, locals := mi.2.2.2.2.2.1 } : Room) (va_Pc (avs.map (zc base b)) (fun U => RelH D ci base lay h U.heap ∧ KK D ci U ∧ InR lay h ∧ ∀ v ∈ avs, okV v)) (zQ enc FL D ci base b r h') mi.2.2.2.2.2.2.1 mi.2.2.2.2.2.2.2.1 (fun q => base ≤ q)
def zargs : Nat → List V → List (Nat × V)
  | _, [] => []
  | i, v :: vs => (i, v) :: zargs (i + zcat v) vs
theorem zargs_eq (base b : Nat) : ∀ (vs : List V) (i : Nat), lv_args i (vs.map (zc base b)) = (zargs i vs).map fun q => (q.1, zc base b q.2)
  | [], i => rfl
  | v :: vs, i => by
    show (i, zc base b v) :: lv_args (if (zc base b v).category = 2 then i + 2 else i + 1) (vs.map (zc base b)) = (i, zc base b v) :: (zargs (i + zcat v) vs).map _
    rw [zc_zcat, ← zargs_eq base b vs]
    congr 2
    rcases v with x | a | x | x <;> rfl
theorem zargs_mem : ∀ (vs : List V) (i : Nat) (q : Nat × V), q ∈ zargs i vs → q.2 ∈ vs
  | [], _, _, h => absurd h List.not_mem_nil
  | v :: vs, i, q, h => by
    rcases List.mem_cons.mp h with rfl | h
    · exact List.mem_cons_self
    · exact List.mem_cons_of_mem _ (zargs_mem vs _ q h)
theorem lg_len (base b : Nat) : ∀ vs : List V, (lg_sl (vs.map (zc base b))).length = (vs.map zcat).sum
  | [] => rfl
  | v :: vs => by
    have ih := lg_len base b vs
    unfold lg_sl at ih ⊢
    rw [List.map_cons, List.flatMap_cons, List.length_append, ih, List.map_cons, List.sum_cons]
    congr 1
    rw [zc_zcat]
    rcases v with x | a | x | x <;> rfl
/-- a method's words, once for all -/
def MV (mi : MI) (n : Nat) : Prop := Cond.code mi.1 mi.2.1 mi.2.2.1 mi.2.2.2.1 ∈ UW ∧ Cond.initialized mi.1.cls ∈ UW ∧ (mi.1.cls ≠ "java/lang/invoke/MethodHandle" ∧ mi.1.cls ≠ "java/lang/invoke/VarHandle") ∧ (parseMethodDescriptor mi.1.desc).map (fun d => d.parameters.length) = some n
theorem mv_good {mi : MI} {n : Nat} (h : MV mi n) : GoodIn UW (.code mi.1 mi.2.1 mi.2.2.1 mi.2.2.2.1 :: UW) := by
  intro w hw
  rcases List.mem_cons.mp hw with rfl | hw
  · exact uw_good _ h.1
  · exact uw_good _ hw
theorem CT.of {α : Type} {mi : MI} {enc : α → Option V} {FL : List LK → Prop} {lay : List LK} {avs : List V} {h : Hp} {E : O α} (hy : plainName mi.1.cls = true) (hs : mi.2.2.2.2.2.2.2.2 = none) (hl : (avs.map zcat).sum ≤ mi.2.2.1) (hJ : J mi enc FL lay 0 0 0 (zargs 0 avs) [] h E) : CT mi enc FL lay avs h E := by
  intro l D ci base b r h' hE
  refine Met.ofW (cc := mi.2.1) (maxL := mi.2.2.1) (ret := mi.2.2.2.1) hy rfl ?_
  intro p e s m args below meth c s₁ B hml hv
  obtain ⟨rfl, hP, hK, hR, hok⟩ := hv
  have hts := atoms_spec (ws := .code mi.1 mi.2.1 mi.2.2.1 mi.2.2.2.1 :: UW) B.pre
  have hbase : base ≤ s.heap.size := by rw [hP.1]; exact Nat.le_add_right _ _
  have hlv := lv_entry (avs.map (zc base b)) (n := mi.2.2.1) (by rw [lg_len]; exact hl)
  rw [lg_entry_eq]
  rw [zargs_eq base b avs 0] at hlv
  have C : CX mi p ({ frames := mi.2.2.2.2.1, cells := mi.2.2.2.2.2.2.1, slots := mi.2.2.2.2.2.2.2.1, locals := mi.2.2.2.2.2.1 } : Room) s m ((avs.map (zc base b)).toArray) meth c D ci base b :=
    ⟨B.exec, B.bytes, hml, findClass_of_methodNamed B.named, fun w hw => hts w (List.mem_cons_of_mem _ hw), hK, B.notSynchronized, B.returns, (fun q => (name_of_methodNamed B.named B.method).1.trans q), rfl, rfl, rfl, rfl, hbase, fun L xs f q => by rw [hs] at q; cases q⟩
  have hW := hJ p l e _ s m _ below meth c D ci base b C s.heap [] _ r h' hE ⟨fun q hq => hok _ (zargs_mem avs 0 q hq), (fun v hv => absurd hv List.not_mem_nil), hR, hlv, hP, va_S.rf⟩
  rw [zpost_none (by unfold isL; rw [hs])] at hW
  exact hW
section CALLS
variable {α : Type} {mi : MI} {enc : α → Option V} {FL : List LK → Prop} {lay : List LK} {nc ns pc : Nat} {lv : List (Nat × V)} {stk : List V} {h : Hp}
/-- behind a call that was run -/
theorem j_back {β : Type} {mi2 : MI} {enc2 : β → Option V} {FL2 : List LK → Prop} {E0 : O β} {K : β → Hp → O α}
    (kk : ∀ r h1 lay', FL2 lay' → E0 = some (r, h1) → J mi enc FL lay' (nc + mi2.2.2.2.2.2.2.1) (ns + mi2.2.2.2.2.2.2.2.1) (pc + 3) lv ((enc2 r).toList ++ stk) h1 (K r h1))
    {p : Program} {l : Launch} {e : Env} {R : Room} {s : State} {m : MethodId} {args : Array Value} {below : List Frame} {meth : Method} {c : Code} {D : va_G} {ci : zCI} {base b : Nat} (CC : CX mi p R s m args meth c D ci base b)
    {H : Heap} {locs : List Loc} {ls : Array Slot} {r : α} {h' : Hp} (hE : bd E0 K = some (r, h')) {stk0 : List V} (S : SX mi D ci base b s lay lv stk0 h H locs ls) (hsub : ∀ v ∈ stk, v ∈ stk0) {a : Array Value}
    (hrun : ∀ r0 h1, E0 = some (r0, h1) → va_Run p l e R s m args below meth c H locs nc ns mi2.2.2.2.2.2.2.1 mi2.2.2.2.2.2.2.2.1 (F0 m pc ls (stk0.map (zc base b))) (stk.map (zc base b)) (zQ enc2 FL2 D ci base b r0 h1 a) (fun q => base ≤ q)) :
    W p l e R s m args below meth c H locs nc ns (zpost mi enc FL D ci base b below args s r h') (F0 m pc ls (stk0.map (zc base b))) := by
  obtain ⟨r0, h1, hE0, hEK⟩ := bd_some hE
  intro T hT X
  obtain ⟨v, st₀, t, T', L, h0, X', hL, e1, e2, ⟨⟨hv, hov, layF, hFL, hRel, hIn⟩, hz, hk⟩, st⟩ := hrun r0 h1 hE0 T hT X
  have hv' : v = (enc2 r0).map (zc base b) := by cases hv; rfl
  subst hv'
  rw [h0] at hz hk
  have hRel' : RelH D ci base layF h1 T'.heap := by rw [e1]; exact hRel
  have hS2 : va_S (fun q => base ≤ q) s.heap T'.heap (locs ++ L) := ⟨Nat.le_trans S.2.2.2.2.2.1 (by rw [e1]; exact hz), fun q g1 g2 => by rw [e1, hk q (Nat.lt_of_lt_of_le g1 S.2.2.2.2.2.1) g2]; exact S.2.2.2.2.2.2.1 q g1 g2, fun q hq => by
      rcases List.mem_append.mp hq with g | g
      · exact S.2.2.2.2.2.2.2 q g
      · exact hL q g⟩
  have hst : ∀ w ∈ (enc2 r0).toList ++ stk, okV w := by
    intro w hw
    rcases List.mem_append.mp hw with g | g
    · exact hov w (by simpa using g)
    · exact S.2.1 w (hsub w g)
  have hW := kk r0 h1 layF hFL hE0 p l e R s m args below meth c D ci base b CC T'.heap (locs ++ L) ls r h' hEK ⟨S.1, hst, hIn, S.2.2.2.1, hRel', hS2⟩ T' rfl X'
  obtain ⟨t2, a1, b1⟩ := hW
  refine ⟨t2, st t2 ?_, b1⟩
  have hstk : ((enc2 r0).toList ++ stk).map (zc base b) = ((enc2 r0).map (zc base b)).toList ++ stk.map (zc base b) := by
    rw [List.map_append]
    cases enc2 r0 <;> rfl
  rw [hstk] at a1
  exact a1
theorem j_pre {mi2 : MI} {avs : List V} {D : va_G} {ci : zCI} {base b : Nat} {s : State} {ls : Array Slot} {locs : List Loc} {H : Heap} {stk0 : List V} (hK : KK D ci s) (S : SX mi D ci base b s lay lv stk0 h H locs ls) (hsub : ∀ v ∈ avs, v ∈ stk0) :
    PreS s H (va_Pc (avs.map (zc base b)) (fun U => RelH D ci base lay h U.heap ∧ KK D ci U ∧ InR lay h ∧ ∀ v ∈ avs, okV v)) (avs.map (zc base b)) :=
  ⟨fun a U g mk q => ⟨q.1, q.2.1, q.2.2.1.call, q.2.2.2⟩, fun U hU hW => ⟨rfl, by rw [hU]; exact S.2.2.2.2.1, hK.warm hW, S.2.2.1, fun v hv => S.2.1 v (hsub v hv)⟩⟩
theorem cx_fix {p : Program} {R : Room} {s : State} {m : MethodId} {args : Array Value} {meth : Method} {c : Code} {D : va_G} {ci : zCI} {base b : Nat} (CC : CX mi p R s m args meth c D ci base b) : CallFix p m c mi.2.1 mi.2.2.1 s args UW mi.1.cls := ⟨CC.1, CC.2.1, CC.2.2.1, CC.2.2.2.1, CC.2.2.2.2.1⟩
abbrev RoomOk (mi mi2 : MI) (nc ns : Nat) : Prop := (mi2.2.2.2.2.1 + 1 ≤ mi.2.2.2.2.1 ∧ 8 + (mi2.2.2.1 + 11) + mi2.2.2.2.2.2.1 ≤ mi.2.2.2.2.2.1) ∧ nc + mi2.2.2.2.2.2.2.1 ≤ mi.2.2.2.2.2.2.1 ∧ ns + mi2.2.2.2.2.2.2.2.1 ≤ mi.2.2.2.2.2.2.2.1
theorem j_callV {β : Type} {mi2 : MI} {enc2 : β → Option V} {FL2 : List LK → Prop} {E0 : O β} {K : β → Hp → O α} {index n t nn sd pr : Nat} {T : u_T} {N : Nat} {ty : Nat → FieldType} (avs : List V) (a : Nat) {stk0 : List V} (hd : decode mi.2.1 pc = .ok (.invokevirtual index, 3)) (hMV : MV mi2 n) (hi : Cond.instanceMethod mi2.1 ∈ UW) (hse : Cond.selects mi2.1.cls mi2.1 mi2.1 ∈ UW) (hl : MM mi.1.cls index mi2.1)
    (hk : lay[a]? = some (t + 4, nn, sd, pr)) (hZ : ZC t mi2.1.cls T N ty) (hCT : CT mi2 enc2 FL2 lay (vr a :: avs) h E0) (hn : avs.length = n) (hst : stk0 = avs.reverse ++ vr a :: stk) (hroom : RoomOk mi mi2 nc ns) (hW : (stk.map zcat).sum ≤ 8)
    (kk : ∀ r h1 lay', FL2 lay' → E0 = some (r, h1) → J mi enc FL lay' (nc + mi2.2.2.2.2.2.2.1) (ns + mi2.2.2.2.2.2.2.2.1) (pc + 3) lv ((enc2 r).toList ++ stk) h1 (K r h1)) : J mi enc FL lay nc ns pc lv stk0 h (bd E0 K) := by
  intro p l e R s m args below meth c D ci base b CC H locs ls r h2 hE S
  subst hst
  have hR := CC.2.2.2.2.2.2.2.2.2
  refine j_back (stk := stk) (mi2 := mi2) (a := (Value.ref (base + a) :: avs.map (zc base b)).toArray) kk CC hE S (fun v hv => List.mem_append_right _ (List.mem_cons_of_mem _ hv)) (fun r0 h1 hE0 => ?_)
  have hpre := j_pre (mi2 := mi2) (avs := vr a :: avs) CC.2.2.2.2.2.1 S (fun v hv => by
    rcases List.mem_cons.mp hv with rfl | hv
    · exact List.mem_append_right _ List.mem_cons_self
    · exact List.mem_append_left _ (List.mem_reverse.mpr hv))
  have hts := CC.2.2.2.2.1
  refine va_runV (C := mi2.1.cls) (As := avs.map (zc base b)) (b := base + a) (n := n) (ret := mi2.2.2.2.1) (cx_fix CC) (hCT l D ci base b r0 h1 hE0) ⟨callB_of n hts (mv_good hMV) rfl rfl rfl (hts _ hMV.2.1) (hts _ hl) ⟨hMV.2.2.1.1, hMV.2.2.1.2, hMV.2.2.2⟩ (by rw [hR.1, hR.2.1]; exact hroom.1), hts _ hi, hts _ hse⟩ ⟨hpre.1, va_recv CC.2.2.2.2.2.1.1 S.2.2.2.2.1.2 (ci := t) (q0 := a) hZ.1 (zw_at hk), hpre.2⟩ rfl (by rw [List.length_map]; exact hn) S.2.2.2.1.1 ?_ (lv_room (by rw [zc_sum]; exact hW)) hd (by rw [hR.2.2.1, hR.2.2.2.1]; exact hroom.2)
  show (avs.reverse ++ vr a :: stk).map (zc base b) = _
  rw [List.map_append, List.map_reverse]
  rfl
theorem j_callS {β : Type} {mi2 : MI} {enc2 : β → Option V} {FL2 : List LK → Prop} {E0 : O β} {K : β → Hp → O α} {index n : Nat} (avs : List V) {stk0 : List V} (hd : decode mi.2.1 pc = .ok (.invokestatic index, 3)) (hMV : MV mi2 n) (hi : Cond.static mi2.1 ∈ UW) (hl : MM mi.1.cls index mi2.1)
    (hCT : CT mi2 enc2 FL2 lay avs h E0) (hn : avs.length = n) (hst : stk0 = avs.reverse ++ stk) (hroom : RoomOk mi mi2 nc ns) (hW : (stk.map zcat).sum ≤ 8)
    (kk : ∀ r h1 lay', FL2 lay' → E0 = some (r, h1) → J mi enc FL lay' (nc + mi2.2.2.2.2.2.2.1) (ns + mi2.2.2.2.2.2.2.2.1) (pc + 3) lv ((enc2 r).toList ++ stk) h1 (K r h1)) : J mi enc FL lay nc ns pc lv stk0 h (bd E0 K) := by
  intro p l e R s m args below meth c D ci base b CC H locs ls r h2 hE S
  subst hst
  have hR := CC.2.2.2.2.2.2.2.2.2
  refine j_back (stk := stk) (mi2 := mi2) (a := (avs.map (zc base b)).toArray) kk CC hE S (fun v hv => List.mem_append_right _ hv) (fun r0 h1 hE0 => ?_)
  have hpre := j_pre (mi2 := mi2) (avs := avs) CC.2.2.2.2.2.1 S (fun v hv => List.mem_append_left _ (List.mem_reverse.mpr hv))
  have hts := CC.2.2.2.2.1
  refine va_runS (As := avs.map (zc base b)) (n := n) (ret := mi2.2.2.2.1) (cx_fix CC) (hCT l D ci base b r0 h1 hE0) ⟨callB_of n hts (mv_good hMV) rfl rfl rfl (hts _ hMV.2.1) (hts _ hl) ⟨hMV.2.2.1.1, hMV.2.2.1.2, hMV.2.2.2⟩ (by rw [hR.1, hR.2.1]; exact hroom.1), hts _ hi⟩ hpre rfl (by rw [List.length_map]; exact hn) S.2.2.2.1.1 ?_ (lv_room (by rw [zc_sum]; exact hW)) hd (by rw [hR.2.2.1, hR.2.2.2.1]; exact hroom.2)
  show (avs.reverse ++ stk).map (zc base b) = _
  rw [List.map_append, List.map_reverse]
/-- a nest mate's private static method -/
theorem j_callSN {β : Type} {mi2 : MI} {enc2 : β → Option V} {FL2 : List LK → Prop} {E0 : O β} {K : β → Hp → O α} {index n : Nat} {host : String} (avs : List V) {stk0 : List V} (hd : decode mi.2.1 pc = .ok (.invokestatic index, 3)) (hMV : MV mi2 n) (hi : Cond.static mi2.1 ∈ UW) (hl : Cond.methodLinkNest mi.1.cls index mi2.1 host ∈ NWs)
    (hCT : CT mi2 enc2 FL2 lay avs h E0) (hn : avs.length = n) (hst : stk0 = avs.reverse ++ stk) (hroom : RoomOk mi mi2 nc ns) (hW : (stk.map zcat).sum ≤ 8)
    (kk : ∀ r h1 lay', FL2 lay' → E0 = some (r, h1) → J mi enc FL lay' (nc + mi2.2.2.2.2.2.2.1) (ns + mi2.2.2.2.2.2.2.2.1) (pc + 3) lv ((enc2 r).toList ++ stk) h1 (K r h1)) : J mi enc FL lay nc ns pc lv stk0 h (bd E0 K) := by
  intro p l e R s m args below meth c D ci base b CC H locs ls r h2 hE S
  subst hst
  have hR := CC.2.2.2.2.2.2.2.2.2
  refine j_back (stk := stk) (mi2 := mi2) (a := (avs.map (zc base b)).toArray) kk CC hE S (fun v hv => List.mem_append_right _ hv) (fun r0 h1 hE0 => ?_)
  have hpre := j_pre (mi2 := mi2) (avs := avs) CC.2.2.2.2.2.1 S (fun v hv => List.mem_append_left _ (List.mem_reverse.mpr hv))
  have hts := CC.2.2.2.2.1
  refine va_runSN (As := avs.map (zc base b)) (n := n) (ret := mi2.2.2.2.1) (cx_fix CC) (hCT l D ci base b r0 h1 hE0) ⟨va_cnB n hts (mv_good hMV) rfl rfl rfl (CC.2.2.2.2.2.1.2.1 _ hl) (hts _ hMV.2.1) ⟨hMV.2.2.1.1, hMV.2.2.1.2, hMV.2.2.2⟩ (by rw [hR.1, hR.2.1]; exact hroom.1), hts _ hi, trivial⟩ hpre rfl (by rw [List.length_map]; exact hn) S.2.2.2.1.1 ?_ (lv_room (by rw [zc_sum]; exact hW)) hd (by rw [hR.2.2.1, hR.2.2.2.1]; exact hroom.2)
  show (avs.reverse ++ stk).map (zc base b) = _
  rw [List.map_append, List.map_reverse]
/-- a constructor -/
theorem j_callI {β : Type} {mi2 : MI} {enc2 : β → Option V} {FL2 : List LK → Prop} {E0 : O β} {K : β → Hp → O α} {index n : Nat} (avs : List V) (a : Nat) {stk0 : List V} (hd : decode mi.2.1 pc = .ok (.invokespecial index, 3)) (hMV : MV mi2 n) (hret : mi2.2.2.2.1 = none) (hi : Cond.instanceMethod mi2.1 ∈ UW) (hnm : mi2.1.name = "<init>") (hl : MM mi.1.cls index mi2.1)
    (hCT : CT mi2 enc2 FL2 lay (vr a :: avs) h E0) (hn : avs.length = n) (hst : stk0 = avs.reverse ++ vr a :: stk) (hroom : RoomOk mi mi2 nc ns) (hW : (stk.map zcat).sum ≤ 8)
    (kk : ∀ r h1 lay', FL2 lay' → E0 = some (r, h1) → J mi enc FL lay' (nc + mi2.2.2.2.2.2.2.1) (ns + mi2.2.2.2.2.2.2.2.1) (pc + 3) lv ((enc2 r).toList ++ stk) h1 (K r h1)) : J mi enc FL lay nc ns pc lv stk0 h (bd E0 K) := by
  intro p l e R s m args below meth c D ci base b CC H locs ls r h2 hE S
  subst hst
  have hR := CC.2.2.2.2.2.2.2.2.2
  refine j_back (stk := stk) (mi2 := mi2) (a := (Value.ref (base + a) :: avs.map (zc base b)).toArray) kk CC hE S (fun v hv => List.mem_append_right _ (List.mem_cons_of_mem _ hv)) (fun r0 h1 hE0 => ?_)
  have hpre := j_pre (mi2 := mi2) (avs := vr a :: avs) CC.2.2.2.2.2.1 S (fun v hv => by
    rcases List.mem_cons.mp hv with rfl | hv
    · exact List.mem_append_right _ List.mem_cons_self
    · exact List.mem_append_left _ (List.mem_reverse.mpr hv))
  have hts := CC.2.2.2.2.1
  have hCT' := hCT l D ci base b r0 h1 hE0
  have hMV' := hMV
  unfold MV at hMV'
  have hgood := mv_good hMV
  rw [hret] at hCT' hMV' hgood
  refine va_runI (As := avs.map (zc base b)) (b := base + a) (n := n) (cx_fix CC) hCT' ⟨callB_of n hts hgood rfl rfl rfl (hts _ hMV'.2.1) (hts _ hl) ⟨hMV'.2.2.1.1, hMV'.2.2.1.2, hMV'.2.2.2⟩ (by rw [hR.1, hR.2.1]; exact hroom.1), hnm, hts _ hi⟩ hpre rfl (by rw [List.length_map]; exact hn) S.2.2.2.1.1 ?_ (lv_room (by rw [zc_sum]; exact hW)) hd (by rw [hR.2.2.1, hR.2.2.2.1]; exact hroom.2)
  show (avs.reverse ++ vr a :: stk).map (zc base b) = _
  rw [List.map_append, List.map_reverse]
  rfl
theorem j_callIN {β : Type} {mi2 : MI} {enc2 : β → Option V} {FL2 : List LK → Prop} {E0 : O β} {K : β → Hp → O α} {index n : Nat} {host : String} (avs : List V) (a : Nat) {stk0 : List V} (hd : decode mi.2.1 pc = .ok (.invokespecial index, 3)) (hMV : MV mi2 n) (hret : mi2.2.2.2.1 = none) (hi : Cond.instanceMethod mi2.1 ∈ UW) (hnm : mi2.1.name = "<init>") (hl : Cond.methodLinkNest mi.1.cls index mi2.1 host ∈ NWs)
    (hCT : CT mi2 enc2 FL2 lay (vr a :: avs) h E0) (hn : avs.length = n) (hst : stk0 = avs.reverse ++ vr a :: stk) (hroom : RoomOk mi mi2 nc ns) (hW : (stk.map zcat).sum ≤ 8)
    (kk : ∀ r h1 lay', FL2 lay' → E0 = some (r, h1) → J mi enc FL lay' (nc + mi2.2.2.2.2.2.2.1) (ns + mi2.2.2.2.2.2.2.2.1) (pc + 3) lv ((enc2 r).toList ++ stk) h1 (K r h1)) : J mi enc FL lay nc ns pc lv stk0 h (bd E0 K) := by
  intro p l e R s m args below meth c D ci base b CC H locs ls r h2 hE S
  subst hst
  have hR := CC.2.2.2.2.2.2.2.2.2
  refine j_back (stk := stk) (mi2 := mi2) (a := (Value.ref (base + a) :: avs.map (zc base b)).toArray) kk CC hE S (fun v hv => List.mem_append_right _ (List.mem_cons_of_mem _ hv)) (fun r0 h1 hE0 => ?_)
  have hpre := j_pre (mi2 := mi2) (avs := vr a :: avs) CC.2.2.2.2.2.1 S (fun v hv => by
    rcases List.mem_cons.mp hv with rfl | hv
    · exact List.mem_append_right _ List.mem_cons_self
    · exact List.mem_append_left _ (List.mem_reverse.mpr hv))
  have hts := CC.2.2.2.2.1
  have hCT' := hCT l D ci base b r0 h1 hE0
  have hMV' := hMV
  unfold MV at hMV'
  have hgood := mv_good hMV
  rw [hret] at hCT' hMV' hgood
  refine va_runIN (As := avs.map (zc base b)) (b := base + a) (n := n) (cx_fix CC) hCT' ⟨va_cnB n hts hgood rfl rfl rfl (CC.2.2.2.2.2.1.2.1 _ hl) (hts _ hMV'.2.1) ⟨hMV'.2.2.1.1, hMV'.2.2.1.2, hMV'.2.2.2⟩ (by rw [hR.1, hR.2.1]; exact hroom.1), hnm, hts _ hi⟩ hpre rfl (by rw [List.length_map]; exact hn) S.2.2.2.1.1 ?_ (lv_room (by rw [zc_sum]; exact hW)) hd (by rw [hR.2.2.1, hR.2.2.2.1]; exact hroom.2)
  show (avs.reverse ++ vr a :: stk).map (zc base b) = _
  rw [List.map_append, List.map_reverse]
  rfl
end CALLS
end ME

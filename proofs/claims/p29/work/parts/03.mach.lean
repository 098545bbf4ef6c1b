/-! ===== how the abstract machine's states lie in the machine's ===== -/
theorem i32_lt {x y : Int} (hx : inR x) (hy : inR y) : Int32.ofInt x < Int32.ofInt y ↔ x < y := by
  rw [Int32.lt_iff_toInt_lt, Int32.toInt_ofInt_of_le (by have := hx.1; omega) (by have := hx.2; omega), Int32.toInt_ofInt_of_le (by have := hy.1; omega) (by have := hy.2; omega)]
theorem i32_le {x y : Int} (hx : inR x) (hy : inR y) : Int32.ofInt x ≤ Int32.ofInt y ↔ x ≤ y := by
  rw [Int32.le_iff_toInt_le, Int32.toInt_ofInt_of_le (by have := hx.1; omega) (by have := hx.2; omega), Int32.toInt_ofInt_of_le (by have := hy.1; omega) (by have := hy.2; omega)]
theorem i32_eq {x y : Int} (hx : inR x) (hy : inR y) : Int32.ofInt x = Int32.ofInt y ↔ x = y := by
  rw [← Int32.toInt_inj, Int32.toInt_ofInt_of_le (by have := hx.1; omega) (by have := hx.2; omega), Int32.toInt_ofInt_of_le (by have := hy.1; omega) (by have := hy.2; omega)]
theorem i32_toInt {x : Int} (hx : inR x) : (Int32.ofInt x).toInt = x := Int32.toInt_ofInt_of_le (by have := hx.1; omega) (by have := hx.2; omega)
theorem inR0 : inR 0 := ⟨by decide, by decide⟩
theorem i32_0 : (0 : Int32) = Int32.ofInt 0 := rfl
theorem i32_cl {x : Int} (hx : inR x) : (Int32.ofInt x).toNatClampNeg = x.toNat := by rw [← Int32.toNat_toInt, i32_toInt hx]
theorem i32_in {i : Int} {n : Nat} (hi : inR i) (h : 0 ≤ i ∧ i < (n : Int)) : vp_in (Int32.ofInt i) n := by
  rw [vp_in_iff, i32_toInt hi]; exact h
def zc (base b : Nat) : V → Value
  | .inl x => .int (Int32.ofInt x)
  | .inr (.inl a) => .ref (base + a)
  | .inr (.inr (.inl x)) => .long (Int64.ofInt x)
  | .inr (.inr (.inr _)) => .ref b
def okV : V → Prop
  | .inl x => inR x
  | _ => True
/-- an object's slot: 0 a whole number, 1 a long, 2 a reference: how far behind the object its target lies, the how many-th reference to be set it is -/
def zfd (t k : Nat) : Nat × Nat × Nat :=
  match t with
  | 0 => [(2, 1, 0), (2, 14, 1), (2, 15, 2), (0, 0, 0), (0, 0, 0), (0, 0, 0), (2, 16, 3), (2, 17, 4), (2, 18, 5), (2, 19, 6), (2, 20, 7)].getD k (0, 0, 0)
  | 1 => [(2, 1, 0), (2, 2, 1), (2, 3, 2), (2, 4, 3), (2, 5, 4), (2, 6, 5), (2, 7, 6)].getD k (0, 0, 0)
  | 2 => [(2, 1, 0)].getD k (0, 0, 0)
  | 3 => [(2, 1, 0), (2, 2, 1), (2, 3, 2), (2, 4, 3), (2, 5, 4), (2, 6, 5), (0, 0, 0), (0, 0, 0), (0, 0, 0), (2, 7, 6), (2, 8, 7), (2, 9, 8), (2, 10, 9), (2, 11, 10), (2, 12, 11)].getD k (0, 0, 0)
  | 4 => [(2, 1, 0), (2, 2, 1)].getD k (0, 0, 0)
  | 5 => [(2, 1, 0), (2, 9, 1), (2, 75, 2), (2, 85, 3), (2, 98, 4), (2, 111, 5)].getD k (0, 0, 0)
  | _ => [(2, 1, 0), (0, 0, 0), (2, 2, 1), (0, 0, 0), (0, 0, 0), (0, 0, 0), (0, 0, 0), (0, 0, 0), (2, 3, 2), (2, 4, 3), (2, 5, 4), (2, 6, 5), (2, 7, 6), (2, 8, 7), (2, 9, 8), (1, 0, 0)].getD k (0, 0, 0)
/-- how many slots -/
def znf (t : Nat) : Nat := [11, 11, 3, 16, 7, 8, 16].getD t 0
def zval (base a p : Nat) (h : Int → Int) (d : Nat × Nat × Nat) (k : Nat) : Value :=
  match d.1 with
  | 0 => .int (Int32.ofInt (h k))
  | 1 => .long (Int64.ofInt (h k))
  | _ => if d.2.2 < p then .ref (base + a + d.2.1) else .null
def zfl (base a p t : Nat) (h : Int → Int) : List Value := (List.range (znf t)).map fun k => zval base a p h (zfd t k) k
abbrev zCI : Type := ClassId × ClassId × ClassId × ClassId
def zcell (ci : zCI) (base a : Nat) (k : LK) (h : Hp) : va_E :=
  match k.1 with
  | 0 => .inl (ci.1, k.2.1, .inl (fun j => Int32.ofInt (h a j)))
  | 1 => .inl (ci.2.1, k.2.1, .inl (fun j => Int32.ofInt (h a j)))
  | 2 => .inl (ci.2.2.1, k.2.1, .inr (.inr (.inr (.inr (fun i => if i < k.2.2.2 then some (base + (a + 1 + k.2.2.1 * i)) else none)))))
  | 3 => .inl (ci.2.2.2, k.2.1, .inr (.inr (.inr (.inr (fun i => if i < k.2.1 then some (base + (a + 1 + i)) else none)))))
  | t + 4 => .inr (t, zfl base a k.2.2.2 t (h a))
def zw (ci : zCI) (base : Nat) (lay : List LK) (h : Hp) : va_W := lay.mapIdx fun a k => (base + a, zcell ci base a k h)
theorem zw_at {ci : zCI} {base : Nat} {lay : List LK} {h : Hp} {a : Nat} {k : LK} (hk : lay[a]? = some k) : (zw ci base lay h)[a]? = some (base + a, zcell ci base a k h) := by
  simp [zw, hk]
theorem zw_inv {ci : zCI} {base : Nat} {lay : List LK} {h : Hp} {a : Nat} {q : Nat × va_E} (hq : (zw ci base lay h)[a]? = some q) : ∃ k, lay[a]? = some k ∧ q = (base + a, zcell ci base a k h) := by
  simp only [zw, List.getElem?_mapIdx, Option.map_eq_some_iff] at hq
  obtain ⟨k, h1, h2⟩ := hq
  exact ⟨k, h1, h2.symm⟩
def RelH (D : va_G) (ci : zCI) (base : Nat) (lay : List LK) (h : Hp) (H : Heap) : Prop := H.size = base + lay.length ∧ va_P D vwCl (zw ci base lay h) H
theorem zw_D {ci : zCI} {base : Nat} {lay : List LK} {h : Hp} : va_D (fun q => base ≤ q) (zw ci base lay h) := by
  refine ⟨fun i j p q hi hj e => ?_, fun k q hk => ?_⟩
  · obtain ⟨_, -, rfl⟩ := zw_inv hi
    obtain ⟨_, -, rfl⟩ := zw_inv hj
    have e : base + i = base + j := e
    omega
  · obtain ⟨_, -, rfl⟩ := zw_inv hk
    exact Nat.le_add_right _ _
def zint (k : LK) (i : Int) : Prop := k.1 < 4 ∨ (zfd (k.1 - 4) i.toNat).1 ≠ 1
def InR (lay : List LK) (h : Hp) : Prop := ∀ (a : Nat) (k : LK) (i : Int), lay[a]? = some k → zint k i → inR (h a i)
def isNest : Cond → Bool
  | .methodLinkNest .. => true
  | _ => false
def NWs : List Cond := lw_tbl.filter isNest
def KK (D : va_G) (ci : zCI) (U : State) : Prop := va_K D vwCl [(ci.1, .int), (ci.2.1, .boolean), (ci.2.2.1, .object RX1), (ci.2.2.2, .array .int)] U ∧ (∀ w ∈ NWs, va_Nw w U) ∧ va_AO RX1 U ∧ (Cond.arrayOver (.array .int)).before #[] U = true
theorem nws_form {w : Cond} (h : w ∈ NWs) : ∃ a i x b, w = .methodLinkNest a i x b := by
  have h2 := (List.mem_filter.mp h).2
  cases w <;> first | exact ⟨_, _, _, _, rfl⟩ | simp [isNest] at h2
theorem KK.warm {D : va_G} {ci : zCI} {s U : State} (hW : s.WarmedH U.vm) (h : KK D ci s) : KK D ci U := by
  refine ⟨va_K.moved hW.alike h.1, fun w hw => ?_, va_AO.moved hW.alike h.2.2.1, over_moved hW.alike h.2.2.2⟩
  have h2 := h.2.1 w hw
  obtain ⟨a, i, x, b, rfl⟩ := nws_form hw
  exact va_Nw.warmM hW h2
theorem KK.call {D : va_G} {ci : zCI} {U : State} {g : JFrame} {mk : MethodId} {a : Array Value} (h : KK D ci U) : KK D ci (U.calling g mk a) := by
  refine ⟨va_K.moved (u := U) (U := U.calling g mk a) (Vm.Alike.refl U.vm) h.1, fun w hw => ?_, va_AO.moved (u := U) (U := U.calling g mk a) (Vm.Alike.refl U.vm) h.2.2.1, over_moved (u := U) (E := U.calling g mk a) (Vm.Alike.refl U.vm) h.2.2.2⟩
  have h2 := h.2.1 w hw
  obtain ⟨x1, i, x, b, rfl⟩ := nws_form hw
  exact va_Nw.same rfl rfl h2
/-- a method: its name, code, locals, answer; frames, words, cells, slots of its room; the law's own script -/
abbrev MI : Type := MethodName × ByteArray × Nat × Option FieldType × Nat × Nat × Nat × Nat × Option (Nat × (Nat → Int32) × Bool)
/-- is it the law itself -/
def isL (mi : MI) : Bool := match mi.2.2.2.2.2.2.2.2 with
  | some (_, _, true) => true
  | _ => false
def CX (mi : MI) (p : Program) (R : Room) (s : State) (m : MethodId) (args : Array Value) (meth : Method) (c : Code) (D : va_G) (ci : zCI) (base b : Nat) : Prop :=
  p.tables.exec = Jvm.exec ∧ c.code = mi.2.1 ∧ c.maxLocals = mi.2.2.1 ∧ s.vm.findClass mi.1.cls = some m.cls ∧ (∀ w ∈ UW, w.before args s = true) ∧ KK D ci s ∧ meth.locks = false ∧ meth.sig.returnType = mi.2.2.2.1 ∧ (mi.1.name = "<init>" → meth.name = "<init>") ∧
  R.frames = mi.2.2.2.2.1 ∧ R.locals = mi.2.2.2.2.2.1 ∧ R.cells = mi.2.2.2.2.2.2.1 ∧ R.slots = mi.2.2.2.2.2.2.2.1 ∧ base ≤ s.heap.size ∧
  ∀ L xs f, mi.2.2.2.2.2.2.2.2 = some (L, xs, f) → va_X b L xs s s.heap ∧ b < base ∧ (f = true → base = s.heap.size ∧ args = #[.ref b] ∧ mi.2.1 = code ∧ mi.2.2.2.1 = ret ∧ R = room_1)
def zQ {α : Type} (enc : α → Option V) (FL : List LK → Prop) (D : va_G) (ci : zCI) (base b : Nat) (r : α) (h' : Hp) : Array Value → State → Outcome → State → Prop := fun _ st o t =>
  (o = .returned ((enc r).map (zc base b)) ∧ (∀ v, enc r = some v → okV v) ∧ ∃ layF, FL layF ∧ RelH D ci base layF h' t.heap ∧ InR layF h') ∧ va_F (fun q => base ≤ q) st t
def zpost {α : Type} (mi : MI) (enc : α → Option V) (FL : List LK → Prop) (D : va_G) (ci : zCI) (base b : Nat) (below : List Frame) (args : Array Value) (s : State) (r : α) (h' : Hp) : State → Prop :=
  match isL mi with
  | false => MQ below (zQ enc FL D ci base b r h') args s mi.2.2.2.2.2.2.1 mi.2.2.2.2.2.2.2.1 (fun q => base ≤ q)
  | true => fun t => enc r = some (vi 1) → lw_Z below args s t
def SX (mi : MI) (D : va_G) (ci : zCI) (base b : Nat) (s : State) (lay : List LK) (lv : List (Nat × V)) (stk : List V) (h : Hp) (H : Heap) (locs : List Loc) (ls : Array Slot) : Prop :=
  (∀ q ∈ lv, okV q.2) ∧ (∀ v ∈ stk, okV v) ∧ InR lay h ∧ lv_has ls mi.2.2.1 (lv.map fun q => (q.1, zc base b q.2)) ∧ RelH D ci base lay h H ∧ va_S (fun q => base ≤ q) s.heap H locs
/-- from here on (place, locals, stack, heap) the method comes to its end with what E says -/
def J {α : Type} (mi : MI) (enc : α → Option V) (FL : List LK → Prop) (lay : List LK) (nc ns pc : Nat) (lv : List (Nat × V)) (stk : List V) (h : Hp) (E : O α) : Prop :=
  ∀ (p : Program) (l : Launch) (e : Env) (R : Room) (s : State) (m : MethodId) (args : Array Value) (below : List Frame) (meth : Method) (c : Code) (D : va_G) (ci : zCI) (base b : Nat), CX mi p R s m args meth c D ci base b →
    ∀ (H : Heap) (locs : List Loc) (ls : Array Slot) (r : α) (h' : Hp), E = some (r, h') → SX mi D ci base b s lay lv stk h H locs ls →
      W p l e R s m args below meth c H locs nc ns (zpost mi enc FL D ci base b below args s r h') (F0 m pc ls (stk.map (zc base b)))
section SXL
variable {mi : MI} {D : va_G} {ci : zCI} {base b : Nat} {s : State} {lay : List LK} {lv : List (Nat × V)} {stk stk' : List V} {h : Hp} {H : Heap} {locs : List Loc} {ls : Array Slot}
theorem SX.reStk (S : SX mi D ci base b s lay lv stk h H locs ls) (h2 : ∀ v ∈ stk', okV v) : SX mi D ci base b s lay lv stk' h H locs ls := ⟨S.1, h2, S.2.2⟩
theorem SX.push {v : V} (S : SX mi D ci base b s lay lv stk h H locs ls) (hv : okV v) : SX mi D ci base b s lay lv (v :: stk) h H locs ls := S.reStk fun w hw => by
  rcases List.mem_cons.mp hw with rfl | hw
  · exact hv
  · exact S.2.1 w hw
theorem SX.pop {v : V} (S : SX mi D ci base b s lay lv (v :: stk) h H locs ls) : SX mi D ci base b s lay lv stk h H locs ls := S.reStk fun w hw => S.2.1 w (List.mem_cons_of_mem _ hw)
theorem SX.top {v : V} (S : SX mi D ci base b s lay lv (v :: stk) h H locs ls) : okV v := S.2.1 v List.mem_cons_self
theorem SX.top2 {v w : V} (S : SX mi D ci base b s lay lv (v :: w :: stk) h H locs ls) : okV w := S.pop.top
theorem SX.heap {h1 : Hp} {H1 : Heap} {locs1 : List Loc} (S : SX mi D ci base b s lay lv stk h H locs ls) (hR : InR lay h1) (hP : RelH D ci base lay h1 H1) (hS : va_S (fun q => base ≤ q) s.heap H1 locs1) : SX mi D ci base b s lay lv stk h1 H1 locs1 ls := ⟨S.1, S.2.1, hR, S.2.2.2.1, hP, hS⟩
theorem SX.at (S : SX mi D ci base b s lay lv stk h H locs ls) (k : Nat) {i : Nat} {v : V} (hk : lv[k]? = some (i, v)) : ls[i]? = some (.val (zc base b v)) := lv_at S.2.2.2.1 k (by rw [List.getElem?_map, hk]; rfl)
theorem SX.ok (S : SX mi D ci base b s lay lv stk h H locs ls) (k : Nat) {i : Nat} {v : V} (hk : lv[k]? = some (i, v)) : okV v := S.1 _ (List.mem_of_getElem? hk)
theorem SX.reLv {lv' : List (Nat × V)} {ls' : Array Slot} (S : SX mi D ci base b s lay lv stk h H locs ls) (h1 : ∀ q ∈ lv', okV q.2) (h2 : lv_has ls' mi.2.2.1 (lv'.map fun q => (q.1, zc base b q.2))) : SX mi D ci base b s lay lv' stk h H locs ls' := ⟨h1, S.2.1, S.2.2.1, h2, S.2.2.2.2⟩
end SXL
def zst (lv : List (Nat × V)) (i : Nat) (v : V) : List (Nat × V) :=
  (i, v) :: lv.filter fun q => !(q.1 == i) && !(q.1 + 1 == i && (match q.2 with | .inr (.inr (.inl _)) => true | _ => false))
theorem zc_cat (base b : Nat) (v : V) : ((zc base b v).category == 2) = (match v with | .inr (.inr (.inl _)) => true | _ => false) := by
  rcases v with x | a | x | x <;> rfl
theorem zst_map (base b : Nat) (lv : List (Nat × V)) (i : Nat) (v : V) : (i, zc base b v) :: (lv.map fun q => (q.1, zc base b q.2)).filter (fun q => !(q.1 == i) && !(q.1 + 1 == i && q.2.category == 2)) = (zst lv i v).map fun q => (q.1, zc base b q.2) := by
  unfold zst
  rw [List.map_cons, List.filter_map]
  congr 2
  apply List.filter_congr
  intro q _
  simp only [Function.comp, zc_cat]
theorem zst_ok {lv : List (Nat × V)} {i : Nat} {v : V} (h : ∀ q ∈ lv, okV q.2) (hv : okV v) : ∀ q ∈ zst lv i v, okV q.2 := by
  intro q hq
  rcases List.mem_cons.mp hq with rfl | hq
  · exact hv
  · exact h q (List.mem_filter.mp hq).1

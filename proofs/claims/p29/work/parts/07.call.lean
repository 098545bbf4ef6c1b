section CR
theorem i32_min {x y : Int} (hx : inR x) (hy : inR y) : (if Int32.ofInt y < Int32.ofInt x then Int32.ofInt y else Int32.ofInt x) = Int32.ofInt (min x y) := by
  by_cases h : y < x
  · rw [if_pos ((i32_lt hy hx).mpr h), Int.min_eq_right (Int.le_of_lt h)]
  · rw [if_neg (fun q => h ((i32_lt hy hx).mp q)), Int.min_eq_left (by omega)]
theorem i32_max {x y : Int} (hx : inR x) (hy : inR y) : (if Int32.ofInt x < Int32.ofInt y then Int32.ofInt y else Int32.ofInt x) = Int32.ofInt (max x y) := by
  by_cases h : x < y
  · rw [if_pos ((i32_lt hx hy).mpr h), Int.max_eq_right (Int.le_of_lt h)]
  · rw [if_neg (fun q => h ((i32_lt hx hy).mp q)), Int.max_eq_left (by omega)]
def zcat : V → Nat
  | .inr (.inr (.inl _)) => 2
  | _ => 1
theorem zc_zcat (base b : Nat) (v : V) : (zc base b v).category = zcat v := by rcases v with x | a | x | x <;> rfl
theorem zc_sum (base b : Nat) (stk : List V) : ((stk.map (zc base b)).map fun v => v.category).sum = (stk.map zcat).sum := by
  rw [List.map_map]
  congr 1
  apply List.map_congr_left
  intro v _
  exact zc_zcat base b v
variable {α : Type} {mi : MI} {enc : α → Option V} {FL : List LK → Prop} {lay : List LK} {nc ns pc : Nat} {lv : List (Nat × V)} {stk : List V} {h : Hp} {E E2 : O α}
theorem uw_nest {w : Cond} (i : Nat) (h : tables_1[i]? = some w) (hg : isNest w = true) : w ∈ NWs := List.mem_filter.mpr ⟨List.mem_append_right _ (List.mem_of_getElem? h), hg⟩
abbrev MM (own : String) (index : Nat) (y : MethodName) : Prop := Cond.methodLink own index y ∈ UW
theorem j_mmin {index : Nat} {x y : Int} (hd : decode mi.2.1 pc = .ok (.invokestatic index, 3)) (hl : MM mi.1.cls index Lib.Math.min.name) (h1 : Cond.static Lib.Math.min.name ∈ UW) (h2' : Cond.initialized "java/lang/Math" ∈ UW) (h3 : Cond.code Lib.Math.min.name Lib.Math.min.code 2 (some .int) ∈ UW)
    (hf : 1 ≤ mi.2.2.2.2.1) (hlo : (stk.map zcat).sum + 13 ≤ mi.2.2.2.2.2.1) (hc : nc ≤ mi.2.2.2.2.2.2.1) (hs : ns ≤ mi.2.2.2.2.2.2.2.1) (kk : J mi enc FL lay nc ns (pc + 3) lv (vi (min x y) :: stk) h E) : J mi enc FL lay nc ns pc lv (vi y :: vi x :: stk) h E := by
  intro p' l e R s m args below meth c D ci base b CC H locs ls r h2 hE S
  have hts := CC.2.2.2.2.1
  have hR := CC.2.2.2.2.2.2.2.2.2
  refine va_mmin CC.1 CC.2.1 (by rw [CC.2.2.1]; exact S.2.2.2.1.1.symm) CC.2.2.2.1 (hts _ hl) (hts _ h1) (hts _ h2') (hts _ h3) (by rw [hR.1]; exact hf) (by rw [hR.2.1, zc_sum]; exact hlo) (by rw [hR.2.2.1]; exact hc) (by rw [hR.2.2.2.1]; exact hs) hd ?_
  rw [i32_min S.top2 S.top]
  have hx : inR x := S.top2
  have hy : inR y := S.top
  exact kk p' l e R s m args below meth c D ci base b CC H locs _ r h2 hE (S.pop.pop.push (v := vi (min x y)) (by show inR _; rcases Int.le_total x y with q | q; (rw [Int.min_eq_left q]; exact hx); (rw [Int.min_eq_right q]; exact hy)))
theorem j_mmax {index : Nat} {x y : Int} (hd : decode mi.2.1 pc = .ok (.invokestatic index, 3)) (hl : MM mi.1.cls index Lib.Math.max.name) (h1 : Cond.static Lib.Math.max.name ∈ UW) (h2' : Cond.initialized "java/lang/Math" ∈ UW) (h3 : Cond.code Lib.Math.max.name Lib.Math.max.code 2 (some .int) ∈ UW)
    (hf : 1 ≤ mi.2.2.2.2.1) (hlo : (stk.map zcat).sum + 13 ≤ mi.2.2.2.2.2.1) (hc : nc ≤ mi.2.2.2.2.2.2.1) (hs : ns ≤ mi.2.2.2.2.2.2.2.1) (kk : J mi enc FL lay nc ns (pc + 3) lv (vi (max x y) :: stk) h E) : J mi enc FL lay nc ns pc lv (vi y :: vi x :: stk) h E := by
  intro p' l e R s m args below meth c D ci base b CC H locs ls r h2 hE S
  have hts := CC.2.2.2.2.1
  have hR := CC.2.2.2.2.2.2.2.2.2
  refine va_mmax CC.1 CC.2.1 (by rw [CC.2.2.1]; exact S.2.2.2.1.1.symm) CC.2.2.2.1 (hts _ hl) (hts _ h1) (hts _ h2') (hts _ h3) (by rw [hR.1]; exact hf) (by rw [hR.2.1, zc_sum]; exact hlo) (by rw [hR.2.2.1]; exact hc) (by rw [hR.2.2.2.1]; exact hs) hd ?_
  rw [i32_max S.top2 S.top]
  have hx : inR x := S.top2
  have hy : inR y := S.top
  exact kk p' l e R s m args below meth c D ci base b CC H locs _ r h2 hE (S.pop.pop.push (v := vi (max x y)) (by show inR _; rcases Int.le_total x y with q | q; (rw [Int.max_eq_right q]; exact hy); (rw [Int.max_eq_left q]; exact hx)))
/-- switches: a goal for each road -/
def zsw (mi : MI) (enc : α → Option V) (FL : List LK → Prop) (lay : List LK) (nc ns : Nat) (lv : List (Nat × V)) (stk : List V) (h : Hp) : List Nat → List (O α) → Prop
  | t :: ts, E :: Es => J mi enc FL lay nc ns t lv stk h E ∧ zsw mi enc FL lay nc ns lv stk h ts Es
  | [], [] => True
  | _, _ => False
theorem zsw_at : ∀ {ts : List Nat} {Es : List (O α)}, zsw mi enc FL lay nc ns lv stk h ts Es → ts.length = Es.length ∧ ∀ (i : Nat) (E : O α), Es[i]? = some E → ∃ t, ts[i]? = some t ∧ J mi enc FL lay nc ns t lv stk h E := by
  intro ts
  induction ts with
  | nil =>
    intro Es hz
    cases Es with
    | nil => exact ⟨rfl, fun i E hE => by simp at hE⟩
    | cons => exact hz.elim
  | cons t ts ih =>
    intro Es hz
    cases Es with
    | nil => exact hz.elim
    | cons E Es =>
      obtain ⟨h1, h2⟩ := ih hz.2
      refine ⟨by simp [h1], fun i F hF => ?_⟩
      cases i with
      | zero => simp at hF; subst hF; exact ⟨t, rfl, hz.1⟩
      | succ i => simp at hF; obtain ⟨u, hu, hj⟩ := h2 i F hF; exact ⟨u, by simpa using hu, hj⟩
theorem j_table {dflt lo hi : Int} {offs : Array Int} {len : Nat} {x : Int} (tgts : List Nat) (td : Nat) {Es : List (O α)} {Ed : O α} (hd : decode mi.2.1 pc = .ok (.tableswitch dflt lo hi offs, len)) (ho : offs.toList = tgts.map (fun (t : Nat) => (t : Int) - (pc : Int))) (hh : hi = lo + (tgts.length : Int) - 1) (htd : (pc : Int) + dflt = (td : Int))
    (kz : zsw mi enc FL lay nc ns lv stk h tgts Es) (kd : J mi enc FL lay nc ns td lv stk h Ed) : J mi enc FL lay nc ns pc lv (vi x :: stk) h (swt x lo Es Ed) := by
  intro p' l e R s m args below meth c D ci base b CC H locs ls r h2 hE S
  have hx : inR x := S.top
  obtain ⟨hlen, hall⟩ := zsw_at kz
  unfold swt at hE
  split at hE
  · rename_i hin
    have hlt : (x - lo).toNat < Es.length := by omega
    have hEs : Es[(x - lo).toNat]? = some (Es[(x - lo).toNat]) := List.getElem?_eq_getElem hlt
    obtain ⟨t, ht, hJ⟩ := hall _ _ hEs
    rw [List.getD_eq_getElem?_getD, hEs] at hE
    have hoff : offs[((Int32.ofInt x).toInt - lo).toNat]? = some ((t : Int) - (pc : Int)) := by
      rw [i32_toInt hx, ← Array.getElem?_toList, ho, List.getElem?_map, ht]
      rfl
    refine lv_tableIn (tgt := t) CC.1 CC.2.1 hd (by rw [i32_toInt hx]; omega) (by rw [i32_toInt hx]; omega) hoff (by omega) ?_
    exact hJ p' l e R s m args below meth c D ci base b CC H locs _ r h2 hE S.pop
  · rename_i hin
    refine lv_tableOut CC.1 CC.2.1 hd (by rw [i32_toInt hx]; omega) htd ?_
    exact kd p' l e R s m args below meth c D ci base b CC H locs _ r h2 hE S.pop
/-- the ends -/
theorem zpost_none {α : Type} {mi : MI} (hs : isL mi = false) {enc : α → Option V} {FL : List LK → Prop} {D : va_G} {ci : zCI} {base b : Nat} {below : List Frame} {args : Array Value} {s : State} {r : α} {h' : Hp} : zpost mi enc FL D ci base b below args s r h' = MQ below (zQ enc FL D ci base b r h') args s mi.2.2.2.2.2.2.1 mi.2.2.2.2.2.2.2.1 (fun q => base ≤ q) := by
  unfold zpost
  rw [hs]
theorem j_retI {x : Int} {h0 : Hp} {mi : MI} {r : Int} {enc : Int → Option V} {E : O Int} (hE0 : E = some (x, h)) (henc : enc x = some (vi x)) (hs : isL mi = false) (hd : decode mi.2.1 pc = .ok (.ireturn, 1)) (hr : mi.2.2.2.1 = some .int) (hc : nc ≤ mi.2.2.2.2.2.2.1 ∧ ns ≤ mi.2.2.2.2.2.2.2.1) (hFL : FL lay) : J mi enc FL lay nc ns pc lv [vi x] h E := by
  intro p' l e R s m args below meth c D ci base b CC H locs ls r h2 hE S
  rw [hE0] at hE
  cases hE
  rw [zpost_none hs]
  refine W.widen hc.1 hc.2 ?_
  exact W.iret (v := Int32.ofInt x) CC.1 CC.2.1 (by rw [CC.2.2.2.2.2.2.2.1]; exact hr) (fun t ht hW => ⟨⟨by rw [henc]; rfl, fun v hv => by rw [henc] at hv; cases hv; exact S.top, lay, hFL, by rw [ht]; exact S.2.2.2.2.1, S.2.2.1⟩, S.2.2.2.2.2.F ht⟩) S.2.2.2.2.2.2.2 hd CC.2.2.2.2.2.2.1
theorem j_retZ {x : Int} {mi : MI} {enc : Int → Option V} {E : O Int} (hE0 : E = bz x (some (x, h))) (henc : enc x = some (vi x)) (hs : isL mi = false) (hd : decode mi.2.1 pc = .ok (.ireturn, 1)) (hr : mi.2.2.2.1 = some .boolean) (hc : nc ≤ mi.2.2.2.2.2.2.1 ∧ ns ≤ mi.2.2.2.2.2.2.2.1) (hFL : FL lay) : J mi enc FL lay nc ns pc lv [vi x] h E := by
  intro p' l e R s m args below meth c D ci base b CC H locs ls r h2 hE S
  rw [hE0] at hE
  obtain ⟨h01, hE⟩ := bz_some hE
  cases hE
  rw [zpost_none hs]
  refine W.widen hc.1 hc.2 ?_
  exact W.zret (ty := .boolean) (v := Int32.ofInt x) CC.1 CC.2.1 (by rw [CC.2.2.2.2.2.2.2.1]; exact hr) (by rcases h01 with rfl | rfl <;> rfl) (fun t ht hW => ⟨⟨by rw [henc]; rfl, fun v hv => by rw [henc] at hv; cases hv; exact S.top, lay, hFL, by rw [ht]; exact S.2.2.2.2.1, S.2.2.1⟩, S.2.2.2.2.2.F ht⟩) S.2.2.2.2.2.2.2 hd CC.2.2.2.2.2.2.1
theorem j_retL {x : Int} {mi : MI} {enc : Int → Option V} {E : O Int} (hE0 : E = some (x, h)) (henc : enc x = some (vl x)) (hs : isL mi = false) (hd : decode mi.2.1 pc = .ok (.lreturn, 1)) (hr : mi.2.2.2.1 = some .long) (hc : nc ≤ mi.2.2.2.2.2.2.1 ∧ ns ≤ mi.2.2.2.2.2.2.2.1) (hFL : FL lay) : J mi enc FL lay nc ns pc lv [vl x] h E := by
  intro p' l e R s m args below meth c D ci base b CC H locs ls r h2 hE S
  rw [hE0] at hE
  cases hE
  rw [zpost_none hs]
  refine W.widen hc.1 hc.2 ?_
  exact W.lret (v := Int64.ofInt x) CC.1 CC.2.1 (by rw [CC.2.2.2.2.2.2.2.1]; exact hr) (fun t ht hW => ⟨⟨by rw [henc]; rfl, fun v hv => by rw [henc] at hv; cases hv; trivial, lay, hFL, by rw [ht]; exact S.2.2.2.2.1, S.2.2.1⟩, S.2.2.2.2.2.F ht⟩) S.2.2.2.2.2.2.2 hd CC.2.2.2.2.2.2.1
theorem j_retR {a : Nat} {mi : MI} {enc : Nat → Option V} {n : String} {E : O Nat} (hE0 : E = some (a, h)) (henc : enc a = some (vr a)) (hs : isL mi = false) (hd : decode mi.2.1 pc = .ok (.areturn, 1)) (hr : mi.2.2.2.1 = some (.object n)) (hc : nc ≤ mi.2.2.2.2.2.2.1 ∧ ns ≤ mi.2.2.2.2.2.2.2.1) (hFL : FL lay) : J mi enc FL lay nc ns pc lv [vr a] h E := by
  intro p' l e R s m args below meth c D ci base b CC H locs ls r h2 hE S
  rw [hE0] at hE
  cases hE
  rw [zpost_none hs]
  refine W.widen hc.1 hc.2 ?_
  exact W.aret (v := .ref (base + a)) CC.1 CC.2.1 (by rw [CC.2.2.2.2.2.2.2.1]; exact hr) (Or.inl ⟨n, rfl⟩) (Or.inr ⟨_, rfl⟩) (fun t ht hW => ⟨⟨by rw [henc]; rfl, fun v hv => by rw [henc] at hv; cases hv; trivial, lay, hFL, by rw [ht]; exact S.2.2.2.2.1, S.2.2.1⟩, S.2.2.2.2.2.F ht⟩) S.2.2.2.2.2.2.2 hd CC.2.2.2.2.2.2.1
theorem j_retV {mi : MI} {enc : Unit → Option V} {E : O Unit} (hE0 : E = some ((), h)) (henc : enc () = none) (hs : isL mi = false) (hd : decode mi.2.1 pc = .ok (.return_, 1)) (hr : mi.2.2.2.1 = none) (hc : nc ≤ mi.2.2.2.2.2.2.1 ∧ ns ≤ mi.2.2.2.2.2.2.2.1) (hFL : FL lay) : J mi enc FL lay nc ns pc lv [] h E := by
  intro p' l e R s m args below meth c D ci base b CC H locs ls r h2 hE S
  rw [hE0] at hE
  cases hE
  rw [zpost_none hs]
  refine W.widen hc.1 hc.2 ?_
  exact W.vret CC.1 CC.2.1 (by rw [CC.2.2.2.2.2.2.2.1]; exact hr) (fun t ht hW => ⟨⟨by rw [henc]; rfl, (fun v hv => by rw [henc] at hv; cases hv), lay, hFL, by rw [ht]; exact S.2.2.2.2.1, S.2.2.1⟩, S.2.2.2.2.2.F ht⟩) S.2.2.2.2.2.2.2 hd CC.2.2.2.2.2.2.1
/-- the law's own end: with 1; with anything else nothing is said -/
theorem j_retLaw {x : Int} {L : Nat} {xs : Nat → Int32} {mi : MI} {enc : Int → Option V} {E : O Int} (hE0 : E = some (x, h)) (henc : enc x = some (vi x)) (hs : mi.2.2.2.2.2.2.2.2 = some (L, xs, true)) (hd : decode code pc = .ok (.ireturn, 1)) (hc : nc ≤ 600000 ∧ ns ≤ 7302250) : J mi enc FL lay nc ns pc lv [vi x] h E := by
  intro p' l e R s m args below meth c D ci base b CC H locs ls r h2 hE S
  rw [hE0] at hE
  cases hE
  obtain ⟨-, -, hz⟩ := CC.2.2.2.2.2.2.2.2.2.2.2.2.2.2 L xs true hs
  obtain ⟨hb, ha, hcode, hret, hR⟩ := hz rfl
  have hL : isL mi = true := by unfold isL; rw [hs]
  unfold zpost
  rw [hL]
  by_cases hx : x = 1
  · subst hx
    subst ha
    subst hR
    refine va_forget (fun q hq => by have := S.2.2.2.2.2.2.2 q hq; omega) ?_
    refine W.widen hc.1 hc.2 ?_
    intro T hT X
    obtain ⟨t, h1, h3⟩ := lw_ret (l := l) CC.1 (CC.2.1.trans hcode) (CC.2.2.2.2.2.2.2.1.trans hret) CC.2.2.2.2.2.2.1 hd T hT X
    exact ⟨t, h1, fun _ => h3⟩
  · intro T hT X
    exact ⟨_, Steps.refl _, fun q => by rw [henc] at q; cases q; exact absurd rfl hx⟩
end CR

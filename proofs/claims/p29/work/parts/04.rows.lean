section JR
variable {α : Type} {mi : MI} {enc : α → Option V} {FL : List LK → Prop} {lay : List LK} {nc ns pc : Nat} {lv : List (Nat × V)} {stk : List V} {h : Hp} {E E2 : O α}
theorem j_iconst {n : Int} {x : Int} (hd : decode mi.2.1 pc = .ok (.iconst n, 1)) (hv : Int32.ofInt n = Int32.ofInt x) (hx : inR x) (k : J mi enc FL lay nc ns (pc + 1) lv (vi x :: stk) h E) : J mi enc FL lay nc ns pc lv stk h E := by
  intro p l e R s m args below meth c D ci base b C H locs ls r h2 hE S
  refine lv_iconst C.1 C.2.1 hd hv ?_
  exact k p l e R s m args below meth c D ci base b C H locs _ r h2 hE (S.push hx)
theorem j_bipush {n : Int} {x : Int} (hd : decode mi.2.1 pc = .ok (.bipush n, 2)) (hv : (Int8.ofInt n).toInt32 = Int32.ofInt x) (hx : inR x) (k : J mi enc FL lay nc ns (pc + 2) lv (vi x :: stk) h E) : J mi enc FL lay nc ns pc lv stk h E := by
  intro p l e R s m args below meth c D ci base b C H locs ls r h2 hE S
  refine lv_bipush C.1 C.2.1 hd hv ?_
  exact k p l e R s m args below meth c D ci base b C H locs _ r h2 hE (S.push hx)
theorem j_sipush {n : Int} {x : Int} (hd : decode mi.2.1 pc = .ok (.sipush n, 3)) (hv : (Int16.ofInt n).toInt32 = Int32.ofInt x) (hx : inR x) (k : J mi enc FL lay nc ns (pc + 3) lv (vi x :: stk) h E) : J mi enc FL lay nc ns pc lv stk h E := by
  intro p l e R s m args below meth c D ci base b C H locs ls r h2 hE S
  refine lv_sipush C.1 C.2.1 hd hv ?_
  exact k p l e R s m args below meth c D ci base b C H locs _ r h2 hE (S.push hx)
theorem j_ldc {index : Nat} {x : Int} (hd : decode mi.2.1 pc = .ok (.ldc index, 2)) (hw : Cond.constant mi.1.cls index (Int32.ofInt x) ∈ UW) (hx : inR x) (k : J mi enc FL lay nc ns (pc + 2) lv (vi x :: stk) h E) : J mi enc FL lay nc ns pc lv stk h E := by
  intro p l e R s m args below meth c D ci base b C H locs ls r h2 hE S
  refine lv_ldc C.1 C.2.1 C.2.2.2.1 (C.2.2.2.2.1 _ hw) hd ?_
  exact k p l e R s m args below meth c D ci base b C H locs _ r h2 hE (S.push hx)
theorem j_ldc2 {index : Nat} {x : Int} (hd : decode mi.2.1 pc = .ok (.ldc2_w index, 3)) (hw : Cond.constantLong mi.1.cls index (Int64.ofInt x) ∈ UW) (k : J mi enc FL lay nc ns (pc + 3) lv (vl x :: stk) h E) : J mi enc FL lay nc ns pc lv stk h E := by
  intro p l e R s m args below meth c D ci base b C H locs ls r h2 hE S
  refine lv_ldc2 C.1 C.2.1 C.2.2.2.1 (C.2.2.2.2.1 _ hw) hd ?_
  exact k p l e R s m args below meth c D ci base b C H locs _ r h2 hE (S.push trivial)
theorem j_iload_n {q : Fin 4} (i : Nat) {x : Int} (hd : decode mi.2.1 pc = .ok (.iload_n q, 1)) (hl : lv[i]? = some ((q : Nat), vi x)) (k : J mi enc FL lay nc ns (pc + 1) lv (vi x :: stk) h E) : J mi enc FL lay nc ns pc lv stk h E := by
  intro p l e R s m args below meth c D ci base b C H locs ls r h2 hE S
  refine lv_iload_n C.1 C.2.1 hd rfl (S.at i hl) ?_
  exact k p l e R s m args below meth c D ci base b C H locs _ r h2 hE (S.push (S.ok i hl))
theorem j_iload {q : Nat} (i : Nat) {x : Int} (hd : decode mi.2.1 pc = .ok (.iload q, 2)) (hl : lv[i]? = some (q, vi x)) (k : J mi enc FL lay nc ns (pc + 2) lv (vi x :: stk) h E) : J mi enc FL lay nc ns pc lv stk h E := by
  intro p l e R s m args below meth c D ci base b C H locs ls r h2 hE S
  refine lv_iload C.1 C.2.1 hd (S.at i hl) ?_
  exact k p l e R s m args below meth c D ci base b C H locs _ r h2 hE (S.push (S.ok i hl))
theorem j_lload_n {q : Fin 4} (i : Nat) {x : Int} (hd : decode mi.2.1 pc = .ok (.lload_n q, 1)) (hl : lv[i]? = some ((q : Nat), vl x)) (k : J mi enc FL lay nc ns (pc + 1) lv (vl x :: stk) h E) : J mi enc FL lay nc ns pc lv stk h E := by
  intro p l e R s m args below meth c D ci base b C H locs ls r h2 hE S
  refine lv_lload_n C.1 C.2.1 hd rfl (S.at i hl) ?_
  exact k p l e R s m args below meth c D ci base b C H locs _ r h2 hE (S.push (S.ok i hl))
theorem j_lload {q : Nat} (i : Nat) {x : Int} (hd : decode mi.2.1 pc = .ok (.lload q, 2)) (hl : lv[i]? = some (q, vl x)) (k : J mi enc FL lay nc ns (pc + 2) lv (vl x :: stk) h E) : J mi enc FL lay nc ns pc lv stk h E := by
  intro p l e R s m args below meth c D ci base b C H locs ls r h2 hE S
  refine lv_lload C.1 C.2.1 hd (S.at i hl) ?_
  exact k p l e R s m args below meth c D ci base b C H locs _ r h2 hE (S.push (S.ok i hl))
theorem j_aload_n {q : Fin 4} (i : Nat) {x : Nat} (hd : decode mi.2.1 pc = .ok (.aload_n q, 1)) (hl : lv[i]? = some ((q : Nat), vr x)) (k : J mi enc FL lay nc ns (pc + 1) lv (vr x :: stk) h E) : J mi enc FL lay nc ns pc lv stk h E := by
  intro p l e R s m args below meth c D ci base b C H locs ls r h2 hE S
  refine lv_aload_n C.1 C.2.1 hd rfl (S.at i hl) ?_
  exact k p l e R s m args below meth c D ci base b C H locs _ r h2 hE (S.push (S.ok i hl))
theorem j_aload {q : Nat} (i : Nat) {x : Nat} (hd : decode mi.2.1 pc = .ok (.aload q, 2)) (hl : lv[i]? = some (q, vr x)) (k : J mi enc FL lay nc ns (pc + 2) lv (vr x :: stk) h E) : J mi enc FL lay nc ns pc lv stk h E := by
  intro p l e R s m args below meth c D ci base b C H locs ls r h2 hE S
  refine lv_aload C.1 C.2.1 hd (S.at i hl) ?_
  exact k p l e R s m args below meth c D ci base b C H locs _ r h2 hE (S.push (S.ok i hl))
theorem j_sload_n {q : Fin 4} (i : Nat) (hd : decode mi.2.1 pc = .ok (.aload_n q, 1)) (hl : lv[i]? = some ((q : Nat), vsc)) (k : J mi enc FL lay nc ns (pc + 1) lv (vsc :: stk) h E) : J mi enc FL lay nc ns pc lv stk h E := by
  intro p l e R s m args below meth c D ci base b C H locs ls r h2 hE S
  refine lv_aload_n C.1 C.2.1 hd rfl (S.at i hl) ?_
  exact k p l e R s m args below meth c D ci base b C H locs _ r h2 hE (S.push (S.ok i hl))
theorem j_istore_n {q : Fin 4} {lv' : List (Nat × V)} {x : Int} (hd : decode mi.2.1 pc = .ok (.istore_n q, 1)) (hn : (q : Nat) < mi.2.2.1) (hl : zst lv q (vi x) = lv') (k : J mi enc FL lay nc ns (pc + 1) lv' stk h E) : J mi enc FL lay nc ns pc lv (vi x :: stk) h E := by
  intro p l e R s m args below meth c D ci base b C H locs ls r h2 hE S
  subst hl
  refine lv_istore_n C.1 C.2.1 hd rfl S.2.2.2.1 hn (zst_map base b lv q (vi x)) (fun ls' hl' => ?_)
  exact k p l e R s m args below meth c D ci base b C H locs _ r h2 hE (S.pop.reLv (zst_ok S.1 S.top) hl')
theorem j_istore {q : Nat} {lv' : List (Nat × V)} {x : Int} (hd : decode mi.2.1 pc = .ok (.istore q, 2)) (hn : q < mi.2.2.1) (hl : zst lv q (vi x) = lv') (k : J mi enc FL lay nc ns (pc + 2) lv' stk h E) : J mi enc FL lay nc ns pc lv (vi x :: stk) h E := by
  intro p l e R s m args below meth c D ci base b C H locs ls r h2 hE S
  subst hl
  refine lv_istore C.1 C.2.1 hd S.2.2.2.1 hn (zst_map base b lv q (vi x)) (fun ls' hl' => ?_)
  exact k p l e R s m args below meth c D ci base b C H locs _ r h2 hE (S.pop.reLv (zst_ok S.1 S.top) hl')
theorem j_astore_n {q : Fin 4} {lv' : List (Nat × V)} {x : Nat} (hd : decode mi.2.1 pc = .ok (.astore_n q, 1)) (hn : (q : Nat) < mi.2.2.1) (hl : zst lv q (vr x) = lv') (k : J mi enc FL lay nc ns (pc + 1) lv' stk h E) : J mi enc FL lay nc ns pc lv (vr x :: stk) h E := by
  intro p l e R s m args below meth c D ci base b C H locs ls r h2 hE S
  subst hl
  refine lv_astore_n C.1 C.2.1 hd rfl S.2.2.2.1 hn (zst_map base b lv q (vr x)) (fun ls' hl' => ?_)
  exact k p l e R s m args below meth c D ci base b C H locs _ r h2 hE (S.pop.reLv (zst_ok S.1 S.top) hl')
theorem j_astore {q : Nat} {lv' : List (Nat × V)} {x : Nat} (hd : decode mi.2.1 pc = .ok (.astore q, 2)) (hn : q < mi.2.2.1) (hl : zst lv q (vr x) = lv') (k : J mi enc FL lay nc ns (pc + 2) lv' stk h E) : J mi enc FL lay nc ns pc lv (vr x :: stk) h E := by
  intro p l e R s m args below meth c D ci base b C H locs ls r h2 hE S
  subst hl
  refine lv_astore C.1 C.2.1 hd S.2.2.2.1 hn (zst_map base b lv q (vr x)) (fun ls' hl' => ?_)
  exact k p l e R s m args below meth c D ci base b C H locs _ r h2 hE (S.pop.reLv (zst_ok S.1 S.top) hl')
theorem j_iinc {q : Nat} (i : Nat) {lv' : List (Nat × V)} {x n : Int} (hd : decode mi.2.1 pc = .ok (.iinc q n, 3)) (hi : lv[i]? = some (q, vi x)) (hn : q < mi.2.2.1) (hl : zst lv q (vi (x + n)) = lv') (k : J mi enc FL lay nc ns (pc + 3) lv' stk h E) : J mi enc FL lay nc ns pc lv stk h (ck (x + n) E) := by
  intro p l e R s m args below meth c D ci base b C H locs ls r h2 hE S
  subst hl
  obtain ⟨hz, hE⟩ := ck_some hE
  refine lv_iinc (v := Int32.ofInt (x + n)) (x := Int32.ofInt x) (k := i) C.1 C.2.1 hd S.2.2.2.1 (by rw [List.getElem?_map, hi]; rfl) (Int32.ofInt_add x n).symm hn (zst_map base b lv q (vi (x + n))) (fun ls' hl' => ?_)
  exact k p l e R s m args below meth c D ci base b C H locs _ r h2 hE (S.reLv (zst_ok S.1 hz) hl')
theorem j_iadd {x y : Int} (hd : decode mi.2.1 pc = .ok (.iadd, 1)) (k : J mi enc FL lay nc ns (pc + 1) lv (vi (x + y) :: stk) h E) : J mi enc FL lay nc ns pc lv (vi y :: vi x :: stk) h (ck (x + y) E) := by
  intro p l e R s m args below meth c D ci base b C H locs ls r h2 hE S
  obtain ⟨hz, hE⟩ := ck_some hE
  refine lv_iadd C.1 C.2.1 hd ?_
  rw [← Int32.ofInt_add x y]
  exact k p l e R s m args below meth c D ci base b C H locs _ r h2 hE (S.pop.pop.push (v := vi (x + y)) hz)
theorem j_isub {x y : Int} (hd : decode mi.2.1 pc = .ok (.isub, 1)) (k : J mi enc FL lay nc ns (pc + 1) lv (vi (x - y) :: stk) h E) : J mi enc FL lay nc ns pc lv (vi y :: vi x :: stk) h (ck (x - y) E) := by
  intro p l e R s m args below meth c D ci base b C H locs ls r h2 hE S
  obtain ⟨hz, hE⟩ := ck_some hE
  refine lv_isub C.1 C.2.1 hd ?_
  rw [← Int32.ofInt_sub x y]
  exact k p l e R s m args below meth c D ci base b C H locs _ r h2 hE (S.pop.pop.push (v := vi (x - y)) hz)
theorem j_imul {x y : Int} (hd : decode mi.2.1 pc = .ok (.imul, 1)) (k : J mi enc FL lay nc ns (pc + 1) lv (vi (x * y) :: stk) h E) : J mi enc FL lay nc ns pc lv (vi y :: vi x :: stk) h (ck (x * y) E) := by
  intro p l e R s m args below meth c D ci base b C H locs ls r h2 hE S
  obtain ⟨hz, hE⟩ := ck_some hE
  refine lv_imul C.1 C.2.1 hd ?_
  rw [← Int32.ofInt_mul x y]
  exact k p l e R s m args below meth c D ci base b C H locs _ r h2 hE (S.pop.pop.push (v := vi (x * y)) hz)
theorem j_ineg {x : Int} (hd : decode mi.2.1 pc = .ok (.ineg, 1)) (k : J mi enc FL lay nc ns (pc + 1) lv (vi (-x) :: stk) h E) : J mi enc FL lay nc ns pc lv (vi x :: stk) h (ck (-x) E) := by
  intro p l e R s m args below meth c D ci base b C H locs ls r h2 hE S
  obtain ⟨hz, hE⟩ := ck_some hE
  refine lv_ineg C.1 C.2.1 hd ?_
  rw [← Int32.ofInt_neg x]
  exact k p l e R s m args below meth c D ci base b C H locs _ r h2 hE (S.pop.push (v := vi (-x)) hz)
theorem j_idiv {x y : Int} (hd : decode mi.2.1 pc = .ok (.idiv, 1)) (k : J mi enc FL lay nc ns (pc + 1) lv (vi (x / y) :: stk) h E) : J mi enc FL lay nc ns pc lv (vi y :: vi x :: stk) h (dv x y E) := by
  intro p l e R s m args below meth c D ci base b C H locs ls r h2 hE S
  obtain ⟨hz, hE⟩ := dv_some hE
  have hy : inR y := S.top
  have hx : inR x := S.top2
  refine lv_idiv C.1 C.2.1 hd (fun h0 => ?_) ?_
  · have := (i32_eq hy inR0).mp h0
    omega
  · have ee : Int32.ofInt x / Int32.ofInt y = Int32.ofInt (x / y) := by
      rw [← Int.tdiv_eq_ediv_of_nonneg hz.1]
      exact (Int32.ofInt_tdiv hx.1 hx.2 hy.1 hy.2).symm
    rw [ee]
    have h1 : 0 ≤ x / y := Int.ediv_nonneg hz.1 (Int.le_of_lt hz.2)
    have h2' : x / y ≤ x := Int.ediv_le_self y hz.1
    exact k p l e R s m args below meth c D ci base b C H locs _ r h2 hE (S.pop.pop.push (v := vi (x / y)) ⟨by omega, by have := hx.2; omega⟩)
theorem j_irem {x y : Int} (hd : decode mi.2.1 pc = .ok (.irem, 1)) (k : J mi enc FL lay nc ns (pc + 1) lv (vi (x % y) :: stk) h E) : J mi enc FL lay nc ns pc lv (vi y :: vi x :: stk) h (dv x y E) := by
  intro p l e R s m args below meth c D ci base b C H locs ls r h2 hE S
  obtain ⟨hz, hE⟩ := dv_some hE
  have hy : inR y := S.top
  have hx : inR x := S.top2
  refine lv_irem C.1 C.2.1 hd (fun h0 => ?_) ?_
  · have := (i32_eq hy inR0).mp h0
    omega
  · have ee : Int32.ofInt x - Int32.ofInt x / Int32.ofInt y * Int32.ofInt y = Int32.ofInt (x % y) := by
      have e1 : Int32.ofInt x / Int32.ofInt y = Int32.ofInt (x / y) := by
        rw [← Int.tdiv_eq_ediv_of_nonneg hz.1]
        exact (Int32.ofInt_tdiv hx.1 hx.2 hy.1 hy.2).symm
      rw [e1, ← Int32.ofInt_mul, ← Int32.ofInt_sub, Int.emod_def, Int.mul_comm]
    rw [ee]
    have h1 := Int.emod_nonneg x (show y ≠ 0 by omega)
    have h2' := Int.emod_lt_of_pos x hz.2
    exact k p l e R s m args below meth c D ci base b C H locs _ r h2 hE (S.pop.pop.push (v := vi (x % y)) ⟨by omega, by have := hy.2; omega⟩)
theorem j_i2l {x : Int} (hd : decode mi.2.1 pc = .ok (.i2l, 1)) (k : J mi enc FL lay nc ns (pc + 1) lv (vl x :: stk) h E) : J mi enc FL lay nc ns pc lv (vi x :: stk) h E := by
  intro p l e R s m args below meth c D ci base b C H locs ls r h2 hE S
  have hx : inR x := S.top
  refine lv_i2l C.1 C.2.1 hd (Int32.toInt64_ofInt hx.1 hx.2) ?_
  exact k p l e R s m args below meth c D ci base b C H locs _ r h2 hE (S.pop.push (v := vl x) trivial)
theorem j_ladd {x y : Int} (hd : decode mi.2.1 pc = .ok (.ladd, 1)) (k : J mi enc FL lay nc ns (pc + 1) lv (vl (x + y) :: stk) h E) : J mi enc FL lay nc ns pc lv (vl y :: vl x :: stk) h E := by
  intro p l e R s m args below meth c D ci base b C H locs ls r h2 hE S
  refine lv_ladd C.1 C.2.1 hd ?_
  rw [← Int64.ofInt_add x y]
  exact k p l e R s m args below meth c D ci base b C H locs _ r h2 hE (S.pop.pop.push (v := vl (x + y)) trivial)
theorem j_lmul {x y : Int} (hd : decode mi.2.1 pc = .ok (.lmul, 1)) (k : J mi enc FL lay nc ns (pc + 1) lv (vl (x * y) :: stk) h E) : J mi enc FL lay nc ns pc lv (vl y :: vl x :: stk) h E := by
  intro p l e R s m args below meth c D ci base b C H locs ls r h2 hE S
  refine lv_lmul C.1 C.2.1 hd ?_
  rw [← Int64.ofInt_mul x y]
  exact k p l e R s m args below meth c D ci base b C H locs _ r h2 hE (S.pop.pop.push (v := vl (x * y)) trivial)
/-- long numbers are compared for being the same alone -/
theorem j_lcmp {x y : Int} (hd : decode mi.2.1 pc = .ok (.lcmp, 1)) (k : J mi enc FL lay nc ns (pc + 1) lv (vi 0 :: stk) h E) : J mi enc FL lay nc ns pc lv (vl y :: vl x :: stk) h (if x = y then E else none) := by
  intro p l e R s m args below meth c D ci base b C H locs ls r h2 hE S
  split at hE
  · rename_i hxy
    subst hxy
    refine W.lcmp C.1 C.2.1 hd ?_
    have ee : lg_cmp (Int64.ofInt x) (Int64.ofInt x) = Int32.ofInt 0 := by simp [lg_cmp]
    rw [ee]
    exact k p l e R s m args below meth c D ci base b C H locs _ r h2 hE (S.pop.pop.push (v := vi 0) inR0)
  · cases hE
theorem j_dup {v : V} (hd : decode mi.2.1 pc = .ok (.dup, 1)) (hc : ∀ base b, (zc base b v).category = 1) (k : J mi enc FL lay nc ns (pc + 1) lv (v :: v :: stk) h E) : J mi enc FL lay nc ns pc lv (v :: stk) h E := by
  intro p l e R s m args below meth c D ci base b C H locs ls r h2 hE S
  refine lv_dup C.1 C.2.1 hd (hc base b) ?_
  exact k p l e R s m args below meth c D ci base b C H locs _ r h2 hE (S.push S.top)
theorem j_dup2 {v w : V} (hd : decode mi.2.1 pc = .ok (.dup2, 1)) (hc : ∀ base b, (zc base b v).category = 1) (hc2 : ∀ base b, (zc base b w).category = 1) (k : J mi enc FL lay nc ns (pc + 1) lv (v :: w :: v :: w :: stk) h E) : J mi enc FL lay nc ns pc lv (v :: w :: stk) h E := by
  intro p l e R s m args below meth c D ci base b C H locs ls r h2 hE S
  refine lv_dup2_11 C.1 C.2.1 hd (hc base b) (hc2 base b) ?_
  exact k p l e R s m args below meth c D ci base b C H locs _ r h2 hE ((S.push S.top2).push S.top)
theorem j_goto {off : Int} {tgt : Nat} (hd : decode mi.2.1 pc = .ok (.goto off, 3)) (ht : (pc : Int) + off = (tgt : Int)) (k : J mi enc FL lay nc ns tgt lv stk h E) : J mi enc FL lay nc ns pc lv stk h E := by
  intro p l e R s m args below meth c D ci base b C H locs ls r h2 hE S
  refine lv_goto C.1 C.2.1 hd ht ?_
  exact k p l e R s m args below meth c D ci base b C H locs _ r h2 hE S
theorem j_icmp_eq {x y : Int} {off : Int} {tgt : Nat} (hd : decode mi.2.1 pc = .ok (.if_icmp .eq off, 3)) (ht : (pc : Int) + off = (tgt : Int)) (kA : J mi enc FL lay nc ns tgt lv stk h E) (kB : J mi enc FL lay nc ns (pc + 3) lv stk h E2) : J mi enc FL lay nc ns pc lv (vi y :: vi x :: stk) h (if x = y then E else E2) := by
  intro p l e R s m args below meth c D ci base b C H locs ls r h2 hE S
  have hy : inR y := S.top
  have hx : inR x := S.top2
  refine lv_icmp_eq C.1 C.2.1 hd ht (fun hc => ?_) (fun hc => ?_)
  · have hP : x = y := (i32_eq hx hy).mp hc
    rw [if_pos hP] at hE
    exact kA p l e R s m args below meth c D ci base b C H locs _ r h2 hE S.pop.pop
  · have hP : ¬ x = y := fun q => hc ((i32_eq hx hy).mpr q)
    rw [if_neg hP] at hE
    exact kB p l e R s m args below meth c D ci base b C H locs _ r h2 hE S.pop.pop
theorem j_if_eq {x : Int} {off : Int} {tgt : Nat} (hd : decode mi.2.1 pc = .ok (.ifCond .eq off, 3)) (ht : (pc : Int) + off = (tgt : Int)) (kA : J mi enc FL lay nc ns tgt lv stk h E) (kB : J mi enc FL lay nc ns (pc + 3) lv stk h E2) : J mi enc FL lay nc ns pc lv (vi x :: stk) h (if x = 0 then E else E2) := by
  intro p l e R s m args below meth c D ci base b C H locs ls r h2 hE S
  have hx : inR x := S.top
  have hy : inR 0 := inR0
  refine lv_if_eq C.1 C.2.1 hd ht (fun hc => ?_) (fun hc => ?_)
  · have hP : x = 0 := (i32_eq hx hy).mp hc
    rw [if_pos hP] at hE
    exact kA p l e R s m args below meth c D ci base b C H locs _ r h2 hE S.pop
  · have hP : ¬ x = 0 := fun q => hc ((i32_eq hx hy).mpr q)
    rw [if_neg hP] at hE
    exact kB p l e R s m args below meth c D ci base b C H locs _ r h2 hE S.pop
theorem j_icmp_ne {x y : Int} {off : Int} {tgt : Nat} (hd : decode mi.2.1 pc = .ok (.if_icmp .ne off, 3)) (ht : (pc : Int) + off = (tgt : Int)) (kA : J mi enc FL lay nc ns (pc + 3) lv stk h E) (kB : J mi enc FL lay nc ns tgt lv stk h E2) : J mi enc FL lay nc ns pc lv (vi y :: vi x :: stk) h (if x = y then E else E2) := by
  intro p l e R s m args below meth c D ci base b C H locs ls r h2 hE S
  have hy : inR y := S.top
  have hx : inR x := S.top2
  refine lv_icmp_ne C.1 C.2.1 hd ht (fun hc => ?_) (fun hc => ?_)
  · have hP : ¬ x = y := fun q => hc ((i32_eq hx hy).mpr q)
    rw [if_neg hP] at hE
    exact kB p l e R s m args below meth c D ci base b C H locs _ r h2 hE S.pop.pop
  · have hP : x = y := (i32_eq hx hy).mp hc
    rw [if_pos hP] at hE
    exact kA p l e R s m args below meth c D ci base b C H locs _ r h2 hE S.pop.pop
theorem j_if_ne {x : Int} {off : Int} {tgt : Nat} (hd : decode mi.2.1 pc = .ok (.ifCond .ne off, 3)) (ht : (pc : Int) + off = (tgt : Int)) (kA : J mi enc FL lay nc ns (pc + 3) lv stk h E) (kB : J mi enc FL lay nc ns tgt lv stk h E2) : J mi enc FL lay nc ns pc lv (vi x :: stk) h (if x = 0 then E else E2) := by
  intro p l e R s m args below meth c D ci base b C H locs ls r h2 hE S
  have hx : inR x := S.top
  have hy : inR 0 := inR0
  refine lv_if_ne C.1 C.2.1 hd ht (fun hc => ?_) (fun hc => ?_)
  · have hP : ¬ x = 0 := fun q => hc ((i32_eq hx hy).mpr q)
    rw [if_neg hP] at hE
    exact kB p l e R s m args below meth c D ci base b C H locs _ r h2 hE S.pop
  · have hP : x = 0 := (i32_eq hx hy).mp hc
    rw [if_pos hP] at hE
    exact kA p l e R s m args below meth c D ci base b C H locs _ r h2 hE S.pop
theorem j_icmp_lt {x y : Int} {off : Int} {tgt : Nat} (hd : decode mi.2.1 pc = .ok (.if_icmp .lt off, 3)) (ht : (pc : Int) + off = (tgt : Int)) (kA : J mi enc FL lay nc ns tgt lv stk h E) (kB : J mi enc FL lay nc ns (pc + 3) lv stk h E2) : J mi enc FL lay nc ns pc lv (vi y :: vi x :: stk) h (if x < y then E else E2) := by
  intro p l e R s m args below meth c D ci base b C H locs ls r h2 hE S
  have hy : inR y := S.top
  have hx : inR x := S.top2
  refine lv_icmp_lt C.1 C.2.1 hd ht (fun hc => ?_) (fun hc => ?_)
  · have hP : x < y := (i32_lt hx hy).mp hc
    rw [if_pos hP] at hE
    exact kA p l e R s m args below meth c D ci base b C H locs _ r h2 hE S.pop.pop
  · have hP : ¬ x < y := fun q => hc ((i32_lt hx hy).mpr q)
    rw [if_neg hP] at hE
    exact kB p l e R s m args below meth c D ci base b C H locs _ r h2 hE S.pop.pop
theorem j_if_lt {x : Int} {off : Int} {tgt : Nat} (hd : decode mi.2.1 pc = .ok (.ifCond .lt off, 3)) (ht : (pc : Int) + off = (tgt : Int)) (kA : J mi enc FL lay nc ns tgt lv stk h E) (kB : J mi enc FL lay nc ns (pc + 3) lv stk h E2) : J mi enc FL lay nc ns pc lv (vi x :: stk) h (if x < 0 then E else E2) := by
  intro p l e R s m args below meth c D ci base b C H locs ls r h2 hE S
  have hx : inR x := S.top
  have hy : inR 0 := inR0
  refine lv_if_lt C.1 C.2.1 hd ht (fun hc => ?_) (fun hc => ?_)
  · have hP : x < 0 := (i32_lt hx hy).mp hc
    rw [if_pos hP] at hE
    exact kA p l e R s m args below meth c D ci base b C H locs _ r h2 hE S.pop
  · have hP : ¬ x < 0 := fun q => hc ((i32_lt hx hy).mpr q)
    rw [if_neg hP] at hE
    exact kB p l e R s m args below meth c D ci base b C H locs _ r h2 hE S.pop
theorem j_icmp_ge {x y : Int} {off : Int} {tgt : Nat} (hd : decode mi.2.1 pc = .ok (.if_icmp .ge off, 3)) (ht : (pc : Int) + off = (tgt : Int)) (kA : J mi enc FL lay nc ns (pc + 3) lv stk h E) (kB : J mi enc FL lay nc ns tgt lv stk h E2) : J mi enc FL lay nc ns pc lv (vi y :: vi x :: stk) h (if x < y then E else E2) := by
  intro p l e R s m args below meth c D ci base b C H locs ls r h2 hE S
  have hy : inR y := S.top
  have hx : inR x := S.top2
  refine lv_icmp_ge C.1 C.2.1 hd ht (fun hc => ?_) (fun hc => ?_)
  · have hP : ¬ x < y := Int.not_lt.mpr ((i32_le hy hx).mp hc)
    rw [if_neg hP] at hE
    exact kB p l e R s m args below meth c D ci base b C H locs _ r h2 hE S.pop.pop
  · have hP : x < y := Int.not_le.mp (fun q => hc ((i32_le hy hx).mpr q))
    rw [if_pos hP] at hE
    exact kA p l e R s m args below meth c D ci base b C H locs _ r h2 hE S.pop.pop
theorem j_if_ge {x : Int} {off : Int} {tgt : Nat} (hd : decode mi.2.1 pc = .ok (.ifCond .ge off, 3)) (ht : (pc : Int) + off = (tgt : Int)) (kA : J mi enc FL lay nc ns (pc + 3) lv stk h E) (kB : J mi enc FL lay nc ns tgt lv stk h E2) : J mi enc FL lay nc ns pc lv (vi x :: stk) h (if x < 0 then E else E2) := by
  intro p l e R s m args below meth c D ci base b C H locs ls r h2 hE S
  have hx : inR x := S.top
  have hy : inR 0 := inR0
  refine lv_if_ge C.1 C.2.1 hd ht (fun hc => ?_) (fun hc => ?_)
  · have hP : ¬ x < 0 := Int.not_lt.mpr ((i32_le hy hx).mp hc)
    rw [if_neg hP] at hE
    exact kB p l e R s m args below meth c D ci base b C H locs _ r h2 hE S.pop
  · have hP : x < 0 := Int.not_le.mp (fun q => hc ((i32_le hy hx).mpr q))
    rw [if_pos hP] at hE
    exact kA p l e R s m args below meth c D ci base b C H locs _ r h2 hE S.pop
theorem j_icmp_gt {x y : Int} {off : Int} {tgt : Nat} (hd : decode mi.2.1 pc = .ok (.if_icmp .gt off, 3)) (ht : (pc : Int) + off = (tgt : Int)) (kA : J mi enc FL lay nc ns tgt lv stk h E) (kB : J mi enc FL lay nc ns (pc + 3) lv stk h E2) : J mi enc FL lay nc ns pc lv (vi y :: vi x :: stk) h (if y < x then E else E2) := by
  intro p l e R s m args below meth c D ci base b C H locs ls r h2 hE S
  have hy : inR y := S.top
  have hx : inR x := S.top2
  refine lv_icmp_gt C.1 C.2.1 hd ht (fun hc => ?_) (fun hc => ?_)
  · have hP : y < x := (i32_lt hy hx).mp hc
    rw [if_pos hP] at hE
    exact kA p l e R s m args below meth c D ci base b C H locs _ r h2 hE S.pop.pop
  · have hP : ¬ y < x := fun q => hc ((i32_lt hy hx).mpr q)
    rw [if_neg hP] at hE
    exact kB p l e R s m args below meth c D ci base b C H locs _ r h2 hE S.pop.pop
theorem j_if_gt {x : Int} {off : Int} {tgt : Nat} (hd : decode mi.2.1 pc = .ok (.ifCond .gt off, 3)) (ht : (pc : Int) + off = (tgt : Int)) (kA : J mi enc FL lay nc ns tgt lv stk h E) (kB : J mi enc FL lay nc ns (pc + 3) lv stk h E2) : J mi enc FL lay nc ns pc lv (vi x :: stk) h (if 0 < x then E else E2) := by
  intro p l e R s m args below meth c D ci base b C H locs ls r h2 hE S
  have hx : inR x := S.top
  have hy : inR 0 := inR0
  refine lv_if_gt C.1 C.2.1 hd ht (fun hc => ?_) (fun hc => ?_)
  · have hP : 0 < x := (i32_lt hy hx).mp hc
    rw [if_pos hP] at hE
    exact kA p l e R s m args below meth c D ci base b C H locs _ r h2 hE S.pop
  · have hP : ¬ 0 < x := fun q => hc ((i32_lt hy hx).mpr q)
    rw [if_neg hP] at hE
    exact kB p l e R s m args below meth c D ci base b C H locs _ r h2 hE S.pop
theorem j_icmp_le {x y : Int} {off : Int} {tgt : Nat} (hd : decode mi.2.1 pc = .ok (.if_icmp .le off, 3)) (ht : (pc : Int) + off = (tgt : Int)) (kA : J mi enc FL lay nc ns (pc + 3) lv stk h E) (kB : J mi enc FL lay nc ns tgt lv stk h E2) : J mi enc FL lay nc ns pc lv (vi y :: vi x :: stk) h (if y < x then E else E2) := by
  intro p l e R s m args below meth c D ci base b C H locs ls r h2 hE S
  have hy : inR y := S.top
  have hx : inR x := S.top2
  refine lv_icmp_le C.1 C.2.1 hd ht (fun hc => ?_) (fun hc => ?_)
  · have hP : ¬ y < x := Int.not_lt.mpr ((i32_le hx hy).mp hc)
    rw [if_neg hP] at hE
    exact kB p l e R s m args below meth c D ci base b C H locs _ r h2 hE S.pop.pop
  · have hP : y < x := Int.not_le.mp (fun q => hc ((i32_le hx hy).mpr q))
    rw [if_pos hP] at hE
    exact kA p l e R s m args below meth c D ci base b C H locs _ r h2 hE S.pop.pop
theorem j_if_le {x : Int} {off : Int} {tgt : Nat} (hd : decode mi.2.1 pc = .ok (.ifCond .le off, 3)) (ht : (pc : Int) + off = (tgt : Int)) (kA : J mi enc FL lay nc ns (pc + 3) lv stk h E) (kB : J mi enc FL lay nc ns tgt lv stk h E2) : J mi enc FL lay nc ns pc lv (vi x :: stk) h (if 0 < x then E else E2) := by
  intro p l e R s m args below meth c D ci base b C H locs ls r h2 hE S
  have hx : inR x := S.top
  have hy : inR 0 := inR0
  refine lv_if_le C.1 C.2.1 hd ht (fun hc => ?_) (fun hc => ?_)
  · have hP : ¬ 0 < x := Int.not_lt.mpr ((i32_le hx hy).mp hc)
    rw [if_neg hP] at hE
    exact kB p l e R s m args below meth c D ci base b C H locs _ r h2 hE S.pop
  · have hP : 0 < x := Int.not_le.mp (fun q => hc ((i32_le hx hy).mpr q))
    rw [if_pos hP] at hE
    exact kA p l e R s m args below meth c D ci base b C H locs _ r h2 hE S.pop
end JR

section MN
def hzr (h : Hp) (a n : Nat) : Hp := fun c j => if a ≤ c ∧ c < a + n then 0 else h c j
theorem zouter (c : ClassId) (N h0 : Nat) : ∀ i : Nat, Jvm.Free.Multi.outerC c N h0 i = arrV c N (fun j => va_rf (if j < i then some (h0 + 1 + j) else none))
  | 0 => by
    show ({ cls := c, slots := Array.replicate N .null, vm := .none } : Cell) = _
    rw [arrV_new]
    refine congrArg (arrV c N) (funext fun j => ?_)
    simp [va_rf]
  | i + 1 => by
    show (Jvm.Free.Multi.outerC c N h0 i).setSlot i (.ref (h0 + 1 + i)) = _
    rw [zouter c N h0 i, arrV_store]
    refine congrArg (arrV c N) (funext fun j => ?_)
    by_cases e : j = i
    · subst e
      simp [updV, va_rf]
    · by_cases h : j < i
      · simp [updV, e, h, Nat.lt_succ_of_lt h]
      · simp [updV, e, h, show ¬ j < i + 1 by omega]
variable {α : Type} {mi : MI} {enc : α → Option V} {FL : List LK → Prop} {A l : List LK} {nc ns pc : Nat} {lv : List (Nat × V)} {stk : List V} {h : Hp}
theorem j_mna {index a' n m : Nat} {nI mI : Int} {K : Hp → O α} (hd : decode mi.2.1 pc = .ok (.multianewarray index 2, 4)) (hl : Cond.classLink mi.1.cls index ("[" ++ (FieldType.array FieldType.int).toString) ∈ UW) (hw : Cond.arrayClass .int ∈ UW) (hn : (n : Int) = nI) (hm : (m : Int) = mI) (hb : n * 4 ≤ 536870912) (hb2 : m * componentBytes .int ≤ 536870912) (hb3 : m ≤ 536870912)
    (hc : nc + (1 + n) ≤ mi.2.2.2.2.2.2.1) (hs : ns + (n + n * m) ≤ mi.2.2.2.2.2.2.2.1) (ha : A.length + l.length = a')
    (kk : ∀ h1, h1 = hzr h a' (n + 1) → J mi enc FL (A ++ (l ++ ((3, n, 0, 0) :: List.replicate n (0, m, 0, 0)))) (nc + (1 + n)) (ns + (n + n * m)) (pc + 4) lv (vr a' :: stk) h1 (K h1)) : J mi enc FL (A ++ l) nc ns pc lv (vi mI :: vi nI :: stk) h (lt (hzr h a' (n + 1)) K) := by
  intro p' l' e R s meth0 args below meth c D ci base b CC H locs ls r h2 hE S
  subst hn
  subst hm
  have hts := CC.2.2.2.2.1
  have hR := CC.2.2.2.2.2.2.2.2.2
  have hnr : inR (n : Int) := S.top2
  have hmr : inR (m : Int) := S.top
  have hcn : (Int32.ofInt (n : Int)).toNatClampNeg = n := by rw [i32_cl hnr]; exact Int.toNat_natCast n
  have hcm : (Int32.ofInt (m : Int)).toNatClampNeg = m := by rw [i32_cl hmr]; exact Int.toNat_natCast m
  have hlen : (A ++ l).length = a' := by rw [List.length_append, ha]
  have hsz : H.size = base + a' := by rw [S.2.2.2.2.1.1, hlen]
  intro T hT X
  obtain ⟨vm₁, cA, comp, -, fA, fC, hO, hI, X', step⟩ := X.multianewarray2F CC.1 CC.2.2.2.1 (hts _ hl) (over_moved (Vm.Alike.refl _) CC.2.2.2.2.2.1.2.2.2) (hts _ hw) (g := F0 meth0 pc ls (.int (Int32.ofInt (m : Int)) :: .int (Int32.ofInt (n : Int)) :: stk.map (zc base b))) rfl (by rw [CC.2.1]; exact hd) rfl (fun q => by have := (i32_lt hnr inR0).mp q; omega) (fun q => by have := (i32_lt hmr inR0).mp q; omega) (by rw [hcn]; exact hb) (by rw [hcm]; exact hb2) (by rw [hcm]; exact hb3) rfl rfl (by rw [hcn, hR.2.2.1]; exact hc) (by rw [hcn, hcm, hR.2.2.2.1]; exact hs)
  rw [hcn, hcm] at X' step
  have hcA : cA = ci.2.2.2 := by
    have h3 : s.vm.findClass ("[" ++ (FieldType.array .int).toString) = some ci.2.2.2 := (CC.2.2.2.2.2.1.arr 3 rfl).2
    exact Option.some.inj (fA.symm.trans h3)
  have hco : comp = ci.1 := by
    have h3 : s.vm.findClass ("[" ++ FieldType.int.toString) = some ci.1 := (CC.2.2.2.2.2.1.arr 0 rfl).2
    exact Option.some.inj (fC.symm.trans h3)
  subst hcA
  subst hco
  generalize hF : Jvm.Free.Multi.fill (T.setVm vm₁) ci.2.2.2 ci.1 n m (defaultValue .int) n = F at X' step
  have hTh : (T.setVm vm₁).heap = H := hT
  obtain ⟨f1, f2, -, -⟩ := Jvm.Free.Multi.fill_facts (T.setVm vm₁) ci.2.2.2 ci.1 n m (defaultValue .int) n
  rw [hF, hTh] at f1 f2
  have hold : ∀ x : Nat, x < H.size → F.heap[x]? = H[x]? := fun x hx => by
    have := Jvm.Free.Multi.fill_old (T.setVm vm₁) ci.2.2.2 ci.1 n m (defaultValue .int) (a := x) (by rw [hTh]; exact hx) n
    rw [hF, hTh] at this
    exact this
  have hrow : ∀ j : Nat, j < n → F.heap[H.size + 1 + j]? = some (Jvm.Free.Multi.innerC ci.1 m (defaultValue .int)) := fun j hj => by
    have := Jvm.Free.Multi.fill_inner (T.setVm vm₁) ci.2.2.2 ci.1 n m (defaultValue .int) n j hj
    rw [hF, hTh] at this
    exact this
  rw [zouter] at f2
  have hin : Jvm.Free.Multi.innerC ci.1 m (defaultValue .int) = vp_cell ci.1 (m, .inl (fun _ => Int32.ofInt 0)) := by
    show ({ cls := ci.1, slots := Array.replicate m (defaultValue .int), vm := .none } : Cell) = _
    rw [vp_cell_i, arrV_new]
    rfl
  have hget : ∀ (j : Nat) (k : LK), (A ++ (l ++ ((3, n, 0, 0) :: List.replicate n (0, m, 0, 0))))[j]? = some k → (j < a' ∧ (A ++ l)[j]? = some k) ∨ (j = a' ∧ k = (3, n, 0, 0)) ∨ (a' < j ∧ j < a' + 1 + n ∧ k = (0, m, 0, 0)) := by
    intro j k hj
    rw [← List.append_assoc] at hj
    by_cases h1 : j < a'
    · rw [List.getElem?_append_left (by rw [hlen]; exact h1)] at hj
      exact Or.inl ⟨h1, hj⟩
    · rw [List.getElem?_append_right (by rw [hlen]; omega), hlen] at hj
      by_cases h3 : j = a'
      · subst h3
        rw [Nat.sub_self] at hj
        cases hj
        exact Or.inr (Or.inl ⟨rfl, rfl⟩)
      · have h4 : j - a' = (j - a' - 1) + 1 := by omega
        rw [h4, List.getElem?_cons_succ, List.getElem?_replicate] at hj
        split at hj
        · cases hj
          exact Or.inr (Or.inr ⟨by omega, by omega, rfl⟩)
        · cases hj
  have hzin : ∀ j, a' ≤ j → j < a' + (n + 1) → ∀ i, hzr h a' (n + 1) j i = 0 := fun j g1 g2 i => by
    unfold hzr
    rw [if_pos ⟨g1, g2⟩]
  have hzout : ∀ j, j < a' → hzr h a' (n + 1) j = h j := fun j g1 => by
    funext i
    unfold hzr
    rw [if_neg (fun q => by omega)]
  have hP : RelH D ci base (A ++ (l ++ ((3, n, 0, 0) :: List.replicate n (0, m, 0, 0)))) (hzr h a' (n + 1)) F.heap := by
    refine ⟨?_, fun j q hq => ?_⟩
    · rw [f1, hsz]
      simp only [List.length_append, List.length_cons, List.length_replicate]
      omega
    · obtain ⟨k', hk', rfl⟩ := zw_inv hq
      rcases hget j k' hk' with ⟨g1, g2⟩ | ⟨rfl, rfl⟩ | ⟨g1, g2, rfl⟩
      · have e1 : zcell ci base j k' (hzr h a' (n + 1)) = zcell ci base j k' h := by
          unfold zcell
          rw [hzout j g1]
        rw [e1]
        exact (S.2.2.2.2.1.2 j _ (zw_at g2)).kept (hold _ (by show base + j < H.size; rw [hsz]; omega))
      · show F.heap[base + j]? = some (vp_cell ci.2.2.2 (n, .inr (.inr (.inr (.inr (fun i => if i < n then some (base + (j + 1 + i)) else none))))))
        rw [← hsz, f2, vp_cell_q]
        congr 2
        funext i
        congr 2
        rw [hsz]
        congr 1
        omega
      · show F.heap[base + j]? = some (vp_cell ci.1 (m, .inl (fun i => Int32.ofInt (hzr h a' (n + 1) j i))))
        have e2 : base + j = H.size + 1 + (j - a' - 1) := by rw [hsz]; omega
        rw [e2, hrow _ (by omega), hin]
        congr 4
        funext i
        rw [hzin j (by omega) (by omega)]
  have hIn : InR (A ++ (l ++ ((3, n, 0, 0) :: List.replicate n (0, m, 0, 0)))) (hzr h a' (n + 1)) := by
    intro j k i hk hi
    rcases hget j k hk with ⟨g1, g2⟩ | ⟨rfl, rfl⟩ | ⟨g1, g2, rfl⟩
    · rw [hzout j g1]
      exact S.2.2.1 j k i g2 hi
    · rw [hzin j (Nat.le_refl _) (by omega)]
      exact inR0
    · rw [hzin j (by omega) (by omega)]
      exact inR0
  have hS := S.2.2.2.2.2
  have hS1 : va_S (fun q => base ≤ q) s.heap F.heap locs := ⟨Nat.le_trans hS.1 (by rw [f1]; omega), fun q g1 g2 => (hold q (Nat.lt_of_lt_of_le g1 hS.1)).trans (hS.2.1 q g1 g2), hS.2.2⟩
  obtain ⟨t, a1, b1⟩ := kk _ rfl p' l' e R s meth0 args below meth c D ci base b CC F.heap locs ls r h2 hE ⟨S.1, fun v hv => by
    rcases List.mem_cons.mp hv with rfl | hv
    · trivial
    · exact S.pop.pop.2.1 v hv, hIn, S.2.2.2.1, hP, hS1⟩ F rfl (by rw [Nat.add_assoc, Nat.add_assoc] at X'; exact X')
  refine ⟨t, step t ?_, b1⟩
  have e9 : T.heap.size = base + a' := by rw [hT]; exact hsz
  rw [e9]
  exact a1
end MN

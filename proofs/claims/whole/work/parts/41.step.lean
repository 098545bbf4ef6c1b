section STEP
theorem WF.mv {D : Dr} (w : WF D) {p x : Int} (h0 : 0 ≤ p) (h1 : p < D 7 0) (hx : 0 ≤ x ∧ x ≤ 300) (hn : ¬ (hasX D x ∧ D 0 p ≠ x)) : WF (dMv D p x) := by
  have w' := w
  obtain ⟨w1, w2, w3, w4, w5, w6, w7⟩ := w
  have hne : ∀ i : Int, 0 ≤ i → i < D 7 0 → i ≠ p → D 0 i ≠ x := fun i g0 g1 g2 e => by
    have a := hasX_uniq w' g0 g1 e
    have b : D 0 p = x := Classical.byContradiction fun q => hn ⟨a.1, q⟩
    have c := hasX_uniq w' h0 h1 b
    omega
  have wz : WF (fun r i => if r = 7 ∧ i = 1 then 0 else D r i) := ⟨w1, by simp, w3, w4, w5, w6, fun d g0 g1 => by simp at g1; omega⟩
  have wg := wz.go (p := p) h0 h1 (fun d g0 g1 => by simp at g1; omega)
  have ep : ∀ i, dGo (fun r i => if r = 7 ∧ i = 1 then 0 else D r i) p 0 i = dGo D p 0 i := fun i => by unfold dGo; grind
  have ep' : dGo (fun r i => if r = 7 ∧ i = 1 then 0 else D r i) p 0 = dGo D p 0 := funext ep
  have eq0 : ∀ i, dGo D p 0 i = if i < p then D 0 i else D 0 (i + 1) := fun i => by unfold dGo; grind
  have en : dGo (fun r i => if r = 7 ∧ i = 1 then 0 else D r i) p 7 0 = D 7 0 - 1 := by unfold dGo; grind
  have hb := cntB_b (dGo D p 0) x (D 7 0 - 1).toNat
  have hnx : ¬ hasX (dGo (fun r i => if r = 7 ∧ i = 1 then 0 else D r i) p) x := fun q => by
    unfold hasX at q
    rw [en, ep', eq0] at q
    by_cases q1 : cntB (dGo D p 0) x (D 7 0 - 1).toNat < p
    · rw [if_pos q1] at q; exact hne _ hb.1 (by omega) (by omega) q.2
    · rw [if_neg q1] at q; exact hne _ (by omega) (by omega) (by omega) q.2
  have wi := wg.ins (x := x) (by rw [en]; omega) hx hnx
  rw [en, ep'] at wi
  have hmc : mvC D p x = cntB (dGo D p 0) x (D 7 0 - 1).toNat := rfl
  unfold dMv
  rw [hmc]
  generalize cntB (dGo D p 0) x (D 7 0 - 1).toNat = c at *
  have f0 : ∀ i, dFin (dIns (dGo D p) x c) c 0 i = dIns (dGo (fun r i => if r = 7 ∧ i = 1 then 0 else D r i) p) x c 0 i := fun i => by unfold dFin dIns dGo; grind
  have n0 : dFin (dIns (dGo D p) x c) c 7 0 = D 7 0 := by unfold dFin dIns dGo; grind
  have n0' : dIns (dGo (fun r i => if r = 7 ∧ i = 1 then 0 else D r i) p) x c 7 0 = D 7 0 := by unfold dIns dGo; grind
  have n1 : dFin (dIns (dGo D p) x c) c 7 1 = D 7 1 := by unfold dFin dIns dGo; grind
  have n2 : dFin (dIns (dGo D p) x c) c 7 2 = D 7 2 := by unfold dFin dIns dGo; grind
  have n3 : dFin (dIns (dGo D p) x c) c 7 3 = D 7 3 := by unfold dFin dIns dGo; grind
  obtain ⟨v1, v2, v3, v4, v5, v6, v7⟩ := wi
  rw [n0'] at v5 v6
  refine ⟨by rw [n0]; exact w1, by rw [n1]; exact w2, by rw [n2]; exact w3, by rw [n3]; exact w4, fun i g0 g1 => ?_, fun i j g0 g1 g2 => ?_, fun d g0 g1 => ?_⟩
  · rw [f0]; rw [n0] at g1; exact v5 i g0 g1
  · rw [f0, f0]; rw [n0] at g2; exact v6 i j g0 g1 g2
  · rw [n1] at g1
    rw [n0]
    have a1 := w7 d g0 g1
    have f3 : dFin (dIns (dGo D p) x c) c 3 d = D 3 d := by unfold dFin dIns dGo; grind
    have f4 : dFin (dIns (dGo D p) x c) c 4 d = D 4 d := by unfold dFin dIns dGo; grind
    have f5 : dFin (dIns (dGo D p) x c) c 5 d = D 5 d := by unfold dFin dIns dGo; grind
    have f6 : dFin (dIns (dGo D p) x c) c 6 d = D 6 d := by unfold dFin dIns dGo; grind
    have k1 : gonow c (dIns (dGo D p) x c 1 d) = if D 1 d = p then c else (if c ≤ gone p (D 1 d) then gone p (D 1 d) + 1 else gone p (D 1 d)) := by unfold gonow dIns dGo gone; grind
    have k2 : gonow c (dIns (dGo D p) x c 2 d) = if D 2 d = p then c else (if c ≤ gone p (D 2 d) then gone p (D 2 d) + 1 else gone p (D 2 d)) := by unfold gonow dIns dGo gone; grind
    have f1 : dFin (dIns (dGo D p) x c) c 1 d = min (gonow c (dIns (dGo D p) x c 1 d)) (gonow c (dIns (dGo D p) x c 2 d)) := by unfold dFin; grind
    have f2 : dFin (dIns (dGo D p) x c) c 2 d = max (gonow c (dIns (dGo D p) x c 1 d)) (gonow c (dIns (dGo D p) x c 2 d)) := by unfold dFin; grind
    rw [f1, f2, f3, f4, f5, f6]
    refine ⟨?_, a1.2⟩
    rw [k1, k2]
    clear v5 v6 v7 n0' n0 n1 n2 n3 f0 f1 f2 f3 f4 f5 f6 k1 k2 w7 w6 w5 ep ep' eq0 hne wz wg
    unfold gone
    split <;> split <;> omega
/-- the texts of both -/
def TX (h : Hp) : Prop := (0 ≤ h 75 2 ∧ h 75 2 ≤ 80) ∧ h 132 3 = h 75 2 ∧ h 134 = h 76 ∧ h 132 4 = h 75 3
def FRK (FR : Dr → Hp → Prop) : Prop := (∀ D h, h 0 6 = 0 → h 0 7 = 0 → FR D h) ∧ ∀ D h h', (∀ c, (c = 0 ∨ (85 ≤ c ∧ c < 132)) → h' c = h c) → FR D h → FR D h'
def INV (FR : Dr → Hp → Prop) (h : Hp) : Prop := ∃ D K B, OKS D K B ∧ CS D K B h ∧ SM D K B h ∧ TX h ∧ FR D h
/-- one call of each: same answer -/
def STEP (FR : Dr → Hp → Prop) (c m : Hp → O Int) : Prop := ∀ h, INV FR h → ∃ r h1 h2, c h = some (r, h1) ∧ m h1 = some (r, h2) ∧ INV FR h2
theorem CS.keep {D : Dr} {K : Int} {B : Int → Dr} {h h' : Hp} (hS : CS D K B h) (e : ∀ c, 1 ≤ c → c < 75 → h' c = h c) : CS D K B h' := ⟨hS.1.keep (fun c a b => e c (by omega) (by omega)), hS.2.keep (fun c a b => e c (by omega) (by omega))⟩
theorem SM.keep {D : Dr} {K : Int} {B : Int → Dr} {h h' : Hp} (hS : SM D K B h) (e : ∀ i, h' 133 i = h 133 i) (e1 : h' 132 1 = h 132 1) : SM D K B h' := by
  have e3 : h' 133 = h 133 := funext e
  refine ⟨?_, ?_⟩
  · unfold SM AtM at *
    rw [e3]; exact hS.1
  · have := hS.2
    unfold HistM AtM at *
    rw [e3, e1]; exact this
theorem TX.keep {h h' : Hp} (hT : TX h) (e5 : h' 75 = h 75) (e6 : h' 76 = h 76) (e4 : h' 134 = h 134) (e3 : h' 132 3 = h 132 3) (ef : h' 132 4 = h 132 4) : TX h' := by
  unfold TX at *
  rw [e5, e6, e4, e3, ef]; exact hT
theorem OKS.push {D D' : Dr} {K : Int} {B : Int → Dr} (hO : OKS D K B) (hw : WF D') : OKS D' (min (K + 1) 8) (pushB D B) := ⟨hw, by have := hO.2.1; omega, pushB_wf hO⟩
variable {FR : Dr → Hp → Prop}
/-- a change, done by both -/
theorem step_chg (hF : FRK FR) {c m : Hp → O Int} {D D' : Dr} {K r : Int} {B : Int → Dr} {h : Hp} (hO : OKS D K B) (hM : SM D K B h) (hT : TX h) (hc : CChg D K B h (c h) r D') (hm : ∀ h1, SM D K B h1 → MChg D K B h1 (m h1) r D') (hw : WF D') : ∃ r h1 h2, c h = some (r, h1) ∧ m h1 = some (r, h2) ∧ INV FR h2 := by
  obtain ⟨h1, a1, a2, a3, a4, a5⟩ := hc
  have hM1 : SM D K B h1 := hM.keep (fun i => by rw [a5 133 (by decide)]) (by rw [a5 132 (by decide)])
  obtain ⟨h2, b1, b2, b3⟩ := hm h1 hM1
  have ek : ∀ c, c < 132 → h2 c = h1 c := fun c g => b3.1 c (by omega) (by omega)
  refine ⟨r, h1, h2, a1, b1, D', min (K + 1) 8, pushB D B, hO.push hw, a2.keep (fun c g0 g1 => ek c (by omega)), b2, hT.keep ?_ ?_ ?_ ?_ ?_, hF.1 _ _ (by rw [ek 0 (by decide)]; exact a3) (by rw [ek 0 (by decide)]; exact a4)⟩
  · rw [ek 75 (by decide), a5 75 (by decide)]
  · rw [ek 76 (by decide), a5 76 (by decide)]
  · rw [b3.1 134 (by decide) (by decide), a5 134 (by decide)]
  · rw [b3.2 3 (by decide), a5 132 (by decide)]
  · rw [b3.2 4 (by decide), a5 132 (by decide)]
theorem step_no {c m : Hp → O Int} {h : Hp} (hI : INV FR h) {r : Int} (hc : c h = some (r, h)) (hm : m h = some (r, h)) : ∃ r h1 h2, c h = some (r, h1) ∧ m h1 = some (r, h2) ∧ INV FR h2 := ⟨r, h, h, hc, hm, hI⟩
end STEP

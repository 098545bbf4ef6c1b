section MOQ
variable {D : Dr} {K : Int} {B : Int → Dr} {h : Hp}
/-- there is a point with this position -/
def hasX (D : Dr) (x : Int) : Prop := cntB (D 0) x (D 7 0).toNat < D 7 0 ∧ D 0 (cntB (D 0) x (D 7 0).toNat) = x
theorem hasX_uniq (hw : WF D) {x i : Int} (h0 : 0 ≤ i) (h1 : i < D 7 0) (e : D 0 i = x) : hasX D x ∧ cntB (D 0) x (D 7 0).toNat = i := by
  have hb := cntB_b (D 0) x (D 7 0).toNat
  have hs : ∀ i : Int, 0 ≤ i → i < D 7 0 → (D 0 i < x ↔ i < cntB (D 0) x (D 7 0).toNat) := fun i g0 g1 => cntB_lt (n := (D 7 0).toNat) (fun i j a b c => hw.2.2.2.2.2.1 i j a b (by omega)) i g0 (by omega)
  have h2 := hs i h0 h1
  have e2 : cntB (D 0) x (D 7 0).toNat = i := by
    rcases Int.lt_trichotomy (cntB (D 0) x (D 7 0).toNat) i with q | q | q
    · have h3 := hs (cntB (D 0) x (D 7 0).toNat) hb.1 (by omega)
      have h4 := hw.2.2.2.2.2.1 (cntB (D 0) x (D 7 0).toNat) i hb.1 q h1
      omega
    · exact q
    · omega
  exact ⟨⟨by omega, by rw [e2]; exact e⟩, e2⟩
end MOQ

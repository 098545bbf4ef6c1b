section MOP
def OKS (D : Dr) (K : Int) (B : Int → Dr) : Prop := WF D ∧ (0 ≤ K ∧ K ≤ 8) ∧ ∀ k, 0 ≤ k → k < K → WF (B k)
theorem pushB_wf {D : Dr} {K : Int} {B : Int → Dr} (h : OKS D K B) : ∀ k, 0 ≤ k → k < min (K + 1) 8 → WF (pushB D B k) := by
  intro k g0 g1
  unfold pushB
  by_cases q : k = 0
  · rw [if_pos q]; exact h.1
  · rw [if_neg q]; exact h.2.2 (k - 1) (by omega) (by omega)
variable {D : Dr} {K : Int} {B : Int → Dr} {h : Hp}
end MOP

section NEED
variable {D : Dr} {h : Hp}
theorem Wk_sub {E E' : ES} (hE : ∀ u v w, E u v w → E' u v w) {a b x : Int} (g : Wk E a b x) : Wk E' a b x := g.ind (P := fun v z => Wk E' a v z) Wk.nil (fun u v w _ e _ p => p.step (hE u v w e))
theorem eE_sub {W W' : Int → Prop} {X : Int} (hW : ∀ e, 0 ≤ e → e < D 7 1 → W e → W' e) : ∀ u v w, eE D W' X u v w → eE D W X u v w := fun _ _ _ e => by
  obtain ⟨d, d1, d2, d3⟩ := e
  exact ⟨d, d1, fun z => d2 (hW d d1.1 d1.2 z), d3⟩
theorem sup_mono (w : WF D) {W W' : Int → Prop} {d : Int} (hd : 0 ≤ d ∧ d < D 7 1) (hW : ∀ e, 0 ≤ e → e < D 7 1 → W e → W' e) (s : sup D W' d) : sup D W d := by
  have w0 := w.1
  have dw := w.dim hd.1 hd.2
  have dt := w.2.2.2.2.2.2 d hd.1 hd.2
  have vb : 0 < vD D d ∧ vD D d ≤ 300 := by
    unfold vD
    omega
  have key : ∀ a b x : Int, (0 ≤ a ∧ a < 12) → (0 ≤ b ∧ b < 12) → x < 1000000 → dst (eE D (fun e => W' e ∨ e = d) (-999)) a b ≤ x → dst (eE D (fun e => W e ∨ e = d) (-999)) a b ≤ x := fun a b x ha hb hx hl => by
    have s1 := sp_W (W := fun e => W e ∨ e = d) w ha
    have s2 := sp_W (W := fun e => W' e ∨ e = d) w ha
    obtain ⟨-, y, y1, y2⟩ := (s2.2.1 b hb.1 hb.2).resolve_left (by omega)
    have := (s1.low (Wk_sub (eE_sub (fun e e0 e1 z => z.imp (hW e e0 e1) id)) y2)).2
    omega
  exact ⟨key _ _ _ (by omega) (by omega) (by omega) s.1, key _ _ _ (by omega) (by omega) (by omega) s.2⟩
/-- which are gone, and how many are left, behind the k greatest numbers -/
def rW (D : Dr) : Nat → Int → Prop
  | 0 => fun _ => False
  | k + 1 => fun e => rW D k e ∨ (e = D 7 1 - 1 - k ∧ sup D (rW D k) e)
noncomputable def lfN (D : Dr) : Nat → Int
  | 0 => D 7 1
  | k + 1 => lfN D k - tb (sup D (rW D k) (D 7 1 - 1 - k))
theorem rW_b {e : Int} : ∀ k : Nat, rW D k e → D 7 1 - k ≤ e
  | 0, z => z.elim
  | k + 1, z => by
    rcases z with z | z
    · have := rW_b k z
      omega
    · have := z.1
      omega
theorem lfN_b : ∀ k : Nat, D 7 1 - k ≤ lfN D k ∧ lfN D k ≤ D 7 1
  | 0 => by unfold lfN; omega
  | k + 1 => by
    have i := lfN_b k
    have := tb_b (P := sup D (rW D k) (D 7 1 - 1 - k))
    unfold lfN
    omega
theorem bo_countLeft_wp (w : WF D) (hs : ST D 111 h) : wp (bo_countLeft 111 h) (fun r h' => r = lfN D (D 7 1).toNat ∧ ∀ c, c ≠ 127 → c ≠ 128 → h' c = h c) := by
  have w1 := w.2.1
  have bz1 : bz 1 = (fun (E : O Int) => E) := funext fun E => if_pos (Or.inr rfl)
  unfold bo_countLeft
  rw [bd_eq bo_removeNone_eq]
  have f0 : ∀ c, c ≠ 127 → c ≠ 128 → hfil h 127 16 0 c = h c := fun c n _ => funext fun j => by
    unfold hfil
    rw [if_neg (fun z => n z.1)]
  have g127 : ∀ d, 0 ≤ d → d < 16 → hfil h 127 16 0 127 d = 0 := fun d d0 d1 => by
    unfold hfil
    rw [if_pos ⟨rfl, d0, d1⟩]
  generalize hfil h 127 16 0 = g at *
  have e5 : g 111 5 = D 7 1 := by
    rw [f0 111 (by decide) (by decide)]
    exact hs.1
  rw [e5, ck_in ⟨by omega, by omega⟩]
  refine wp_it2 (fun x1 x2 h' => ∃ k : Nat, x2 = D 7 1 - 1 - k ∧ (k : Int) ≤ D 7 1 ∧ x1 = lfN D k ∧ (∀ c, c ≠ 127 → c ≠ 128 → h' c = h c) ∧ ∀ e, 0 ≤ e → e < D 7 1 → (rW D k e ↔ h' 127 e ≠ 0)) (fun _ x2 _ => (x2 + 1).toNat) (fun x1 x2 h' hI k16 hk => ?_) fuel _ _ _ ⟨0, by omega, by omega, rfl, f0, fun e e0 e1 => by
    rw [g127 e e0 (by omega)]
    exact ⟨fun z => z.elim, fun z => z rfl⟩⟩ (by unfold fuel; omega)
  obtain ⟨k, e2, hk1, e1, f, hW⟩ := hI
  have lb := lfN_b (D := D) k
  unfold bo_countLeft_f16
  by_cases q : x2 < 0
  · rw [if_pos q]
    exact wp_ret ⟨by rw [e1, show k = (D 7 1).toNat by omega], f⟩
  · rw [if_neg q]
    have nd : h' 127 x2 = 0 := Classical.byContradiction fun z => by
      have := rW_b k ((hW x2 (by omega) (by omega)).mpr z)
      omega
    refine wp_bd (bo_isSuperfluous_wp w (hs.keep (by rw [f 111 (by decide) (by decide)]) (fun c z => f c (by omega) (by omega))) hW (d := x2) (by omega) nd) (fun r h2 hq => ?_)
    obtain ⟨er, f2, f127⟩ := hq
    have f2' : ∀ c, c ≠ 127 → c ≠ 128 → h2 c = h c := fun c n n' => by rw [f2 c n n', f c n n']
    have el : lfN D (k + 1) = lfN D k - tb (sup D (rW D k) x2) := by rw [e2]; rfl
    have ew : ∀ e, rW D (k + 1) e ↔ rW D k e ∨ (e = x2 ∧ sup D (rW D k) e) := fun e => by rw [e2]; exact Iff.rfl
    unfold bo_countLeft_b38
    by_cases c : sup D (rW D k) x2
    · rw [er, tb_t c, if_neg (by decide), ix_in (by omega) (by omega), bz1, lt_eq, ck_in ⟨by omega, by omega⟩, ck_in ⟨by omega, by omega⟩]
      refine hk _ _ _ ⟨k + 1, by omega, by omega, by rw [el, tb_t c]; omega, fun c n n' => ?_, fun e e0 e1' => ?_⟩ (by omega)
      · rw [← f2' c n n']
        exact funext fun j => hu_o n j
      · rw [ew, show (111 + 16 : Nat) = 127 from rfl]
        unfold hu
        by_cases y : e = x2
        · rw [if_pos ⟨rfl, y⟩]
          exact ⟨fun _ => by decide, fun _ => Or.inr ⟨y, by rw [y]; exact c⟩⟩
        · rw [if_neg (fun z => y z.2), f127, hW e e0 e1']
          exact ⟨fun z => z.elim id (fun z => absurd z.1 y), Or.inl⟩
    · rw [er, tb_f c, if_pos rfl, ck_in ⟨by omega, by omega⟩]
      refine hk _ _ _ ⟨k + 1, by omega, by omega, by rw [el, tb_f c]; omega, f2', fun e e0 e1' => ?_⟩ (by omega)
      rw [ew, f127, hW e e0 e1']
      exact ⟨fun z => z.elim id (fun z => absurd (by rw [← z.1]; exact z.2) c), Or.inl⟩
noncomputable def aNeed (D : Dr) : Int := lfN D (D 7 1).toNat
theorem dl_needed_wp (w : WF D) (hA : AtC D h 1) (hF : FR D h) : wp (dl_needed 0 h) (fun r h1 => r = aNeed D ∧ CFr h h1 ∧ FR D h1) := by
  simp only [dl_needed, Nat.reduceAdd]
  refine wp_bd (dl_knownBounds_wp hA w hF) (fun _ h3 hq => ?_)
  obtain ⟨l, f1, f2⟩ := hq
  refine wp_bd (bo_countLeft_wp w l.1) (fun r h4 hq => ?_)
  obtain ⟨er, f⟩ := hq
  refine wp_ret ⟨er, fun c c0 c1 => by rw [f c (by omega) (by omega), f1 c c0 c1], ?_⟩
  unfold FR
  rw [f 0 (by decide) (by decide)]
  exact ⟨f2.1.imp id (fun z => ⟨z.1, z.2.keep (fun c c0 c1 => f c (by omega) (by omega))⟩), f2.2.imp id (fun z => ⟨z.1, z.2.1, z.2.2.keep z.2.1 (fun c c0 c1 n1 n2 => f c n1 n2)⟩)⟩
end NEED

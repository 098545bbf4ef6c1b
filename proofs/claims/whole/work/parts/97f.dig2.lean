section DIGC
noncomputable def ptF (D : Dr) (X : Int) : Nat → Int
  | 0 => X
  | p + 1 => itr (aPoint D p) (ptF D X p) 5
noncomputable def dmF (D : Dr) (X : Int) : Nat → Int
  | 0 => X
  | d + 1 => itr (aDim D d) (dmF D X d) 13
noncomputable def prI (D : Dr) (a X : Int) : Nat → Int
  | 0 => X
  | t + 1 => 31 * (31 * (31 * prI D a X t + aDist D a (a + 1 + t) 0) + aDist D a (a + 1 + t) 1) + aCrit D a (a + 1 + t)
noncomputable def prF (D : Dr) (X : Int) : Nat → Int
  | 0 => X
  | a + 1 => prI D a (prF D X a) (D 7 0 - 1 - a).toNat
noncomputable def chF (D : Dr) (X : Int) : Nat → Int
  | 0 => X
  | j + 1 => itr (aChain D (1 + j)) (chF D X j) 9
/-- what is left to be mixed, from the chains, pairs, dimensions, points on -/
noncomputable def v4 (D : Dr) (X : Int) : Int := 31 * chF D X 5 + aNeed D
noncomputable def v3 (D : Dr) (X : Int) : Int := v4 D (prF D X (D 7 0).toNat)
noncomputable def v2 (D : Dr) (X : Int) : Int := v3 D (dmF D X (D 7 1).toNat)
noncomputable def vv1 (D : Dr) (X : Int) : Int := v2 D (ptF D X (D 7 0).toNat)
noncomputable def vv0 (D : Dr) (K t : Int) : Int := vv1 D (itr (aCount D K t) 18841 11)
variable {D : Dr} {K : Int} {B : Int → Dr} {h0 h : Hp}
theorem dc4 (s : BS D K B h0) {X : Int} (hg : DG D h0 h) : wp (iter2 (dl_digest_f138 0) fuel X 1 h) (fun r h1 => r = v4 D X ∧ DG D h0 h1) := by
  refine c_out (f := chF D X) (N := 5) (s := 1) (fun k j h' hj g hk => ?_) (fun k h' g => ?_) (by decide) hg
  · unfold dl_digest_f138
    rw [if_neg (by omega)]
    exact c_in (F := dl_digest_f146 0 k) (ask := fun x h => dl_chain 0 (1 + (j : Int)) x h) (g := aChain D (1 + j)) (lim := 9) (l := 8) (kout := k) (fun _ _ _ _ => rfl) (by decide) (by omega) (fun x4 h1 g1 => g1.c s ask_chain) hk g
  · unfold dl_digest_f138
    rw [if_pos (by omega)]
    refine wp_bd (g.c s ask_needed) (fun r h1 hq => ?_)
    exact wp_ret ⟨by rw [hq.1]; rfl, hq.2⟩
theorem dc3 (s : BS D K B h0) {X : Int} (hg : DG D h0 h) : wp (dl_hashOfPairs 0 X h) (fun r h1 => r = prF D X (D 7 0).toNat ∧ DG D h0 h1) := by
  have w0 := s.1.1.1
  unfold dl_hashOfPairs
  refine c_out (f := prF D X) (N := (D 7 0).toNat) (s := 0) (fun k j h' hj g hk => ?_) (fun k h' g => ?_) (by omega) hg
  · have en : h' (0 + 1) 7 = D 7 0 := (g.n s).1
    unfold dl_hashOfPairs_f5
    rw [en, if_pos (by omega), ck_in ⟨by omega, by omega⟩]
    refine wp_it3 (fun x3 x5 x6 h2 => x5 = 0 + (j : Int) ∧ ∃ t : Nat, x6 = j + 1 + t ∧ (t : Int) ≤ D 7 0 - 1 - j ∧ x3 = prI D j (prF D X j) t ∧ DG D h0 h2) (fun _ _ x6 _ => (D 7 0 - x6).toNat) (fun x3 x5 x6 h2 hI k23 hk2 => ?_) fuel _ _ _ _ ⟨rfl, 0, by omega, by omega, rfl, g⟩ (by unfold fuel; omega)
    obtain ⟨e5, t, e6, ht, e3, g2⟩ := hI
    have en2 : h2 (0 + 1) 7 = D 7 0 := (g2.n s).1
    have e5' : x5 = j := by omega
    clear e5
    subst e5'
    subst e6
    unfold dl_hashOfPairs_f23
    rw [en2]
    by_cases q : (j : Int) + 1 + t < D 7 0
    · rw [if_pos q]
      refine wp_bd (g2.c s ask_distance) (fun r1 h3 hq1 => ?_)
      refine wp_bd (hq1.2.c s ask_distance) (fun r2 h4 hq2 => ?_)
      refine wp_bd (hq2.2.c s ask_critical) (fun r3 h5 hq3 => ?_)
      rw [ck_in ⟨by omega, by omega⟩]
      exact hk2 _ _ _ _ ⟨by omega, t + 1, by omega, by omega, by rw [e3, hq1.1, hq2.1, hq3.1]; rfl, hq3.2⟩ (by omega)
    · rw [if_neg q, ck_in ⟨by omega, by omega⟩, e3]
      have := hk h2 g2
      rw [show (0 : Int) + (j : Int) + 1 = (j : Int) + 1 by omega] at this
      have ef : prF D X (j + 1) = prI D j (prF D X j) t := by
        show prI D j (prF D X j) (D 7 0 - 1 - (j : Int)).toNat = _
        rw [show (D 7 0 - 1 - (j : Int)).toNat = t by omega]
      rw [← ef]
      exact this
  · have en : h' (0 + 1) 7 = D 7 0 := (g.n s).1
    unfold dl_hashOfPairs_f5
    rw [en, if_neg (by omega)]
    exact wp_ret ⟨rfl, g⟩
theorem dc2 (s : BS D K B h0) {X : Int} (hg : DG D h0 h) : wp (iter2 (dl_digest_f82 0) fuel X 0 h) (fun r h1 => r = v2 D X ∧ DG D h0 h1) := by
  have w1 := s.1.1.2.1
  refine c_out (f := dmF D X) (N := (D 7 1).toNat) (s := 0) (fun k j h' hj g hk => ?_) (fun k h' g => ?_) (by omega) hg
  · have em : h' (0 + 1) 8 = D 7 1 := (g.n s).2.1
    unfold dl_digest_f82
    rw [em, if_pos (by omega)]
    rw [show (0 : Int) + (j : Int) = (j : Int) by omega] at hk ⊢
    exact c_in (F := dl_digest_f96 0 k) (ask := fun x h => dl_dimension 0 (j : Int) x h) (g := aDim D j) (lim := 13) (l := 12) (kout := k) (fun _ _ _ _ => rfl) (by decide) (by omega) (fun x4 h1 g1 => g1.c s ask_dimension) hk g
  · have em : h' (0 + 1) 8 = D 7 1 := (g.n s).2.1
    unfold dl_digest_f82
    rw [em, if_neg (by omega)]
    refine wp_bd (dc3 s g) (fun r h1 hq => ?_)
    rw [hq.1]
    exact dc4 s hq.2
theorem dc1 (s : BS D K B h0) {X : Int} (hg : DG D h0 h) : wp (iter2 (dl_digest_f33 0) fuel X 0 h) (fun r h1 => r = vv1 D X ∧ DG D h0 h1) := by
  have w0 := s.1.1.1
  refine c_out (f := ptF D X) (N := (D 7 0).toNat) (s := 0) (fun k j h' hj g hk => ?_) (fun k h' g => ?_) (by omega) hg
  · have en : h' (0 + 1) 7 = D 7 0 := (g.n s).1
    unfold dl_digest_f33
    rw [en, if_pos (by omega)]
    rw [show (0 : Int) + (j : Int) = (j : Int) by omega] at hk ⊢
    exact c_in (F := dl_digest_f47 0 k) (ask := fun x h => dl_point 0 (j : Int) x h) (g := aPoint D j) (lim := 5) (l := 4) (kout := k) (fun _ _ _ _ => rfl) (by decide) (by omega) (fun x4 h1 g1 => g1.c s ask_point) hk g
  · have en : h' (0 + 1) 7 = D 7 0 := (g.n s).1
    unfold dl_digest_f33
    rw [en, if_neg (by omega)]
    exact dc2 s g
theorem dl_digest_wp (s : BS D K B h0) (hg : DG D h0 h) : wp (dl_digest 0 h) (fun r h1 => r = vv0 D K (h0 75 2) ∧ DG D h0 h1) := by
  unfold dl_digest
  refine c_out (f := fun j => itr (aCount D K (h0 75 2)) 18841 j) (N := 11) (s := 0) (fun k j h' hj g hk => ?_) (fun k h' g => ?_) (by decide) hg
  · unfold dl_digest_f6
    rw [if_neg (by omega)]
    rw [show (0 : Int) + (j : Int) = (j : Int) by omega] at hk ⊢
    refine wp_bd (g.c s ask_count) (fun r h1 hq => ?_)
    rw [ck_in ⟨by omega, by omega⟩, hq.1]
    exact hk h1 hq.2
  · unfold dl_digest_f6
    rw [if_pos (by omega)]
    exact dc1 s g
end DIGC
section DIGM
variable {D : Dr} {K : Int} {B : Int → Dr} {h0 h : Hp}
theorem DM.a (s : BS D K B h0) {X : Int} (g : DM D h0 X h) {A : Dr → Int → Int → Int} {c m : Hp → O Int} (H : ASK A c m) : wp (m h) (fun r h1 => r = A D K (h0 75 2) ∧ DM D h0 X h1) := by
  have := g.1.m s H
  rw [g.2] at this
  exact this
theorem dm4 (s : BS D K B h0) {X : Int} (hg : DM D h0 X h) : wp (iter1 (mo_digest_f186 132) fuel 1 h) (fun r h1 => r = v4 D X ∧ DG D h0 h1) := by
  refine m_out (f := chF D X) (N := 5) (s := 1) (fun k j h' hj g hk => ?_) (fun k h' g => ?_) (by decide) hg
  · unfold mo_digest_f186
    rw [if_neg (by omega)]
    exact m_in (F := mo_digest_f193 132 k) (ask := fun x h => mo_chain 132 (1 + (j : Int)) x h) (g := aChain D (1 + j)) (lim := 9) (l := 9) (kout := k) (fun _ _ _ => rfl) (by decide) (by omega) (fun x4 X h1 g1 => g1.a s ask_chain) hk g
  · unfold mo_digest_f186
    rw [if_pos (by omega)]
    refine wp_bd (g.a s ask_needed) (fun r h1 hq => ?_)
    refine wp_bd (mo_mixes_wp hq.2) (fun _ h2 hq2 => ?_)
    rw [hq2.2]
    exact wp_ret ⟨by rw [hq.1]; rfl, hq2.1⟩
theorem dm3 (s : BS D K B h0) {X : Int} (hg : DM D h0 X h) : wp (iter1 (mo_digest_f116 132) fuel 0 h) (fun r h1 => r = v3 D X ∧ DG D h0 h1) := by
  have w0 := s.1.1.1
  refine m_out (f := prF D X) (N := (D 7 0).toNat) (s := 0) (fun k j h' hj g hk => ?_) (fun k h' g => ?_) (by omega) hg
  · have en : h' (132 + 1) 0 = D 7 0 := (g.1.n s).2.2.1
    unfold mo_digest_f116
    rw [ix_in (by omega) (by omega), en, if_pos (by omega), ck_in ⟨by omega, by omega⟩]
    refine wp_it2 (fun x5 x6 h2 => x5 = 0 + (j : Int) ∧ ∃ t : Nat, x6 = j + 1 + t ∧ (t : Int) ≤ D 7 0 - 1 - j ∧ DM D h0 (prI D j (prF D X j) t) h2) (fun _ x6 _ => (D 7 0 - x6).toNat) (fun x5 x6 h2 hI k23 hk2 => ?_) fuel _ _ _ ⟨rfl, 0, by omega, by omega, g⟩ (by unfold fuel; omega)
    obtain ⟨e5, t, e6, ht, g2⟩ := hI
    have en2 : h2 (132 + 1) 0 = D 7 0 := (g2.1.n s).2.2.1
    have e5' : x5 = j := by omega
    clear e5
    subst e5'
    subst e6
    unfold mo_digest_f130
    rw [ix_in (by omega) (by omega), en2]
    by_cases q : (j : Int) + 1 + t < D 7 0
    · rw [if_pos q]
      refine wp_bd (g2.a s ask_distance) (fun r1 h3 hq1 => ?_)
      refine wp_bd (mo_mixes_wp hq1.2) (fun _ h3' hq1' => ?_)
      refine wp_bd (hq1'.a s ask_distance) (fun r2 h4 hq2 => ?_)
      refine wp_bd (mo_mixes_wp hq2.2) (fun _ h4' hq2' => ?_)
      refine wp_bd (hq2'.a s ask_critical) (fun r3 h5 hq3 => ?_)
      refine wp_bd (mo_mixes_wp hq3.2) (fun _ h5' hq3' => ?_)
      rw [ck_in ⟨by omega, by omega⟩]
      rw [hq1.1, hq2.1, hq3.1] at hq3'
      exact hk2 _ _ _ ⟨by omega, t + 1, by omega, by omega, hq3'⟩ (by omega)
    · rw [if_neg q, ck_in ⟨by omega, by omega⟩]
      have ef : prF D X (j + 1) = prI D j (prF D X j) t := by
        show prI D j (prF D X j) (D 7 0 - 1 - (j : Int)).toNat = _
        rw [show (D 7 0 - 1 - (j : Int)).toNat = t by omega]
      have := hk h2 (by rw [ef]; exact g2)
      rw [show (0 : Int) + (j : Int) + 1 = (j : Int) + 1 by omega] at this
      exact this
  · have en : h' (132 + 1) 0 = D 7 0 := (g.1.n s).2.2.1
    unfold mo_digest_f116
    rw [ix_in (by omega) (by omega), en, if_neg (by omega)]
    exact dm4 s g
theorem dm2 (s : BS D K B h0) {X : Int} (hg : DM D h0 X h) : wp (iter1 (mo_digest_f73 132) fuel 0 h) (fun r h1 => r = v2 D X ∧ DG D h0 h1) := by
  have w1 := s.1.1.2.1
  refine m_out (f := dmF D X) (N := (D 7 1).toNat) (s := 0) (fun k j h' hj g hk => ?_) (fun k h' g => ?_) (by omega) hg
  · have em : h' (132 + 1) 13 = D 7 1 := (g.1.n s).2.2.2
    unfold mo_digest_f73
    rw [ix_in (by omega) (by omega), em, if_pos (by omega)]
    rw [show (0 : Int) + (j : Int) = (j : Int) by omega] at hk ⊢
    exact m_in (F := mo_digest_f86 132 k) (ask := fun x h => mo_dimension 132 (j : Int) x h) (g := aDim D j) (lim := 13) (l := 13) (kout := k) (fun _ _ _ => rfl) (by decide) (by omega) (fun x4 X h1 g1 => g1.a s ask_dimension) hk g
  · have em : h' (132 + 1) 13 = D 7 1 := (g.1.n s).2.2.2
    unfold mo_digest_f73
    rw [ix_in (by omega) (by omega), em, if_neg (by omega)]
    exact dm3 s g
theorem dm1 (s : BS D K B h0) {X : Int} (hg : DM D h0 X h) : wp (iter1 (mo_digest_f32 132) fuel 0 h) (fun r h1 => r = vv1 D X ∧ DG D h0 h1) := by
  have w0 := s.1.1.1
  refine m_out (f := ptF D X) (N := (D 7 0).toNat) (s := 0) (fun k j h' hj g hk => ?_) (fun k h' g => ?_) (by omega) hg
  · have en : h' (132 + 1) 0 = D 7 0 := (g.1.n s).2.2.1
    unfold mo_digest_f32
    rw [ix_in (by omega) (by omega), en, if_pos (by omega)]
    rw [show (0 : Int) + (j : Int) = (j : Int) by omega] at hk ⊢
    exact m_in (F := mo_digest_f44 132 k) (ask := fun x h => mo_point 132 (j : Int) x h) (g := aPoint D j) (lim := 5) (l := 5) (kout := k) (fun _ _ _ => rfl) (by decide) (by omega) (fun x4 X h1 g1 => g1.a s ask_point) hk g
  · have en : h' (132 + 1) 0 = D 7 0 := (g.1.n s).2.2.1
    unfold mo_digest_f32
    rw [ix_in (by omega) (by omega), en, if_neg (by omega)]
    exact dm2 s g
theorem mo_digest_wp (s : BS D K B h0) (hg : DG D h0 h) : wp (mo_digest 132 h) (fun r h1 => r = vv0 D K (h0 75 2) ∧ DG D h0 h1) := by
  unfold mo_digest
  rw [lt_eq]
  refine m_out (f := fun j => itr (aCount D K (h0 75 2)) 18841 j) (N := 11) (s := 0) (fun k j h' hj g hk => ?_) (fun k h' g => ?_) (by decide) (hg.hash 18841)
  · unfold mo_digest_f9
    rw [if_pos (by omega)]
    rw [show (0 : Int) + (j : Int) = (j : Int) by omega] at hk ⊢
    refine wp_bd (g.a s ask_count) (fun r h1 hq => ?_)
    refine wp_bd (mo_mixes_wp hq.2) (fun _ h2 hq2 => ?_)
    rw [ck_in ⟨by omega, by omega⟩]
    rw [hq.1] at hq2
    exact hk h2 hq2
  · unfold mo_digest_f9
    rw [if_neg (by omega)]
    exact dm1 s g
theorem st_digest : STEP FR (dl_digest 0) (mo_digest 132) := step_ask (fun h D K B _ hO hC hM hT hF => by
  have s : BS D K B h := ⟨hO, hC, hM, hT⟩
  obtain ⟨r, h1, e1, e2, g1⟩ := dl_digest_wp s ⟨QF.rfl h, hF⟩
  obtain ⟨r', h2, e3, e4, g2⟩ := mo_digest_wp s g1
  exact ⟨r, h1, h2, e1, by rw [e3, e4, e2], g2.1, g2.2⟩)
end DIGM

section LOAD
def hmA (X : Hp) : Hp := hu (hu (hcpb X 0 9 112) 133 0 0) 133 13 0
theorem hmA_o {X : Hp} {c : Nat} (z : c ≠ 133) : hmA X c = X c := funext fun j => by
  unfold hmA
  rw [hu_o z, hu_o z]
  unfold hcpb
  rw [if_neg (fun q => z q.1)]
theorem hmA_9 {X : Hp} {j : Int} (a : 0 ≤ j) (b : j < 112) : hmA X 133 (1008 + j) = X 133 j := by
  unfold hmA
  rw [hu_j 133 (by omega), hu_j 133 (by omega)]
  unfold hcpb
  rw [if_pos ⟨rfl, by omega, by omega⟩]
  congr 1
  omega
theorem hmA_m {X : Hp} {j : Int} (a : 14 ≤ j) (b : j < 1008) : hmA X 133 j = X 133 j := by
  unfold hmA
  rw [hu_j 133 (by omega), hu_j 133 (by omega)]
  unfold hcpb
  rw [if_neg (fun q => by omega)]
def hsw (H : Hp) (n : Int) : Hp := fun c j => if c = 133 ∧ 0 ≤ j ∧ j < n then H 133 (1008 + j) else if c = 133 ∧ 1008 ≤ j ∧ j < 1008 + n then H 133 (j - 1008) else H c j
theorem hsw_s {H : Hp} {n : Int} (h0 : 0 ≤ n) (h1 : n < 112) : hu (hu (hsw H n) 133 n (hsw H n 133 (1008 + n))) 133 (1008 + n) (hsw H n 133 n) = hsw H (n + 1) := by
  funext c j
  unfold hu hsw
  by_cases qc : c = 133
  · subst qc
    by_cases q1 : j = 1008 + n
    · subst q1
      grind
    · by_cases q2 : j = n
      · subst q2; grind
      · grind
  · grind
theorem swap_eq {H : Hp} : iter1 (mo_load_f50 132) fuel 0 H = bd (mo_records 132 (hsw H 112)) fun _ h3 => bd (mo_copies 132 9 0 h3) fun _ h4 => ix 13 1120 (some (h4 133 13, h4)) := by
  have e0 : hsw H ((0 : Nat) : Int) = H := by
    funext c j
    unfold hsw
    rw [if_neg (fun q => by omega), if_neg (fun q => by omega)]
  have := it1_seq (F := mo_load_f50 132) (fun k => (k : Int)) (fun k => hsw H k) 112 (R := bd (mo_records 132 (hsw H 112)) fun _ h3 => bd (mo_copies 132 9 0 h3) fun _ h4 => ix 13 1120 (some (h4 133 13, h4))) (fun k x hx => ?_) (fun k => ?_) fuel 0 (by omega) (by unfold fuel; omega)
  · rw [e0] at this
    exact this
  · simp only [mo_load_f50, Nat.reduceAdd]
    rw [if_pos (by omega), ix_in (by omega) (by omega), ck_in ⟨by omega, by omega⟩, ix_in (by omega) (by omega), ix_in (by omega) (by omega), lt_eq, ck_in ⟨by omega, by omega⟩, ix_in (by omega) (by omega), lt_eq, ck_in ⟨by omega, by omega⟩, hsw_s (by omega) (by omega)]
    rfl
  · simp only [mo_load_f50, Nat.reduceAdd]
    rw [if_neg (by omega)]
    rfl
variable {FR : Dr → Hp → Prop}
theorem st_load (hF : FRK FR) : STEP FR (dl_load 0) (mo_load 132) := by
  intro h hI
  obtain ⟨D, K, B, hO, hC, hM, hT, hR⟩ := id hI
  obtain ⟨t1, t2, t3, t4⟩ := hT
  have hw := hO.1
  have rb : ∀ X : Hp, (∀ c, 85 ≤ c → X c = h c) → ∃ hc', tr_read 75 h = some ((), hc') ∧ FRM h hc' ∧ ∃ hm', mo_readsAll 132 (hmA X) = some ((), hm') ∧ MFR (hmA X) hm' ∧ (FE hc' hm' ∨ ∃ D' c', GR D' c' hc' hm' ∧ lets D D') := fun X hX => by
    refine read_both (D := D) t1 ?_ ?_ hw ⟨?_, ?_⟩ ?_ ?_
    · rw [hmA_o (by decide), hX 132 (by decide), t2]
    · rw [hmA_o (by decide), hX 134 (by decide), t3]
    · rw [hmA_m (by decide) (by decide), hX 133 (by decide)]; exact hM.1.1.2.2.1
    · rw [hmA_m (by decide) (by decide), hX 133 (by decide)]; exact hM.1.1.2.2.2
    · unfold hmA; rw [hu_j 133 (by decide), hu_s]
    · unfold hmA; rw [hu_s]
  have ml : ∀ X H, mo_readsAll 132 (hmA X) = some ((), H) → mo_load 132 X = if H 132 4 = 0 then iter1 (mo_load_f50 132) fuel 0 H else bd (mo_copies 132 9 0 H) fun _ h5 => ck ((-10) - (h5 132 5)) (some ((-10) - (h5 132 5), h5)) := fun X H e => by
    unfold mo_load
    rw [bd_eq (mo_copies_eq (by decide) (by decide) (by decide)), ix_in (by decide) (by decide), lt_eq, ix_in (by decide) (by decide), lt_eq]
    exact bd_eq e
  obtain ⟨hc', r1, r2, hm1, -, -, r5⟩ := rb h (fun _ _ => rfl)
  have hC' : CS D K B hc' := hC.keep (fun c a b => r2.1 c (Or.inl b))
  by_cases q : hc' 75 3 = 0
  · obtain ⟨h2, b1, b2, b3, b4, b5⟩ := dl_beginChange_eq hC' hw
    have eC : dl_load 0 h = some (hcpc h2 1 77 1 8, hcpc h2 1 77) := by
      simp only [dl_load, Nat.reduceAdd]
      rw [bd_eq r1, if_pos q, bd_eq b1, bd_eq (dr_copyContentFrom_eq (by decide))]
    have fo : ∀ c, c < 1 ∨ 9 ≤ c → hcpc h2 1 77 c = h2 c := fun c z => funext fun j => by
      unfold hcpc
      rw [if_neg (fun q => by omega), if_neg (fun q => by omega), if_neg (fun q => by omega)]
    have fi : hcpc h2 1 77 1 7 = hc' 77 7 ∧ hcpc h2 1 77 1 8 = hc' 77 8 ∧ hcpc h2 1 77 1 9 = h2 1 9 ∧ hcpc h2 1 77 1 10 = h2 1 10 := by
      rw [← b5 77 (by decide)]
      refine ⟨?_, ?_, ?_, ?_⟩ <;> · unfold hcpc; simp
    have fp : ∀ j, 0 ≤ j → j < 12 → hcpc h2 1 77 2 j = hc' 78 j := fun j a b => by
      rw [← b5 78 (by decide)]; unfold hcpc; rw [if_neg (by omega), if_pos ⟨rfl, a, b⟩]
    have fq : ∀ k : Nat, 3 ≤ k → k ≤ 8 → ∀ j, 0 ≤ j → j < 16 → hcpc h2 1 77 k j = hc' (76 + k) j := fun k k0 k1 j a b => by
      rw [← b5 (76 + k) (by omega)]; unfold hcpc; rw [if_neg (by omega), if_neg (by omega), if_pos ⟨by omega, by omega, a, b⟩]
      congr 1
      omega
    generalize hXX : hcpc h2 1 77 = X at *
    have hX : ∀ c, 85 ≤ c → X c = h c := fun c z => by rw [fo c (by omega), b5 c (by omega), r2.1 c (Or.inr z)]
    obtain ⟨hc2, s1, s2, hm', s3, s4, s5⟩ := rb X hX
    have : hc2 = hc' := by
      have := s1.symm.trans r1
      injection this with this
      exact (Prod.mk.inj this).2
    subst this
    rcases s5 with fe | ⟨E, cE, gE, lE⟩
    · exact absurd q fe.2.1
    obtain ⟨⟨-, -, -, kE, wE⟩, z4, -, -, -, aE⟩ := gE
    have wE0 := wE.1
    have wE1 := wE.2.1
    have mo : ∀ c, c ≠ 132 → c ≠ 133 → hm' c = X c := fun c a b => (s4.1 c a b).trans (hmA_o b)
    have sw0 : ∀ j, 0 ≤ j → j < 112 → hsw hm' 112 133 j = h 133 j := fun j a b => by
      unfold hsw
      rw [if_pos ⟨rfl, a, b⟩, s4.2.2 _ (by omega), hmA_9 a b, hX 133 (by decide)]
    have sw9 : ∀ j, 0 ≤ j → j < 112 → hsw hm' 112 133 (1008 + j) = hm' 133 j := fun j a b => by
      unfold hsw
      rw [if_neg (by omega), if_pos ⟨rfl, by omega, by omega⟩]
      congr 1
      omega
    have swm : ∀ j, 112 ≤ j → j < 1008 → hsw hm' 112 133 j = h 133 j := fun j a b => by
      unfold hsw
      rw [if_neg (by omega), if_neg (by omega), s4.2.2 _ a, hmA_m (by omega) b, hX 133 (by decide)]
    have swo : ∀ c, c ≠ 133 → hsw hm' 112 c = hm' c := fun c z => funext fun j => by
      unfold hsw
      rw [if_neg (fun q => z q.1), if_neg (fun q => z q.1)]
    have m1 : hm' 132 1 = h 132 1 := by rw [s4.2.1 1 (by decide), hmA_o (by decide), hX 132 (by decide)]
    have hH : HistM K B (hsw hm' 112) := ⟨by rw [swo 132 (by decide), m1]; exact hM.2.1, fun k k0 k1 => (hM.2.2 k k0 k1).move (hO.2.2 k k0 k1) (fun i i0 i1 => by have := hO.2.1; exact swm _ (by omega) (by omega))⟩
    have hA0 : AtM D (hsw hm' 112) 0 := hM.1.move hw (fun i i0 i1 => by rw [sw0 _ (by omega) (by omega)])
    have hA9 : AtM E (hsw hm' 112) 9 := aE.move wE (fun i i0 i1 => by rw [show (112 : Int) * 9 + i = 1008 + i by omega, sw9 i i0 i1]; congr 1; omega)
    obtain ⟨h3, u1, u2, u3, u4, u5⟩ := mo_records_eq hH hO.2.2 hO.2.1 hA0 hw
    have hE3 : AtM E h3 9 := hA9.move wE (fun i i0 i1 => u3 _ (Or.inr (by omega)))
    have hEE : AtM E (hcpb h3 9 0 112) 0 := hE3.move wE (fun i i0 i1 => by unfold hcpb; rw [if_pos ⟨rfl, by omega, by omega⟩]; congr 1; omega)
    have hHE : HistM (min (K + 1) 8) (pushB D B) (hcpb h3 9 0 112) := ⟨by unfold hcpb; rw [if_neg (fun q => absurd q.1 (by decide))]; exact u2.1, fun k k0 k1 => (u2.2 k k0 k1).move (pushB_wf hO k k0 k1) (fun i i0 i1 => by unfold hcpb; rw [if_neg (fun q => by omega)])⟩
    have eo : ∀ c, c ≠ 132 → c ≠ 133 → hcpb h3 9 0 112 c = X c := fun c a b => by
      rw [← mo c a b, ← swo c b, ← u4 c a b]
      exact funext fun j => by unfold hcpb; rw [if_neg (fun q => b q.1)]
    have e132 : ∀ j, j ≠ 1 → hcpb h3 9 0 112 132 j = hm' 132 j := fun j z => by
      rw [← swo 132 (by decide), ← u5 j z]; unfold hcpb; rw [if_neg (fun q => absurd q.1 (by decide))]
    have eM : mo_load 132 X = some (E 7 1, hcpb h3 9 0 112) := by
      rw [ml X hm' s3, if_pos z4, swap_eq, bd_eq u1, bd_eq (mo_copies_eq (by decide) (by decide) (by decide)), ix_in (by decide) (by decide), hEE.m]
    have x8 : X 1 8 = E 7 1 := by rw [fi.2.1]; exact kE.1.2.symm
    refine ⟨E 7 1, X, hcpb h3 9 0 112, by rw [eC, x8], eM, E, min (K + 1) 8, pushB D B, hO.push wE, CS.keep (h := X) ⟨⟨⟨?_, ?_, ?_, ?_⟩, fun i i0 i1 => ?_, fun d d0 d1 => ?_⟩, b2.2.keep (fun c a b => fo c (by omega))⟩ (fun c a b => eo c (by omega) (by omega)), ⟨hEE, hHE⟩, ⟨?_, ?_, ?_, ?_⟩, hF.1 _ _ ?_ ?_⟩
    · rw [fi.1]; exact kE.1.1
    · exact x8.symm
    · rw [fi.2.2.1, lE.1]; exact b2.1.1.2.2.1
    · rw [fi.2.2.2, lE.2]; exact b2.1.1.2.2.2
    · rw [fp i i0 (by omega)]; exact kE.2.1 i i0 i1
    · rw [fq 3 (by decide) (by decide) d d0 (by omega), fq 4 (by decide) (by decide) d d0 (by omega), fq 5 (by decide) (by decide) d d0 (by omega), fq 6 (by decide) (by decide) d d0 (by omega), fq 7 (by decide) (by decide) d d0 (by omega), fq 8 (by decide) (by decide) d d0 (by omega)]
      exact kE.2.2 d d0 d1
    · rw [eo 75 (by decide) (by decide), fo 75 (by decide), b5 75 (by decide), r2.2.2]; exact t1
    · rw [eo 75 (by decide) (by decide), fo 75 (by decide), b5 75 (by decide), r2.2.2, e132 3 (by decide), s4.2.1 3 (by decide), hmA_o (by decide), hX 132 (by decide), t2]
    · rw [eo 134 (by decide) (by decide), hX 134 (by decide), eo 76 (by decide) (by decide), fo 76 (by decide), b5 76 (by decide), r2.2.1, t3]
    · rw [e132 4 (by decide), z4, eo 75 (by decide) (by decide), fo 75 (by decide), b5 75 (by decide), q]
    · rw [eo 0 (by decide) (by decide), fo 0 (by decide)]; exact b3
    · rw [eo 0 (by decide) (by decide), fo 0 (by decide)]; exact b4
  · have hX : ∀ c, 85 ≤ c → hc' c = h c := fun c z => r2.1 c (Or.inr z)
    obtain ⟨hc2, s1, s2, hm', s3, s4, s5⟩ := rb hc' hX
    have : hc2 = hc' := by
      have := s1.symm.trans r1
      injection this with this
      exact (Prod.mk.inj this).2
    subst this
    rcases s5 with fe | ⟨E, cE, gE, lE⟩
    case inr => exact absurd gE.1.1 q
    obtain ⟨f1, f2, f3, f4, f5⟩ := fe
    have eC : dl_load 0 h = some (-10 - hc2 75 4, hc2) := by
      simp only [dl_load, Nat.reduceAdd]
      rw [bd_eq r1, if_neg q, ck_in ⟨by omega, by omega⟩]
    have k132 : hcpb hm' 9 0 112 132 = hm' 132 := funext fun j => by unfold hcpb; rw [if_neg (fun q => absurd q.1 (by decide))]
    have eM : mo_load 132 hc2 = some (-10 - hc2 75 4, hcpb hm' 9 0 112) := by
      rw [ml hc2 hm' s3, if_neg (by rw [← f1]; exact q), bd_eq (mo_copies_eq (by decide) (by decide) (by decide)), k132, ← f3, ck_in ⟨by omega, by omega⟩]
    have eo : ∀ c, c ≠ 132 → c ≠ 133 → hcpb hm' 9 0 112 c = hc2 c := fun c a b => by
      rw [← hmA_o (X := hc2) b, ← s4.1 c a b]
      exact funext fun j => by unfold hcpb; rw [if_neg (fun q => b q.1)]
    have ej : ∀ j, 0 ≤ j → j < 1008 → hcpb hm' 9 0 112 133 j = h 133 j := fun j a b => by
      unfold hcpb
      by_cases z : j < 112
      · rw [if_pos ⟨rfl, by omega, by omega⟩, show j - 112 * 0 + 112 * 9 = 1008 + j by omega, s4.2.2 _ (by omega), hmA_9 a z, hX 133 (by decide)]
      · rw [if_neg (fun q => by omega), s4.2.2 _ (by omega), hmA_m (by omega) b, hX 133 (by decide)]
    refine ⟨-10 - hc2 75 4, hc2, hcpb hm' 9 0 112, eC, eM, D, K, B, hO, hC'.keep (fun c a b => eo c (by omega) (by omega)), ⟨hM.1.move hw (fun i i0 i1 => ej _ (by omega) (by omega)), by rw [k132, s4.2.1 1 (by decide), hmA_o (by decide), hX 132 (by decide)]; exact hM.2.1, fun k k0 k1 => (hM.2.2 k k0 k1).move (hO.2.2 k k0 k1) (fun i i0 i1 => by have := hO.2.1; exact ej _ (by omega) (by omega))⟩, ⟨?_, ?_, ?_, ?_⟩, hF.2 _ _ _ (fun c z => ?_) hR⟩
    · rw [eo 75 (by decide) (by decide), r2.2.2]; exact t1
    · rw [eo 75 (by decide) (by decide), r2.2.2, k132, s4.2.1 3 (by decide), hmA_o (by decide), hX 132 (by decide), t2]
    · rw [eo 134 (by decide) (by decide), hX 134 (by decide), eo 76 (by decide) (by decide), r2.2.1, t3]
    · rw [k132, ← f1, eo 75 (by decide) (by decide)]
    · rw [eo c (by omega) (by omega), r2.1 c (by omega)]
end LOAD

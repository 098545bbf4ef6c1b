abbrev mi_lw (L : Nat) (xs : Nat → Int32) : MI := (x, code, 4, ret, 13, 486, 600000, 7302250, some (L, xs))
set_option maxRecDepth 100000 in
set_option maxHeartbeats 4000000 in
theorem jb_lw_857 {FL : List LK → Prop} {lay : List LK} {X : Nat} {M : Nat} {L : Nat} {xs : Nat → Int32} {k18 : Int → Hp → O Int} (hsX : sub lay X blkLines) (hsM : sub lay M blkModel) (hL : inR (L : Int)) (hk18 : ∀ (x3 : Int) (h : Hp), J (mi_lw L xs) encI FL lay 142 3471 18 [(0, vsc), (1, vr X), (2, vr M), (3, vi x3)] [] h (k18 x3 h)) (x3 : Int) (h : Hp) : J (mi_lw L xs) encI FL lay 142 3471 857 [(0, vsc), (1, vr X), (2, vr M), (3, vi x3)] [] h (lw_b857 X M L xs k18 x3 h) := by
  unfold lw_b857
  refine j_iinc 3 (lv' := [(3, vi (x3 + 4)), (0, vsc), (1, vr X), (2, vr M)]) dL_law_857 rfl (Nat.le_of_ble_eq_true rfl) rfl ?_
  refine j_goto (tgt := 18) dL_law_860 (by decide) ?_
  refine j_sub [1, 2, 3, 0] rfl ?_
  exact hk18 _ _

set_option maxRecDepth 100000 in
set_option maxHeartbeats 4000000 in
theorem jb_lw_654 {FL : List LK → Prop} {lay : List LK} {X : Nat} {M : Nat} {L : Nat} {xs : Nat → Int32} {k18 : Int → Hp → O Int} (hsX : sub lay X blkLines) (hsM : sub lay M blkModel) (hL : inR (L : Int)) (hk18 : ∀ (x3 : Int) (h : Hp), J (mi_lw L xs) encI FL lay 142 3471 18 [(0, vsc), (1, vr X), (2, vr M), (3, vi x3)] [] h (k18 x3 h)) (x3 s0 s1 s2 s4 : Int) (h : Hp) : J (mi_lw L xs) encI FL lay 142 3471 654 [(0, vsc), (1, vr X), (2, vr M), (3, vi x3)] [vi s0, vi s1, vi s2, vr M, vi s4] h (lw_b654 X M L xs k18 x3 s0 s1 s2 s4 h) := by
  unfold lw_b654
  refine j_cV (stk := [vi s4]) [vi s2, vi s1, vi s0] M dL_law_654 mv_mo_distance lm_L_89 (sub_k hsM 0 rfl rfl) zc_6 (ct_mo_distance hsM h) rfl rfl ⟨⟨Nat.le_of_ble_eq_true rfl, Nat.le_of_ble_eq_true rfl⟩, Nat.le_of_ble_eq_true rfl, Nat.le_of_ble_eq_true rfl⟩ (Nat.le_of_ble_eq_true rfl) rfl rfl (fun r1 h1 _ => ?_)
  refine j_icmp_eq (tgt := 857) dL_law_657 (by decide) ?_ ?_
  · exact jb_lw_857 hsX hsM hL hk18 _ _
  · refine j_iconst (x := 0) dL_law_660 rfl (by decide) ?_
    exact j_retLaw rfl rfl rfl dL_law_661 ⟨Nat.le_of_ble_eq_true rfl, Nat.le_of_ble_eq_true rfl⟩

set_option maxRecDepth 100000 in
set_option maxHeartbeats 4000000 in
theorem jb_lw_627 {FL : List LK → Prop} {lay : List LK} {X : Nat} {M : Nat} {L : Nat} {xs : Nat → Int32} {k18 : Int → Hp → O Int} (hsX : sub lay X blkLines) (hsM : sub lay M blkModel) (hL : inR (L : Int)) (hk18 : ∀ (x3 : Int) (h : Hp), J (mi_lw L xs) encI FL lay 142 3471 18 [(0, vsc), (1, vr X), (2, vr M), (3, vi x3)] [] h (k18 x3 h)) (x3 s0 s1 s2 : Int) (h : Hp) : J (mi_lw L xs) encI FL lay 142 3471 627 [(0, vsc), (1, vr X), (2, vr M), (3, vi x3)] [vi s0, vi s1, vi s2, vr X] h (lw_b627 X M L xs k18 x3 s0 s1 s2 h) := by
  unfold lw_b627
  refine j_cV (stk := []) [vi s2, vi s1, vi s0] X dL_law_627 mv_dl_distance lm_L_85 (sub_k hsX 0 rfl rfl) zc_5 (ct_dl_distance hsX h) rfl rfl ⟨⟨Nat.le_of_ble_eq_true rfl, Nat.le_of_ble_eq_true rfl⟩, Nat.le_of_ble_eq_true rfl, Nat.le_of_ble_eq_true rfl⟩ (Nat.le_of_ble_eq_true rfl) rfl rfl (fun r1 h1 _ => ?_)
  refine j_aload_n 2 dL_law_630 rfl ?_
  refine j_sload_n 0 dL_law_631 rfl ?_
  refine j_iload_n 3 dL_law_632 rfl ?_
  refine j_iconst (x := 1) dL_law_633 rfl (by decide) ?_
  refine j_iadd dL_law_634 ?_
  refine j_sld dL_law_635 rfl ?_
  refine j_sload_n 0 dL_law_636 rfl ?_
  refine j_iload_n 3 dL_law_637 rfl ?_
  refine j_iconst (x := 2) dL_law_638 rfl (by decide) ?_
  refine j_iadd dL_law_639 ?_
  refine j_sld dL_law_640 rfl ?_
  refine j_sload_n 0 dL_law_641 rfl ?_
  refine j_iload_n 3 dL_law_642 rfl ?_
  refine j_iconst (x := 3) dL_law_643 rfl (by decide) ?_
  refine j_iadd dL_law_644 ?_
  refine j_sld dL_law_645 rfl ?_
  refine j_if_eq (tgt := 653) dL_law_646 (by decide) ?_ ?_
  · refine j_iconst (x := 0) dL_law_653 rfl (by decide) ?_
    exact jb_lw_654 hsX hsM hL hk18 _ _ _ _ _ _
  · refine j_iconst (x := 1) dL_law_649 rfl (by decide) ?_
    refine j_goto (tgt := 654) dL_law_650 (by decide) ?_
    exact jb_lw_654 hsX hsM hL hk18 _ _ _ _ _ _

set_option maxRecDepth 100000 in
set_option maxHeartbeats 4000000 in
theorem jl_lw_18 {FL : List LK → Prop} {lay : List LK} {X : Nat} {M : Nat} {L : Nat} {xs : Nat → Int32}  (hsX : sub lay X blkLines) (hsM : sub lay M blkModel) (hL : inR (L : Int))  : ∀ (n : Nat) (x3 : Int) (h : Hp), J (mi_lw L xs) encI FL lay 142 3471 18 [(0, vsc), (1, vr X), (2, vr M), (3, vi x3)] [] h (iter1 (lw_f18 X M L xs) n x3 h) := by
  refine j_iter1 (lf := fun x3 => [(0, vsc), (1, vr X), (2, vr M), (3, vi x3)]) (fun k18 hk18 x3 h => ?_)
  unfold lw_f18
  refine j_iload_n 3 dL_law_18 rfl ?_
  refine j_sload_n 0 dL_law_19 rfl ?_
  refine j_slen dL_law_20 rfl hL ?_
  refine j_iconst (x := 4) dL_law_21 rfl (by decide) ?_
  refine j_isub dL_law_22 ?_
  refine j_icmp_gt (tgt := 863) dL_law_23 (by decide) ?_ ?_
  · refine j_iconst (x := 1) dL_law_863 rfl (by decide) ?_
    exact j_retLaw rfl rfl rfl dL_law_864 ⟨Nat.le_of_ble_eq_true rfl, Nat.le_of_ble_eq_true rfl⟩
  · refine j_sload_n 0 dL_law_26 rfl ?_
    refine j_iload_n 3 dL_law_27 rfl ?_
    refine j_sld dL_law_28 rfl ?_
    refine j_bipush (x := 31) dL_law_29 (by decide) (by decide) ?_
    refine j_iand 5 32 dL_law_31 (by decide) (by decide) rfl (by decide) ?_
    refine j_table [152, 175, 188, 201, 214, 237, 270, 293, 326, 349, 392, 425, 458, 481, 504, 537, 570, 603, 662, 705, 738, 751, 784, 807, 820, 843] 857 dL_law_32 rfl (by decide) (by decide) ⟨?_, ?_, ?_, ?_, ?_, ?_, ?_, ?_, ?_, ?_, ?_, ?_, ?_, ?_, ?_, ?_, ?_, ?_, ?_, ?_, ?_, ?_, ?_, ?_, ?_, ?_, trivial⟩ ?_
    · refine j_aload_n 1 dL_law_152 rfl ?_
      refine j_sload_n 0 dL_law_153 rfl ?_
      refine j_iload_n 3 dL_law_154 rfl ?_
      refine j_iconst (x := 1) dL_law_155 rfl (by decide) ?_
      refine j_iadd dL_law_156 ?_
      refine j_sld dL_law_157 rfl ?_
      refine j_cV (stk := []) [vi ((xs (x3 + 1).toNat).toInt)] X dL_law_158 mv_dl_type lm_L_13 (sub_k hsX 0 rfl rfl) zc_5 (ct_dl_type hsX h) rfl rfl ⟨⟨Nat.le_of_ble_eq_true rfl, Nat.le_of_ble_eq_true rfl⟩, Nat.le_of_ble_eq_true rfl, Nat.le_of_ble_eq_true rfl⟩ (Nat.le_of_ble_eq_true rfl) rfl rfl (fun r1 h1 _ => ?_)
      refine j_aload_n 2 dL_law_161 rfl ?_
      refine j_sload_n 0 dL_law_162 rfl ?_
      refine j_iload_n 3 dL_law_163 rfl ?_
      refine j_iconst (x := 1) dL_law_164 rfl (by decide) ?_
      refine j_iadd dL_law_165 ?_
      refine j_sld dL_law_166 rfl ?_
      refine j_cV (stk := [vi r1]) [vi ((xs (x3 + 1).toNat).toInt)] M dL_law_167 mv_mo_type lm_L_17 (sub_k hsM 0 rfl rfl) zc_6 (ct_mo_type hsM h1) rfl rfl ⟨⟨Nat.le_of_ble_eq_true rfl, Nat.le_of_ble_eq_true rfl⟩, Nat.le_of_ble_eq_true rfl, Nat.le_of_ble_eq_true rfl⟩ (Nat.le_of_ble_eq_true rfl) rfl rfl (fun r2 h2 _ => ?_)
      refine j_icmp_eq (tgt := 857) dL_law_170 (by decide) ?_ ?_
      · exact jb_lw_857 hsX hsM hL hk18 _ _
      · refine j_iconst (x := 0) dL_law_173 rfl (by decide) ?_
        exact j_retLaw rfl rfl rfl dL_law_174 ⟨Nat.le_of_ble_eq_true rfl, Nat.le_of_ble_eq_true rfl⟩
    · refine j_aload_n 1 dL_law_175 rfl ?_
      refine j_cV (stk := []) [] X dL_law_176 mv_dl_clearText lm_L_18 (sub_k hsX 0 rfl rfl) zc_5 (ct_dl_clearText hsX h) rfl rfl ⟨⟨Nat.le_of_ble_eq_true rfl, Nat.le_of_ble_eq_true rfl⟩, Nat.le_of_ble_eq_true rfl, Nat.le_of_ble_eq_true rfl⟩ (Nat.le_of_ble_eq_true rfl) rfl rfl (fun r3 h3 _ => ?_)
      refine j_aload_n 2 dL_law_179 rfl ?_
      refine j_cV (stk := [vi r3]) [] M dL_law_180 mv_mo_clearText lm_L_22 (sub_k hsM 0 rfl rfl) zc_6 (ct_mo_clearText hsM h3) rfl rfl ⟨⟨Nat.le_of_ble_eq_true rfl, Nat.le_of_ble_eq_true rfl⟩, Nat.le_of_ble_eq_true rfl, Nat.le_of_ble_eq_true rfl⟩ (Nat.le_of_ble_eq_true rfl) rfl rfl (fun r4 h4 _ => ?_)
      refine j_icmp_eq (tgt := 857) dL_law_183 (by decide) ?_ ?_
      · exact jb_lw_857 hsX hsM hL hk18 _ _
      · refine j_iconst (x := 0) dL_law_186 rfl (by decide) ?_
        exact j_retLaw rfl rfl rfl dL_law_187 ⟨Nat.le_of_ble_eq_true rfl, Nat.le_of_ble_eq_true rfl⟩
    · refine j_aload_n 1 dL_law_188 rfl ?_
      refine j_cV (stk := []) [] X dL_law_189 mv_dl_load lm_L_23 (sub_k hsX 0 rfl rfl) zc_5 (ct_dl_load hsX h) rfl rfl ⟨⟨Nat.le_of_ble_eq_true rfl, Nat.le_of_ble_eq_true rfl⟩, Nat.le_of_ble_eq_true rfl, Nat.le_of_ble_eq_true rfl⟩ (Nat.le_of_ble_eq_true rfl) rfl rfl (fun r5 h5 _ => ?_)
      refine j_aload_n 2 dL_law_192 rfl ?_
      refine j_cV (stk := [vi r5]) [] M dL_law_193 mv_mo_load lm_L_26 (sub_k hsM 0 rfl rfl) zc_6 (ct_mo_load hsM h5) rfl rfl ⟨⟨Nat.le_of_ble_eq_true rfl, Nat.le_of_ble_eq_true rfl⟩, Nat.le_of_ble_eq_true rfl, Nat.le_of_ble_eq_true rfl⟩ (Nat.le_of_ble_eq_true rfl) rfl rfl (fun r6 h6 _ => ?_)
      refine j_icmp_eq (tgt := 857) dL_law_196 (by decide) ?_ ?_
      · exact jb_lw_857 hsX hsM hL hk18 _ _
      · refine j_iconst (x := 0) dL_law_199 rfl (by decide) ?_
        exact j_retLaw rfl rfl rfl dL_law_200 ⟨Nat.le_of_ble_eq_true rfl, Nat.le_of_ble_eq_true rfl⟩
    · refine j_aload_n 1 dL_law_201 rfl ?_
      refine j_cV (stk := []) [] X dL_law_202 mv_dl_faultKind lm_L_27 (sub_k hsX 0 rfl rfl) zc_5 (ct_dl_faultKind hsX h) rfl rfl ⟨⟨Nat.le_of_ble_eq_true rfl, Nat.le_of_ble_eq_true rfl⟩, Nat.le_of_ble_eq_true rfl, Nat.le_of_ble_eq_true rfl⟩ (Nat.le_of_ble_eq_true rfl) rfl rfl (fun r7 h7 _ => ?_)
      refine j_aload_n 2 dL_law_205 rfl ?_
      refine j_cV (stk := [vi r7]) [] M dL_law_206 mv_mo_faultKind lm_L_30 (sub_k hsM 0 rfl rfl) zc_6 (ct_mo_faultKind hsM h7) rfl rfl ⟨⟨Nat.le_of_ble_eq_true rfl, Nat.le_of_ble_eq_true rfl⟩, Nat.le_of_ble_eq_true rfl, Nat.le_of_ble_eq_true rfl⟩ (Nat.le_of_ble_eq_true rfl) rfl rfl (fun r8 h8 _ => ?_)
      refine j_icmp_eq (tgt := 857) dL_law_209 (by decide) ?_ ?_
      · exact jb_lw_857 hsX hsM hL hk18 _ _
      · refine j_iconst (x := 0) dL_law_212 rfl (by decide) ?_
        exact j_retLaw rfl rfl rfl dL_law_213 ⟨Nat.le_of_ble_eq_true rfl, Nat.le_of_ble_eq_true rfl⟩
    · refine j_aload_n 1 dL_law_214 rfl ?_
      refine j_sload_n 0 dL_law_215 rfl ?_
      refine j_iload_n 3 dL_law_216 rfl ?_
      refine j_iconst (x := 1) dL_law_217 rfl (by decide) ?_
      refine j_iadd dL_law_218 ?_
      refine j_sld dL_law_219 rfl ?_
      refine j_cV (stk := []) [vi ((xs (x3 + 1).toNat).toInt)] X dL_law_220 mv_dl_addPoint lm_L_31 (sub_k hsX 0 rfl rfl) zc_5 (ct_dl_addPoint hsX h) rfl rfl ⟨⟨Nat.le_of_ble_eq_true rfl, Nat.le_of_ble_eq_true rfl⟩, Nat.le_of_ble_eq_true rfl, Nat.le_of_ble_eq_true rfl⟩ (Nat.le_of_ble_eq_true rfl) rfl rfl (fun r9 h9 _ => ?_)
      refine j_aload_n 2 dL_law_223 rfl ?_
      refine j_sload_n 0 dL_law_224 rfl ?_
      refine j_iload_n 3 dL_law_225 rfl ?_
      refine j_iconst (x := 1) dL_law_226 rfl (by decide) ?_
      refine j_iadd dL_law_227 ?_
      refine j_sld dL_law_228 rfl ?_
      refine j_cV (stk := [vi r9]) [vi ((xs (x3 + 1).toNat).toInt)] M dL_law_229 mv_mo_addPoint lm_L_34 (sub_k hsM 0 rfl rfl) zc_6 (ct_mo_addPoint hsM h9) rfl rfl ⟨⟨Nat.le_of_ble_eq_true rfl, Nat.le_of_ble_eq_true rfl⟩, Nat.le_of_ble_eq_true rfl, Nat.le_of_ble_eq_true rfl⟩ (Nat.le_of_ble_eq_true rfl) rfl rfl (fun r10 h10 _ => ?_)
      refine j_icmp_eq (tgt := 857) dL_law_232 (by decide) ?_ ?_
      · exact jb_lw_857 hsX hsM hL hk18 _ _
      · refine j_iconst (x := 0) dL_law_235 rfl (by decide) ?_
        exact j_retLaw rfl rfl rfl dL_law_236 ⟨Nat.le_of_ble_eq_true rfl, Nat.le_of_ble_eq_true rfl⟩
    · refine j_aload_n 1 dL_law_237 rfl ?_
      refine j_sload_n 0 dL_law_238 rfl ?_
      refine j_iload_n 3 dL_law_239 rfl ?_
      refine j_iconst (x := 1) dL_law_240 rfl (by decide) ?_
      refine j_iadd dL_law_241 ?_
      refine j_sld dL_law_242 rfl ?_
      refine j_sload_n 0 dL_law_243 rfl ?_
      refine j_iload_n 3 dL_law_244 rfl ?_
      refine j_iconst (x := 2) dL_law_245 rfl (by decide) ?_
      refine j_iadd dL_law_246 ?_
      refine j_sld dL_law_247 rfl ?_
      refine j_cV (stk := []) [vi ((xs (x3 + 1).toNat).toInt), vi ((xs (x3 + 2).toNat).toInt)] X dL_law_248 mv_dl_movePoint lm_L_35 (sub_k hsX 0 rfl rfl) zc_5 (ct_dl_movePoint hsX h) rfl rfl ⟨⟨Nat.le_of_ble_eq_true rfl, Nat.le_of_ble_eq_true rfl⟩, Nat.le_of_ble_eq_true rfl, Nat.le_of_ble_eq_true rfl⟩ (Nat.le_of_ble_eq_true rfl) rfl rfl (fun r11 h11 _ => ?_)
      refine j_aload_n 2 dL_law_251 rfl ?_
      refine j_sload_n 0 dL_law_252 rfl ?_
      refine j_iload_n 3 dL_law_253 rfl ?_
      refine j_iconst (x := 1) dL_law_254 rfl (by decide) ?_
      refine j_iadd dL_law_255 ?_
      refine j_sld dL_law_256 rfl ?_
      refine j_sload_n 0 dL_law_257 rfl ?_
      refine j_iload_n 3 dL_law_258 rfl ?_
      refine j_iconst (x := 2) dL_law_259 rfl (by decide) ?_
      refine j_iadd dL_law_260 ?_
      refine j_sld dL_law_261 rfl ?_
      refine j_cV (stk := [vi r11]) [vi ((xs (x3 + 1).toNat).toInt), vi ((xs (x3 + 2).toNat).toInt)] M dL_law_262 mv_mo_movePoint lm_L_39 (sub_k hsM 0 rfl rfl) zc_6 (ct_mo_movePoint hsM h11) rfl rfl ⟨⟨Nat.le_of_ble_eq_true rfl, Nat.le_of_ble_eq_true rfl⟩, Nat.le_of_ble_eq_true rfl, Nat.le_of_ble_eq_true rfl⟩ (Nat.le_of_ble_eq_true rfl) rfl rfl (fun r12 h12 _ => ?_)
      refine j_icmp_eq (tgt := 857) dL_law_265 (by decide) ?_ ?_
      · exact jb_lw_857 hsX hsM hL hk18 _ _
      · refine j_iconst (x := 0) dL_law_268 rfl (by decide) ?_
        exact j_retLaw rfl rfl rfl dL_law_269 ⟨Nat.le_of_ble_eq_true rfl, Nat.le_of_ble_eq_true rfl⟩
    · refine j_aload_n 1 dL_law_270 rfl ?_
      refine j_sload_n 0 dL_law_271 rfl ?_
      refine j_iload_n 3 dL_law_272 rfl ?_
      refine j_iconst (x := 1) dL_law_273 rfl (by decide) ?_
      refine j_iadd dL_law_274 ?_
      refine j_sld dL_law_275 rfl ?_
      refine j_cV (stk := []) [vi ((xs (x3 + 1).toNat).toInt)] X dL_law_276 mv_dl_dropPoint lm_L_40 (sub_k hsX 0 rfl rfl) zc_5 (ct_dl_dropPoint hsX h) rfl rfl ⟨⟨Nat.le_of_ble_eq_true rfl, Nat.le_of_ble_eq_true rfl⟩, Nat.le_of_ble_eq_true rfl, Nat.le_of_ble_eq_true rfl⟩ (Nat.le_of_ble_eq_true rfl) rfl rfl (fun r13 h13 _ => ?_)
      refine j_aload_n 2 dL_law_279 rfl ?_
      refine j_sload_n 0 dL_law_280 rfl ?_
      refine j_iload_n 3 dL_law_281 rfl ?_
      refine j_iconst (x := 1) dL_law_282 rfl (by decide) ?_
      refine j_iadd dL_law_283 ?_
      refine j_sld dL_law_284 rfl ?_
      refine j_cV (stk := [vi r13]) [vi ((xs (x3 + 1).toNat).toInt)] M dL_law_285 mv_mo_dropPoint lm_L_43 (sub_k hsM 0 rfl rfl) zc_6 (ct_mo_dropPoint hsM h13) rfl rfl ⟨⟨Nat.le_of_ble_eq_true rfl, Nat.le_of_ble_eq_true rfl⟩, Nat.le_of_ble_eq_true rfl, Nat.le_of_ble_eq_true rfl⟩ (Nat.le_of_ble_eq_true rfl) rfl rfl (fun r14 h14 _ => ?_)
      refine j_icmp_eq (tgt := 857) dL_law_288 (by decide) ?_ ?_
      · exact jb_lw_857 hsX hsM hL hk18 _ _
      · refine j_iconst (x := 0) dL_law_291 rfl (by decide) ?_
        exact j_retLaw rfl rfl rfl dL_law_292 ⟨Nat.le_of_ble_eq_true rfl, Nat.le_of_ble_eq_true rfl⟩
    · refine j_aload_n 1 dL_law_293 rfl ?_
      refine j_sload_n 0 dL_law_294 rfl ?_
      refine j_iload_n 3 dL_law_295 rfl ?_
      refine j_iconst (x := 1) dL_law_296 rfl (by decide) ?_
      refine j_iadd dL_law_297 ?_
      refine j_sld dL_law_298 rfl ?_
      refine j_sload_n 0 dL_law_299 rfl ?_
      refine j_iload_n 3 dL_law_300 rfl ?_
      refine j_iconst (x := 2) dL_law_301 rfl (by decide) ?_
      refine j_iadd dL_law_302 ?_
      refine j_sld dL_law_303 rfl ?_
      refine j_cV (stk := []) [vi ((xs (x3 + 1).toNat).toInt), vi ((xs (x3 + 2).toNat).toInt)] X dL_law_304 mv_dl_add lm_L_44 (sub_k hsX 0 rfl rfl) zc_5 (ct_dl_add hsX h) rfl rfl ⟨⟨Nat.le_of_ble_eq_true rfl, Nat.le_of_ble_eq_true rfl⟩, Nat.le_of_ble_eq_true rfl, Nat.le_of_ble_eq_true rfl⟩ (Nat.le_of_ble_eq_true rfl) rfl rfl (fun r15 h15 _ => ?_)
      refine j_aload_n 2 dL_law_307 rfl ?_
      refine j_sload_n 0 dL_law_308 rfl ?_
      refine j_iload_n 3 dL_law_309 rfl ?_
      refine j_iconst (x := 1) dL_law_310 rfl (by decide) ?_
      refine j_iadd dL_law_311 ?_
      refine j_sld dL_law_312 rfl ?_
      refine j_sload_n 0 dL_law_313 rfl ?_
      refine j_iload_n 3 dL_law_314 rfl ?_
      refine j_iconst (x := 2) dL_law_315 rfl (by decide) ?_
      refine j_iadd dL_law_316 ?_
      refine j_sld dL_law_317 rfl ?_
      refine j_cV (stk := [vi r15]) [vi ((xs (x3 + 1).toNat).toInt), vi ((xs (x3 + 2).toNat).toInt)] M dL_law_318 mv_mo_add lm_L_47 (sub_k hsM 0 rfl rfl) zc_6 (ct_mo_add hsM h15) rfl rfl ⟨⟨Nat.le_of_ble_eq_true rfl, Nat.le_of_ble_eq_true rfl⟩, Nat.le_of_ble_eq_true rfl, Nat.le_of_ble_eq_true rfl⟩ (Nat.le_of_ble_eq_true rfl) rfl rfl (fun r16 h16 _ => ?_)
      refine j_icmp_eq (tgt := 857) dL_law_321 (by decide) ?_ ?_
      · exact jb_lw_857 hsX hsM hL hk18 _ _
      · refine j_iconst (x := 0) dL_law_324 rfl (by decide) ?_
        exact j_retLaw rfl rfl rfl dL_law_325 ⟨Nat.le_of_ble_eq_true rfl, Nat.le_of_ble_eq_true rfl⟩
    · refine j_aload_n 1 dL_law_326 rfl ?_
      refine j_sload_n 0 dL_law_327 rfl ?_
      refine j_iload_n 3 dL_law_328 rfl ?_
      refine j_iconst (x := 1) dL_law_329 rfl (by decide) ?_
      refine j_iadd dL_law_330 ?_
      refine j_sld dL_law_331 rfl ?_
      refine j_cV (stk := []) [vi ((xs (x3 + 1).toNat).toInt)] X dL_law_332 mv_dl_drop lm_L_48 (sub_k hsX 0 rfl rfl) zc_5 (ct_dl_drop hsX h) rfl rfl ⟨⟨Nat.le_of_ble_eq_true rfl, Nat.le_of_ble_eq_true rfl⟩, Nat.le_of_ble_eq_true rfl, Nat.le_of_ble_eq_true rfl⟩ (Nat.le_of_ble_eq_true rfl) rfl rfl (fun r17 h17 _ => ?_)
      refine j_aload_n 2 dL_law_335 rfl ?_
      refine j_sload_n 0 dL_law_336 rfl ?_
      refine j_iload_n 3 dL_law_337 rfl ?_
      refine j_iconst (x := 1) dL_law_338 rfl (by decide) ?_
      refine j_iadd dL_law_339 ?_
      refine j_sld dL_law_340 rfl ?_
      refine j_cV (stk := [vi r17]) [vi ((xs (x3 + 1).toNat).toInt)] M dL_law_341 mv_mo_drop lm_L_51 (sub_k hsM 0 rfl rfl) zc_6 (ct_mo_drop hsM h17) rfl rfl ⟨⟨Nat.le_of_ble_eq_true rfl, Nat.le_of_ble_eq_true rfl⟩, Nat.le_of_ble_eq_true rfl, Nat.le_of_ble_eq_true rfl⟩ (Nat.le_of_ble_eq_true rfl) rfl rfl (fun r18 h18 _ => ?_)
      refine j_icmp_eq (tgt := 857) dL_law_344 (by decide) ?_ ?_
      · exact jb_lw_857 hsX hsM hL hk18 _ _
      · refine j_iconst (x := 0) dL_law_347 rfl (by decide) ?_
        exact j_retLaw rfl rfl rfl dL_law_348 ⟨Nat.le_of_ble_eq_true rfl, Nat.le_of_ble_eq_true rfl⟩
    · refine j_aload_n 1 dL_law_349 rfl ?_
      refine j_sload_n 0 dL_law_350 rfl ?_
      refine j_iload_n 3 dL_law_351 rfl ?_
      refine j_iconst (x := 1) dL_law_352 rfl (by decide) ?_
      refine j_iadd dL_law_353 ?_
      refine j_sld dL_law_354 rfl ?_
      refine j_sload_n 0 dL_law_355 rfl ?_
      refine j_iload_n 3 dL_law_356 rfl ?_
      refine j_iconst (x := 2) dL_law_357 rfl (by decide) ?_
      refine j_iadd dL_law_358 ?_
      refine j_sld dL_law_359 rfl ?_
      refine j_sload_n 0 dL_law_360 rfl ?_
      refine j_iload_n 3 dL_law_361 rfl ?_
      refine j_iconst (x := 3) dL_law_362 rfl (by decide) ?_
      refine j_iadd dL_law_363 ?_
      refine j_sld dL_law_364 rfl ?_
      refine j_cV (stk := []) [vi ((xs (x3 + 1).toNat).toInt), vi ((xs (x3 + 2).toNat).toInt), vi ((xs (x3 + 3).toNat).toInt)] X dL_law_365 mv_dl_setTolerance lm_L_52 (sub_k hsX 0 rfl rfl) zc_5 (ct_dl_setTolerance hsX h) rfl rfl ⟨⟨Nat.le_of_ble_eq_true rfl, Nat.le_of_ble_eq_true rfl⟩, Nat.le_of_ble_eq_true rfl, Nat.le_of_ble_eq_true rfl⟩ (Nat.le_of_ble_eq_true rfl) rfl rfl (fun r19 h19 _ => ?_)
      refine j_aload_n 2 dL_law_368 rfl ?_
      refine j_sload_n 0 dL_law_369 rfl ?_
      refine j_iload_n 3 dL_law_370 rfl ?_
      refine j_iconst (x := 1) dL_law_371 rfl (by decide) ?_
      refine j_iadd dL_law_372 ?_
      refine j_sld dL_law_373 rfl ?_
      refine j_sload_n 0 dL_law_374 rfl ?_
      refine j_iload_n 3 dL_law_375 rfl ?_
      refine j_iconst (x := 2) dL_law_376 rfl (by decide) ?_
      refine j_iadd dL_law_377 ?_
      refine j_sld dL_law_378 rfl ?_
      refine j_sload_n 0 dL_law_379 rfl ?_
      refine j_iload_n 3 dL_law_380 rfl ?_
      refine j_iconst (x := 3) dL_law_381 rfl (by decide) ?_
      refine j_iadd dL_law_382 ?_
      refine j_sld dL_law_383 rfl ?_
      refine j_cV (stk := [vi r19]) [vi ((xs (x3 + 1).toNat).toInt), vi ((xs (x3 + 2).toNat).toInt), vi ((xs (x3 + 3).toNat).toInt)] M dL_law_384 mv_mo_setTolerance lm_L_56 (sub_k hsM 0 rfl rfl) zc_6 (ct_mo_setTolerance hsM h19) rfl rfl ⟨⟨Nat.le_of_ble_eq_true rfl, Nat.le_of_ble_eq_true rfl⟩, Nat.le_of_ble_eq_true rfl, Nat.le_of_ble_eq_true rfl⟩ (Nat.le_of_ble_eq_true rfl) rfl rfl (fun r20 h20 _ => ?_)
      refine j_icmp_eq (tgt := 857) dL_law_387 (by decide) ?_ ?_
      · exact jb_lw_857 hsX hsM hL hk18 _ _
      · refine j_iconst (x := 0) dL_law_390 rfl (by decide) ?_
        exact j_retLaw rfl rfl rfl dL_law_391 ⟨Nat.le_of_ble_eq_true rfl, Nat.le_of_ble_eq_true rfl⟩
    · refine j_aload_n 1 dL_law_392 rfl ?_
      refine j_sload_n 0 dL_law_393 rfl ?_
      refine j_iload_n 3 dL_law_394 rfl ?_
      refine j_iconst (x := 1) dL_law_395 rfl (by decide) ?_
      refine j_iadd dL_law_396 ?_
      refine j_sld dL_law_397 rfl ?_
      refine j_sload_n 0 dL_law_398 rfl ?_
      refine j_iload_n 3 dL_law_399 rfl ?_
      refine j_iconst (x := 2) dL_law_400 rfl (by decide) ?_
      refine j_iadd dL_law_401 ?_
      refine j_sld dL_law_402 rfl ?_
      refine j_cV (stk := []) [vi ((xs (x3 + 1).toNat).toInt), vi ((xs (x3 + 2).toNat).toInt)] X dL_law_403 mv_dl_setChain lm_L_57 (sub_k hsX 0 rfl rfl) zc_5 (ct_dl_setChain hsX h) rfl rfl ⟨⟨Nat.le_of_ble_eq_true rfl, Nat.le_of_ble_eq_true rfl⟩, Nat.le_of_ble_eq_true rfl, Nat.le_of_ble_eq_true rfl⟩ (Nat.le_of_ble_eq_true rfl) rfl rfl (fun r21 h21 _ => ?_)
      refine j_aload_n 2 dL_law_406 rfl ?_
      refine j_sload_n 0 dL_law_407 rfl ?_
      refine j_iload_n 3 dL_law_408 rfl ?_
      refine j_iconst (x := 1) dL_law_409 rfl (by decide) ?_
      refine j_iadd dL_law_410 ?_
      refine j_sld dL_law_411 rfl ?_
      refine j_sload_n 0 dL_law_412 rfl ?_
      refine j_iload_n 3 dL_law_413 rfl ?_
      refine j_iconst (x := 2) dL_law_414 rfl (by decide) ?_
      refine j_iadd dL_law_415 ?_
      refine j_sld dL_law_416 rfl ?_
      refine j_cV (stk := [vi r21]) [vi ((xs (x3 + 1).toNat).toInt), vi ((xs (x3 + 2).toNat).toInt)] M dL_law_417 mv_mo_setChain lm_L_60 (sub_k hsM 0 rfl rfl) zc_6 (ct_mo_setChain hsM h21) rfl rfl ⟨⟨Nat.le_of_ble_eq_true rfl, Nat.le_of_ble_eq_true rfl⟩, Nat.le_of_ble_eq_true rfl, Nat.le_of_ble_eq_true rfl⟩ (Nat.le_of_ble_eq_true rfl) rfl rfl (fun r22 h22 _ => ?_)
      refine j_icmp_eq (tgt := 857) dL_law_420 (by decide) ?_ ?_
      · exact jb_lw_857 hsX hsM hL hk18 _ _
      · refine j_iconst (x := 0) dL_law_423 rfl (by decide) ?_
        exact j_retLaw rfl rfl rfl dL_law_424 ⟨Nat.le_of_ble_eq_true rfl, Nat.le_of_ble_eq_true rfl⟩
    · refine j_aload_n 1 dL_law_425 rfl ?_
      refine j_sload_n 0 dL_law_426 rfl ?_
      refine j_iload_n 3 dL_law_427 rfl ?_
      refine j_iconst (x := 1) dL_law_428 rfl (by decide) ?_
      refine j_iadd dL_law_429 ?_
      refine j_sld dL_law_430 rfl ?_
      refine j_sload_n 0 dL_law_431 rfl ?_
      refine j_iload_n 3 dL_law_432 rfl ?_
      refine j_iconst (x := 2) dL_law_433 rfl (by decide) ?_
      refine j_iadd dL_law_434 ?_
      refine j_sld dL_law_435 rfl ?_
      refine j_cV (stk := []) [vi ((xs (x3 + 1).toNat).toInt), vi ((xs (x3 + 2).toNat).toInt)] X dL_law_436 mv_dl_setLeast lm_L_61 (sub_k hsX 0 rfl rfl) zc_5 (ct_dl_setLeast hsX h) rfl rfl ⟨⟨Nat.le_of_ble_eq_true rfl, Nat.le_of_ble_eq_true rfl⟩, Nat.le_of_ble_eq_true rfl, Nat.le_of_ble_eq_true rfl⟩ (Nat.le_of_ble_eq_true rfl) rfl rfl (fun r23 h23 _ => ?_)
      refine j_aload_n 2 dL_law_439 rfl ?_
      refine j_sload_n 0 dL_law_440 rfl ?_
      refine j_iload_n 3 dL_law_441 rfl ?_
      refine j_iconst (x := 1) dL_law_442 rfl (by decide) ?_
      refine j_iadd dL_law_443 ?_
      refine j_sld dL_law_444 rfl ?_
      refine j_sload_n 0 dL_law_445 rfl ?_
      refine j_iload_n 3 dL_law_446 rfl ?_
      refine j_iconst (x := 2) dL_law_447 rfl (by decide) ?_
      refine j_iadd dL_law_448 ?_
      refine j_sld dL_law_449 rfl ?_
      refine j_cV (stk := [vi r23]) [vi ((xs (x3 + 1).toNat).toInt), vi ((xs (x3 + 2).toNat).toInt)] M dL_law_450 mv_mo_setLeast lm_L_64 (sub_k hsM 0 rfl rfl) zc_6 (ct_mo_setLeast hsM h23) rfl rfl ⟨⟨Nat.le_of_ble_eq_true rfl, Nat.le_of_ble_eq_true rfl⟩, Nat.le_of_ble_eq_true rfl, Nat.le_of_ble_eq_true rfl⟩ (Nat.le_of_ble_eq_true rfl) rfl rfl (fun r24 h24 _ => ?_)
      refine j_icmp_eq (tgt := 857) dL_law_453 (by decide) ?_ ?_
      · exact jb_lw_857 hsX hsM hL hk18 _ _
      · refine j_iconst (x := 0) dL_law_456 rfl (by decide) ?_
        exact j_retLaw rfl rfl rfl dL_law_457 ⟨Nat.le_of_ble_eq_true rfl, Nat.le_of_ble_eq_true rfl⟩
    · refine j_aload_n 1 dL_law_458 rfl ?_
      refine j_sload_n 0 dL_law_459 rfl ?_
      refine j_iload_n 3 dL_law_460 rfl ?_
      refine j_iconst (x := 1) dL_law_461 rfl (by decide) ?_
      refine j_iadd dL_law_462 ?_
      refine j_sld dL_law_463 rfl ?_
      refine j_cV (stk := []) [vi ((xs (x3 + 1).toNat).toInt)] X dL_law_464 mv_dl_setLetter lm_L_65 (sub_k hsX 0 rfl rfl) zc_5 (ct_dl_setLetter hsX h) rfl rfl ⟨⟨Nat.le_of_ble_eq_true rfl, Nat.le_of_ble_eq_true rfl⟩, Nat.le_of_ble_eq_true rfl, Nat.le_of_ble_eq_true rfl⟩ (Nat.le_of_ble_eq_true rfl) rfl rfl (fun r25 h25 _ => ?_)
      refine j_aload_n 2 dL_law_467 rfl ?_
      refine j_sload_n 0 dL_law_468 rfl ?_
      refine j_iload_n 3 dL_law_469 rfl ?_
      refine j_iconst (x := 1) dL_law_470 rfl (by decide) ?_
      refine j_iadd dL_law_471 ?_
      refine j_sld dL_law_472 rfl ?_
      refine j_cV (stk := [vi r25]) [vi ((xs (x3 + 1).toNat).toInt)] M dL_law_473 mv_mo_setLetter lm_L_68 (sub_k hsM 0 rfl rfl) zc_6 (ct_mo_setLetter hsM h25) rfl rfl ⟨⟨Nat.le_of_ble_eq_true rfl, Nat.le_of_ble_eq_true rfl⟩, Nat.le_of_ble_eq_true rfl, Nat.le_of_ble_eq_true rfl⟩ (Nat.le_of_ble_eq_true rfl) rfl rfl (fun r26 h26 _ => ?_)
      refine j_icmp_eq (tgt := 857) dL_law_476 (by decide) ?_ ?_
      · exact jb_lw_857 hsX hsM hL hk18 _ _
      · refine j_iconst (x := 0) dL_law_479 rfl (by decide) ?_
        exact j_retLaw rfl rfl rfl dL_law_480 ⟨Nat.le_of_ble_eq_true rfl, Nat.le_of_ble_eq_true rfl⟩
    · refine j_aload_n 1 dL_law_481 rfl ?_
      refine j_sload_n 0 dL_law_482 rfl ?_
      refine j_iload_n 3 dL_law_483 rfl ?_
      refine j_iconst (x := 1) dL_law_484 rfl (by decide) ?_
      refine j_iadd dL_law_485 ?_
      refine j_sld dL_law_486 rfl ?_
      refine j_cV (stk := []) [vi ((xs (x3 + 1).toNat).toInt)] X dL_law_487 mv_dl_setArrow lm_L_69 (sub_k hsX 0 rfl rfl) zc_5 (ct_dl_setArrow hsX h) rfl rfl ⟨⟨Nat.le_of_ble_eq_true rfl, Nat.le_of_ble_eq_true rfl⟩, Nat.le_of_ble_eq_true rfl, Nat.le_of_ble_eq_true rfl⟩ (Nat.le_of_ble_eq_true rfl) rfl rfl (fun r27 h27 _ => ?_)
      refine j_aload_n 2 dL_law_490 rfl ?_
      refine j_sload_n 0 dL_law_491 rfl ?_
      refine j_iload_n 3 dL_law_492 rfl ?_
      refine j_iconst (x := 1) dL_law_493 rfl (by decide) ?_
      refine j_iadd dL_law_494 ?_
      refine j_sld dL_law_495 rfl ?_
      refine j_cV (stk := [vi r27]) [vi ((xs (x3 + 1).toNat).toInt)] M dL_law_496 mv_mo_setArrow lm_L_72 (sub_k hsM 0 rfl rfl) zc_6 (ct_mo_setArrow hsM h27) rfl rfl ⟨⟨Nat.le_of_ble_eq_true rfl, Nat.le_of_ble_eq_true rfl⟩, Nat.le_of_ble_eq_true rfl, Nat.le_of_ble_eq_true rfl⟩ (Nat.le_of_ble_eq_true rfl) rfl rfl (fun r28 h28 _ => ?_)
      refine j_icmp_eq (tgt := 857) dL_law_499 (by decide) ?_ ?_
      · exact jb_lw_857 hsX hsM hL hk18 _ _
      · refine j_iconst (x := 0) dL_law_502 rfl (by decide) ?_
        exact j_retLaw rfl rfl rfl dL_law_503 ⟨Nat.le_of_ble_eq_true rfl, Nat.le_of_ble_eq_true rfl⟩
    · refine j_aload_n 1 dL_law_504 rfl ?_
      refine j_sload_n 0 dL_law_505 rfl ?_
      refine j_iload_n 3 dL_law_506 rfl ?_
      refine j_iconst (x := 1) dL_law_507 rfl (by decide) ?_
      refine j_iadd dL_law_508 ?_
      refine j_sld dL_law_509 rfl ?_
      refine j_sload_n 0 dL_law_510 rfl ?_
      refine j_iload_n 3 dL_law_511 rfl ?_
      refine j_iconst (x := 2) dL_law_512 rfl (by decide) ?_
      refine j_iadd dL_law_513 ?_
      refine j_sld dL_law_514 rfl ?_
      refine j_cV (stk := []) [vi ((xs (x3 + 1).toNat).toInt), vi ((xs (x3 + 2).toNat).toInt)] X dL_law_515 mv_dl_point lm_L_73 (sub_k hsX 0 rfl rfl) zc_5 (ct_dl_point hsX h) rfl rfl ⟨⟨Nat.le_of_ble_eq_true rfl, Nat.le_of_ble_eq_true rfl⟩, Nat.le_of_ble_eq_true rfl, Nat.le_of_ble_eq_true rfl⟩ (Nat.le_of_ble_eq_true rfl) rfl rfl (fun r29 h29 _ => ?_)
      refine j_aload_n 2 dL_law_518 rfl ?_
      refine j_sload_n 0 dL_law_519 rfl ?_
      refine j_iload_n 3 dL_law_520 rfl ?_
      refine j_iconst (x := 1) dL_law_521 rfl (by decide) ?_
      refine j_iadd dL_law_522 ?_
      refine j_sld dL_law_523 rfl ?_
      refine j_sload_n 0 dL_law_524 rfl ?_
      refine j_iload_n 3 dL_law_525 rfl ?_
      refine j_iconst (x := 2) dL_law_526 rfl (by decide) ?_
      refine j_iadd dL_law_527 ?_
      refine j_sld dL_law_528 rfl ?_
      refine j_cV (stk := [vi r29]) [vi ((xs (x3 + 1).toNat).toInt), vi ((xs (x3 + 2).toNat).toInt)] M dL_law_529 mv_mo_point lm_L_76 (sub_k hsM 0 rfl rfl) zc_6 (ct_mo_point hsM h29) rfl rfl ⟨⟨Nat.le_of_ble_eq_true rfl, Nat.le_of_ble_eq_true rfl⟩, Nat.le_of_ble_eq_true rfl, Nat.le_of_ble_eq_true rfl⟩ (Nat.le_of_ble_eq_true rfl) rfl rfl (fun r30 h30 _ => ?_)
      refine j_icmp_eq (tgt := 857) dL_law_532 (by decide) ?_ ?_
      · exact jb_lw_857 hsX hsM hL hk18 _ _
      · refine j_iconst (x := 0) dL_law_535 rfl (by decide) ?_
        exact j_retLaw rfl rfl rfl dL_law_536 ⟨Nat.le_of_ble_eq_true rfl, Nat.le_of_ble_eq_true rfl⟩
    · refine j_aload_n 1 dL_law_537 rfl ?_
      refine j_sload_n 0 dL_law_538 rfl ?_
      refine j_iload_n 3 dL_law_539 rfl ?_
      refine j_iconst (x := 1) dL_law_540 rfl (by decide) ?_
      refine j_iadd dL_law_541 ?_
      refine j_sld dL_law_542 rfl ?_
      refine j_sload_n 0 dL_law_543 rfl ?_
      refine j_iload_n 3 dL_law_544 rfl ?_
      refine j_iconst (x := 2) dL_law_545 rfl (by decide) ?_
      refine j_iadd dL_law_546 ?_
      refine j_sld dL_law_547 rfl ?_
      refine j_cV (stk := []) [vi ((xs (x3 + 1).toNat).toInt), vi ((xs (x3 + 2).toNat).toInt)] X dL_law_548 mv_dl_dimension lm_L_77 (sub_k hsX 0 rfl rfl) zc_5 (ct_dl_dimension hsX h) rfl rfl ⟨⟨Nat.le_of_ble_eq_true rfl, Nat.le_of_ble_eq_true rfl⟩, Nat.le_of_ble_eq_true rfl, Nat.le_of_ble_eq_true rfl⟩ (Nat.le_of_ble_eq_true rfl) rfl rfl (fun r31 h31 _ => ?_)
      refine j_aload_n 2 dL_law_551 rfl ?_
      refine j_sload_n 0 dL_law_552 rfl ?_
      refine j_iload_n 3 dL_law_553 rfl ?_
      refine j_iconst (x := 1) dL_law_554 rfl (by decide) ?_
      refine j_iadd dL_law_555 ?_
      refine j_sld dL_law_556 rfl ?_
      refine j_sload_n 0 dL_law_557 rfl ?_
      refine j_iload_n 3 dL_law_558 rfl ?_
      refine j_iconst (x := 2) dL_law_559 rfl (by decide) ?_
      refine j_iadd dL_law_560 ?_
      refine j_sld dL_law_561 rfl ?_
      refine j_cV (stk := [vi r31]) [vi ((xs (x3 + 1).toNat).toInt), vi ((xs (x3 + 2).toNat).toInt)] M dL_law_562 mv_mo_dimension lm_L_80 (sub_k hsM 0 rfl rfl) zc_6 (ct_mo_dimension hsM h31) rfl rfl ⟨⟨Nat.le_of_ble_eq_true rfl, Nat.le_of_ble_eq_true rfl⟩, Nat.le_of_ble_eq_true rfl, Nat.le_of_ble_eq_true rfl⟩ (Nat.le_of_ble_eq_true rfl) rfl rfl (fun r32 h32 _ => ?_)
      refine j_icmp_eq (tgt := 857) dL_law_565 (by decide) ?_ ?_
      · exact jb_lw_857 hsX hsM hL hk18 _ _
      · refine j_iconst (x := 0) dL_law_568 rfl (by decide) ?_
        exact j_retLaw rfl rfl rfl dL_law_569 ⟨Nat.le_of_ble_eq_true rfl, Nat.le_of_ble_eq_true rfl⟩
    · refine j_aload_n 1 dL_law_570 rfl ?_
      refine j_sload_n 0 dL_law_571 rfl ?_
      refine j_iload_n 3 dL_law_572 rfl ?_
      refine j_iconst (x := 1) dL_law_573 rfl (by decide) ?_
      refine j_iadd dL_law_574 ?_
      refine j_sld dL_law_575 rfl ?_
      refine j_sload_n 0 dL_law_576 rfl ?_
      refine j_iload_n 3 dL_law_577 rfl ?_
      refine j_iconst (x := 2) dL_law_578 rfl (by decide) ?_
      refine j_iadd dL_law_579 ?_
      refine j_sld dL_law_580 rfl ?_
      refine j_cV (stk := []) [vi ((xs (x3 + 1).toNat).toInt), vi ((xs (x3 + 2).toNat).toInt)] X dL_law_581 mv_dl_at lm_L_81 (sub_k hsX 0 rfl rfl) zc_5 (ct_dl_at hsX h) rfl rfl ⟨⟨Nat.le_of_ble_eq_true rfl, Nat.le_of_ble_eq_true rfl⟩, Nat.le_of_ble_eq_true rfl, Nat.le_of_ble_eq_true rfl⟩ (Nat.le_of_ble_eq_true rfl) rfl rfl (fun r33 h33 _ => ?_)
      refine j_aload_n 2 dL_law_584 rfl ?_
      refine j_sload_n 0 dL_law_585 rfl ?_
      refine j_iload_n 3 dL_law_586 rfl ?_
      refine j_iconst (x := 1) dL_law_587 rfl (by decide) ?_
      refine j_iadd dL_law_588 ?_
      refine j_sld dL_law_589 rfl ?_
      refine j_sload_n 0 dL_law_590 rfl ?_
      refine j_iload_n 3 dL_law_591 rfl ?_
      refine j_iconst (x := 2) dL_law_592 rfl (by decide) ?_
      refine j_iadd dL_law_593 ?_
      refine j_sld dL_law_594 rfl ?_
      refine j_cV (stk := [vi r33]) [vi ((xs (x3 + 1).toNat).toInt), vi ((xs (x3 + 2).toNat).toInt)] M dL_law_595 mv_mo_at lm_L_84 (sub_k hsM 0 rfl rfl) zc_6 (ct_mo_at hsM h33) rfl rfl ⟨⟨Nat.le_of_ble_eq_true rfl, Nat.le_of_ble_eq_true rfl⟩, Nat.le_of_ble_eq_true rfl, Nat.le_of_ble_eq_true rfl⟩ (Nat.le_of_ble_eq_true rfl) rfl rfl (fun r34 h34 _ => ?_)
      refine j_icmp_eq (tgt := 857) dL_law_598 (by decide) ?_ ?_
      · exact jb_lw_857 hsX hsM hL hk18 _ _
      · refine j_iconst (x := 0) dL_law_601 rfl (by decide) ?_
        exact j_retLaw rfl rfl rfl dL_law_602 ⟨Nat.le_of_ble_eq_true rfl, Nat.le_of_ble_eq_true rfl⟩
    · refine j_aload_n 1 dL_law_603 rfl ?_
      refine j_sload_n 0 dL_law_604 rfl ?_
      refine j_iload_n 3 dL_law_605 rfl ?_
      refine j_iconst (x := 1) dL_law_606 rfl (by decide) ?_
      refine j_iadd dL_law_607 ?_
      refine j_sld dL_law_608 rfl ?_
      refine j_sload_n 0 dL_law_609 rfl ?_
      refine j_iload_n 3 dL_law_610 rfl ?_
      refine j_iconst (x := 2) dL_law_611 rfl (by decide) ?_
      refine j_iadd dL_law_612 ?_
      refine j_sld dL_law_613 rfl ?_
      refine j_sload_n 0 dL_law_614 rfl ?_
      refine j_iload_n 3 dL_law_615 rfl ?_
      refine j_iconst (x := 3) dL_law_616 rfl (by decide) ?_
      refine j_iadd dL_law_617 ?_
      refine j_sld dL_law_618 rfl ?_
      refine j_if_eq (tgt := 626) dL_law_619 (by decide) ?_ ?_
      · refine j_iconst (x := 0) dL_law_626 rfl (by decide) ?_
        exact jb_lw_627 hsX hsM hL hk18 _ _ _ _ _
      · refine j_iconst (x := 1) dL_law_622 rfl (by decide) ?_
        refine j_goto (tgt := 627) dL_law_623 (by decide) ?_
        exact jb_lw_627 hsX hsM hL hk18 _ _ _ _ _
    · refine j_aload_n 1 dL_law_662 rfl ?_
      refine j_sload_n 0 dL_law_663 rfl ?_
      refine j_iload_n 3 dL_law_664 rfl ?_
      refine j_iconst (x := 1) dL_law_665 rfl (by decide) ?_
      refine j_iadd dL_law_666 ?_
      refine j_sld dL_law_667 rfl ?_
      refine j_sload_n 0 dL_law_668 rfl ?_
      refine j_iload_n 3 dL_law_669 rfl ?_
      refine j_iconst (x := 2) dL_law_670 rfl (by decide) ?_
      refine j_iadd dL_law_671 ?_
      refine j_sld dL_law_672 rfl ?_
      refine j_sload_n 0 dL_law_673 rfl ?_
      refine j_iload_n 3 dL_law_674 rfl ?_
      refine j_iconst (x := 3) dL_law_675 rfl (by decide) ?_
      refine j_iadd dL_law_676 ?_
      refine j_sld dL_law_677 rfl ?_
      refine j_cV (stk := []) [vi ((xs (x3 + 1).toNat).toInt), vi ((xs (x3 + 2).toNat).toInt), vi ((xs (x3 + 3).toNat).toInt)] X dL_law_678 mv_dl_ifExact lm_L_90 (sub_k hsX 0 rfl rfl) zc_5 (ct_dl_ifExact hsX h) rfl rfl ⟨⟨Nat.le_of_ble_eq_true rfl, Nat.le_of_ble_eq_true rfl⟩, Nat.le_of_ble_eq_true rfl, Nat.le_of_ble_eq_true rfl⟩ (Nat.le_of_ble_eq_true rfl) rfl rfl (fun r35 h35 _ => ?_)
      refine j_aload_n 2 dL_law_681 rfl ?_
      refine j_sload_n 0 dL_law_682 rfl ?_
      refine j_iload_n 3 dL_law_683 rfl ?_
      refine j_iconst (x := 1) dL_law_684 rfl (by decide) ?_
      refine j_iadd dL_law_685 ?_
      refine j_sld dL_law_686 rfl ?_
      refine j_sload_n 0 dL_law_687 rfl ?_
      refine j_iload_n 3 dL_law_688 rfl ?_
      refine j_iconst (x := 2) dL_law_689 rfl (by decide) ?_
      refine j_iadd dL_law_690 ?_
      refine j_sld dL_law_691 rfl ?_
      refine j_sload_n 0 dL_law_692 rfl ?_
      refine j_iload_n 3 dL_law_693 rfl ?_
      refine j_iconst (x := 3) dL_law_694 rfl (by decide) ?_
      refine j_iadd dL_law_695 ?_
      refine j_sld dL_law_696 rfl ?_
      refine j_cV (stk := [vi r35]) [vi ((xs (x3 + 1).toNat).toInt), vi ((xs (x3 + 2).toNat).toInt), vi ((xs (x3 + 3).toNat).toInt)] M dL_law_697 mv_mo_ifExact lm_L_93 (sub_k hsM 0 rfl rfl) zc_6 (ct_mo_ifExact hsM h35) rfl rfl ⟨⟨Nat.le_of_ble_eq_true rfl, Nat.le_of_ble_eq_true rfl⟩, Nat.le_of_ble_eq_true rfl, Nat.le_of_ble_eq_true rfl⟩ (Nat.le_of_ble_eq_true rfl) rfl rfl (fun r36 h36 _ => ?_)
      refine j_icmp_eq (tgt := 857) dL_law_700 (by decide) ?_ ?_
      · exact jb_lw_857 hsX hsM hL hk18 _ _
      · refine j_iconst (x := 0) dL_law_703 rfl (by decide) ?_
        exact j_retLaw rfl rfl rfl dL_law_704 ⟨Nat.le_of_ble_eq_true rfl, Nat.le_of_ble_eq_true rfl⟩
    · refine j_aload_n 1 dL_law_705 rfl ?_
      refine j_sload_n 0 dL_law_706 rfl ?_
      refine j_iload_n 3 dL_law_707 rfl ?_
      refine j_iconst (x := 1) dL_law_708 rfl (by decide) ?_
      refine j_iadd dL_law_709 ?_
      refine j_sld dL_law_710 rfl ?_
      refine j_sload_n 0 dL_law_711 rfl ?_
      refine j_iload_n 3 dL_law_712 rfl ?_
      refine j_iconst (x := 2) dL_law_713 rfl (by decide) ?_
      refine j_iadd dL_law_714 ?_
      refine j_sld dL_law_715 rfl ?_
      refine j_cV (stk := []) [vi ((xs (x3 + 1).toNat).toInt), vi ((xs (x3 + 2).toNat).toInt)] X dL_law_716 mv_dl_critical lm_L_94 (sub_k hsX 0 rfl rfl) zc_5 (ct_dl_critical hsX h) rfl rfl ⟨⟨Nat.le_of_ble_eq_true rfl, Nat.le_of_ble_eq_true rfl⟩, Nat.le_of_ble_eq_true rfl, Nat.le_of_ble_eq_true rfl⟩ (Nat.le_of_ble_eq_true rfl) rfl rfl (fun r37 h37 _ => ?_)
      refine j_aload_n 2 dL_law_719 rfl ?_
      refine j_sload_n 0 dL_law_720 rfl ?_
      refine j_iload_n 3 dL_law_721 rfl ?_
      refine j_iconst (x := 1) dL_law_722 rfl (by decide) ?_
      refine j_iadd dL_law_723 ?_
      refine j_sld dL_law_724 rfl ?_
      refine j_sload_n 0 dL_law_725 rfl ?_
      refine j_iload_n 3 dL_law_726 rfl ?_
      refine j_iconst (x := 2) dL_law_727 rfl (by decide) ?_
      refine j_iadd dL_law_728 ?_
      refine j_sld dL_law_729 rfl ?_
      refine j_cV (stk := [vi r37]) [vi ((xs (x3 + 1).toNat).toInt), vi ((xs (x3 + 2).toNat).toInt)] M dL_law_730 mv_mo_critical lm_L_97 (sub_k hsM 0 rfl rfl) zc_6 (ct_mo_critical hsM h37) rfl rfl ⟨⟨Nat.le_of_ble_eq_true rfl, Nat.le_of_ble_eq_true rfl⟩, Nat.le_of_ble_eq_true rfl, Nat.le_of_ble_eq_true rfl⟩ (Nat.le_of_ble_eq_true rfl) rfl rfl (fun r38 h38 _ => ?_)
      refine j_icmp_eq (tgt := 857) dL_law_733 (by decide) ?_ ?_
      · exact jb_lw_857 hsX hsM hL hk18 _ _
      · refine j_iconst (x := 0) dL_law_736 rfl (by decide) ?_
        exact j_retLaw rfl rfl rfl dL_law_737 ⟨Nat.le_of_ble_eq_true rfl, Nat.le_of_ble_eq_true rfl⟩
    · refine j_aload_n 1 dL_law_738 rfl ?_
      refine j_cV (stk := []) [] X dL_law_739 mv_dl_needed lm_L_98 (sub_k hsX 0 rfl rfl) zc_5 (ct_dl_needed hsX h) rfl rfl ⟨⟨Nat.le_of_ble_eq_true rfl, Nat.le_of_ble_eq_true rfl⟩, Nat.le_of_ble_eq_true rfl, Nat.le_of_ble_eq_true rfl⟩ (Nat.le_of_ble_eq_true rfl) rfl rfl (fun r39 h39 _ => ?_)
      refine j_aload_n 2 dL_law_742 rfl ?_
      refine j_cV (stk := [vi r39]) [] M dL_law_743 mv_mo_needed lm_L_101 (sub_k hsM 0 rfl rfl) zc_6 (ct_mo_needed hsM h39) rfl rfl ⟨⟨Nat.le_of_ble_eq_true rfl, Nat.le_of_ble_eq_true rfl⟩, Nat.le_of_ble_eq_true rfl, Nat.le_of_ble_eq_true rfl⟩ (Nat.le_of_ble_eq_true rfl) rfl rfl (fun r40 h40 _ => ?_)
      refine j_icmp_eq (tgt := 857) dL_law_746 (by decide) ?_ ?_
      · exact jb_lw_857 hsX hsM hL hk18 _ _
      · refine j_iconst (x := 0) dL_law_749 rfl (by decide) ?_
        exact j_retLaw rfl rfl rfl dL_law_750 ⟨Nat.le_of_ble_eq_true rfl, Nat.le_of_ble_eq_true rfl⟩
    · refine j_aload_n 1 dL_law_751 rfl ?_
      refine j_sload_n 0 dL_law_752 rfl ?_
      refine j_iload_n 3 dL_law_753 rfl ?_
      refine j_iconst (x := 1) dL_law_754 rfl (by decide) ?_
      refine j_iadd dL_law_755 ?_
      refine j_sld dL_law_756 rfl ?_
      refine j_sload_n 0 dL_law_757 rfl ?_
      refine j_iload_n 3 dL_law_758 rfl ?_
      refine j_iconst (x := 2) dL_law_759 rfl (by decide) ?_
      refine j_iadd dL_law_760 ?_
      refine j_sld dL_law_761 rfl ?_
      refine j_cV (stk := []) [vi ((xs (x3 + 1).toNat).toInt), vi ((xs (x3 + 2).toNat).toInt)] X dL_law_762 mv_dl_chain lm_L_102 (sub_k hsX 0 rfl rfl) zc_5 (ct_dl_chain hsX h) rfl rfl ⟨⟨Nat.le_of_ble_eq_true rfl, Nat.le_of_ble_eq_true rfl⟩, Nat.le_of_ble_eq_true rfl, Nat.le_of_ble_eq_true rfl⟩ (Nat.le_of_ble_eq_true rfl) rfl rfl (fun r41 h41 _ => ?_)
      refine j_aload_n 2 dL_law_765 rfl ?_
      refine j_sload_n 0 dL_law_766 rfl ?_
      refine j_iload_n 3 dL_law_767 rfl ?_
      refine j_iconst (x := 1) dL_law_768 rfl (by decide) ?_
      refine j_iadd dL_law_769 ?_
      refine j_sld dL_law_770 rfl ?_
      refine j_sload_n 0 dL_law_771 rfl ?_
      refine j_iload_n 3 dL_law_772 rfl ?_
      refine j_iconst (x := 2) dL_law_773 rfl (by decide) ?_
      refine j_iadd dL_law_774 ?_
      refine j_sld dL_law_775 rfl ?_
      refine j_cV (stk := [vi r41]) [vi ((xs (x3 + 1).toNat).toInt), vi ((xs (x3 + 2).toNat).toInt)] M dL_law_776 mv_mo_chain lm_L_105 (sub_k hsM 0 rfl rfl) zc_6 (ct_mo_chain hsM h41) rfl rfl ⟨⟨Nat.le_of_ble_eq_true rfl, Nat.le_of_ble_eq_true rfl⟩, Nat.le_of_ble_eq_true rfl, Nat.le_of_ble_eq_true rfl⟩ (Nat.le_of_ble_eq_true rfl) rfl rfl (fun r42 h42 _ => ?_)
      refine j_icmp_eq (tgt := 857) dL_law_779 (by decide) ?_ ?_
      · exact jb_lw_857 hsX hsM hL hk18 _ _
      · refine j_iconst (x := 0) dL_law_782 rfl (by decide) ?_
        exact j_retLaw rfl rfl rfl dL_law_783 ⟨Nat.le_of_ble_eq_true rfl, Nat.le_of_ble_eq_true rfl⟩
    · refine j_aload_n 1 dL_law_784 rfl ?_
      refine j_sload_n 0 dL_law_785 rfl ?_
      refine j_iload_n 3 dL_law_786 rfl ?_
      refine j_iconst (x := 1) dL_law_787 rfl (by decide) ?_
      refine j_iadd dL_law_788 ?_
      refine j_sld dL_law_789 rfl ?_
      refine j_cV (stk := []) [vi ((xs (x3 + 1).toNat).toInt)] X dL_law_790 mv_dl_ifArrow lm_L_106 (sub_k hsX 0 rfl rfl) zc_5 (ct_dl_ifArrow hsX h) rfl rfl ⟨⟨Nat.le_of_ble_eq_true rfl, Nat.le_of_ble_eq_true rfl⟩, Nat.le_of_ble_eq_true rfl, Nat.le_of_ble_eq_true rfl⟩ (Nat.le_of_ble_eq_true rfl) rfl rfl (fun r43 h43 _ => ?_)
      refine j_aload_n 2 dL_law_793 rfl ?_
      refine j_sload_n 0 dL_law_794 rfl ?_
      refine j_iload_n 3 dL_law_795 rfl ?_
      refine j_iconst (x := 1) dL_law_796 rfl (by decide) ?_
      refine j_iadd dL_law_797 ?_
      refine j_sld dL_law_798 rfl ?_
      refine j_cV (stk := [vi r43]) [vi ((xs (x3 + 1).toNat).toInt)] M dL_law_799 mv_mo_ifArrow lm_L_109 (sub_k hsM 0 rfl rfl) zc_6 (ct_mo_ifArrow hsM h43) rfl rfl ⟨⟨Nat.le_of_ble_eq_true rfl, Nat.le_of_ble_eq_true rfl⟩, Nat.le_of_ble_eq_true rfl, Nat.le_of_ble_eq_true rfl⟩ (Nat.le_of_ble_eq_true rfl) rfl rfl (fun r44 h44 _ => ?_)
      refine j_icmp_eq (tgt := 857) dL_law_802 (by decide) ?_ ?_
      · exact jb_lw_857 hsX hsM hL hk18 _ _
      · refine j_iconst (x := 0) dL_law_805 rfl (by decide) ?_
        exact j_retLaw rfl rfl rfl dL_law_806 ⟨Nat.le_of_ble_eq_true rfl, Nat.le_of_ble_eq_true rfl⟩
    · refine j_aload_n 1 dL_law_807 rfl ?_
      refine j_cV (stk := []) [] X dL_law_808 mv_dl_undo lm_L_110 (sub_k hsX 0 rfl rfl) zc_5 (ct_dl_undo hsX h) rfl rfl ⟨⟨Nat.le_of_ble_eq_true rfl, Nat.le_of_ble_eq_true rfl⟩, Nat.le_of_ble_eq_true rfl, Nat.le_of_ble_eq_true rfl⟩ (Nat.le_of_ble_eq_true rfl) rfl rfl (fun r45 h45 _ => ?_)
      refine j_aload_n 2 dL_law_811 rfl ?_
      refine j_cV (stk := [vi r45]) [] M dL_law_812 mv_mo_undo lm_L_113 (sub_k hsM 0 rfl rfl) zc_6 (ct_mo_undo hsM h45) rfl rfl ⟨⟨Nat.le_of_ble_eq_true rfl, Nat.le_of_ble_eq_true rfl⟩, Nat.le_of_ble_eq_true rfl, Nat.le_of_ble_eq_true rfl⟩ (Nat.le_of_ble_eq_true rfl) rfl rfl (fun r46 h46 _ => ?_)
      refine j_icmp_eq (tgt := 857) dL_law_815 (by decide) ?_ ?_
      · exact jb_lw_857 hsX hsM hL hk18 _ _
      · refine j_iconst (x := 0) dL_law_818 rfl (by decide) ?_
        exact j_retLaw rfl rfl rfl dL_law_819 ⟨Nat.le_of_ble_eq_true rfl, Nat.le_of_ble_eq_true rfl⟩
    · refine j_aload_n 1 dL_law_820 rfl ?_
      refine j_sload_n 0 dL_law_821 rfl ?_
      refine j_iload_n 3 dL_law_822 rfl ?_
      refine j_iconst (x := 1) dL_law_823 rfl (by decide) ?_
      refine j_iadd dL_law_824 ?_
      refine j_sld dL_law_825 rfl ?_
      refine j_cV (stk := []) [vi ((xs (x3 + 1).toNat).toInt)] X dL_law_826 mv_dl_count lm_L_114 (sub_k hsX 0 rfl rfl) zc_5 (ct_dl_count hsX h) rfl rfl ⟨⟨Nat.le_of_ble_eq_true rfl, Nat.le_of_ble_eq_true rfl⟩, Nat.le_of_ble_eq_true rfl, Nat.le_of_ble_eq_true rfl⟩ (Nat.le_of_ble_eq_true rfl) rfl rfl (fun r47 h47 _ => ?_)
      refine j_aload_n 2 dL_law_829 rfl ?_
      refine j_sload_n 0 dL_law_830 rfl ?_
      refine j_iload_n 3 dL_law_831 rfl ?_
      refine j_iconst (x := 1) dL_law_832 rfl (by decide) ?_
      refine j_iadd dL_law_833 ?_
      refine j_sld dL_law_834 rfl ?_
      refine j_cV (stk := [vi r47]) [vi ((xs (x3 + 1).toNat).toInt)] M dL_law_835 mv_mo_count lm_L_117 (sub_k hsM 0 rfl rfl) zc_6 (ct_mo_count hsM h47) rfl rfl ⟨⟨Nat.le_of_ble_eq_true rfl, Nat.le_of_ble_eq_true rfl⟩, Nat.le_of_ble_eq_true rfl, Nat.le_of_ble_eq_true rfl⟩ (Nat.le_of_ble_eq_true rfl) rfl rfl (fun r48 h48 _ => ?_)
      refine j_icmp_eq (tgt := 857) dL_law_838 (by decide) ?_ ?_
      · exact jb_lw_857 hsX hsM hL hk18 _ _
      · refine j_iconst (x := 0) dL_law_841 rfl (by decide) ?_
        exact j_retLaw rfl rfl rfl dL_law_842 ⟨Nat.le_of_ble_eq_true rfl, Nat.le_of_ble_eq_true rfl⟩
    · refine j_aload_n 1 dL_law_843 rfl ?_
      refine j_cV (stk := []) [] X dL_law_844 mv_dl_digest lm_L_118 (sub_k hsX 0 rfl rfl) zc_5 (ct_dl_digest hsX h) rfl rfl ⟨⟨Nat.le_of_ble_eq_true rfl, Nat.le_of_ble_eq_true rfl⟩, Nat.le_of_ble_eq_true rfl, Nat.le_of_ble_eq_true rfl⟩ (Nat.le_of_ble_eq_true rfl) rfl rfl (fun r49 h49 _ => ?_)
      refine j_aload_n 2 dL_law_847 rfl ?_
      refine j_cV (stk := [vl r49]) [] M dL_law_848 mv_mo_digest lm_L_122 (sub_k hsM 0 rfl rfl) zc_6 (ct_mo_digest hsM h49) rfl rfl ⟨⟨Nat.le_of_ble_eq_true rfl, Nat.le_of_ble_eq_true rfl⟩, Nat.le_of_ble_eq_true rfl, Nat.le_of_ble_eq_true rfl⟩ (Nat.le_of_ble_eq_true rfl) rfl rfl (fun r50 h50 _ => ?_)
      refine j_lcmp dL_law_851 ?_
      refine j_if_eq0 (tgt := 857) dL_law_852 (by decide) ?_
      exact jb_lw_857 hsX hsM hL hk18 _ _
    · exact jb_lw_857 hsX hsM hL hk18 _ _


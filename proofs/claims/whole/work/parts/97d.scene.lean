/-! a scene becomes another one (by program: gen_img.py) -/

theorem im_pbecomeA {C : mMem} {A : aS} (h : RelS C 43 A) (hn : 0 ≤ A 30 2 ∧ A 30 2 ≤ 60) : ∃ D, f_Pe_become [.ref 88, .ref 44] C = some (none, D) ∧ (∀ a, a < 88 ∨ 95 < a → D a = C a) ∧ (∀ i, i < 4 → D 88 i = C 44 i) ∧ (∀ j i : Nat, j < 7 → i < (A 30 2).toNat → D (89 + j) i = C (45 + j) i) := by
  have h0 := h.1
  have h1 := h.2.1
  have h2 := h.2.2.1
  have h3 := h.2.2.2.1
  simp only [Nat.reduceAdd] at h0 h1 h2 h3
  have key : wF f_Pe_become [.ref 88, .ref 44] C (fun o D => o = none ∧ (∀ a, a < 88 ∨ 95 < a → D a = C a) ∧ (∀ i, i < 4 → D 88 i = C 44 i) ∧ (∀ j i : Nat, j < 7 → i < (A 30 2).toNat → D (89 + j) i = C (45 + j) i)) := by
    unfold f_Pe_become
    simp only [↓w_rcv, ↓w_bodyI, ↓w_bodyZ, ↓w_bodyV, true_and, List.length_cons, List.length_nil, Nat.reduceAdd, Nat.reduceSub, Nat.reduceLeDiff, List.replicate_succ, List.replicate_zero, List.cons_append, List.nil_append, List.append_nil, ↓tO_0, ↓tO_2, ↓tO_6, ↓tO_11, ↓tO_18, ↓tO_19, ↓tO_27, ↓tO_32, ↓tO_37, ↓tO_43, ↓tO_44, ↓tO_52, ↓tO_62, ↓tO_63, ↓tO_71, ↓tO_76, ↓tO_81, ↓tO_87, ↓tO_88, ↓tO_96, ↓tO_106, ↓tO_107, ↓tO_115, ↓tO_127, ↓tO_127c, ↓tO_133, ↓tO_133c, ↓tO_139]
    unfold S_Pe_become
    simp (disch := omega) only [↓w_eBin, ↓w_eUn, ↓w_eDiv, ↓w_eRem, ↓w_eFld, ↓w_rFld, ↓w_eALd, ↓w_rALd, ↓w_eALen, ↓w_rStr, ↓w_aNil, ↓w_aI, ↓w_aR, ↓w_N, ↓w_eCall, ↓w_X, ↓w_bCmp, ↓w_bAnd, ↓w_bOr, ↓w_bNot, ↓w_eB, ↓w_eIte, ↓w_sSkip, ↓w_sRet, ↓w_sRetZ, ↓w_sRetV, ↓w_sBrk, ↓w_sCont, ↓w_sIf, ↓w_sSeq, ↓w_sCaC, ↓w_sCaB, ↓w_sSw, ↓w_sCall, ↓w_sPut, ↓w_sPutOp, ↓w_sASt, ↓w_sAOp, ↓w_sADiv, ↓w_eLoc0, ↓w_rLoc0, ↓w_sSet0, ↓w_sSetR0, ↓w_sIncP0, ↓w_sIncM0, ↓w_eLoc1, ↓w_rLoc1, ↓w_sSet1, ↓w_sSetR1, ↓w_sIncP1, ↓w_sIncM1, ↓w_eLoc2, ↓w_rLoc2, ↓w_sSet2, ↓w_sSetR2, ↓w_sIncP2, ↓w_sIncM2, ↓w_eLoc3, ↓w_rLoc3, ↓w_sSet3, ↓w_sSetR3, ↓w_sIncP3, ↓w_sIncM3, ↓w_eLoc4, ↓w_rLoc4, ↓w_sSet4, ↓w_sSetR4, ↓w_sIncP4, ↓w_sIncM4, ↓w_eLoc5, ↓w_rLoc5, ↓w_sSet5, ↓w_sSetR5, ↓w_sIncP5, ↓w_sIncM5, ↓w_eLoc6, ↓w_rLoc6, ↓w_sSet6, ↓w_sSetR6, ↓w_sIncP6, ↓w_sIncM6, ↓w_eLoc7, ↓w_rLoc7, ↓w_sSet7, ↓w_sSetR7, ↓w_sIncP7, ↓w_sIncM7, ↓w_eLoc8, ↓w_rLoc8, ↓w_sSet8, ↓w_sSetR8, ↓w_sIncP8, ↓w_sIncM8, ↓w_eLoc9, ↓w_rLoc9, ↓w_sSet9, ↓w_sSetR9, ↓w_sIncP9, ↓w_sIncM9, ↓w_eLoc10, ↓w_rLoc10, ↓w_sSet10, ↓w_sSetR10, ↓w_sIncP10, ↓w_sIncM10, ↓w_eLoc11, ↓w_rLoc11, ↓w_sSet11, ↓w_sSetR11, ↓w_sIncP11, ↓w_sIncM11, ↓w_eLoc12, ↓w_rLoc12, ↓w_sSet12, ↓w_sSetR12, ↓w_sIncP12, ↓w_sIncM12, ↓w_eLoc13, ↓w_rLoc13, ↓w_sSet13, ↓w_sSetR13, ↓w_sIncP13, ↓w_sIncM13, ↓w_eIntN, ↓w_eIntM, ↓w_bZi, ↓w_add, ↓w_sub, ↓w_mul, ↓w_neg, ↓w_nar, ↓w_div, ↓w_ldne, ↓w_ldat, ↓w_ldj, List.length_cons, List.length_nil, Nat.reduceAdd, Nat.reduceSub, Nat.reduceLeDiff, List.replicate_succ, List.replicate_zero, List.cons_append, List.nil_append, List.append_nil, iz_nI, iz_ofNat, iz_add, iz_sub, iz_mul, cz_lt, cz_le, cz_gt, cz_ge, cz_eq, cz_ne, mIn_iz, iz_nat, decide_eq_true_eq, Bool.not_eq_true', decide_eq_false_iff_not, true_and, and_true, ↓reduceIte, not_true_eq_false, not_false_eq_true, w01_bI, w01_i0, w01_i1, bI_ne', bI_eq', bI_t, bI_f, Bool.false_eq_true, false_implies, forall_const, implies_true, true_implies, imp_self, eq_self, ↓tO_44, ↓tI_44_0, ↓tI_44_1, ↓tI_44_2, ↓tI_44_3, ↓tR_44_4, ↓tR_44_5, ↓tR_44_6, ↓tR_44_7, ↓tR_44_8, ↓tR_44_9, ↓tR_44_10, ↓tA_45, ↓tN_45, ↓tA_46, ↓tN_46, ↓tA_47, ↓tN_47, ↓tA_48, ↓tN_48, ↓tA_49, ↓tN_49, ↓tA_50, ↓tN_50, ↓tA_51, ↓tN_51, ↓tO_88, ↓tI_88_0, ↓tI_88_1, ↓tI_88_2, ↓tI_88_3, ↓tR_88_4, ↓tR_88_5, ↓tR_88_6, ↓tR_88_7, ↓tR_88_8, ↓tR_88_9, ↓tR_88_10, ↓tA_89, ↓tN_89, ↓tA_90, ↓tN_90, ↓tA_91, ↓tN_91, ↓tA_92, ↓tN_92, ↓tA_93, ↓tN_93, ↓tA_94, ↓tN_94, ↓tA_95, ↓tN_95, ↓w_ldcp, ↓w_ldne, ↓w_ldat, ↓w_ldj, ↓wLd_of h0, ↓wLd_of h1, ↓wLd_of h2, ↓wLd_of h3, ↓wf_acp (a := 45) (b := 89) (la := 60) (lb := 60) rfl rfl, ↓wf_acp (a := 46) (b := 90) (la := 60) (lb := 60) rfl rfl, ↓wf_acp (a := 47) (b := 91) (la := 60) (lb := 60) rfl rfl, ↓wf_acp (a := 48) (b := 92) (la := 60) (lb := 60) rfl rfl, ↓wf_acp (a := 49) (b := 93) (la := 60) (lb := 60) rfl rfl, ↓wf_acp (a := 50) (b := 94) (la := 60) (lb := 60) rfl rfl, ↓wf_acp (a := 51) (b := 95) (la := 60) (lb := 60) rfl rfl]
    refine ⟨fun a ha => ?_, fun i hi => ?_, fun j i hj hi => ?_⟩
    · simp (disch := omega) only [cp_ne, up_k]
    · rcases (by omega : i = 0 ∨ i = 1 ∨ i = 2 ∨ i = 3) with rfl | rfl | rfl | rfl
      all_goals simp (disch := omega) only [cp_ne, up_j, up_at, h0, h1, h2, h3]
    · rcases (by omega : j = 0 ∨ j = 1 ∨ j = 2 ∨ j = 3 ∨ j = 4 ∨ j = 5 ∨ j = 6) with rfl | rfl | rfl | rfl | rfl | rfl | rfl
      all_goals simp (disch := omega) only [Nat.reduceAdd, cp_ne, cp_in, up_k]
  obtain ⟨o, D, e, rfl, d1, d2, d3⟩ := wF_of key
  exact ⟨D, e, d1, d2, d3⟩
theorem im_cbecomeA {C : mMem} {A : aS} (h : RelS C 43 A) (hw : Wf A) : ∃ D, f_Ca_become [.ref 96, .ref 52] C = some (none, D) ∧ (∀ a, a < 96 ∨ 104 < a → D a = C a) ∧ (∀ j i : Nat, j < 8 → (i : Int) < A 30 1 → D (97 + j) i = C (53 + j) i) := by
  have hg := hw.1
  unfold WfG at hg
  have hg4 : 0 ≤ A 30 1 ∧ A 30 1 ≤ 4 := by omega
  clear hg
  have key : wF f_Ca_become [.ref 96, .ref 52] C (fun o D => o = none ∧ (∀ a, a < 96 ∨ 104 < a → D a = C a) ∧ (∀ j i : Nat, j < 8 → (i : Int) < A 30 1 → D (97 + j) i = C (53 + j) i)) := by
    unfold f_Ca_become
    simp only [↓w_rcv, ↓w_bodyI, ↓w_bodyZ, ↓w_bodyV, true_and, List.length_cons, List.length_nil, Nat.reduceAdd, Nat.reduceSub, Nat.reduceLeDiff, List.replicate_succ, List.replicate_zero, List.cons_append, List.nil_append, List.append_nil, ↓tO_0, ↓tO_2, ↓tO_6, ↓tO_11, ↓tO_18, ↓tO_19, ↓tO_27, ↓tO_32, ↓tO_37, ↓tO_43, ↓tO_44, ↓tO_52, ↓tO_62, ↓tO_63, ↓tO_71, ↓tO_76, ↓tO_81, ↓tO_87, ↓tO_88, ↓tO_96, ↓tO_106, ↓tO_107, ↓tO_115, ↓tO_127, ↓tO_127c, ↓tO_133, ↓tO_133c, ↓tO_139]
    unfold S_Ca_become
    simp (disch := omega) only [↓w_eBin, ↓w_eUn, ↓w_eDiv, ↓w_eRem, ↓w_eFld, ↓w_rFld, ↓w_eALd, ↓w_rALd, ↓w_eALen, ↓w_rStr, ↓w_aNil, ↓w_aI, ↓w_aR, ↓w_N, ↓w_eCall, ↓w_X, ↓w_bCmp, ↓w_bAnd, ↓w_bOr, ↓w_bNot, ↓w_eB, ↓w_eIte, ↓w_sSkip, ↓w_sRet, ↓w_sRetZ, ↓w_sRetV, ↓w_sBrk, ↓w_sCont, ↓w_sIf, ↓w_sSeq, ↓w_sCaC, ↓w_sCaB, ↓w_sSw, ↓w_sCall, ↓w_sPut, ↓w_sPutOp, ↓w_sASt, ↓w_sAOp, ↓w_sADiv, ↓w_eLoc0, ↓w_rLoc0, ↓w_sSet0, ↓w_sSetR0, ↓w_sIncP0, ↓w_sIncM0, ↓w_eLoc1, ↓w_rLoc1, ↓w_sSet1, ↓w_sSetR1, ↓w_sIncP1, ↓w_sIncM1, ↓w_eLoc2, ↓w_rLoc2, ↓w_sSet2, ↓w_sSetR2, ↓w_sIncP2, ↓w_sIncM2, ↓w_eLoc3, ↓w_rLoc3, ↓w_sSet3, ↓w_sSetR3, ↓w_sIncP3, ↓w_sIncM3, ↓w_eLoc4, ↓w_rLoc4, ↓w_sSet4, ↓w_sSetR4, ↓w_sIncP4, ↓w_sIncM4, ↓w_eLoc5, ↓w_rLoc5, ↓w_sSet5, ↓w_sSetR5, ↓w_sIncP5, ↓w_sIncM5, ↓w_eLoc6, ↓w_rLoc6, ↓w_sSet6, ↓w_sSetR6, ↓w_sIncP6, ↓w_sIncM6, ↓w_eLoc7, ↓w_rLoc7, ↓w_sSet7, ↓w_sSetR7, ↓w_sIncP7, ↓w_sIncM7, ↓w_eLoc8, ↓w_rLoc8, ↓w_sSet8, ↓w_sSetR8, ↓w_sIncP8, ↓w_sIncM8, ↓w_eLoc9, ↓w_rLoc9, ↓w_sSet9, ↓w_sSetR9, ↓w_sIncP9, ↓w_sIncM9, ↓w_eLoc10, ↓w_rLoc10, ↓w_sSet10, ↓w_sSetR10, ↓w_sIncP10, ↓w_sIncM10, ↓w_eLoc11, ↓w_rLoc11, ↓w_sSet11, ↓w_sSetR11, ↓w_sIncP11, ↓w_sIncM11, ↓w_eLoc12, ↓w_rLoc12, ↓w_sSet12, ↓w_sSetR12, ↓w_sIncP12, ↓w_sIncM12, ↓w_eLoc13, ↓w_rLoc13, ↓w_sSet13, ↓w_sSetR13, ↓w_sIncP13, ↓w_sIncM13, ↓w_eIntN, ↓w_eIntM, ↓w_bZi, ↓w_add, ↓w_sub, ↓w_mul, ↓w_neg, ↓w_nar, ↓w_div, ↓w_ldne, ↓w_ldat, ↓w_ldj, List.length_cons, List.length_nil, Nat.reduceAdd, Nat.reduceSub, Nat.reduceLeDiff, List.replicate_succ, List.replicate_zero, List.cons_append, List.nil_append, List.append_nil, iz_nI, iz_ofNat, iz_add, iz_sub, iz_mul, cz_lt, cz_le, cz_gt, cz_ge, cz_eq, cz_ne, mIn_iz, iz_nat, decide_eq_true_eq, Bool.not_eq_true', decide_eq_false_iff_not, true_and, and_true, ↓reduceIte, not_true_eq_false, not_false_eq_true, w01_bI, w01_i0, w01_i1, bI_ne', bI_eq', bI_t, bI_f, Bool.false_eq_true, false_implies, forall_const, implies_true, true_implies, imp_self, eq_self]
    refine wS_up 4 (fun k l D => (∀ a, a < 96 ∨ 104 < a → D a = C a) ∧ (∀ j i : Nat, j < 8 → i < k → (i : Int) < A 30 1 → D (97 + j) i = C (53 + j) i) ∧ l = [.ref 96, .ref 52, .int (iz k)]) ?_ (Nat.zero_le _) ⟨fun _ _ => rfl, fun _ _ _ _ => by omega, rfl⟩
    rintro k l D hk ⟨d1, d2, rfl⟩
    by_cases hlt : k < 4
    · have hlt' : (k : Int) < 4 := by omega
      have e : ∀ a i, (a < 96 ∨ 104 < a) → D a i = C a i := fun a i ha => by rw [d1 a ha]
      have e0 : D 53 (k : Int).toNat = C 53 k := by rw [e 53 _ (by omega), Int.toNat_natCast]
      have e1 : D 54 (k : Int).toNat = C 54 k := by rw [e 54 _ (by omega), Int.toNat_natCast]
      have e2 : D 55 (k : Int).toNat = C 55 k := by rw [e 55 _ (by omega), Int.toNat_natCast]
      have e3 : D 56 (k : Int).toNat = C 56 k := by rw [e 56 _ (by omega), Int.toNat_natCast]
      have e4 : D 57 (k : Int).toNat = C 57 k := by rw [e 57 _ (by omega), Int.toNat_natCast]
      have e5 : D 58 (k : Int).toNat = C 58 k := by rw [e 58 _ (by omega), Int.toNat_natCast]
      have e6 : D 59 (k : Int).toNat = C 59 k := by rw [e 59 _ (by omega), Int.toNat_natCast]
      have e7 : D 60 (k : Int).toNat = C 60 k := by rw [e 60 _ (by omega), Int.toNat_natCast]
      simp (disch := omega) only [↓w_eBin, ↓w_eUn, ↓w_eDiv, ↓w_eRem, ↓w_eFld, ↓w_rFld, ↓w_eALd, ↓w_rALd, ↓w_eALen, ↓w_rStr, ↓w_aNil, ↓w_aI, ↓w_aR, ↓w_N, ↓w_eCall, ↓w_X, ↓w_bCmp, ↓w_bAnd, ↓w_bOr, ↓w_bNot, ↓w_eB, ↓w_eIte, ↓w_sSkip, ↓w_sRet, ↓w_sRetZ, ↓w_sRetV, ↓w_sBrk, ↓w_sCont, ↓w_sIf, ↓w_sSeq, ↓w_sCaC, ↓w_sCaB, ↓w_sSw, ↓w_sCall, ↓w_sPut, ↓w_sPutOp, ↓w_sASt, ↓w_sAOp, ↓w_sADiv, ↓w_eLoc0, ↓w_rLoc0, ↓w_sSet0, ↓w_sSetR0, ↓w_sIncP0, ↓w_sIncM0, ↓w_eLoc1, ↓w_rLoc1, ↓w_sSet1, ↓w_sSetR1, ↓w_sIncP1, ↓w_sIncM1, ↓w_eLoc2, ↓w_rLoc2, ↓w_sSet2, ↓w_sSetR2, ↓w_sIncP2, ↓w_sIncM2, ↓w_eLoc3, ↓w_rLoc3, ↓w_sSet3, ↓w_sSetR3, ↓w_sIncP3, ↓w_sIncM3, ↓w_eLoc4, ↓w_rLoc4, ↓w_sSet4, ↓w_sSetR4, ↓w_sIncP4, ↓w_sIncM4, ↓w_eLoc5, ↓w_rLoc5, ↓w_sSet5, ↓w_sSetR5, ↓w_sIncP5, ↓w_sIncM5, ↓w_eLoc6, ↓w_rLoc6, ↓w_sSet6, ↓w_sSetR6, ↓w_sIncP6, ↓w_sIncM6, ↓w_eLoc7, ↓w_rLoc7, ↓w_sSet7, ↓w_sSetR7, ↓w_sIncP7, ↓w_sIncM7, ↓w_eLoc8, ↓w_rLoc8, ↓w_sSet8, ↓w_sSetR8, ↓w_sIncP8, ↓w_sIncM8, ↓w_eLoc9, ↓w_rLoc9, ↓w_sSet9, ↓w_sSetR9, ↓w_sIncP9, ↓w_sIncM9, ↓w_eLoc10, ↓w_rLoc10, ↓w_sSet10, ↓w_sSetR10, ↓w_sIncP10, ↓w_sIncM10, ↓w_eLoc11, ↓w_rLoc11, ↓w_sSet11, ↓w_sSetR11, ↓w_sIncP11, ↓w_sIncM11, ↓w_eLoc12, ↓w_rLoc12, ↓w_sSet12, ↓w_sSetR12, ↓w_sIncP12, ↓w_sIncM12, ↓w_eLoc13, ↓w_rLoc13, ↓w_sSet13, ↓w_sSetR13, ↓w_sIncP13, ↓w_sIncM13, ↓w_eIntN, ↓w_eIntM, ↓w_bZi, ↓w_add, ↓w_sub, ↓w_mul, ↓w_neg, ↓w_nar, ↓w_div, ↓w_ldne, ↓w_ldat, ↓w_ldj, List.length_cons, List.length_nil, Nat.reduceAdd, Nat.reduceSub, Nat.reduceLeDiff, List.replicate_succ, List.replicate_zero, List.cons_append, List.nil_append, List.append_nil, iz_nI, iz_ofNat, iz_add, iz_sub, iz_mul, cz_lt, cz_le, cz_gt, cz_ge, cz_eq, cz_ne, mIn_iz, iz_nat, decide_eq_true_eq, Bool.not_eq_true', decide_eq_false_iff_not, true_and, and_true, ↓reduceIte, not_true_eq_false, not_false_eq_true, w01_bI, w01_i0, w01_i1, bI_ne', bI_eq', bI_t, bI_f, Bool.false_eq_true, false_implies, forall_const, implies_true, true_implies, imp_self, eq_self, ↓tO_52, ↓tR_52_0, ↓tR_52_1, ↓tR_52_2, ↓tR_52_3, ↓tR_52_4, ↓tR_52_5, ↓tR_52_6, ↓tR_52_7, ↓tA_53, ↓tN_53, ↓tA_54, ↓tN_54, ↓tA_55, ↓tN_55, ↓tA_56, ↓tN_56, ↓tA_57, ↓tN_57, ↓tA_58, ↓tN_58, ↓tA_59, ↓tN_59, ↓tA_60, ↓tN_60, ↓tO_96, ↓tR_96_0, ↓tR_96_1, ↓tR_96_2, ↓tR_96_3, ↓tR_96_4, ↓tR_96_5, ↓tR_96_6, ↓tR_96_7, ↓tA_97, ↓tN_97, ↓tA_98, ↓tN_98, ↓tA_99, ↓tN_99, ↓tA_100, ↓tN_100, ↓tA_101, ↓tN_101, ↓tA_102, ↓tN_102, ↓tA_103, ↓tN_103, ↓tA_104, ↓tN_104, ↓w_ldne, ↓wLd_of e0, ↓wLd_of e1, ↓wLd_of e2, ↓wLd_of e3, ↓wLd_of e4, ↓wLd_of e5, ↓wLd_of e6, ↓wLd_of e7, ↓w_o1, hlt']
      refine ⟨hlt, fun a ha => ?_, fun j i hj hi hc => ?_, rfl⟩
      · simp (disch := omega) only [up_k]; exact d1 a ha
      · have hout : (k : Int) < A 30 1 → mNar .boolean (C 60 k) = C 60 k := by
          intro hkc
          have := (h.2.2.2.2.2.1 k (by omega) hkc).2.2.2.2.2.2.2
          simp only [Nat.reduceAdd, Int.toNat_natCast] at this
          have hcc := hw.2.2.1 k (by omega) hkc
          unfold WfC at hcc
          rw [this]
          rcases (by omega : A 14 k = 0 ∨ A 14 k = 1) with z | z <;> rw [z] <;> decide
        by_cases ei : i = k
        · subst ei
          rw [Int.toNat_natCast]
          rcases (by omega : j = 0 ∨ j = 1 ∨ j = 2 ∨ j = 3 ∨ j = 4 ∨ j = 5 ∨ j = 6 ∨ j = 7) with rfl | rfl | rfl | rfl | rfl | rfl | rfl | rfl
          all_goals simp (disch := omega) only [Nat.reduceAdd, up_k, up_at]
          all_goals first | rfl | exact hout hc
        · have := d2 j i hj (by omega) hc
          rw [Int.toNat_natCast]
          rcases (by omega : j = 0 ∨ j = 1 ∨ j = 2 ∨ j = 3 ∨ j = 4 ∨ j = 5 ∨ j = 6 ∨ j = 7) with rfl | rfl | rfl | rfl | rfl | rfl | rfl | rfl
          all_goals simp (disch := omega) only [Nat.reduceAdd, up_k, up_j] at this ⊢
          all_goals exact this
    · have hlt' : ¬ (k : Int) < 4 := by omega
      have : k = 4 := by omega
      subst this
      simp (disch := omega) only [↓w_eBin, ↓w_eUn, ↓w_eDiv, ↓w_eRem, ↓w_eFld, ↓w_rFld, ↓w_eALd, ↓w_rALd, ↓w_eALen, ↓w_rStr, ↓w_aNil, ↓w_aI, ↓w_aR, ↓w_N, ↓w_eCall, ↓w_X, ↓w_bCmp, ↓w_bAnd, ↓w_bOr, ↓w_bNot, ↓w_eB, ↓w_eIte, ↓w_sSkip, ↓w_sRet, ↓w_sRetZ, ↓w_sRetV, ↓w_sBrk, ↓w_sCont, ↓w_sIf, ↓w_sSeq, ↓w_sCaC, ↓w_sCaB, ↓w_sSw, ↓w_sCall, ↓w_sPut, ↓w_sPutOp, ↓w_sASt, ↓w_sAOp, ↓w_sADiv, ↓w_eLoc0, ↓w_rLoc0, ↓w_sSet0, ↓w_sSetR0, ↓w_sIncP0, ↓w_sIncM0, ↓w_eLoc1, ↓w_rLoc1, ↓w_sSet1, ↓w_sSetR1, ↓w_sIncP1, ↓w_sIncM1, ↓w_eLoc2, ↓w_rLoc2, ↓w_sSet2, ↓w_sSetR2, ↓w_sIncP2, ↓w_sIncM2, ↓w_eLoc3, ↓w_rLoc3, ↓w_sSet3, ↓w_sSetR3, ↓w_sIncP3, ↓w_sIncM3, ↓w_eLoc4, ↓w_rLoc4, ↓w_sSet4, ↓w_sSetR4, ↓w_sIncP4, ↓w_sIncM4, ↓w_eLoc5, ↓w_rLoc5, ↓w_sSet5, ↓w_sSetR5, ↓w_sIncP5, ↓w_sIncM5, ↓w_eLoc6, ↓w_rLoc6, ↓w_sSet6, ↓w_sSetR6, ↓w_sIncP6, ↓w_sIncM6, ↓w_eLoc7, ↓w_rLoc7, ↓w_sSet7, ↓w_sSetR7, ↓w_sIncP7, ↓w_sIncM7, ↓w_eLoc8, ↓w_rLoc8, ↓w_sSet8, ↓w_sSetR8, ↓w_sIncP8, ↓w_sIncM8, ↓w_eLoc9, ↓w_rLoc9, ↓w_sSet9, ↓w_sSetR9, ↓w_sIncP9, ↓w_sIncM9, ↓w_eLoc10, ↓w_rLoc10, ↓w_sSet10, ↓w_sSetR10, ↓w_sIncP10, ↓w_sIncM10, ↓w_eLoc11, ↓w_rLoc11, ↓w_sSet11, ↓w_sSetR11, ↓w_sIncP11, ↓w_sIncM11, ↓w_eLoc12, ↓w_rLoc12, ↓w_sSet12, ↓w_sSetR12, ↓w_sIncP12, ↓w_sIncM12, ↓w_eLoc13, ↓w_rLoc13, ↓w_sSet13, ↓w_sSetR13, ↓w_sIncP13, ↓w_sIncM13, ↓w_eIntN, ↓w_eIntM, ↓w_bZi, ↓w_add, ↓w_sub, ↓w_mul, ↓w_neg, ↓w_nar, ↓w_div, ↓w_ldne, ↓w_ldat, ↓w_ldj, List.length_cons, List.length_nil, Nat.reduceAdd, Nat.reduceSub, Nat.reduceLeDiff, List.replicate_succ, List.replicate_zero, List.cons_append, List.nil_append, List.append_nil, iz_nI, iz_ofNat, iz_add, iz_sub, iz_mul, cz_lt, cz_le, cz_gt, cz_ge, cz_eq, cz_ne, mIn_iz, iz_nat, decide_eq_true_eq, Bool.not_eq_true', decide_eq_false_iff_not, true_and, and_true, ↓reduceIte, not_true_eq_false, not_false_eq_true, w01_bI, w01_i0, w01_i1, bI_ne', bI_eq', bI_t, bI_f, Bool.false_eq_true, false_implies, forall_const, implies_true, true_implies, imp_self, eq_self, hlt']
      exact ⟨d1, fun j i hj hc => d2 j i hj (by omega) hc⟩
  obtain ⟨o, D, e, rfl, d1, d2⟩ := wF_of key
  exact ⟨D, e, d1, d2⟩
theorem im_sceneA {C : mMem} {A : aS} (h : RelS C 43 A) (hw : Wf A) (h0 : A 32 0 = -1) (h1 : A 32 1 = -1) : ∃ D, f_Sc_become [.ref 87, .ref 43] C = some (none, D) ∧ (∀ a, a < 87 ∨ 105 < a → D a = C a) ∧ RelS D 87 A := by
  have hg := hw.1
  unfold WfG at hg
  have hg4 : 0 ≤ A 30 1 ∧ A 30 1 ≤ 4 ∧ 0 ≤ A 30 2 ∧ A 30 2 ≤ 60 := by omega
  clear hg
  have h4 := h.2.2.2.2.2.2.1
  have hC1 : RelS (mUp (mUp (mUp (mUp C 87 4 (iz (A 30 3))) 87 5 (iz (-1))) 87 6 (iz (-1))) 87 7 (iz (-1))) 43 A := rs_same h (fun a i a1 a2 => by simp (disch := omega) only [up_k])
  obtain ⟨D, e1, d1, d2, d3⟩ := im_pbecomeA hC1 (by omega)
  have hC2 : RelS D 43 A := rs_same hC1 (fun a i a1 a2 => by rw [d1 a (by omega)])
  obtain ⟨E, e2, f1, f2⟩ := im_cbecomeA hC2 hw
  have hff : f_Sc_forgetFun [.ref 87] (mUp C 87 4 (iz (A 30 3))) = some (none, mUp (mUp (mUp (mUp C 87 4 (iz (A 30 3))) 87 5 (iz (-1))) 87 6 (iz (-1))) 87 7 (iz (-1))) := by
    apply wF_to
    unfold f_Sc_forgetFun
    simp only [↓w_rcv, ↓w_bodyI, ↓w_bodyZ, ↓w_bodyV, true_and, List.length_cons, List.length_nil, Nat.reduceAdd, Nat.reduceSub, Nat.reduceLeDiff, List.replicate_succ, List.replicate_zero, List.cons_append, List.nil_append, List.append_nil, ↓tO_0, ↓tO_2, ↓tO_6, ↓tO_11, ↓tO_18, ↓tO_19, ↓tO_27, ↓tO_32, ↓tO_37, ↓tO_43, ↓tO_44, ↓tO_52, ↓tO_62, ↓tO_63, ↓tO_71, ↓tO_76, ↓tO_81, ↓tO_87, ↓tO_88, ↓tO_96, ↓tO_106, ↓tO_107, ↓tO_115, ↓tO_127, ↓tO_127c, ↓tO_133, ↓tO_133c, ↓tO_139]
    unfold S_Sc_forgetFun
    simp (disch := omega) only [↓w_eBin, ↓w_eUn, ↓w_eDiv, ↓w_eRem, ↓w_eFld, ↓w_rFld, ↓w_eALd, ↓w_rALd, ↓w_eALen, ↓w_rStr, ↓w_aNil, ↓w_aI, ↓w_aR, ↓w_N, ↓w_eCall, ↓w_X, ↓w_bCmp, ↓w_bAnd, ↓w_bOr, ↓w_bNot, ↓w_eB, ↓w_eIte, ↓w_sSkip, ↓w_sRet, ↓w_sRetZ, ↓w_sRetV, ↓w_sBrk, ↓w_sCont, ↓w_sIf, ↓w_sSeq, ↓w_sCaC, ↓w_sCaB, ↓w_sSw, ↓w_sCall, ↓w_sPut, ↓w_sPutOp, ↓w_sASt, ↓w_sAOp, ↓w_sADiv, ↓w_eLoc0, ↓w_rLoc0, ↓w_sSet0, ↓w_sSetR0, ↓w_sIncP0, ↓w_sIncM0, ↓w_eLoc1, ↓w_rLoc1, ↓w_sSet1, ↓w_sSetR1, ↓w_sIncP1, ↓w_sIncM1, ↓w_eLoc2, ↓w_rLoc2, ↓w_sSet2, ↓w_sSetR2, ↓w_sIncP2, ↓w_sIncM2, ↓w_eLoc3, ↓w_rLoc3, ↓w_sSet3, ↓w_sSetR3, ↓w_sIncP3, ↓w_sIncM3, ↓w_eLoc4, ↓w_rLoc4, ↓w_sSet4, ↓w_sSetR4, ↓w_sIncP4, ↓w_sIncM4, ↓w_eLoc5, ↓w_rLoc5, ↓w_sSet5, ↓w_sSetR5, ↓w_sIncP5, ↓w_sIncM5, ↓w_eLoc6, ↓w_rLoc6, ↓w_sSet6, ↓w_sSetR6, ↓w_sIncP6, ↓w_sIncM6, ↓w_eLoc7, ↓w_rLoc7, ↓w_sSet7, ↓w_sSetR7, ↓w_sIncP7, ↓w_sIncM7, ↓w_eLoc8, ↓w_rLoc8, ↓w_sSet8, ↓w_sSetR8, ↓w_sIncP8, ↓w_sIncM8, ↓w_eLoc9, ↓w_rLoc9, ↓w_sSet9, ↓w_sSetR9, ↓w_sIncP9, ↓w_sIncM9, ↓w_eLoc10, ↓w_rLoc10, ↓w_sSet10, ↓w_sSetR10, ↓w_sIncP10, ↓w_sIncM10, ↓w_eLoc11, ↓w_rLoc11, ↓w_sSet11, ↓w_sSetR11, ↓w_sIncP11, ↓w_sIncM11, ↓w_eLoc12, ↓w_rLoc12, ↓w_sSet12, ↓w_sSetR12, ↓w_sIncP12, ↓w_sIncM12, ↓w_eLoc13, ↓w_rLoc13, ↓w_sSet13, ↓w_sSetR13, ↓w_sIncP13, ↓w_sIncM13, ↓w_eIntN, ↓w_eIntM, ↓w_bZi, ↓w_add, ↓w_sub, ↓w_mul, ↓w_neg, ↓w_nar, ↓w_div, ↓w_ldne, ↓w_ldat, ↓w_ldj, List.length_cons, List.length_nil, Nat.reduceAdd, Nat.reduceSub, Nat.reduceLeDiff, List.replicate_succ, List.replicate_zero, List.cons_append, List.nil_append, List.append_nil, iz_nI, iz_ofNat, iz_add, iz_sub, iz_mul, cz_lt, cz_le, cz_gt, cz_ge, cz_eq, cz_ne, mIn_iz, iz_nat, decide_eq_true_eq, Bool.not_eq_true', decide_eq_false_iff_not, true_and, and_true, ↓reduceIte, not_true_eq_false, not_false_eq_true, w01_bI, w01_i0, w01_i1, bI_ne', bI_eq', bI_t, bI_f, Bool.false_eq_true, false_implies, forall_const, implies_true, true_implies, imp_self, eq_self, ↓tO_87, ↓tR_87_0, ↓tR_87_1, ↓tR_87_2, ↓tR_87_3, ↓tI_87_4, ↓tI_87_5, ↓tI_87_6, ↓tI_87_7, ↓tI_87_8, and_self]
  refine ⟨E, ?_, fun a ha => ?_, ?_⟩
  · apply wF_to
    unfold f_Sc_become
    simp only [↓w_rcv, ↓w_bodyI, ↓w_bodyZ, ↓w_bodyV, true_and, List.length_cons, List.length_nil, Nat.reduceAdd, Nat.reduceSub, Nat.reduceLeDiff, List.replicate_succ, List.replicate_zero, List.cons_append, List.nil_append, List.append_nil, ↓tO_0, ↓tO_2, ↓tO_6, ↓tO_11, ↓tO_18, ↓tO_19, ↓tO_27, ↓tO_32, ↓tO_37, ↓tO_43, ↓tO_44, ↓tO_52, ↓tO_62, ↓tO_63, ↓tO_71, ↓tO_76, ↓tO_81, ↓tO_87, ↓tO_88, ↓tO_96, ↓tO_106, ↓tO_107, ↓tO_115, ↓tO_127, ↓tO_127c, ↓tO_133, ↓tO_133c, ↓tO_139]
    unfold S_Sc_become
    simp (disch := omega) only [↓w_eBin, ↓w_eUn, ↓w_eDiv, ↓w_eRem, ↓w_eFld, ↓w_rFld, ↓w_eALd, ↓w_rALd, ↓w_eALen, ↓w_rStr, ↓w_aNil, ↓w_aI, ↓w_aR, ↓w_N, ↓w_eCall, ↓w_X, ↓w_bCmp, ↓w_bAnd, ↓w_bOr, ↓w_bNot, ↓w_eB, ↓w_eIte, ↓w_sSkip, ↓w_sRet, ↓w_sRetZ, ↓w_sRetV, ↓w_sBrk, ↓w_sCont, ↓w_sIf, ↓w_sSeq, ↓w_sCaC, ↓w_sCaB, ↓w_sSw, ↓w_sCall, ↓w_sPut, ↓w_sPutOp, ↓w_sASt, ↓w_sAOp, ↓w_sADiv, ↓w_eLoc0, ↓w_rLoc0, ↓w_sSet0, ↓w_sSetR0, ↓w_sIncP0, ↓w_sIncM0, ↓w_eLoc1, ↓w_rLoc1, ↓w_sSet1, ↓w_sSetR1, ↓w_sIncP1, ↓w_sIncM1, ↓w_eLoc2, ↓w_rLoc2, ↓w_sSet2, ↓w_sSetR2, ↓w_sIncP2, ↓w_sIncM2, ↓w_eLoc3, ↓w_rLoc3, ↓w_sSet3, ↓w_sSetR3, ↓w_sIncP3, ↓w_sIncM3, ↓w_eLoc4, ↓w_rLoc4, ↓w_sSet4, ↓w_sSetR4, ↓w_sIncP4, ↓w_sIncM4, ↓w_eLoc5, ↓w_rLoc5, ↓w_sSet5, ↓w_sSetR5, ↓w_sIncP5, ↓w_sIncM5, ↓w_eLoc6, ↓w_rLoc6, ↓w_sSet6, ↓w_sSetR6, ↓w_sIncP6, ↓w_sIncM6, ↓w_eLoc7, ↓w_rLoc7, ↓w_sSet7, ↓w_sSetR7, ↓w_sIncP7, ↓w_sIncM7, ↓w_eLoc8, ↓w_rLoc8, ↓w_sSet8, ↓w_sSetR8, ↓w_sIncP8, ↓w_sIncM8, ↓w_eLoc9, ↓w_rLoc9, ↓w_sSet9, ↓w_sSetR9, ↓w_sIncP9, ↓w_sIncM9, ↓w_eLoc10, ↓w_rLoc10, ↓w_sSet10, ↓w_sSetR10, ↓w_sIncP10, ↓w_sIncM10, ↓w_eLoc11, ↓w_rLoc11, ↓w_sSet11, ↓w_sSetR11, ↓w_sIncP11, ↓w_sIncM11, ↓w_eLoc12, ↓w_rLoc12, ↓w_sSet12, ↓w_sSetR12, ↓w_sIncP12, ↓w_sIncM12, ↓w_eLoc13, ↓w_rLoc13, ↓w_sSet13, ↓w_sSetR13, ↓w_sIncP13, ↓w_sIncM13, ↓w_eIntN, ↓w_eIntM, ↓w_bZi, ↓w_add, ↓w_sub, ↓w_mul, ↓w_neg, ↓w_nar, ↓w_div, ↓w_ldne, ↓w_ldat, ↓w_ldj, List.length_cons, List.length_nil, Nat.reduceAdd, Nat.reduceSub, Nat.reduceLeDiff, List.replicate_succ, List.replicate_zero, List.cons_append, List.nil_append, List.append_nil, iz_nI, iz_ofNat, iz_add, iz_sub, iz_mul, cz_lt, cz_le, cz_gt, cz_ge, cz_eq, cz_ne, mIn_iz, iz_nat, decide_eq_true_eq, Bool.not_eq_true', decide_eq_false_iff_not, true_and, and_true, ↓reduceIte, not_true_eq_false, not_false_eq_true, w01_bI, w01_i0, w01_i1, bI_ne', bI_eq', bI_t, bI_f, Bool.false_eq_true, false_implies, forall_const, implies_true, true_implies, imp_self, eq_self, ↓tO_43, ↓tR_43_0, ↓tR_43_1, ↓tR_43_2, ↓tR_43_3, ↓tI_43_4, ↓tI_43_5, ↓tI_43_6, ↓tI_43_7, ↓tI_43_8, ↓tO_87, ↓tR_87_0, ↓tR_87_1, ↓tR_87_2, ↓tR_87_3, ↓tI_87_4, ↓tI_87_5, ↓tI_87_6, ↓tI_87_7, ↓tI_87_8, ↓wLd_of h4, ↓wF_eq hff, ↓wF_eq e1, ↓wF_eq e2, and_self]
  · rw [f1 a (by omega), d1 a (by omega)]; simp (disch := omega) only [up_k]
  · have lo : ∀ a i, (a < 87 ∨ 105 < a) → D a i = C a i := fun a i ha => by rw [d1 a (by omega)]; simp (disch := omega) only [up_k]
    have s107 : ∀ i, i < 4 → E 88 i = C 44 i := fun i hi => by rw [f1 88 (by omega), d2 i hi]; simp (disch := omega) only [up_k]
    have sP : ∀ j i : Nat, j < 7 → i < (A 30 2).toNat → E (89 + j) i = C (45 + j) i := fun j i hj hi => by rw [f1 (89 + j) (by omega), d3 j i hj hi]; simp (disch := omega) only [up_k]
    have sK : ∀ j i : Nat, j < 8 → (i : Int) < A 30 1 → E (97 + j) i = C (53 + j) i := fun j i hj hi => by rw [f2 j i hj hi, lo _ _ (by omega)]
    have s106 : ∀ i, E 87 i = mUp (mUp (mUp (mUp C 87 4 (iz (A 30 3))) 87 5 (iz (-1))) 87 6 (iz (-1))) 87 7 (iz (-1)) 87 i := fun i => by rw [f1 87 (by omega), d1 87 (by omega)]
    obtain ⟨a1, a2, a3, a4, aP, aK, a5, a6, a7, a8⟩ := h
    refine ⟨?_, ?_, ?_, ?_, fun p p0 p1 => ?_, fun c c0 c1 => ?_, ?_, ?_, ?_, fun hh => by omega⟩
    · rw [s107 0 (by omega)]; exact a1
    · rw [s107 1 (by omega)]; exact a2
    · rw [s107 2 (by omega)]; exact a3
    · rw [s107 3 (by omega)]; exact a4
    · obtain ⟨b0, b1, b2, b3, b4, b5, b6⟩ := aP p p0 p1
      have hp : p.toNat < (A 30 2).toNat := by omega
      exact ⟨(sP 0 _ (by omega) hp).trans b0, (sP 1 _ (by omega) hp).trans b1, (sP 2 _ (by omega) hp).trans b2, (sP 3 _ (by omega) hp).trans b3, (sP 4 _ (by omega) hp).trans b4, (sP 5 _ (by omega) hp).trans b5, (sP 6 _ (by omega) hp).trans b6⟩
    · obtain ⟨b0, b1, b2, b3, b4, b5, b6, b7⟩ := aK c c0 c1
      have hp : (c.toNat : Int) < A 30 1 := by omega
      exact ⟨(sK 0 _ (by omega) hp).trans b0, (sK 1 _ (by omega) hp).trans b1, (sK 2 _ (by omega) hp).trans b2, (sK 3 _ (by omega) hp).trans b3, (sK 4 _ (by omega) hp).trans b4, (sK 5 _ (by omega) hp).trans b5, (sK 6 _ (by omega) hp).trans b6, (sK 7 _ (by omega) hp).trans b7⟩
    · rw [s106]; simp (disch := omega) only [up_j, up_at]
    · rw [s106, h1]; simp (disch := omega) only [up_j, up_at]
    · rw [s106, h0, up_at]

theorem im_pbecomeB {C : mMem} {A : aS} (h : RelS C 87 A) (hn : 0 ≤ A 30 2 ∧ A 30 2 ≤ 60) : ∃ D, f_Pe_become [.ref 44, .ref 88] C = some (none, D) ∧ (∀ a, a < 44 ∨ 51 < a → D a = C a) ∧ (∀ i, i < 4 → D 44 i = C 88 i) ∧ (∀ j i : Nat, j < 7 → i < (A 30 2).toNat → D (45 + j) i = C (89 + j) i) := by
  have h0 := h.1
  have h1 := h.2.1
  have h2 := h.2.2.1
  have h3 := h.2.2.2.1
  simp only [Nat.reduceAdd] at h0 h1 h2 h3
  have key : wF f_Pe_become [.ref 44, .ref 88] C (fun o D => o = none ∧ (∀ a, a < 44 ∨ 51 < a → D a = C a) ∧ (∀ i, i < 4 → D 44 i = C 88 i) ∧ (∀ j i : Nat, j < 7 → i < (A 30 2).toNat → D (45 + j) i = C (89 + j) i)) := by
    unfold f_Pe_become
    simp only [↓w_rcv, ↓w_bodyI, ↓w_bodyZ, ↓w_bodyV, true_and, List.length_cons, List.length_nil, Nat.reduceAdd, Nat.reduceSub, Nat.reduceLeDiff, List.replicate_succ, List.replicate_zero, List.cons_append, List.nil_append, List.append_nil, ↓tO_0, ↓tO_2, ↓tO_6, ↓tO_11, ↓tO_18, ↓tO_19, ↓tO_27, ↓tO_32, ↓tO_37, ↓tO_43, ↓tO_44, ↓tO_52, ↓tO_62, ↓tO_63, ↓tO_71, ↓tO_76, ↓tO_81, ↓tO_87, ↓tO_88, ↓tO_96, ↓tO_106, ↓tO_107, ↓tO_115, ↓tO_127, ↓tO_127c, ↓tO_133, ↓tO_133c, ↓tO_139]
    unfold S_Pe_become
    simp (disch := omega) only [↓w_eBin, ↓w_eUn, ↓w_eDiv, ↓w_eRem, ↓w_eFld, ↓w_rFld, ↓w_eALd, ↓w_rALd, ↓w_eALen, ↓w_rStr, ↓w_aNil, ↓w_aI, ↓w_aR, ↓w_N, ↓w_eCall, ↓w_X, ↓w_bCmp, ↓w_bAnd, ↓w_bOr, ↓w_bNot, ↓w_eB, ↓w_eIte, ↓w_sSkip, ↓w_sRet, ↓w_sRetZ, ↓w_sRetV, ↓w_sBrk, ↓w_sCont, ↓w_sIf, ↓w_sSeq, ↓w_sCaC, ↓w_sCaB, ↓w_sSw, ↓w_sCall, ↓w_sPut, ↓w_sPutOp, ↓w_sASt, ↓w_sAOp, ↓w_sADiv, ↓w_eLoc0, ↓w_rLoc0, ↓w_sSet0, ↓w_sSetR0, ↓w_sIncP0, ↓w_sIncM0, ↓w_eLoc1, ↓w_rLoc1, ↓w_sSet1, ↓w_sSetR1, ↓w_sIncP1, ↓w_sIncM1, ↓w_eLoc2, ↓w_rLoc2, ↓w_sSet2, ↓w_sSetR2, ↓w_sIncP2, ↓w_sIncM2, ↓w_eLoc3, ↓w_rLoc3, ↓w_sSet3, ↓w_sSetR3, ↓w_sIncP3, ↓w_sIncM3, ↓w_eLoc4, ↓w_rLoc4, ↓w_sSet4, ↓w_sSetR4, ↓w_sIncP4, ↓w_sIncM4, ↓w_eLoc5, ↓w_rLoc5, ↓w_sSet5, ↓w_sSetR5, ↓w_sIncP5, ↓w_sIncM5, ↓w_eLoc6, ↓w_rLoc6, ↓w_sSet6, ↓w_sSetR6, ↓w_sIncP6, ↓w_sIncM6, ↓w_eLoc7, ↓w_rLoc7, ↓w_sSet7, ↓w_sSetR7, ↓w_sIncP7, ↓w_sIncM7, ↓w_eLoc8, ↓w_rLoc8, ↓w_sSet8, ↓w_sSetR8, ↓w_sIncP8, ↓w_sIncM8, ↓w_eLoc9, ↓w_rLoc9, ↓w_sSet9, ↓w_sSetR9, ↓w_sIncP9, ↓w_sIncM9, ↓w_eLoc10, ↓w_rLoc10, ↓w_sSet10, ↓w_sSetR10, ↓w_sIncP10, ↓w_sIncM10, ↓w_eLoc11, ↓w_rLoc11, ↓w_sSet11, ↓w_sSetR11, ↓w_sIncP11, ↓w_sIncM11, ↓w_eLoc12, ↓w_rLoc12, ↓w_sSet12, ↓w_sSetR12, ↓w_sIncP12, ↓w_sIncM12, ↓w_eLoc13, ↓w_rLoc13, ↓w_sSet13, ↓w_sSetR13, ↓w_sIncP13, ↓w_sIncM13, ↓w_eIntN, ↓w_eIntM, ↓w_bZi, ↓w_add, ↓w_sub, ↓w_mul, ↓w_neg, ↓w_nar, ↓w_div, ↓w_ldne, ↓w_ldat, ↓w_ldj, List.length_cons, List.length_nil, Nat.reduceAdd, Nat.reduceSub, Nat.reduceLeDiff, List.replicate_succ, List.replicate_zero, List.cons_append, List.nil_append, List.append_nil, iz_nI, iz_ofNat, iz_add, iz_sub, iz_mul, cz_lt, cz_le, cz_gt, cz_ge, cz_eq, cz_ne, mIn_iz, iz_nat, decide_eq_true_eq, Bool.not_eq_true', decide_eq_false_iff_not, true_and, and_true, ↓reduceIte, not_true_eq_false, not_false_eq_true, w01_bI, w01_i0, w01_i1, bI_ne', bI_eq', bI_t, bI_f, Bool.false_eq_true, false_implies, forall_const, implies_true, true_implies, imp_self, eq_self, ↓tO_88, ↓tI_88_0, ↓tI_88_1, ↓tI_88_2, ↓tI_88_3, ↓tR_88_4, ↓tR_88_5, ↓tR_88_6, ↓tR_88_7, ↓tR_88_8, ↓tR_88_9, ↓tR_88_10, ↓tA_89, ↓tN_89, ↓tA_90, ↓tN_90, ↓tA_91, ↓tN_91, ↓tA_92, ↓tN_92, ↓tA_93, ↓tN_93, ↓tA_94, ↓tN_94, ↓tA_95, ↓tN_95, ↓tO_44, ↓tI_44_0, ↓tI_44_1, ↓tI_44_2, ↓tI_44_3, ↓tR_44_4, ↓tR_44_5, ↓tR_44_6, ↓tR_44_7, ↓tR_44_8, ↓tR_44_9, ↓tR_44_10, ↓tA_45, ↓tN_45, ↓tA_46, ↓tN_46, ↓tA_47, ↓tN_47, ↓tA_48, ↓tN_48, ↓tA_49, ↓tN_49, ↓tA_50, ↓tN_50, ↓tA_51, ↓tN_51, ↓w_ldcp, ↓w_ldne, ↓w_ldat, ↓w_ldj, ↓wLd_of h0, ↓wLd_of h1, ↓wLd_of h2, ↓wLd_of h3, ↓wf_acp (a := 89) (b := 45) (la := 60) (lb := 60) rfl rfl, ↓wf_acp (a := 90) (b := 46) (la := 60) (lb := 60) rfl rfl, ↓wf_acp (a := 91) (b := 47) (la := 60) (lb := 60) rfl rfl, ↓wf_acp (a := 92) (b := 48) (la := 60) (lb := 60) rfl rfl, ↓wf_acp (a := 93) (b := 49) (la := 60) (lb := 60) rfl rfl, ↓wf_acp (a := 94) (b := 50) (la := 60) (lb := 60) rfl rfl, ↓wf_acp (a := 95) (b := 51) (la := 60) (lb := 60) rfl rfl]
    refine ⟨fun a ha => ?_, fun i hi => ?_, fun j i hj hi => ?_⟩
    · simp (disch := omega) only [cp_ne, up_k]
    · rcases (by omega : i = 0 ∨ i = 1 ∨ i = 2 ∨ i = 3) with rfl | rfl | rfl | rfl
      all_goals simp (disch := omega) only [cp_ne, up_j, up_at, h0, h1, h2, h3]
    · rcases (by omega : j = 0 ∨ j = 1 ∨ j = 2 ∨ j = 3 ∨ j = 4 ∨ j = 5 ∨ j = 6) with rfl | rfl | rfl | rfl | rfl | rfl | rfl
      all_goals simp (disch := omega) only [Nat.reduceAdd, cp_ne, cp_in, up_k]
  obtain ⟨o, D, e, rfl, d1, d2, d3⟩ := wF_of key
  exact ⟨D, e, d1, d2, d3⟩
theorem im_cbecomeB {C : mMem} {A : aS} (h : RelS C 87 A) (hw : Wf A) : ∃ D, f_Ca_become [.ref 52, .ref 96] C = some (none, D) ∧ (∀ a, a < 52 ∨ 60 < a → D a = C a) ∧ (∀ j i : Nat, j < 8 → (i : Int) < A 30 1 → D (53 + j) i = C (97 + j) i) := by
  have hg := hw.1
  unfold WfG at hg
  have hg4 : 0 ≤ A 30 1 ∧ A 30 1 ≤ 4 := by omega
  clear hg
  have key : wF f_Ca_become [.ref 52, .ref 96] C (fun o D => o = none ∧ (∀ a, a < 52 ∨ 60 < a → D a = C a) ∧ (∀ j i : Nat, j < 8 → (i : Int) < A 30 1 → D (53 + j) i = C (97 + j) i)) := by
    unfold f_Ca_become
    simp only [↓w_rcv, ↓w_bodyI, ↓w_bodyZ, ↓w_bodyV, true_and, List.length_cons, List.length_nil, Nat.reduceAdd, Nat.reduceSub, Nat.reduceLeDiff, List.replicate_succ, List.replicate_zero, List.cons_append, List.nil_append, List.append_nil, ↓tO_0, ↓tO_2, ↓tO_6, ↓tO_11, ↓tO_18, ↓tO_19, ↓tO_27, ↓tO_32, ↓tO_37, ↓tO_43, ↓tO_44, ↓tO_52, ↓tO_62, ↓tO_63, ↓tO_71, ↓tO_76, ↓tO_81, ↓tO_87, ↓tO_88, ↓tO_96, ↓tO_106, ↓tO_107, ↓tO_115, ↓tO_127, ↓tO_127c, ↓tO_133, ↓tO_133c, ↓tO_139]
    unfold S_Ca_become
    simp (disch := omega) only [↓w_eBin, ↓w_eUn, ↓w_eDiv, ↓w_eRem, ↓w_eFld, ↓w_rFld, ↓w_eALd, ↓w_rALd, ↓w_eALen, ↓w_rStr, ↓w_aNil, ↓w_aI, ↓w_aR, ↓w_N, ↓w_eCall, ↓w_X, ↓w_bCmp, ↓w_bAnd, ↓w_bOr, ↓w_bNot, ↓w_eB, ↓w_eIte, ↓w_sSkip, ↓w_sRet, ↓w_sRetZ, ↓w_sRetV, ↓w_sBrk, ↓w_sCont, ↓w_sIf, ↓w_sSeq, ↓w_sCaC, ↓w_sCaB, ↓w_sSw, ↓w_sCall, ↓w_sPut, ↓w_sPutOp, ↓w_sASt, ↓w_sAOp, ↓w_sADiv, ↓w_eLoc0, ↓w_rLoc0, ↓w_sSet0, ↓w_sSetR0, ↓w_sIncP0, ↓w_sIncM0, ↓w_eLoc1, ↓w_rLoc1, ↓w_sSet1, ↓w_sSetR1, ↓w_sIncP1, ↓w_sIncM1, ↓w_eLoc2, ↓w_rLoc2, ↓w_sSet2, ↓w_sSetR2, ↓w_sIncP2, ↓w_sIncM2, ↓w_eLoc3, ↓w_rLoc3, ↓w_sSet3, ↓w_sSetR3, ↓w_sIncP3, ↓w_sIncM3, ↓w_eLoc4, ↓w_rLoc4, ↓w_sSet4, ↓w_sSetR4, ↓w_sIncP4, ↓w_sIncM4, ↓w_eLoc5, ↓w_rLoc5, ↓w_sSet5, ↓w_sSetR5, ↓w_sIncP5, ↓w_sIncM5, ↓w_eLoc6, ↓w_rLoc6, ↓w_sSet6, ↓w_sSetR6, ↓w_sIncP6, ↓w_sIncM6, ↓w_eLoc7, ↓w_rLoc7, ↓w_sSet7, ↓w_sSetR7, ↓w_sIncP7, ↓w_sIncM7, ↓w_eLoc8, ↓w_rLoc8, ↓w_sSet8, ↓w_sSetR8, ↓w_sIncP8, ↓w_sIncM8, ↓w_eLoc9, ↓w_rLoc9, ↓w_sSet9, ↓w_sSetR9, ↓w_sIncP9, ↓w_sIncM9, ↓w_eLoc10, ↓w_rLoc10, ↓w_sSet10, ↓w_sSetR10, ↓w_sIncP10, ↓w_sIncM10, ↓w_eLoc11, ↓w_rLoc11, ↓w_sSet11, ↓w_sSetR11, ↓w_sIncP11, ↓w_sIncM11, ↓w_eLoc12, ↓w_rLoc12, ↓w_sSet12, ↓w_sSetR12, ↓w_sIncP12, ↓w_sIncM12, ↓w_eLoc13, ↓w_rLoc13, ↓w_sSet13, ↓w_sSetR13, ↓w_sIncP13, ↓w_sIncM13, ↓w_eIntN, ↓w_eIntM, ↓w_bZi, ↓w_add, ↓w_sub, ↓w_mul, ↓w_neg, ↓w_nar, ↓w_div, ↓w_ldne, ↓w_ldat, ↓w_ldj, List.length_cons, List.length_nil, Nat.reduceAdd, Nat.reduceSub, Nat.reduceLeDiff, List.replicate_succ, List.replicate_zero, List.cons_append, List.nil_append, List.append_nil, iz_nI, iz_ofNat, iz_add, iz_sub, iz_mul, cz_lt, cz_le, cz_gt, cz_ge, cz_eq, cz_ne, mIn_iz, iz_nat, decide_eq_true_eq, Bool.not_eq_true', decide_eq_false_iff_not, true_and, and_true, ↓reduceIte, not_true_eq_false, not_false_eq_true, w01_bI, w01_i0, w01_i1, bI_ne', bI_eq', bI_t, bI_f, Bool.false_eq_true, false_implies, forall_const, implies_true, true_implies, imp_self, eq_self]
    refine wS_up 4 (fun k l D => (∀ a, a < 52 ∨ 60 < a → D a = C a) ∧ (∀ j i : Nat, j < 8 → i < k → (i : Int) < A 30 1 → D (53 + j) i = C (97 + j) i) ∧ l = [.ref 52, .ref 96, .int (iz k)]) ?_ (Nat.zero_le _) ⟨fun _ _ => rfl, fun _ _ _ _ => by omega, rfl⟩
    rintro k l D hk ⟨d1, d2, rfl⟩
    by_cases hlt : k < 4
    · have hlt' : (k : Int) < 4 := by omega
      have e : ∀ a i, (a < 52 ∨ 60 < a) → D a i = C a i := fun a i ha => by rw [d1 a ha]
      have e0 : D 97 (k : Int).toNat = C 97 k := by rw [e 97 _ (by omega), Int.toNat_natCast]
      have e1 : D 98 (k : Int).toNat = C 98 k := by rw [e 98 _ (by omega), Int.toNat_natCast]
      have e2 : D 99 (k : Int).toNat = C 99 k := by rw [e 99 _ (by omega), Int.toNat_natCast]
      have e3 : D 100 (k : Int).toNat = C 100 k := by rw [e 100 _ (by omega), Int.toNat_natCast]
      have e4 : D 101 (k : Int).toNat = C 101 k := by rw [e 101 _ (by omega), Int.toNat_natCast]
      have e5 : D 102 (k : Int).toNat = C 102 k := by rw [e 102 _ (by omega), Int.toNat_natCast]
      have e6 : D 103 (k : Int).toNat = C 103 k := by rw [e 103 _ (by omega), Int.toNat_natCast]
      have e7 : D 104 (k : Int).toNat = C 104 k := by rw [e 104 _ (by omega), Int.toNat_natCast]
      simp (disch := omega) only [↓w_eBin, ↓w_eUn, ↓w_eDiv, ↓w_eRem, ↓w_eFld, ↓w_rFld, ↓w_eALd, ↓w_rALd, ↓w_eALen, ↓w_rStr, ↓w_aNil, ↓w_aI, ↓w_aR, ↓w_N, ↓w_eCall, ↓w_X, ↓w_bCmp, ↓w_bAnd, ↓w_bOr, ↓w_bNot, ↓w_eB, ↓w_eIte, ↓w_sSkip, ↓w_sRet, ↓w_sRetZ, ↓w_sRetV, ↓w_sBrk, ↓w_sCont, ↓w_sIf, ↓w_sSeq, ↓w_sCaC, ↓w_sCaB, ↓w_sSw, ↓w_sCall, ↓w_sPut, ↓w_sPutOp, ↓w_sASt, ↓w_sAOp, ↓w_sADiv, ↓w_eLoc0, ↓w_rLoc0, ↓w_sSet0, ↓w_sSetR0, ↓w_sIncP0, ↓w_sIncM0, ↓w_eLoc1, ↓w_rLoc1, ↓w_sSet1, ↓w_sSetR1, ↓w_sIncP1, ↓w_sIncM1, ↓w_eLoc2, ↓w_rLoc2, ↓w_sSet2, ↓w_sSetR2, ↓w_sIncP2, ↓w_sIncM2, ↓w_eLoc3, ↓w_rLoc3, ↓w_sSet3, ↓w_sSetR3, ↓w_sIncP3, ↓w_sIncM3, ↓w_eLoc4, ↓w_rLoc4, ↓w_sSet4, ↓w_sSetR4, ↓w_sIncP4, ↓w_sIncM4, ↓w_eLoc5, ↓w_rLoc5, ↓w_sSet5, ↓w_sSetR5, ↓w_sIncP5, ↓w_sIncM5, ↓w_eLoc6, ↓w_rLoc6, ↓w_sSet6, ↓w_sSetR6, ↓w_sIncP6, ↓w_sIncM6, ↓w_eLoc7, ↓w_rLoc7, ↓w_sSet7, ↓w_sSetR7, ↓w_sIncP7, ↓w_sIncM7, ↓w_eLoc8, ↓w_rLoc8, ↓w_sSet8, ↓w_sSetR8, ↓w_sIncP8, ↓w_sIncM8, ↓w_eLoc9, ↓w_rLoc9, ↓w_sSet9, ↓w_sSetR9, ↓w_sIncP9, ↓w_sIncM9, ↓w_eLoc10, ↓w_rLoc10, ↓w_sSet10, ↓w_sSetR10, ↓w_sIncP10, ↓w_sIncM10, ↓w_eLoc11, ↓w_rLoc11, ↓w_sSet11, ↓w_sSetR11, ↓w_sIncP11, ↓w_sIncM11, ↓w_eLoc12, ↓w_rLoc12, ↓w_sSet12, ↓w_sSetR12, ↓w_sIncP12, ↓w_sIncM12, ↓w_eLoc13, ↓w_rLoc13, ↓w_sSet13, ↓w_sSetR13, ↓w_sIncP13, ↓w_sIncM13, ↓w_eIntN, ↓w_eIntM, ↓w_bZi, ↓w_add, ↓w_sub, ↓w_mul, ↓w_neg, ↓w_nar, ↓w_div, ↓w_ldne, ↓w_ldat, ↓w_ldj, List.length_cons, List.length_nil, Nat.reduceAdd, Nat.reduceSub, Nat.reduceLeDiff, List.replicate_succ, List.replicate_zero, List.cons_append, List.nil_append, List.append_nil, iz_nI, iz_ofNat, iz_add, iz_sub, iz_mul, cz_lt, cz_le, cz_gt, cz_ge, cz_eq, cz_ne, mIn_iz, iz_nat, decide_eq_true_eq, Bool.not_eq_true', decide_eq_false_iff_not, true_and, and_true, ↓reduceIte, not_true_eq_false, not_false_eq_true, w01_bI, w01_i0, w01_i1, bI_ne', bI_eq', bI_t, bI_f, Bool.false_eq_true, false_implies, forall_const, implies_true, true_implies, imp_self, eq_self, ↓tO_96, ↓tR_96_0, ↓tR_96_1, ↓tR_96_2, ↓tR_96_3, ↓tR_96_4, ↓tR_96_5, ↓tR_96_6, ↓tR_96_7, ↓tA_97, ↓tN_97, ↓tA_98, ↓tN_98, ↓tA_99, ↓tN_99, ↓tA_100, ↓tN_100, ↓tA_101, ↓tN_101, ↓tA_102, ↓tN_102, ↓tA_103, ↓tN_103, ↓tA_104, ↓tN_104, ↓tO_52, ↓tR_52_0, ↓tR_52_1, ↓tR_52_2, ↓tR_52_3, ↓tR_52_4, ↓tR_52_5, ↓tR_52_6, ↓tR_52_7, ↓tA_53, ↓tN_53, ↓tA_54, ↓tN_54, ↓tA_55, ↓tN_55, ↓tA_56, ↓tN_56, ↓tA_57, ↓tN_57, ↓tA_58, ↓tN_58, ↓tA_59, ↓tN_59, ↓tA_60, ↓tN_60, ↓w_ldne, ↓wLd_of e0, ↓wLd_of e1, ↓wLd_of e2, ↓wLd_of e3, ↓wLd_of e4, ↓wLd_of e5, ↓wLd_of e6, ↓wLd_of e7, ↓w_o1, hlt']
      refine ⟨hlt, fun a ha => ?_, fun j i hj hi hc => ?_, rfl⟩
      · simp (disch := omega) only [up_k]; exact d1 a ha
      · have hout : (k : Int) < A 30 1 → mNar .boolean (C 104 k) = C 104 k := by
          intro hkc
          have := (h.2.2.2.2.2.1 k (by omega) hkc).2.2.2.2.2.2.2
          simp only [Nat.reduceAdd, Int.toNat_natCast] at this
          have hcc := hw.2.2.1 k (by omega) hkc
          unfold WfC at hcc
          rw [this]
          rcases (by omega : A 14 k = 0 ∨ A 14 k = 1) with z | z <;> rw [z] <;> decide
        by_cases ei : i = k
        · subst ei
          rw [Int.toNat_natCast]
          rcases (by omega : j = 0 ∨ j = 1 ∨ j = 2 ∨ j = 3 ∨ j = 4 ∨ j = 5 ∨ j = 6 ∨ j = 7) with rfl | rfl | rfl | rfl | rfl | rfl | rfl | rfl
          all_goals simp (disch := omega) only [Nat.reduceAdd, up_k, up_at]
          all_goals first | rfl | exact hout hc
        · have := d2 j i hj (by omega) hc
          rw [Int.toNat_natCast]
          rcases (by omega : j = 0 ∨ j = 1 ∨ j = 2 ∨ j = 3 ∨ j = 4 ∨ j = 5 ∨ j = 6 ∨ j = 7) with rfl | rfl | rfl | rfl | rfl | rfl | rfl | rfl
          all_goals simp (disch := omega) only [Nat.reduceAdd, up_k, up_j] at this ⊢
          all_goals exact this
    · have hlt' : ¬ (k : Int) < 4 := by omega
      have : k = 4 := by omega
      subst this
      simp (disch := omega) only [↓w_eBin, ↓w_eUn, ↓w_eDiv, ↓w_eRem, ↓w_eFld, ↓w_rFld, ↓w_eALd, ↓w_rALd, ↓w_eALen, ↓w_rStr, ↓w_aNil, ↓w_aI, ↓w_aR, ↓w_N, ↓w_eCall, ↓w_X, ↓w_bCmp, ↓w_bAnd, ↓w_bOr, ↓w_bNot, ↓w_eB, ↓w_eIte, ↓w_sSkip, ↓w_sRet, ↓w_sRetZ, ↓w_sRetV, ↓w_sBrk, ↓w_sCont, ↓w_sIf, ↓w_sSeq, ↓w_sCaC, ↓w_sCaB, ↓w_sSw, ↓w_sCall, ↓w_sPut, ↓w_sPutOp, ↓w_sASt, ↓w_sAOp, ↓w_sADiv, ↓w_eLoc0, ↓w_rLoc0, ↓w_sSet0, ↓w_sSetR0, ↓w_sIncP0, ↓w_sIncM0, ↓w_eLoc1, ↓w_rLoc1, ↓w_sSet1, ↓w_sSetR1, ↓w_sIncP1, ↓w_sIncM1, ↓w_eLoc2, ↓w_rLoc2, ↓w_sSet2, ↓w_sSetR2, ↓w_sIncP2, ↓w_sIncM2, ↓w_eLoc3, ↓w_rLoc3, ↓w_sSet3, ↓w_sSetR3, ↓w_sIncP3, ↓w_sIncM3, ↓w_eLoc4, ↓w_rLoc4, ↓w_sSet4, ↓w_sSetR4, ↓w_sIncP4, ↓w_sIncM4, ↓w_eLoc5, ↓w_rLoc5, ↓w_sSet5, ↓w_sSetR5, ↓w_sIncP5, ↓w_sIncM5, ↓w_eLoc6, ↓w_rLoc6, ↓w_sSet6, ↓w_sSetR6, ↓w_sIncP6, ↓w_sIncM6, ↓w_eLoc7, ↓w_rLoc7, ↓w_sSet7, ↓w_sSetR7, ↓w_sIncP7, ↓w_sIncM7, ↓w_eLoc8, ↓w_rLoc8, ↓w_sSet8, ↓w_sSetR8, ↓w_sIncP8, ↓w_sIncM8, ↓w_eLoc9, ↓w_rLoc9, ↓w_sSet9, ↓w_sSetR9, ↓w_sIncP9, ↓w_sIncM9, ↓w_eLoc10, ↓w_rLoc10, ↓w_sSet10, ↓w_sSetR10, ↓w_sIncP10, ↓w_sIncM10, ↓w_eLoc11, ↓w_rLoc11, ↓w_sSet11, ↓w_sSetR11, ↓w_sIncP11, ↓w_sIncM11, ↓w_eLoc12, ↓w_rLoc12, ↓w_sSet12, ↓w_sSetR12, ↓w_sIncP12, ↓w_sIncM12, ↓w_eLoc13, ↓w_rLoc13, ↓w_sSet13, ↓w_sSetR13, ↓w_sIncP13, ↓w_sIncM13, ↓w_eIntN, ↓w_eIntM, ↓w_bZi, ↓w_add, ↓w_sub, ↓w_mul, ↓w_neg, ↓w_nar, ↓w_div, ↓w_ldne, ↓w_ldat, ↓w_ldj, List.length_cons, List.length_nil, Nat.reduceAdd, Nat.reduceSub, Nat.reduceLeDiff, List.replicate_succ, List.replicate_zero, List.cons_append, List.nil_append, List.append_nil, iz_nI, iz_ofNat, iz_add, iz_sub, iz_mul, cz_lt, cz_le, cz_gt, cz_ge, cz_eq, cz_ne, mIn_iz, iz_nat, decide_eq_true_eq, Bool.not_eq_true', decide_eq_false_iff_not, true_and, and_true, ↓reduceIte, not_true_eq_false, not_false_eq_true, w01_bI, w01_i0, w01_i1, bI_ne', bI_eq', bI_t, bI_f, Bool.false_eq_true, false_implies, forall_const, implies_true, true_implies, imp_self, eq_self, hlt']
      exact ⟨d1, fun j i hj hc => d2 j i hj (by omega) hc⟩
  obtain ⟨o, D, e, rfl, d1, d2⟩ := wF_of key
  exact ⟨D, e, d1, d2⟩
theorem im_sceneB {C : mMem} {A : aS} (h : RelS C 87 A) (hw : Wf A) (h0 : A 32 0 = -1) (h1 : A 32 1 = -1) : ∃ D, f_Sc_become [.ref 43, .ref 87] C = some (none, D) ∧ (∀ a, a < 43 ∨ 61 < a → D a = C a) ∧ RelS D 43 A := by
  have hg := hw.1
  unfold WfG at hg
  have hg4 : 0 ≤ A 30 1 ∧ A 30 1 ≤ 4 ∧ 0 ≤ A 30 2 ∧ A 30 2 ≤ 60 := by omega
  clear hg
  have h4 := h.2.2.2.2.2.2.1
  have hC1 : RelS (mUp (mUp (mUp (mUp C 43 4 (iz (A 30 3))) 43 5 (iz (-1))) 43 6 (iz (-1))) 43 7 (iz (-1))) 87 A := rs_same h (fun a i a1 a2 => by simp (disch := omega) only [up_k])
  obtain ⟨D, e1, d1, d2, d3⟩ := im_pbecomeB hC1 (by omega)
  have hC2 : RelS D 87 A := rs_same hC1 (fun a i a1 a2 => by rw [d1 a (by omega)])
  obtain ⟨E, e2, f1, f2⟩ := im_cbecomeB hC2 hw
  have hff : f_Sc_forgetFun [.ref 43] (mUp C 43 4 (iz (A 30 3))) = some (none, mUp (mUp (mUp (mUp C 43 4 (iz (A 30 3))) 43 5 (iz (-1))) 43 6 (iz (-1))) 43 7 (iz (-1))) := by
    apply wF_to
    unfold f_Sc_forgetFun
    simp only [↓w_rcv, ↓w_bodyI, ↓w_bodyZ, ↓w_bodyV, true_and, List.length_cons, List.length_nil, Nat.reduceAdd, Nat.reduceSub, Nat.reduceLeDiff, List.replicate_succ, List.replicate_zero, List.cons_append, List.nil_append, List.append_nil, ↓tO_0, ↓tO_2, ↓tO_6, ↓tO_11, ↓tO_18, ↓tO_19, ↓tO_27, ↓tO_32, ↓tO_37, ↓tO_43, ↓tO_44, ↓tO_52, ↓tO_62, ↓tO_63, ↓tO_71, ↓tO_76, ↓tO_81, ↓tO_87, ↓tO_88, ↓tO_96, ↓tO_106, ↓tO_107, ↓tO_115, ↓tO_127, ↓tO_127c, ↓tO_133, ↓tO_133c, ↓tO_139]
    unfold S_Sc_forgetFun
    simp (disch := omega) only [↓w_eBin, ↓w_eUn, ↓w_eDiv, ↓w_eRem, ↓w_eFld, ↓w_rFld, ↓w_eALd, ↓w_rALd, ↓w_eALen, ↓w_rStr, ↓w_aNil, ↓w_aI, ↓w_aR, ↓w_N, ↓w_eCall, ↓w_X, ↓w_bCmp, ↓w_bAnd, ↓w_bOr, ↓w_bNot, ↓w_eB, ↓w_eIte, ↓w_sSkip, ↓w_sRet, ↓w_sRetZ, ↓w_sRetV, ↓w_sBrk, ↓w_sCont, ↓w_sIf, ↓w_sSeq, ↓w_sCaC, ↓w_sCaB, ↓w_sSw, ↓w_sCall, ↓w_sPut, ↓w_sPutOp, ↓w_sASt, ↓w_sAOp, ↓w_sADiv, ↓w_eLoc0, ↓w_rLoc0, ↓w_sSet0, ↓w_sSetR0, ↓w_sIncP0, ↓w_sIncM0, ↓w_eLoc1, ↓w_rLoc1, ↓w_sSet1, ↓w_sSetR1, ↓w_sIncP1, ↓w_sIncM1, ↓w_eLoc2, ↓w_rLoc2, ↓w_sSet2, ↓w_sSetR2, ↓w_sIncP2, ↓w_sIncM2, ↓w_eLoc3, ↓w_rLoc3, ↓w_sSet3, ↓w_sSetR3, ↓w_sIncP3, ↓w_sIncM3, ↓w_eLoc4, ↓w_rLoc4, ↓w_sSet4, ↓w_sSetR4, ↓w_sIncP4, ↓w_sIncM4, ↓w_eLoc5, ↓w_rLoc5, ↓w_sSet5, ↓w_sSetR5, ↓w_sIncP5, ↓w_sIncM5, ↓w_eLoc6, ↓w_rLoc6, ↓w_sSet6, ↓w_sSetR6, ↓w_sIncP6, ↓w_sIncM6, ↓w_eLoc7, ↓w_rLoc7, ↓w_sSet7, ↓w_sSetR7, ↓w_sIncP7, ↓w_sIncM7, ↓w_eLoc8, ↓w_rLoc8, ↓w_sSet8, ↓w_sSetR8, ↓w_sIncP8, ↓w_sIncM8, ↓w_eLoc9, ↓w_rLoc9, ↓w_sSet9, ↓w_sSetR9, ↓w_sIncP9, ↓w_sIncM9, ↓w_eLoc10, ↓w_rLoc10, ↓w_sSet10, ↓w_sSetR10, ↓w_sIncP10, ↓w_sIncM10, ↓w_eLoc11, ↓w_rLoc11, ↓w_sSet11, ↓w_sSetR11, ↓w_sIncP11, ↓w_sIncM11, ↓w_eLoc12, ↓w_rLoc12, ↓w_sSet12, ↓w_sSetR12, ↓w_sIncP12, ↓w_sIncM12, ↓w_eLoc13, ↓w_rLoc13, ↓w_sSet13, ↓w_sSetR13, ↓w_sIncP13, ↓w_sIncM13, ↓w_eIntN, ↓w_eIntM, ↓w_bZi, ↓w_add, ↓w_sub, ↓w_mul, ↓w_neg, ↓w_nar, ↓w_div, ↓w_ldne, ↓w_ldat, ↓w_ldj, List.length_cons, List.length_nil, Nat.reduceAdd, Nat.reduceSub, Nat.reduceLeDiff, List.replicate_succ, List.replicate_zero, List.cons_append, List.nil_append, List.append_nil, iz_nI, iz_ofNat, iz_add, iz_sub, iz_mul, cz_lt, cz_le, cz_gt, cz_ge, cz_eq, cz_ne, mIn_iz, iz_nat, decide_eq_true_eq, Bool.not_eq_true', decide_eq_false_iff_not, true_and, and_true, ↓reduceIte, not_true_eq_false, not_false_eq_true, w01_bI, w01_i0, w01_i1, bI_ne', bI_eq', bI_t, bI_f, Bool.false_eq_true, false_implies, forall_const, implies_true, true_implies, imp_self, eq_self, ↓tO_43, ↓tR_43_0, ↓tR_43_1, ↓tR_43_2, ↓tR_43_3, ↓tI_43_4, ↓tI_43_5, ↓tI_43_6, ↓tI_43_7, ↓tI_43_8, and_self]
  refine ⟨E, ?_, fun a ha => ?_, ?_⟩
  · apply wF_to
    unfold f_Sc_become
    simp only [↓w_rcv, ↓w_bodyI, ↓w_bodyZ, ↓w_bodyV, true_and, List.length_cons, List.length_nil, Nat.reduceAdd, Nat.reduceSub, Nat.reduceLeDiff, List.replicate_succ, List.replicate_zero, List.cons_append, List.nil_append, List.append_nil, ↓tO_0, ↓tO_2, ↓tO_6, ↓tO_11, ↓tO_18, ↓tO_19, ↓tO_27, ↓tO_32, ↓tO_37, ↓tO_43, ↓tO_44, ↓tO_52, ↓tO_62, ↓tO_63, ↓tO_71, ↓tO_76, ↓tO_81, ↓tO_87, ↓tO_88, ↓tO_96, ↓tO_106, ↓tO_107, ↓tO_115, ↓tO_127, ↓tO_127c, ↓tO_133, ↓tO_133c, ↓tO_139]
    unfold S_Sc_become
    simp (disch := omega) only [↓w_eBin, ↓w_eUn, ↓w_eDiv, ↓w_eRem, ↓w_eFld, ↓w_rFld, ↓w_eALd, ↓w_rALd, ↓w_eALen, ↓w_rStr, ↓w_aNil, ↓w_aI, ↓w_aR, ↓w_N, ↓w_eCall, ↓w_X, ↓w_bCmp, ↓w_bAnd, ↓w_bOr, ↓w_bNot, ↓w_eB, ↓w_eIte, ↓w_sSkip, ↓w_sRet, ↓w_sRetZ, ↓w_sRetV, ↓w_sBrk, ↓w_sCont, ↓w_sIf, ↓w_sSeq, ↓w_sCaC, ↓w_sCaB, ↓w_sSw, ↓w_sCall, ↓w_sPut, ↓w_sPutOp, ↓w_sASt, ↓w_sAOp, ↓w_sADiv, ↓w_eLoc0, ↓w_rLoc0, ↓w_sSet0, ↓w_sSetR0, ↓w_sIncP0, ↓w_sIncM0, ↓w_eLoc1, ↓w_rLoc1, ↓w_sSet1, ↓w_sSetR1, ↓w_sIncP1, ↓w_sIncM1, ↓w_eLoc2, ↓w_rLoc2, ↓w_sSet2, ↓w_sSetR2, ↓w_sIncP2, ↓w_sIncM2, ↓w_eLoc3, ↓w_rLoc3, ↓w_sSet3, ↓w_sSetR3, ↓w_sIncP3, ↓w_sIncM3, ↓w_eLoc4, ↓w_rLoc4, ↓w_sSet4, ↓w_sSetR4, ↓w_sIncP4, ↓w_sIncM4, ↓w_eLoc5, ↓w_rLoc5, ↓w_sSet5, ↓w_sSetR5, ↓w_sIncP5, ↓w_sIncM5, ↓w_eLoc6, ↓w_rLoc6, ↓w_sSet6, ↓w_sSetR6, ↓w_sIncP6, ↓w_sIncM6, ↓w_eLoc7, ↓w_rLoc7, ↓w_sSet7, ↓w_sSetR7, ↓w_sIncP7, ↓w_sIncM7, ↓w_eLoc8, ↓w_rLoc8, ↓w_sSet8, ↓w_sSetR8, ↓w_sIncP8, ↓w_sIncM8, ↓w_eLoc9, ↓w_rLoc9, ↓w_sSet9, ↓w_sSetR9, ↓w_sIncP9, ↓w_sIncM9, ↓w_eLoc10, ↓w_rLoc10, ↓w_sSet10, ↓w_sSetR10, ↓w_sIncP10, ↓w_sIncM10, ↓w_eLoc11, ↓w_rLoc11, ↓w_sSet11, ↓w_sSetR11, ↓w_sIncP11, ↓w_sIncM11, ↓w_eLoc12, ↓w_rLoc12, ↓w_sSet12, ↓w_sSetR12, ↓w_sIncP12, ↓w_sIncM12, ↓w_eLoc13, ↓w_rLoc13, ↓w_sSet13, ↓w_sSetR13, ↓w_sIncP13, ↓w_sIncM13, ↓w_eIntN, ↓w_eIntM, ↓w_bZi, ↓w_add, ↓w_sub, ↓w_mul, ↓w_neg, ↓w_nar, ↓w_div, ↓w_ldne, ↓w_ldat, ↓w_ldj, List.length_cons, List.length_nil, Nat.reduceAdd, Nat.reduceSub, Nat.reduceLeDiff, List.replicate_succ, List.replicate_zero, List.cons_append, List.nil_append, List.append_nil, iz_nI, iz_ofNat, iz_add, iz_sub, iz_mul, cz_lt, cz_le, cz_gt, cz_ge, cz_eq, cz_ne, mIn_iz, iz_nat, decide_eq_true_eq, Bool.not_eq_true', decide_eq_false_iff_not, true_and, and_true, ↓reduceIte, not_true_eq_false, not_false_eq_true, w01_bI, w01_i0, w01_i1, bI_ne', bI_eq', bI_t, bI_f, Bool.false_eq_true, false_implies, forall_const, implies_true, true_implies, imp_self, eq_self, ↓tO_87, ↓tR_87_0, ↓tR_87_1, ↓tR_87_2, ↓tR_87_3, ↓tI_87_4, ↓tI_87_5, ↓tI_87_6, ↓tI_87_7, ↓tI_87_8, ↓tO_43, ↓tR_43_0, ↓tR_43_1, ↓tR_43_2, ↓tR_43_3, ↓tI_43_4, ↓tI_43_5, ↓tI_43_6, ↓tI_43_7, ↓tI_43_8, ↓wLd_of h4, ↓wF_eq hff, ↓wF_eq e1, ↓wF_eq e2, and_self]
  · rw [f1 a (by omega), d1 a (by omega)]; simp (disch := omega) only [up_k]
  · have lo : ∀ a i, (a < 43 ∨ 61 < a) → D a i = C a i := fun a i ha => by rw [d1 a (by omega)]; simp (disch := omega) only [up_k]
    have s107 : ∀ i, i < 4 → E 44 i = C 88 i := fun i hi => by rw [f1 44 (by omega), d2 i hi]; simp (disch := omega) only [up_k]
    have sP : ∀ j i : Nat, j < 7 → i < (A 30 2).toNat → E (45 + j) i = C (89 + j) i := fun j i hj hi => by rw [f1 (45 + j) (by omega), d3 j i hj hi]; simp (disch := omega) only [up_k]
    have sK : ∀ j i : Nat, j < 8 → (i : Int) < A 30 1 → E (53 + j) i = C (97 + j) i := fun j i hj hi => by rw [f2 j i hj hi, lo _ _ (by omega)]
    have s106 : ∀ i, E 43 i = mUp (mUp (mUp (mUp C 43 4 (iz (A 30 3))) 43 5 (iz (-1))) 43 6 (iz (-1))) 43 7 (iz (-1)) 43 i := fun i => by rw [f1 43 (by omega), d1 43 (by omega)]
    obtain ⟨a1, a2, a3, a4, aP, aK, a5, a6, a7, a8⟩ := h
    refine ⟨?_, ?_, ?_, ?_, fun p p0 p1 => ?_, fun c c0 c1 => ?_, ?_, ?_, ?_, fun hh => by omega⟩
    · rw [s107 0 (by omega)]; exact a1
    · rw [s107 1 (by omega)]; exact a2
    · rw [s107 2 (by omega)]; exact a3
    · rw [s107 3 (by omega)]; exact a4
    · obtain ⟨b0, b1, b2, b3, b4, b5, b6⟩ := aP p p0 p1
      have hp : p.toNat < (A 30 2).toNat := by omega
      exact ⟨(sP 0 _ (by omega) hp).trans b0, (sP 1 _ (by omega) hp).trans b1, (sP 2 _ (by omega) hp).trans b2, (sP 3 _ (by omega) hp).trans b3, (sP 4 _ (by omega) hp).trans b4, (sP 5 _ (by omega) hp).trans b5, (sP 6 _ (by omega) hp).trans b6⟩
    · obtain ⟨b0, b1, b2, b3, b4, b5, b6, b7⟩ := aK c c0 c1
      have hp : (c.toNat : Int) < A 30 1 := by omega
      exact ⟨(sK 0 _ (by omega) hp).trans b0, (sK 1 _ (by omega) hp).trans b1, (sK 2 _ (by omega) hp).trans b2, (sK 3 _ (by omega) hp).trans b3, (sK 4 _ (by omega) hp).trans b4, (sK 5 _ (by omega) hp).trans b5, (sK 6 _ (by omega) hp).trans b6, (sK 7 _ (by omega) hp).trans b7⟩
    · rw [s106]; simp (disch := omega) only [up_j, up_at]
    · rw [s106, h1]; simp (disch := omega) only [up_j, up_at]
    · rw [s106, h0, up_at]

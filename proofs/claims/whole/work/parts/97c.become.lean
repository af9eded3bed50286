/-! a world becomes another one (by program: gen_img.py) -/
theorem wf_acpb {C : mMem} {a b la lb : Nat} {n : Int} {Q : Option Int32 → mMem → Prop} (ha : SH[a]? = some (.inl (.boolean, la))) (hb : SH[b]? = some (.inl (.boolean, lb))) (hn : 0 ≤ n ∧ n ≤ la ∧ n ≤ lb ∧ n < 2147483648) (hB : ∀ i : Nat, (i : Int) < n → isB (C a i)) : wF f_J_arraycopy [.ref a, .int (iz 0), .ref b, .int (iz 0), .int (iz n)] C Q ↔ Q none (mCp C a 0 b 0 n.toNat) := by
  apply wF_eq
  have e0 : (iz 0).toNatClampNeg = 0 := by decide
  have en : (iz n).toNatClampNeg = n.toNat := iz_nat (by omega)
  have h0 : (0 : Int32) ≤ iz 0 := by decide
  have h1 : (0 : Int32) ≤ iz n := by
    have : iz 0 ≤ iz n := (iz_le (by omega)).mpr (by omega)
    exact this
  simp only [f_J_arraycopy, ha, hb, e0, en]
  rw [if_pos]
  refine ⟨trivial, Or.inr ⟨trivial, ?_⟩, h0, h0, h1, by omega, by omega⟩
  rw [List.all_eq_true]
  intro i hi
  have hi := List.mem_range.mp hi
  rw [Nat.zero_add]
  rcases hB i (by omega) with e | e <;> rw [e] <;> decide

theorem im_towerA {C : mMem} (hB : ∀ i, i < 320 → isB (C 25 i)) : ∃ D, f_Tw_become [.ref 63, .ref 19] C = some (none, D) ∧ (∀ a, a < 63 ∨ 69 < a → D a = C a) ∧ (∀ i, i < 3 → D 63 i = C 19 i) ∧ (∀ j i : Nat, j < 5 → i < 4 → D (64 + j) i = C (20 + j) i) ∧ (∀ i, i < 320 → D 69 i = C 25 i) := by
  have key : wF f_Tw_become [.ref 63, .ref 19] C (fun o D => o = none ∧ (∀ a, a < 63 ∨ 69 < a → D a = C a) ∧ (∀ i, i < 3 → D 63 i = C 19 i) ∧ (∀ j i : Nat, j < 5 → i < 4 → D (64 + j) i = C (20 + j) i) ∧ (∀ i, i < 320 → D 69 i = C 25 i)) := by
    have h0 : C 19 0 = C 19 0 := rfl
    have h1 : C 19 1 = C 19 1 := rfl
    have h2 : C 19 2 = C 19 2 := rfl
    unfold f_Tw_become
    simp only [↓w_rcv, ↓w_bodyI, ↓w_bodyZ, ↓w_bodyV, true_and, List.length_cons, List.length_nil, Nat.reduceAdd, Nat.reduceSub, Nat.reduceLeDiff, List.replicate_succ, List.replicate_zero, List.cons_append, List.nil_append, List.append_nil, ↓tO_0, ↓tO_2, ↓tO_6, ↓tO_11, ↓tO_18, ↓tO_19, ↓tO_27, ↓tO_32, ↓tO_37, ↓tO_43, ↓tO_44, ↓tO_52, ↓tO_62, ↓tO_63, ↓tO_71, ↓tO_76, ↓tO_81, ↓tO_87, ↓tO_88, ↓tO_96, ↓tO_106, ↓tO_107, ↓tO_115, ↓tO_127, ↓tO_127c, ↓tO_133, ↓tO_133c, ↓tO_139]
    unfold S_Tw_become
    simp (disch := omega) only [↓w_eBin, ↓w_eUn, ↓w_eDiv, ↓w_eRem, ↓w_eFld, ↓w_rFld, ↓w_eALd, ↓w_rALd, ↓w_eALen, ↓w_rStr, ↓w_aNil, ↓w_aI, ↓w_aR, ↓w_N, ↓w_eCall, ↓w_X, ↓w_bCmp, ↓w_bAnd, ↓w_bOr, ↓w_bNot, ↓w_eB, ↓w_eIte, ↓w_sSkip, ↓w_sRet, ↓w_sRetZ, ↓w_sRetV, ↓w_sBrk, ↓w_sCont, ↓w_sIf, ↓w_sSeq, ↓w_sCaC, ↓w_sCaB, ↓w_sSw, ↓w_sCall, ↓w_sPut, ↓w_sPutOp, ↓w_sASt, ↓w_sAOp, ↓w_sADiv, ↓w_eLoc0, ↓w_rLoc0, ↓w_sSet0, ↓w_sSetR0, ↓w_sIncP0, ↓w_sIncM0, ↓w_eLoc1, ↓w_rLoc1, ↓w_sSet1, ↓w_sSetR1, ↓w_sIncP1, ↓w_sIncM1, ↓w_eLoc2, ↓w_rLoc2, ↓w_sSet2, ↓w_sSetR2, ↓w_sIncP2, ↓w_sIncM2, ↓w_eLoc3, ↓w_rLoc3, ↓w_sSet3, ↓w_sSetR3, ↓w_sIncP3, ↓w_sIncM3, ↓w_eLoc4, ↓w_rLoc4, ↓w_sSet4, ↓w_sSetR4, ↓w_sIncP4, ↓w_sIncM4, ↓w_eLoc5, ↓w_rLoc5, ↓w_sSet5, ↓w_sSetR5, ↓w_sIncP5, ↓w_sIncM5, ↓w_eLoc6, ↓w_rLoc6, ↓w_sSet6, ↓w_sSetR6, ↓w_sIncP6, ↓w_sIncM6, ↓w_eLoc7, ↓w_rLoc7, ↓w_sSet7, ↓w_sSetR7, ↓w_sIncP7, ↓w_sIncM7, ↓w_eLoc8, ↓w_rLoc8, ↓w_sSet8, ↓w_sSetR8, ↓w_sIncP8, ↓w_sIncM8, ↓w_eLoc9, ↓w_rLoc9, ↓w_sSet9, ↓w_sSetR9, ↓w_sIncP9, ↓w_sIncM9, ↓w_eLoc10, ↓w_rLoc10, ↓w_sSet10, ↓w_sSetR10, ↓w_sIncP10, ↓w_sIncM10, ↓w_eLoc11, ↓w_rLoc11, ↓w_sSet11, ↓w_sSetR11, ↓w_sIncP11, ↓w_sIncM11, ↓w_eLoc12, ↓w_rLoc12, ↓w_sSet12, ↓w_sSetR12, ↓w_sIncP12, ↓w_sIncM12, ↓w_eLoc13, ↓w_rLoc13, ↓w_sSet13, ↓w_sSetR13, ↓w_sIncP13, ↓w_sIncM13, ↓w_eIntN, ↓w_eIntM, ↓w_bZi, ↓w_add, ↓w_sub, ↓w_mul, ↓w_neg, ↓w_nar, ↓w_div, ↓w_ldne, ↓w_ldat, ↓w_ldj, List.length_cons, List.length_nil, Nat.reduceAdd, Nat.reduceSub, Nat.reduceLeDiff, List.replicate_succ, List.replicate_zero, List.cons_append, List.nil_append, List.append_nil, iz_nI, iz_ofNat, iz_add, iz_sub, iz_mul, cz_lt, cz_le, cz_gt, cz_ge, cz_eq, cz_ne, mIn_iz, iz_nat, decide_eq_true_eq, Bool.not_eq_true', decide_eq_false_iff_not, true_and, and_true, ↓reduceIte, not_true_eq_false, not_false_eq_true, w01_bI, w01_i0, w01_i1, bI_ne', bI_eq', bI_t, bI_f, Bool.false_eq_true, false_implies, forall_const, implies_true, true_implies, imp_self, eq_self, ↓tO_19, ↓tI_19_0, ↓tI_19_1, ↓tI_19_2, ↓tR_19_3, ↓tR_19_4, ↓tR_19_5, ↓tR_19_6, ↓tR_19_7, ↓tR_19_8, ↓tA_20, ↓tN_20, ↓tA_21, ↓tN_21, ↓tA_22, ↓tN_22, ↓tA_23, ↓tN_23, ↓tA_24, ↓tN_24, ↓tA_25, ↓tN_25, ↓tO_63, ↓tI_63_0, ↓tI_63_1, ↓tI_63_2, ↓tR_63_3, ↓tR_63_4, ↓tR_63_5, ↓tR_63_6, ↓tR_63_7, ↓tR_63_8, ↓tA_64, ↓tN_64, ↓tA_65, ↓tN_65, ↓tA_66, ↓tN_66, ↓tA_67, ↓tN_67, ↓tA_68, ↓tN_68, ↓tA_69, ↓tN_69, ↓w_ldcp, ↓w_ldne, ↓w_ldat, ↓w_ldj, ↓wLd_of h0, ↓wLd_of h1, ↓wLd_of h2, ↓wf_acp (a := 20) (b := 64) (la := 4) (lb := 4) rfl rfl, ↓wf_acp (a := 21) (b := 65) (la := 4) (lb := 4) rfl rfl, ↓wf_acp (a := 22) (b := 66) (la := 4) (lb := 4) rfl rfl, ↓wf_acp (a := 23) (b := 67) (la := 4) (lb := 4) rfl rfl, ↓wf_acp (a := 24) (b := 68) (la := 4) (lb := 4) rfl rfl]
    rw [wf_acpb (a := 25) (b := 69) (la := 320) (lb := 320) rfl rfl (by omega) (fun i hi => by simp (disch := omega) only [cp_ne, up_k]; exact hB i (by omega))]
    simp only [↓w_N]
    refine ⟨fun a ha => ?_, fun i hi => ?_, fun j i hj hi => ?_, fun i hi => ?_⟩
    · simp (disch := omega) only [cp_ne, up_k]
    · rcases (by omega : i = 0 ∨ i = 1 ∨ i = 2) with rfl | rfl | rfl
      all_goals simp (disch := omega) only [cp_ne, up_j, up_at]
    · rcases (by omega : j = 0 ∨ j = 1 ∨ j = 2 ∨ j = 3 ∨ j = 4) with rfl | rfl | rfl | rfl | rfl
      all_goals simp (disch := omega) only [Nat.reduceAdd, Int.reduceToNat, cp_ne, cp_in, up_k]
    · simp (disch := omega) only [cp_in, cp_ne, up_k, Int.reduceToNat]
  obtain ⟨o, D, e, rfl, d1⟩ := wF_of key
  exact ⟨D, e, d1⟩

theorem im_towerB {C : mMem} (hB : ∀ i, i < 320 → isB (C 69 i)) : ∃ D, f_Tw_become [.ref 19, .ref 63] C = some (none, D) ∧ (∀ a, a < 19 ∨ 25 < a → D a = C a) ∧ (∀ i, i < 3 → D 19 i = C 63 i) ∧ (∀ j i : Nat, j < 5 → i < 4 → D (20 + j) i = C (64 + j) i) ∧ (∀ i, i < 320 → D 25 i = C 69 i) := by
  have key : wF f_Tw_become [.ref 19, .ref 63] C (fun o D => o = none ∧ (∀ a, a < 19 ∨ 25 < a → D a = C a) ∧ (∀ i, i < 3 → D 19 i = C 63 i) ∧ (∀ j i : Nat, j < 5 → i < 4 → D (20 + j) i = C (64 + j) i) ∧ (∀ i, i < 320 → D 25 i = C 69 i)) := by
    have h0 : C 63 0 = C 63 0 := rfl
    have h1 : C 63 1 = C 63 1 := rfl
    have h2 : C 63 2 = C 63 2 := rfl
    unfold f_Tw_become
    simp only [↓w_rcv, ↓w_bodyI, ↓w_bodyZ, ↓w_bodyV, true_and, List.length_cons, List.length_nil, Nat.reduceAdd, Nat.reduceSub, Nat.reduceLeDiff, List.replicate_succ, List.replicate_zero, List.cons_append, List.nil_append, List.append_nil, ↓tO_0, ↓tO_2, ↓tO_6, ↓tO_11, ↓tO_18, ↓tO_19, ↓tO_27, ↓tO_32, ↓tO_37, ↓tO_43, ↓tO_44, ↓tO_52, ↓tO_62, ↓tO_63, ↓tO_71, ↓tO_76, ↓tO_81, ↓tO_87, ↓tO_88, ↓tO_96, ↓tO_106, ↓tO_107, ↓tO_115, ↓tO_127, ↓tO_127c, ↓tO_133, ↓tO_133c, ↓tO_139]
    unfold S_Tw_become
    simp (disch := omega) only [↓w_eBin, ↓w_eUn, ↓w_eDiv, ↓w_eRem, ↓w_eFld, ↓w_rFld, ↓w_eALd, ↓w_rALd, ↓w_eALen, ↓w_rStr, ↓w_aNil, ↓w_aI, ↓w_aR, ↓w_N, ↓w_eCall, ↓w_X, ↓w_bCmp, ↓w_bAnd, ↓w_bOr, ↓w_bNot, ↓w_eB, ↓w_eIte, ↓w_sSkip, ↓w_sRet, ↓w_sRetZ, ↓w_sRetV, ↓w_sBrk, ↓w_sCont, ↓w_sIf, ↓w_sSeq, ↓w_sCaC, ↓w_sCaB, ↓w_sSw, ↓w_sCall, ↓w_sPut, ↓w_sPutOp, ↓w_sASt, ↓w_sAOp, ↓w_sADiv, ↓w_eLoc0, ↓w_rLoc0, ↓w_sSet0, ↓w_sSetR0, ↓w_sIncP0, ↓w_sIncM0, ↓w_eLoc1, ↓w_rLoc1, ↓w_sSet1, ↓w_sSetR1, ↓w_sIncP1, ↓w_sIncM1, ↓w_eLoc2, ↓w_rLoc2, ↓w_sSet2, ↓w_sSetR2, ↓w_sIncP2, ↓w_sIncM2, ↓w_eLoc3, ↓w_rLoc3, ↓w_sSet3, ↓w_sSetR3, ↓w_sIncP3, ↓w_sIncM3, ↓w_eLoc4, ↓w_rLoc4, ↓w_sSet4, ↓w_sSetR4, ↓w_sIncP4, ↓w_sIncM4, ↓w_eLoc5, ↓w_rLoc5, ↓w_sSet5, ↓w_sSetR5, ↓w_sIncP5, ↓w_sIncM5, ↓w_eLoc6, ↓w_rLoc6, ↓w_sSet6, ↓w_sSetR6, ↓w_sIncP6, ↓w_sIncM6, ↓w_eLoc7, ↓w_rLoc7, ↓w_sSet7, ↓w_sSetR7, ↓w_sIncP7, ↓w_sIncM7, ↓w_eLoc8, ↓w_rLoc8, ↓w_sSet8, ↓w_sSetR8, ↓w_sIncP8, ↓w_sIncM8, ↓w_eLoc9, ↓w_rLoc9, ↓w_sSet9, ↓w_sSetR9, ↓w_sIncP9, ↓w_sIncM9, ↓w_eLoc10, ↓w_rLoc10, ↓w_sSet10, ↓w_sSetR10, ↓w_sIncP10, ↓w_sIncM10, ↓w_eLoc11, ↓w_rLoc11, ↓w_sSet11, ↓w_sSetR11, ↓w_sIncP11, ↓w_sIncM11, ↓w_eLoc12, ↓w_rLoc12, ↓w_sSet12, ↓w_sSetR12, ↓w_sIncP12, ↓w_sIncM12, ↓w_eLoc13, ↓w_rLoc13, ↓w_sSet13, ↓w_sSetR13, ↓w_sIncP13, ↓w_sIncM13, ↓w_eIntN, ↓w_eIntM, ↓w_bZi, ↓w_add, ↓w_sub, ↓w_mul, ↓w_neg, ↓w_nar, ↓w_div, ↓w_ldne, ↓w_ldat, ↓w_ldj, List.length_cons, List.length_nil, Nat.reduceAdd, Nat.reduceSub, Nat.reduceLeDiff, List.replicate_succ, List.replicate_zero, List.cons_append, List.nil_append, List.append_nil, iz_nI, iz_ofNat, iz_add, iz_sub, iz_mul, cz_lt, cz_le, cz_gt, cz_ge, cz_eq, cz_ne, mIn_iz, iz_nat, decide_eq_true_eq, Bool.not_eq_true', decide_eq_false_iff_not, true_and, and_true, ↓reduceIte, not_true_eq_false, not_false_eq_true, w01_bI, w01_i0, w01_i1, bI_ne', bI_eq', bI_t, bI_f, Bool.false_eq_true, false_implies, forall_const, implies_true, true_implies, imp_self, eq_self, ↓tO_63, ↓tI_63_0, ↓tI_63_1, ↓tI_63_2, ↓tR_63_3, ↓tR_63_4, ↓tR_63_5, ↓tR_63_6, ↓tR_63_7, ↓tR_63_8, ↓tA_64, ↓tN_64, ↓tA_65, ↓tN_65, ↓tA_66, ↓tN_66, ↓tA_67, ↓tN_67, ↓tA_68, ↓tN_68, ↓tA_69, ↓tN_69, ↓tO_19, ↓tI_19_0, ↓tI_19_1, ↓tI_19_2, ↓tR_19_3, ↓tR_19_4, ↓tR_19_5, ↓tR_19_6, ↓tR_19_7, ↓tR_19_8, ↓tA_20, ↓tN_20, ↓tA_21, ↓tN_21, ↓tA_22, ↓tN_22, ↓tA_23, ↓tN_23, ↓tA_24, ↓tN_24, ↓tA_25, ↓tN_25, ↓w_ldcp, ↓w_ldne, ↓w_ldat, ↓w_ldj, ↓wLd_of h0, ↓wLd_of h1, ↓wLd_of h2, ↓wf_acp (a := 64) (b := 20) (la := 4) (lb := 4) rfl rfl, ↓wf_acp (a := 65) (b := 21) (la := 4) (lb := 4) rfl rfl, ↓wf_acp (a := 66) (b := 22) (la := 4) (lb := 4) rfl rfl, ↓wf_acp (a := 67) (b := 23) (la := 4) (lb := 4) rfl rfl, ↓wf_acp (a := 68) (b := 24) (la := 4) (lb := 4) rfl rfl]
    rw [wf_acpb (a := 69) (b := 25) (la := 320) (lb := 320) rfl rfl (by omega) (fun i hi => by simp (disch := omega) only [cp_ne, up_k]; exact hB i (by omega))]
    simp only [↓w_N]
    refine ⟨fun a ha => ?_, fun i hi => ?_, fun j i hj hi => ?_, fun i hi => ?_⟩
    · simp (disch := omega) only [cp_ne, up_k]
    · rcases (by omega : i = 0 ∨ i = 1 ∨ i = 2) with rfl | rfl | rfl
      all_goals simp (disch := omega) only [cp_ne, up_j, up_at]
    · rcases (by omega : j = 0 ∨ j = 1 ∨ j = 2 ∨ j = 3 ∨ j = 4) with rfl | rfl | rfl | rfl | rfl
      all_goals simp (disch := omega) only [Nat.reduceAdd, Int.reduceToNat, cp_ne, cp_in, up_k]
    · simp (disch := omega) only [cp_in, cp_ne, up_k, Int.reduceToNat]
  obtain ⟨o, D, e, rfl, d1⟩ := wF_of key
  exact ⟨D, e, d1⟩

theorem im_towerT {C : mMem} (hB : ∀ i, i < 320 → isB (C 17 i)) : ∃ D, f_Tw_become [.ref 19, .ref 11] C = some (none, D) ∧ (∀ a, a < 19 ∨ 25 < a → D a = C a) ∧ (∀ i, i < 3 → D 19 i = C 11 i) ∧ (∀ j i : Nat, j < 5 → i < 4 → D (20 + j) i = C (12 + j) i) ∧ (∀ i, i < 320 → D 25 i = C 17 i) := by
  have key : wF f_Tw_become [.ref 19, .ref 11] C (fun o D => o = none ∧ (∀ a, a < 19 ∨ 25 < a → D a = C a) ∧ (∀ i, i < 3 → D 19 i = C 11 i) ∧ (∀ j i : Nat, j < 5 → i < 4 → D (20 + j) i = C (12 + j) i) ∧ (∀ i, i < 320 → D 25 i = C 17 i)) := by
    have h0 : C 11 0 = C 11 0 := rfl
    have h1 : C 11 1 = C 11 1 := rfl
    have h2 : C 11 2 = C 11 2 := rfl
    unfold f_Tw_become
    simp only [↓w_rcv, ↓w_bodyI, ↓w_bodyZ, ↓w_bodyV, true_and, List.length_cons, List.length_nil, Nat.reduceAdd, Nat.reduceSub, Nat.reduceLeDiff, List.replicate_succ, List.replicate_zero, List.cons_append, List.nil_append, List.append_nil, ↓tO_0, ↓tO_2, ↓tO_6, ↓tO_11, ↓tO_18, ↓tO_19, ↓tO_27, ↓tO_32, ↓tO_37, ↓tO_43, ↓tO_44, ↓tO_52, ↓tO_62, ↓tO_63, ↓tO_71, ↓tO_76, ↓tO_81, ↓tO_87, ↓tO_88, ↓tO_96, ↓tO_106, ↓tO_107, ↓tO_115, ↓tO_127, ↓tO_127c, ↓tO_133, ↓tO_133c, ↓tO_139]
    unfold S_Tw_become
    simp (disch := omega) only [↓w_eBin, ↓w_eUn, ↓w_eDiv, ↓w_eRem, ↓w_eFld, ↓w_rFld, ↓w_eALd, ↓w_rALd, ↓w_eALen, ↓w_rStr, ↓w_aNil, ↓w_aI, ↓w_aR, ↓w_N, ↓w_eCall, ↓w_X, ↓w_bCmp, ↓w_bAnd, ↓w_bOr, ↓w_bNot, ↓w_eB, ↓w_eIte, ↓w_sSkip, ↓w_sRet, ↓w_sRetZ, ↓w_sRetV, ↓w_sBrk, ↓w_sCont, ↓w_sIf, ↓w_sSeq, ↓w_sCaC, ↓w_sCaB, ↓w_sSw, ↓w_sCall, ↓w_sPut, ↓w_sPutOp, ↓w_sASt, ↓w_sAOp, ↓w_sADiv, ↓w_eLoc0, ↓w_rLoc0, ↓w_sSet0, ↓w_sSetR0, ↓w_sIncP0, ↓w_sIncM0, ↓w_eLoc1, ↓w_rLoc1, ↓w_sSet1, ↓w_sSetR1, ↓w_sIncP1, ↓w_sIncM1, ↓w_eLoc2, ↓w_rLoc2, ↓w_sSet2, ↓w_sSetR2, ↓w_sIncP2, ↓w_sIncM2, ↓w_eLoc3, ↓w_rLoc3, ↓w_sSet3, ↓w_sSetR3, ↓w_sIncP3, ↓w_sIncM3, ↓w_eLoc4, ↓w_rLoc4, ↓w_sSet4, ↓w_sSetR4, ↓w_sIncP4, ↓w_sIncM4, ↓w_eLoc5, ↓w_rLoc5, ↓w_sSet5, ↓w_sSetR5, ↓w_sIncP5, ↓w_sIncM5, ↓w_eLoc6, ↓w_rLoc6, ↓w_sSet6, ↓w_sSetR6, ↓w_sIncP6, ↓w_sIncM6, ↓w_eLoc7, ↓w_rLoc7, ↓w_sSet7, ↓w_sSetR7, ↓w_sIncP7, ↓w_sIncM7, ↓w_eLoc8, ↓w_rLoc8, ↓w_sSet8, ↓w_sSetR8, ↓w_sIncP8, ↓w_sIncM8, ↓w_eLoc9, ↓w_rLoc9, ↓w_sSet9, ↓w_sSetR9, ↓w_sIncP9, ↓w_sIncM9, ↓w_eLoc10, ↓w_rLoc10, ↓w_sSet10, ↓w_sSetR10, ↓w_sIncP10, ↓w_sIncM10, ↓w_eLoc11, ↓w_rLoc11, ↓w_sSet11, ↓w_sSetR11, ↓w_sIncP11, ↓w_sIncM11, ↓w_eLoc12, ↓w_rLoc12, ↓w_sSet12, ↓w_sSetR12, ↓w_sIncP12, ↓w_sIncM12, ↓w_eLoc13, ↓w_rLoc13, ↓w_sSet13, ↓w_sSetR13, ↓w_sIncP13, ↓w_sIncM13, ↓w_eIntN, ↓w_eIntM, ↓w_bZi, ↓w_add, ↓w_sub, ↓w_mul, ↓w_neg, ↓w_nar, ↓w_div, ↓w_ldne, ↓w_ldat, ↓w_ldj, List.length_cons, List.length_nil, Nat.reduceAdd, Nat.reduceSub, Nat.reduceLeDiff, List.replicate_succ, List.replicate_zero, List.cons_append, List.nil_append, List.append_nil, iz_nI, iz_ofNat, iz_add, iz_sub, iz_mul, cz_lt, cz_le, cz_gt, cz_ge, cz_eq, cz_ne, mIn_iz, iz_nat, decide_eq_true_eq, Bool.not_eq_true', decide_eq_false_iff_not, true_and, and_true, ↓reduceIte, not_true_eq_false, not_false_eq_true, w01_bI, w01_i0, w01_i1, bI_ne', bI_eq', bI_t, bI_f, Bool.false_eq_true, false_implies, forall_const, implies_true, true_implies, imp_self, eq_self, ↓tO_11, ↓tI_11_0, ↓tI_11_1, ↓tI_11_2, ↓tR_11_3, ↓tR_11_4, ↓tR_11_5, ↓tR_11_6, ↓tR_11_7, ↓tR_11_8, ↓tA_12, ↓tN_12, ↓tA_13, ↓tN_13, ↓tA_14, ↓tN_14, ↓tA_15, ↓tN_15, ↓tA_16, ↓tN_16, ↓tA_17, ↓tN_17, ↓tO_19, ↓tI_19_0, ↓tI_19_1, ↓tI_19_2, ↓tR_19_3, ↓tR_19_4, ↓tR_19_5, ↓tR_19_6, ↓tR_19_7, ↓tR_19_8, ↓tA_20, ↓tN_20, ↓tA_21, ↓tN_21, ↓tA_22, ↓tN_22, ↓tA_23, ↓tN_23, ↓tA_24, ↓tN_24, ↓tA_25, ↓tN_25, ↓w_ldcp, ↓w_ldne, ↓w_ldat, ↓w_ldj, ↓wLd_of h0, ↓wLd_of h1, ↓wLd_of h2, ↓wf_acp (a := 12) (b := 20) (la := 4) (lb := 4) rfl rfl, ↓wf_acp (a := 13) (b := 21) (la := 4) (lb := 4) rfl rfl, ↓wf_acp (a := 14) (b := 22) (la := 4) (lb := 4) rfl rfl, ↓wf_acp (a := 15) (b := 23) (la := 4) (lb := 4) rfl rfl, ↓wf_acp (a := 16) (b := 24) (la := 4) (lb := 4) rfl rfl]
    rw [wf_acpb (a := 17) (b := 25) (la := 320) (lb := 320) rfl rfl (by omega) (fun i hi => by simp (disch := omega) only [cp_ne, up_k]; exact hB i (by omega))]
    simp only [↓w_N]
    refine ⟨fun a ha => ?_, fun i hi => ?_, fun j i hj hi => ?_, fun i hi => ?_⟩
    · simp (disch := omega) only [cp_ne, up_k]
    · rcases (by omega : i = 0 ∨ i = 1 ∨ i = 2) with rfl | rfl | rfl
      all_goals simp (disch := omega) only [cp_ne, up_j, up_at]
    · rcases (by omega : j = 0 ∨ j = 1 ∨ j = 2 ∨ j = 3 ∨ j = 4) with rfl | rfl | rfl | rfl | rfl
      all_goals simp (disch := omega) only [Nat.reduceAdd, Int.reduceToNat, cp_ne, cp_in, up_k]
    · simp (disch := omega) only [cp_in, cp_ne, up_k, Int.reduceToNat]
  obtain ⟨o, D, e, rfl, d1⟩ := wF_of key
  exact ⟨D, e, d1⟩

theorem im_ruleA0 {C : mMem} {R : aS} (h : RelRC C 27 R) (hw : WfR R) : ∃ D, f_Ru_become [.ref 71, .ref 27] C = some (none, D) ∧ (∀ a, a < 71 ∨ 74 < a → D a = C a) ∧ RelRC D 71 R := by
  obtain ⟨r0, r1, r2, r3, r4, r5⟩ := h
  obtain ⟨w0, w1, w2, w3, w4, _⟩ := hw
  have n0 : w01 (iz (R 0 2)) := by rcases w4 with e | e <;> rw [e] <;> unfold w01 <;> decide
  have key : wF f_Ru_become [.ref 71, .ref 27] C (fun o D => o = none ∧ (∀ a, a < 71 ∨ 74 < a → D a = C a) ∧ RelRC D 71 R) := by
    unfold f_Ru_become
    simp only [↓w_rcv, ↓w_bodyI, ↓w_bodyZ, ↓w_bodyV, true_and, List.length_cons, List.length_nil, Nat.reduceAdd, Nat.reduceSub, Nat.reduceLeDiff, List.replicate_succ, List.replicate_zero, List.cons_append, List.nil_append, List.append_nil, ↓tO_0, ↓tO_2, ↓tO_6, ↓tO_11, ↓tO_18, ↓tO_19, ↓tO_27, ↓tO_32, ↓tO_37, ↓tO_43, ↓tO_44, ↓tO_52, ↓tO_62, ↓tO_63, ↓tO_71, ↓tO_76, ↓tO_81, ↓tO_87, ↓tO_88, ↓tO_96, ↓tO_106, ↓tO_107, ↓tO_115, ↓tO_127, ↓tO_127c, ↓tO_133, ↓tO_133c, ↓tO_139]
    unfold S_Ru_become
    simp (disch := omega) only [↓w_eBin, ↓w_eUn, ↓w_eDiv, ↓w_eRem, ↓w_eFld, ↓w_rFld, ↓w_eALd, ↓w_rALd, ↓w_eALen, ↓w_rStr, ↓w_aNil, ↓w_aI, ↓w_aR, ↓w_N, ↓w_eCall, ↓w_X, ↓w_bCmp, ↓w_bAnd, ↓w_bOr, ↓w_bNot, ↓w_eB, ↓w_eIte, ↓w_sSkip, ↓w_sRet, ↓w_sRetZ, ↓w_sRetV, ↓w_sBrk, ↓w_sCont, ↓w_sIf, ↓w_sSeq, ↓w_sCaC, ↓w_sCaB, ↓w_sSw, ↓w_sCall, ↓w_sPut, ↓w_sPutOp, ↓w_sASt, ↓w_sAOp, ↓w_sADiv, ↓w_eLoc0, ↓w_rLoc0, ↓w_sSet0, ↓w_sSetR0, ↓w_sIncP0, ↓w_sIncM0, ↓w_eLoc1, ↓w_rLoc1, ↓w_sSet1, ↓w_sSetR1, ↓w_sIncP1, ↓w_sIncM1, ↓w_eLoc2, ↓w_rLoc2, ↓w_sSet2, ↓w_sSetR2, ↓w_sIncP2, ↓w_sIncM2, ↓w_eLoc3, ↓w_rLoc3, ↓w_sSet3, ↓w_sSetR3, ↓w_sIncP3, ↓w_sIncM3, ↓w_eLoc4, ↓w_rLoc4, ↓w_sSet4, ↓w_sSetR4, ↓w_sIncP4, ↓w_sIncM4, ↓w_eLoc5, ↓w_rLoc5, ↓w_sSet5, ↓w_sSetR5, ↓w_sIncP5, ↓w_sIncM5, ↓w_eLoc6, ↓w_rLoc6, ↓w_sSet6, ↓w_sSetR6, ↓w_sIncP6, ↓w_sIncM6, ↓w_eLoc7, ↓w_rLoc7, ↓w_sSet7, ↓w_sSetR7, ↓w_sIncP7, ↓w_sIncM7, ↓w_eLoc8, ↓w_rLoc8, ↓w_sSet8, ↓w_sSetR8, ↓w_sIncP8, ↓w_sIncM8, ↓w_eLoc9, ↓w_rLoc9, ↓w_sSet9, ↓w_sSetR9, ↓w_sIncP9, ↓w_sIncM9, ↓w_eLoc10, ↓w_rLoc10, ↓w_sSet10, ↓w_sSetR10, ↓w_sIncP10, ↓w_sIncM10, ↓w_eLoc11, ↓w_rLoc11, ↓w_sSet11, ↓w_sSetR11, ↓w_sIncP11, ↓w_sIncM11, ↓w_eLoc12, ↓w_rLoc12, ↓w_sSet12, ↓w_sSetR12, ↓w_sIncP12, ↓w_sIncM12, ↓w_eLoc13, ↓w_rLoc13, ↓w_sSet13, ↓w_sSetR13, ↓w_sIncP13, ↓w_sIncM13, ↓w_eIntN, ↓w_eIntM, ↓w_bZi, ↓w_add, ↓w_sub, ↓w_mul, ↓w_neg, ↓w_nar, ↓w_div, ↓w_ldne, ↓w_ldat, ↓w_ldj, List.length_cons, List.length_nil, Nat.reduceAdd, Nat.reduceSub, Nat.reduceLeDiff, List.replicate_succ, List.replicate_zero, List.cons_append, List.nil_append, List.append_nil, iz_nI, iz_ofNat, iz_add, iz_sub, iz_mul, cz_lt, cz_le, cz_gt, cz_ge, cz_eq, cz_ne, mIn_iz, iz_nat, decide_eq_true_eq, Bool.not_eq_true', decide_eq_false_iff_not, true_and, and_true, ↓reduceIte, not_true_eq_false, not_false_eq_true, w01_bI, w01_i0, w01_i1, bI_ne', bI_eq', bI_t, bI_f, Bool.false_eq_true, false_implies, forall_const, implies_true, true_implies, imp_self, eq_self, n0, ↓tO_27, ↓tI_27_0, ↓tI_27_1, ↓tI_27_2, ↓tI_27_3, ↓tR_27_4, ↓tR_27_5, ↓tR_27_6, ↓tR_27_7, ↓tA_28, ↓tN_28, ↓tA_29, ↓tN_29, ↓tA_30, ↓tN_30, ↓tO_71, ↓tI_71_0, ↓tI_71_1, ↓tI_71_2, ↓tI_71_3, ↓tR_71_4, ↓tR_71_5, ↓tR_71_6, ↓tR_71_7, ↓tA_72, ↓tN_72, ↓tA_73, ↓tN_73, ↓tA_74, ↓tN_74, ↓w_ldcp, ↓w_ldne, ↓w_ldat, ↓w_ldj, ↓wLd_of r0, ↓wLd_of r1, ↓wLd_of r2, ↓wf_acp (a := 28) (b := 72) (la := 17) (lb := 17) rfl rfl, ↓wf_acp (a := 29) (b := 73) (la := 16) (lb := 16) rfl rfl, ↓wf_acp (a := 30) (b := 74) (la := 400) (lb := 400) rfl rfl]
    refine ⟨fun a ha => ?_, ?_, ?_, ?_, ?_, fun i i0 i1 => ?_, fun j j0 j1 => ?_⟩
    · simp (disch := omega) only [cp_ne, up_k]
    · simp (disch := omega) only [cp_ne, up_j, up_at]
    · simp (disch := omega) only [cp_ne, up_j, up_at]
    · simp (disch := omega) only [cp_ne, up_j, up_at]
    · simp (disch := omega) only [Nat.reduceAdd, cp_ne, cp_in, up_k]; exact r3
    · simp (disch := omega) only [Nat.reduceAdd, cp_ne, cp_in, up_k]; exact r4 i i0 i1
    · simp (disch := omega) only [Nat.reduceAdd, cp_ne, cp_in, up_k]; exact r5 j j0 j1
  obtain ⟨o, D, e, rfl, d1⟩ := wF_of key
  exact ⟨D, e, d1⟩

theorem im_ruleA1 {C : mMem} {R : aS} (h : RelRC C 32 R) (hw : WfR R) : ∃ D, f_Ru_become [.ref 76, .ref 32] C = some (none, D) ∧ (∀ a, a < 76 ∨ 79 < a → D a = C a) ∧ RelRC D 76 R := by
  obtain ⟨r0, r1, r2, r3, r4, r5⟩ := h
  obtain ⟨w0, w1, w2, w3, w4, _⟩ := hw
  have n0 : w01 (iz (R 0 2)) := by rcases w4 with e | e <;> rw [e] <;> unfold w01 <;> decide
  have key : wF f_Ru_become [.ref 76, .ref 32] C (fun o D => o = none ∧ (∀ a, a < 76 ∨ 79 < a → D a = C a) ∧ RelRC D 76 R) := by
    unfold f_Ru_become
    simp only [↓w_rcv, ↓w_bodyI, ↓w_bodyZ, ↓w_bodyV, true_and, List.length_cons, List.length_nil, Nat.reduceAdd, Nat.reduceSub, Nat.reduceLeDiff, List.replicate_succ, List.replicate_zero, List.cons_append, List.nil_append, List.append_nil, ↓tO_0, ↓tO_2, ↓tO_6, ↓tO_11, ↓tO_18, ↓tO_19, ↓tO_27, ↓tO_32, ↓tO_37, ↓tO_43, ↓tO_44, ↓tO_52, ↓tO_62, ↓tO_63, ↓tO_71, ↓tO_76, ↓tO_81, ↓tO_87, ↓tO_88, ↓tO_96, ↓tO_106, ↓tO_107, ↓tO_115, ↓tO_127, ↓tO_127c, ↓tO_133, ↓tO_133c, ↓tO_139]
    unfold S_Ru_become
    simp (disch := omega) only [↓w_eBin, ↓w_eUn, ↓w_eDiv, ↓w_eRem, ↓w_eFld, ↓w_rFld, ↓w_eALd, ↓w_rALd, ↓w_eALen, ↓w_rStr, ↓w_aNil, ↓w_aI, ↓w_aR, ↓w_N, ↓w_eCall, ↓w_X, ↓w_bCmp, ↓w_bAnd, ↓w_bOr, ↓w_bNot, ↓w_eB, ↓w_eIte, ↓w_sSkip, ↓w_sRet, ↓w_sRetZ, ↓w_sRetV, ↓w_sBrk, ↓w_sCont, ↓w_sIf, ↓w_sSeq, ↓w_sCaC, ↓w_sCaB, ↓w_sSw, ↓w_sCall, ↓w_sPut, ↓w_sPutOp, ↓w_sASt, ↓w_sAOp, ↓w_sADiv, ↓w_eLoc0, ↓w_rLoc0, ↓w_sSet0, ↓w_sSetR0, ↓w_sIncP0, ↓w_sIncM0, ↓w_eLoc1, ↓w_rLoc1, ↓w_sSet1, ↓w_sSetR1, ↓w_sIncP1, ↓w_sIncM1, ↓w_eLoc2, ↓w_rLoc2, ↓w_sSet2, ↓w_sSetR2, ↓w_sIncP2, ↓w_sIncM2, ↓w_eLoc3, ↓w_rLoc3, ↓w_sSet3, ↓w_sSetR3, ↓w_sIncP3, ↓w_sIncM3, ↓w_eLoc4, ↓w_rLoc4, ↓w_sSet4, ↓w_sSetR4, ↓w_sIncP4, ↓w_sIncM4, ↓w_eLoc5, ↓w_rLoc5, ↓w_sSet5, ↓w_sSetR5, ↓w_sIncP5, ↓w_sIncM5, ↓w_eLoc6, ↓w_rLoc6, ↓w_sSet6, ↓w_sSetR6, ↓w_sIncP6, ↓w_sIncM6, ↓w_eLoc7, ↓w_rLoc7, ↓w_sSet7, ↓w_sSetR7, ↓w_sIncP7, ↓w_sIncM7, ↓w_eLoc8, ↓w_rLoc8, ↓w_sSet8, ↓w_sSetR8, ↓w_sIncP8, ↓w_sIncM8, ↓w_eLoc9, ↓w_rLoc9, ↓w_sSet9, ↓w_sSetR9, ↓w_sIncP9, ↓w_sIncM9, ↓w_eLoc10, ↓w_rLoc10, ↓w_sSet10, ↓w_sSetR10, ↓w_sIncP10, ↓w_sIncM10, ↓w_eLoc11, ↓w_rLoc11, ↓w_sSet11, ↓w_sSetR11, ↓w_sIncP11, ↓w_sIncM11, ↓w_eLoc12, ↓w_rLoc12, ↓w_sSet12, ↓w_sSetR12, ↓w_sIncP12, ↓w_sIncM12, ↓w_eLoc13, ↓w_rLoc13, ↓w_sSet13, ↓w_sSetR13, ↓w_sIncP13, ↓w_sIncM13, ↓w_eIntN, ↓w_eIntM, ↓w_bZi, ↓w_add, ↓w_sub, ↓w_mul, ↓w_neg, ↓w_nar, ↓w_div, ↓w_ldne, ↓w_ldat, ↓w_ldj, List.length_cons, List.length_nil, Nat.reduceAdd, Nat.reduceSub, Nat.reduceLeDiff, List.replicate_succ, List.replicate_zero, List.cons_append, List.nil_append, List.append_nil, iz_nI, iz_ofNat, iz_add, iz_sub, iz_mul, cz_lt, cz_le, cz_gt, cz_ge, cz_eq, cz_ne, mIn_iz, iz_nat, decide_eq_true_eq, Bool.not_eq_true', decide_eq_false_iff_not, true_and, and_true, ↓reduceIte, not_true_eq_false, not_false_eq_true, w01_bI, w01_i0, w01_i1, bI_ne', bI_eq', bI_t, bI_f, Bool.false_eq_true, false_implies, forall_const, implies_true, true_implies, imp_self, eq_self, n0, ↓tO_32, ↓tI_32_0, ↓tI_32_1, ↓tI_32_2, ↓tI_32_3, ↓tR_32_4, ↓tR_32_5, ↓tR_32_6, ↓tR_32_7, ↓tA_33, ↓tN_33, ↓tA_34, ↓tN_34, ↓tA_35, ↓tN_35, ↓tO_76, ↓tI_76_0, ↓tI_76_1, ↓tI_76_2, ↓tI_76_3, ↓tR_76_4, ↓tR_76_5, ↓tR_76_6, ↓tR_76_7, ↓tA_77, ↓tN_77, ↓tA_78, ↓tN_78, ↓tA_79, ↓tN_79, ↓w_ldcp, ↓w_ldne, ↓w_ldat, ↓w_ldj, ↓wLd_of r0, ↓wLd_of r1, ↓wLd_of r2, ↓wf_acp (a := 33) (b := 77) (la := 17) (lb := 17) rfl rfl, ↓wf_acp (a := 34) (b := 78) (la := 16) (lb := 16) rfl rfl, ↓wf_acp (a := 35) (b := 79) (la := 400) (lb := 400) rfl rfl]
    refine ⟨fun a ha => ?_, ?_, ?_, ?_, ?_, fun i i0 i1 => ?_, fun j j0 j1 => ?_⟩
    · simp (disch := omega) only [cp_ne, up_k]
    · simp (disch := omega) only [cp_ne, up_j, up_at]
    · simp (disch := omega) only [cp_ne, up_j, up_at]
    · simp (disch := omega) only [cp_ne, up_j, up_at]
    · simp (disch := omega) only [Nat.reduceAdd, cp_ne, cp_in, up_k]; exact r3
    · simp (disch := omega) only [Nat.reduceAdd, cp_ne, cp_in, up_k]; exact r4 i i0 i1
    · simp (disch := omega) only [Nat.reduceAdd, cp_ne, cp_in, up_k]; exact r5 j j0 j1
  obtain ⟨o, D, e, rfl, d1⟩ := wF_of key
  exact ⟨D, e, d1⟩

theorem im_ruleA2 {C : mMem} {R : aS} (h : RelRC C 37 R) (hw : WfR R) : ∃ D, f_Ru_become [.ref 81, .ref 37] C = some (none, D) ∧ (∀ a, a < 81 ∨ 84 < a → D a = C a) ∧ RelRC D 81 R := by
  obtain ⟨r0, r1, r2, r3, r4, r5⟩ := h
  obtain ⟨w0, w1, w2, w3, w4, _⟩ := hw
  have n0 : w01 (iz (R 0 2)) := by rcases w4 with e | e <;> rw [e] <;> unfold w01 <;> decide
  have key : wF f_Ru_become [.ref 81, .ref 37] C (fun o D => o = none ∧ (∀ a, a < 81 ∨ 84 < a → D a = C a) ∧ RelRC D 81 R) := by
    unfold f_Ru_become
    simp only [↓w_rcv, ↓w_bodyI, ↓w_bodyZ, ↓w_bodyV, true_and, List.length_cons, List.length_nil, Nat.reduceAdd, Nat.reduceSub, Nat.reduceLeDiff, List.replicate_succ, List.replicate_zero, List.cons_append, List.nil_append, List.append_nil, ↓tO_0, ↓tO_2, ↓tO_6, ↓tO_11, ↓tO_18, ↓tO_19, ↓tO_27, ↓tO_32, ↓tO_37, ↓tO_43, ↓tO_44, ↓tO_52, ↓tO_62, ↓tO_63, ↓tO_71, ↓tO_76, ↓tO_81, ↓tO_87, ↓tO_88, ↓tO_96, ↓tO_106, ↓tO_107, ↓tO_115, ↓tO_127, ↓tO_127c, ↓tO_133, ↓tO_133c, ↓tO_139]
    unfold S_Ru_become
    simp (disch := omega) only [↓w_eBin, ↓w_eUn, ↓w_eDiv, ↓w_eRem, ↓w_eFld, ↓w_rFld, ↓w_eALd, ↓w_rALd, ↓w_eALen, ↓w_rStr, ↓w_aNil, ↓w_aI, ↓w_aR, ↓w_N, ↓w_eCall, ↓w_X, ↓w_bCmp, ↓w_bAnd, ↓w_bOr, ↓w_bNot, ↓w_eB, ↓w_eIte, ↓w_sSkip, ↓w_sRet, ↓w_sRetZ, ↓w_sRetV, ↓w_sBrk, ↓w_sCont, ↓w_sIf, ↓w_sSeq, ↓w_sCaC, ↓w_sCaB, ↓w_sSw, ↓w_sCall, ↓w_sPut, ↓w_sPutOp, ↓w_sASt, ↓w_sAOp, ↓w_sADiv, ↓w_eLoc0, ↓w_rLoc0, ↓w_sSet0, ↓w_sSetR0, ↓w_sIncP0, ↓w_sIncM0, ↓w_eLoc1, ↓w_rLoc1, ↓w_sSet1, ↓w_sSetR1, ↓w_sIncP1, ↓w_sIncM1, ↓w_eLoc2, ↓w_rLoc2, ↓w_sSet2, ↓w_sSetR2, ↓w_sIncP2, ↓w_sIncM2, ↓w_eLoc3, ↓w_rLoc3, ↓w_sSet3, ↓w_sSetR3, ↓w_sIncP3, ↓w_sIncM3, ↓w_eLoc4, ↓w_rLoc4, ↓w_sSet4, ↓w_sSetR4, ↓w_sIncP4, ↓w_sIncM4, ↓w_eLoc5, ↓w_rLoc5, ↓w_sSet5, ↓w_sSetR5, ↓w_sIncP5, ↓w_sIncM5, ↓w_eLoc6, ↓w_rLoc6, ↓w_sSet6, ↓w_sSetR6, ↓w_sIncP6, ↓w_sIncM6, ↓w_eLoc7, ↓w_rLoc7, ↓w_sSet7, ↓w_sSetR7, ↓w_sIncP7, ↓w_sIncM7, ↓w_eLoc8, ↓w_rLoc8, ↓w_sSet8, ↓w_sSetR8, ↓w_sIncP8, ↓w_sIncM8, ↓w_eLoc9, ↓w_rLoc9, ↓w_sSet9, ↓w_sSetR9, ↓w_sIncP9, ↓w_sIncM9, ↓w_eLoc10, ↓w_rLoc10, ↓w_sSet10, ↓w_sSetR10, ↓w_sIncP10, ↓w_sIncM10, ↓w_eLoc11, ↓w_rLoc11, ↓w_sSet11, ↓w_sSetR11, ↓w_sIncP11, ↓w_sIncM11, ↓w_eLoc12, ↓w_rLoc12, ↓w_sSet12, ↓w_sSetR12, ↓w_sIncP12, ↓w_sIncM12, ↓w_eLoc13, ↓w_rLoc13, ↓w_sSet13, ↓w_sSetR13, ↓w_sIncP13, ↓w_sIncM13, ↓w_eIntN, ↓w_eIntM, ↓w_bZi, ↓w_add, ↓w_sub, ↓w_mul, ↓w_neg, ↓w_nar, ↓w_div, ↓w_ldne, ↓w_ldat, ↓w_ldj, List.length_cons, List.length_nil, Nat.reduceAdd, Nat.reduceSub, Nat.reduceLeDiff, List.replicate_succ, List.replicate_zero, List.cons_append, List.nil_append, List.append_nil, iz_nI, iz_ofNat, iz_add, iz_sub, iz_mul, cz_lt, cz_le, cz_gt, cz_ge, cz_eq, cz_ne, mIn_iz, iz_nat, decide_eq_true_eq, Bool.not_eq_true', decide_eq_false_iff_not, true_and, and_true, ↓reduceIte, not_true_eq_false, not_false_eq_true, w01_bI, w01_i0, w01_i1, bI_ne', bI_eq', bI_t, bI_f, Bool.false_eq_true, false_implies, forall_const, implies_true, true_implies, imp_self, eq_self, n0, ↓tO_37, ↓tI_37_0, ↓tI_37_1, ↓tI_37_2, ↓tI_37_3, ↓tR_37_4, ↓tR_37_5, ↓tR_37_6, ↓tR_37_7, ↓tA_38, ↓tN_38, ↓tA_39, ↓tN_39, ↓tA_40, ↓tN_40, ↓tO_81, ↓tI_81_0, ↓tI_81_1, ↓tI_81_2, ↓tI_81_3, ↓tR_81_4, ↓tR_81_5, ↓tR_81_6, ↓tR_81_7, ↓tA_82, ↓tN_82, ↓tA_83, ↓tN_83, ↓tA_84, ↓tN_84, ↓w_ldcp, ↓w_ldne, ↓w_ldat, ↓w_ldj, ↓wLd_of r0, ↓wLd_of r1, ↓wLd_of r2, ↓wf_acp (a := 38) (b := 82) (la := 17) (lb := 17) rfl rfl, ↓wf_acp (a := 39) (b := 83) (la := 16) (lb := 16) rfl rfl, ↓wf_acp (a := 40) (b := 84) (la := 400) (lb := 400) rfl rfl]
    refine ⟨fun a ha => ?_, ?_, ?_, ?_, ?_, fun i i0 i1 => ?_, fun j j0 j1 => ?_⟩
    · simp (disch := omega) only [cp_ne, up_k]
    · simp (disch := omega) only [cp_ne, up_j, up_at]
    · simp (disch := omega) only [cp_ne, up_j, up_at]
    · simp (disch := omega) only [cp_ne, up_j, up_at]
    · simp (disch := omega) only [Nat.reduceAdd, cp_ne, cp_in, up_k]; exact r3
    · simp (disch := omega) only [Nat.reduceAdd, cp_ne, cp_in, up_k]; exact r4 i i0 i1
    · simp (disch := omega) only [Nat.reduceAdd, cp_ne, cp_in, up_k]; exact r5 j j0 j1
  obtain ⟨o, D, e, rfl, d1⟩ := wF_of key
  exact ⟨D, e, d1⟩

theorem im_ruleB0 {C : mMem} {R : aS} (h : RelRC C 71 R) (hw : WfR R) : ∃ D, f_Ru_become [.ref 27, .ref 71] C = some (none, D) ∧ (∀ a, a < 27 ∨ 30 < a → D a = C a) ∧ RelRC D 27 R := by
  obtain ⟨r0, r1, r2, r3, r4, r5⟩ := h
  obtain ⟨w0, w1, w2, w3, w4, _⟩ := hw
  have n0 : w01 (iz (R 0 2)) := by rcases w4 with e | e <;> rw [e] <;> unfold w01 <;> decide
  have key : wF f_Ru_become [.ref 27, .ref 71] C (fun o D => o = none ∧ (∀ a, a < 27 ∨ 30 < a → D a = C a) ∧ RelRC D 27 R) := by
    unfold f_Ru_become
    simp only [↓w_rcv, ↓w_bodyI, ↓w_bodyZ, ↓w_bodyV, true_and, List.length_cons, List.length_nil, Nat.reduceAdd, Nat.reduceSub, Nat.reduceLeDiff, List.replicate_succ, List.replicate_zero, List.cons_append, List.nil_append, List.append_nil, ↓tO_0, ↓tO_2, ↓tO_6, ↓tO_11, ↓tO_18, ↓tO_19, ↓tO_27, ↓tO_32, ↓tO_37, ↓tO_43, ↓tO_44, ↓tO_52, ↓tO_62, ↓tO_63, ↓tO_71, ↓tO_76, ↓tO_81, ↓tO_87, ↓tO_88, ↓tO_96, ↓tO_106, ↓tO_107, ↓tO_115, ↓tO_127, ↓tO_127c, ↓tO_133, ↓tO_133c, ↓tO_139]
    unfold S_Ru_become
    simp (disch := omega) only [↓w_eBin, ↓w_eUn, ↓w_eDiv, ↓w_eRem, ↓w_eFld, ↓w_rFld, ↓w_eALd, ↓w_rALd, ↓w_eALen, ↓w_rStr, ↓w_aNil, ↓w_aI, ↓w_aR, ↓w_N, ↓w_eCall, ↓w_X, ↓w_bCmp, ↓w_bAnd, ↓w_bOr, ↓w_bNot, ↓w_eB, ↓w_eIte, ↓w_sSkip, ↓w_sRet, ↓w_sRetZ, ↓w_sRetV, ↓w_sBrk, ↓w_sCont, ↓w_sIf, ↓w_sSeq, ↓w_sCaC, ↓w_sCaB, ↓w_sSw, ↓w_sCall, ↓w_sPut, ↓w_sPutOp, ↓w_sASt, ↓w_sAOp, ↓w_sADiv, ↓w_eLoc0, ↓w_rLoc0, ↓w_sSet0, ↓w_sSetR0, ↓w_sIncP0, ↓w_sIncM0, ↓w_eLoc1, ↓w_rLoc1, ↓w_sSet1, ↓w_sSetR1, ↓w_sIncP1, ↓w_sIncM1, ↓w_eLoc2, ↓w_rLoc2, ↓w_sSet2, ↓w_sSetR2, ↓w_sIncP2, ↓w_sIncM2, ↓w_eLoc3, ↓w_rLoc3, ↓w_sSet3, ↓w_sSetR3, ↓w_sIncP3, ↓w_sIncM3, ↓w_eLoc4, ↓w_rLoc4, ↓w_sSet4, ↓w_sSetR4, ↓w_sIncP4, ↓w_sIncM4, ↓w_eLoc5, ↓w_rLoc5, ↓w_sSet5, ↓w_sSetR5, ↓w_sIncP5, ↓w_sIncM5, ↓w_eLoc6, ↓w_rLoc6, ↓w_sSet6, ↓w_sSetR6, ↓w_sIncP6, ↓w_sIncM6, ↓w_eLoc7, ↓w_rLoc7, ↓w_sSet7, ↓w_sSetR7, ↓w_sIncP7, ↓w_sIncM7, ↓w_eLoc8, ↓w_rLoc8, ↓w_sSet8, ↓w_sSetR8, ↓w_sIncP8, ↓w_sIncM8, ↓w_eLoc9, ↓w_rLoc9, ↓w_sSet9, ↓w_sSetR9, ↓w_sIncP9, ↓w_sIncM9, ↓w_eLoc10, ↓w_rLoc10, ↓w_sSet10, ↓w_sSetR10, ↓w_sIncP10, ↓w_sIncM10, ↓w_eLoc11, ↓w_rLoc11, ↓w_sSet11, ↓w_sSetR11, ↓w_sIncP11, ↓w_sIncM11, ↓w_eLoc12, ↓w_rLoc12, ↓w_sSet12, ↓w_sSetR12, ↓w_sIncP12, ↓w_sIncM12, ↓w_eLoc13, ↓w_rLoc13, ↓w_sSet13, ↓w_sSetR13, ↓w_sIncP13, ↓w_sIncM13, ↓w_eIntN, ↓w_eIntM, ↓w_bZi, ↓w_add, ↓w_sub, ↓w_mul, ↓w_neg, ↓w_nar, ↓w_div, ↓w_ldne, ↓w_ldat, ↓w_ldj, List.length_cons, List.length_nil, Nat.reduceAdd, Nat.reduceSub, Nat.reduceLeDiff, List.replicate_succ, List.replicate_zero, List.cons_append, List.nil_append, List.append_nil, iz_nI, iz_ofNat, iz_add, iz_sub, iz_mul, cz_lt, cz_le, cz_gt, cz_ge, cz_eq, cz_ne, mIn_iz, iz_nat, decide_eq_true_eq, Bool.not_eq_true', decide_eq_false_iff_not, true_and, and_true, ↓reduceIte, not_true_eq_false, not_false_eq_true, w01_bI, w01_i0, w01_i1, bI_ne', bI_eq', bI_t, bI_f, Bool.false_eq_true, false_implies, forall_const, implies_true, true_implies, imp_self, eq_self, n0, ↓tO_71, ↓tI_71_0, ↓tI_71_1, ↓tI_71_2, ↓tI_71_3, ↓tR_71_4, ↓tR_71_5, ↓tR_71_6, ↓tR_71_7, ↓tA_72, ↓tN_72, ↓tA_73, ↓tN_73, ↓tA_74, ↓tN_74, ↓tO_27, ↓tI_27_0, ↓tI_27_1, ↓tI_27_2, ↓tI_27_3, ↓tR_27_4, ↓tR_27_5, ↓tR_27_6, ↓tR_27_7, ↓tA_28, ↓tN_28, ↓tA_29, ↓tN_29, ↓tA_30, ↓tN_30, ↓w_ldcp, ↓w_ldne, ↓w_ldat, ↓w_ldj, ↓wLd_of r0, ↓wLd_of r1, ↓wLd_of r2, ↓wf_acp (a := 72) (b := 28) (la := 17) (lb := 17) rfl rfl, ↓wf_acp (a := 73) (b := 29) (la := 16) (lb := 16) rfl rfl, ↓wf_acp (a := 74) (b := 30) (la := 400) (lb := 400) rfl rfl]
    refine ⟨fun a ha => ?_, ?_, ?_, ?_, ?_, fun i i0 i1 => ?_, fun j j0 j1 => ?_⟩
    · simp (disch := omega) only [cp_ne, up_k]
    · simp (disch := omega) only [cp_ne, up_j, up_at]
    · simp (disch := omega) only [cp_ne, up_j, up_at]
    · simp (disch := omega) only [cp_ne, up_j, up_at]
    · simp (disch := omega) only [Nat.reduceAdd, cp_ne, cp_in, up_k]; exact r3
    · simp (disch := omega) only [Nat.reduceAdd, cp_ne, cp_in, up_k]; exact r4 i i0 i1
    · simp (disch := omega) only [Nat.reduceAdd, cp_ne, cp_in, up_k]; exact r5 j j0 j1
  obtain ⟨o, D, e, rfl, d1⟩ := wF_of key
  exact ⟨D, e, d1⟩

theorem im_ruleB1 {C : mMem} {R : aS} (h : RelRC C 76 R) (hw : WfR R) : ∃ D, f_Ru_become [.ref 32, .ref 76] C = some (none, D) ∧ (∀ a, a < 32 ∨ 35 < a → D a = C a) ∧ RelRC D 32 R := by
  obtain ⟨r0, r1, r2, r3, r4, r5⟩ := h
  obtain ⟨w0, w1, w2, w3, w4, _⟩ := hw
  have n0 : w01 (iz (R 0 2)) := by rcases w4 with e | e <;> rw [e] <;> unfold w01 <;> decide
  have key : wF f_Ru_become [.ref 32, .ref 76] C (fun o D => o = none ∧ (∀ a, a < 32 ∨ 35 < a → D a = C a) ∧ RelRC D 32 R) := by
    unfold f_Ru_become
    simp only [↓w_rcv, ↓w_bodyI, ↓w_bodyZ, ↓w_bodyV, true_and, List.length_cons, List.length_nil, Nat.reduceAdd, Nat.reduceSub, Nat.reduceLeDiff, List.replicate_succ, List.replicate_zero, List.cons_append, List.nil_append, List.append_nil, ↓tO_0, ↓tO_2, ↓tO_6, ↓tO_11, ↓tO_18, ↓tO_19, ↓tO_27, ↓tO_32, ↓tO_37, ↓tO_43, ↓tO_44, ↓tO_52, ↓tO_62, ↓tO_63, ↓tO_71, ↓tO_76, ↓tO_81, ↓tO_87, ↓tO_88, ↓tO_96, ↓tO_106, ↓tO_107, ↓tO_115, ↓tO_127, ↓tO_127c, ↓tO_133, ↓tO_133c, ↓tO_139]
    unfold S_Ru_become
    simp (disch := omega) only [↓w_eBin, ↓w_eUn, ↓w_eDiv, ↓w_eRem, ↓w_eFld, ↓w_rFld, ↓w_eALd, ↓w_rALd, ↓w_eALen, ↓w_rStr, ↓w_aNil, ↓w_aI, ↓w_aR, ↓w_N, ↓w_eCall, ↓w_X, ↓w_bCmp, ↓w_bAnd, ↓w_bOr, ↓w_bNot, ↓w_eB, ↓w_eIte, ↓w_sSkip, ↓w_sRet, ↓w_sRetZ, ↓w_sRetV, ↓w_sBrk, ↓w_sCont, ↓w_sIf, ↓w_sSeq, ↓w_sCaC, ↓w_sCaB, ↓w_sSw, ↓w_sCall, ↓w_sPut, ↓w_sPutOp, ↓w_sASt, ↓w_sAOp, ↓w_sADiv, ↓w_eLoc0, ↓w_rLoc0, ↓w_sSet0, ↓w_sSetR0, ↓w_sIncP0, ↓w_sIncM0, ↓w_eLoc1, ↓w_rLoc1, ↓w_sSet1, ↓w_sSetR1, ↓w_sIncP1, ↓w_sIncM1, ↓w_eLoc2, ↓w_rLoc2, ↓w_sSet2, ↓w_sSetR2, ↓w_sIncP2, ↓w_sIncM2, ↓w_eLoc3, ↓w_rLoc3, ↓w_sSet3, ↓w_sSetR3, ↓w_sIncP3, ↓w_sIncM3, ↓w_eLoc4, ↓w_rLoc4, ↓w_sSet4, ↓w_sSetR4, ↓w_sIncP4, ↓w_sIncM4, ↓w_eLoc5, ↓w_rLoc5, ↓w_sSet5, ↓w_sSetR5, ↓w_sIncP5, ↓w_sIncM5, ↓w_eLoc6, ↓w_rLoc6, ↓w_sSet6, ↓w_sSetR6, ↓w_sIncP6, ↓w_sIncM6, ↓w_eLoc7, ↓w_rLoc7, ↓w_sSet7, ↓w_sSetR7, ↓w_sIncP7, ↓w_sIncM7, ↓w_eLoc8, ↓w_rLoc8, ↓w_sSet8, ↓w_sSetR8, ↓w_sIncP8, ↓w_sIncM8, ↓w_eLoc9, ↓w_rLoc9, ↓w_sSet9, ↓w_sSetR9, ↓w_sIncP9, ↓w_sIncM9, ↓w_eLoc10, ↓w_rLoc10, ↓w_sSet10, ↓w_sSetR10, ↓w_sIncP10, ↓w_sIncM10, ↓w_eLoc11, ↓w_rLoc11, ↓w_sSet11, ↓w_sSetR11, ↓w_sIncP11, ↓w_sIncM11, ↓w_eLoc12, ↓w_rLoc12, ↓w_sSet12, ↓w_sSetR12, ↓w_sIncP12, ↓w_sIncM12, ↓w_eLoc13, ↓w_rLoc13, ↓w_sSet13, ↓w_sSetR13, ↓w_sIncP13, ↓w_sIncM13, ↓w_eIntN, ↓w_eIntM, ↓w_bZi, ↓w_add, ↓w_sub, ↓w_mul, ↓w_neg, ↓w_nar, ↓w_div, ↓w_ldne, ↓w_ldat, ↓w_ldj, List.length_cons, List.length_nil, Nat.reduceAdd, Nat.reduceSub, Nat.reduceLeDiff, List.replicate_succ, List.replicate_zero, List.cons_append, List.nil_append, List.append_nil, iz_nI, iz_ofNat, iz_add, iz_sub, iz_mul, cz_lt, cz_le, cz_gt, cz_ge, cz_eq, cz_ne, mIn_iz, iz_nat, decide_eq_true_eq, Bool.not_eq_true', decide_eq_false_iff_not, true_and, and_true, ↓reduceIte, not_true_eq_false, not_false_eq_true, w01_bI, w01_i0, w01_i1, bI_ne', bI_eq', bI_t, bI_f, Bool.false_eq_true, false_implies, forall_const, implies_true, true_implies, imp_self, eq_self, n0, ↓tO_76, ↓tI_76_0, ↓tI_76_1, ↓tI_76_2, ↓tI_76_3, ↓tR_76_4, ↓tR_76_5, ↓tR_76_6, ↓tR_76_7, ↓tA_77, ↓tN_77, ↓tA_78, ↓tN_78, ↓tA_79, ↓tN_79, ↓tO_32, ↓tI_32_0, ↓tI_32_1, ↓tI_32_2, ↓tI_32_3, ↓tR_32_4, ↓tR_32_5, ↓tR_32_6, ↓tR_32_7, ↓tA_33, ↓tN_33, ↓tA_34, ↓tN_34, ↓tA_35, ↓tN_35, ↓w_ldcp, ↓w_ldne, ↓w_ldat, ↓w_ldj, ↓wLd_of r0, ↓wLd_of r1, ↓wLd_of r2, ↓wf_acp (a := 77) (b := 33) (la := 17) (lb := 17) rfl rfl, ↓wf_acp (a := 78) (b := 34) (la := 16) (lb := 16) rfl rfl, ↓wf_acp (a := 79) (b := 35) (la := 400) (lb := 400) rfl rfl]
    refine ⟨fun a ha => ?_, ?_, ?_, ?_, ?_, fun i i0 i1 => ?_, fun j j0 j1 => ?_⟩
    · simp (disch := omega) only [cp_ne, up_k]
    · simp (disch := omega) only [cp_ne, up_j, up_at]
    · simp (disch := omega) only [cp_ne, up_j, up_at]
    · simp (disch := omega) only [cp_ne, up_j, up_at]
    · simp (disch := omega) only [Nat.reduceAdd, cp_ne, cp_in, up_k]; exact r3
    · simp (disch := omega) only [Nat.reduceAdd, cp_ne, cp_in, up_k]; exact r4 i i0 i1
    · simp (disch := omega) only [Nat.reduceAdd, cp_ne, cp_in, up_k]; exact r5 j j0 j1
  obtain ⟨o, D, e, rfl, d1⟩ := wF_of key
  exact ⟨D, e, d1⟩

theorem im_ruleB2 {C : mMem} {R : aS} (h : RelRC C 81 R) (hw : WfR R) : ∃ D, f_Ru_become [.ref 37, .ref 81] C = some (none, D) ∧ (∀ a, a < 37 ∨ 40 < a → D a = C a) ∧ RelRC D 37 R := by
  obtain ⟨r0, r1, r2, r3, r4, r5⟩ := h
  obtain ⟨w0, w1, w2, w3, w4, _⟩ := hw
  have n0 : w01 (iz (R 0 2)) := by rcases w4 with e | e <;> rw [e] <;> unfold w01 <;> decide
  have key : wF f_Ru_become [.ref 37, .ref 81] C (fun o D => o = none ∧ (∀ a, a < 37 ∨ 40 < a → D a = C a) ∧ RelRC D 37 R) := by
    unfold f_Ru_become
    simp only [↓w_rcv, ↓w_bodyI, ↓w_bodyZ, ↓w_bodyV, true_and, List.length_cons, List.length_nil, Nat.reduceAdd, Nat.reduceSub, Nat.reduceLeDiff, List.replicate_succ, List.replicate_zero, List.cons_append, List.nil_append, List.append_nil, ↓tO_0, ↓tO_2, ↓tO_6, ↓tO_11, ↓tO_18, ↓tO_19, ↓tO_27, ↓tO_32, ↓tO_37, ↓tO_43, ↓tO_44, ↓tO_52, ↓tO_62, ↓tO_63, ↓tO_71, ↓tO_76, ↓tO_81, ↓tO_87, ↓tO_88, ↓tO_96, ↓tO_106, ↓tO_107, ↓tO_115, ↓tO_127, ↓tO_127c, ↓tO_133, ↓tO_133c, ↓tO_139]
    unfold S_Ru_become
    simp (disch := omega) only [↓w_eBin, ↓w_eUn, ↓w_eDiv, ↓w_eRem, ↓w_eFld, ↓w_rFld, ↓w_eALd, ↓w_rALd, ↓w_eALen, ↓w_rStr, ↓w_aNil, ↓w_aI, ↓w_aR, ↓w_N, ↓w_eCall, ↓w_X, ↓w_bCmp, ↓w_bAnd, ↓w_bOr, ↓w_bNot, ↓w_eB, ↓w_eIte, ↓w_sSkip, ↓w_sRet, ↓w_sRetZ, ↓w_sRetV, ↓w_sBrk, ↓w_sCont, ↓w_sIf, ↓w_sSeq, ↓w_sCaC, ↓w_sCaB, ↓w_sSw, ↓w_sCall, ↓w_sPut, ↓w_sPutOp, ↓w_sASt, ↓w_sAOp, ↓w_sADiv, ↓w_eLoc0, ↓w_rLoc0, ↓w_sSet0, ↓w_sSetR0, ↓w_sIncP0, ↓w_sIncM0, ↓w_eLoc1, ↓w_rLoc1, ↓w_sSet1, ↓w_sSetR1, ↓w_sIncP1, ↓w_sIncM1, ↓w_eLoc2, ↓w_rLoc2, ↓w_sSet2, ↓w_sSetR2, ↓w_sIncP2, ↓w_sIncM2, ↓w_eLoc3, ↓w_rLoc3, ↓w_sSet3, ↓w_sSetR3, ↓w_sIncP3, ↓w_sIncM3, ↓w_eLoc4, ↓w_rLoc4, ↓w_sSet4, ↓w_sSetR4, ↓w_sIncP4, ↓w_sIncM4, ↓w_eLoc5, ↓w_rLoc5, ↓w_sSet5, ↓w_sSetR5, ↓w_sIncP5, ↓w_sIncM5, ↓w_eLoc6, ↓w_rLoc6, ↓w_sSet6, ↓w_sSetR6, ↓w_sIncP6, ↓w_sIncM6, ↓w_eLoc7, ↓w_rLoc7, ↓w_sSet7, ↓w_sSetR7, ↓w_sIncP7, ↓w_sIncM7, ↓w_eLoc8, ↓w_rLoc8, ↓w_sSet8, ↓w_sSetR8, ↓w_sIncP8, ↓w_sIncM8, ↓w_eLoc9, ↓w_rLoc9, ↓w_sSet9, ↓w_sSetR9, ↓w_sIncP9, ↓w_sIncM9, ↓w_eLoc10, ↓w_rLoc10, ↓w_sSet10, ↓w_sSetR10, ↓w_sIncP10, ↓w_sIncM10, ↓w_eLoc11, ↓w_rLoc11, ↓w_sSet11, ↓w_sSetR11, ↓w_sIncP11, ↓w_sIncM11, ↓w_eLoc12, ↓w_rLoc12, ↓w_sSet12, ↓w_sSetR12, ↓w_sIncP12, ↓w_sIncM12, ↓w_eLoc13, ↓w_rLoc13, ↓w_sSet13, ↓w_sSetR13, ↓w_sIncP13, ↓w_sIncM13, ↓w_eIntN, ↓w_eIntM, ↓w_bZi, ↓w_add, ↓w_sub, ↓w_mul, ↓w_neg, ↓w_nar, ↓w_div, ↓w_ldne, ↓w_ldat, ↓w_ldj, List.length_cons, List.length_nil, Nat.reduceAdd, Nat.reduceSub, Nat.reduceLeDiff, List.replicate_succ, List.replicate_zero, List.cons_append, List.nil_append, List.append_nil, iz_nI, iz_ofNat, iz_add, iz_sub, iz_mul, cz_lt, cz_le, cz_gt, cz_ge, cz_eq, cz_ne, mIn_iz, iz_nat, decide_eq_true_eq, Bool.not_eq_true', decide_eq_false_iff_not, true_and, and_true, ↓reduceIte, not_true_eq_false, not_false_eq_true, w01_bI, w01_i0, w01_i1, bI_ne', bI_eq', bI_t, bI_f, Bool.false_eq_true, false_implies, forall_const, implies_true, true_implies, imp_self, eq_self, n0, ↓tO_81, ↓tI_81_0, ↓tI_81_1, ↓tI_81_2, ↓tI_81_3, ↓tR_81_4, ↓tR_81_5, ↓tR_81_6, ↓tR_81_7, ↓tA_82, ↓tN_82, ↓tA_83, ↓tN_83, ↓tA_84, ↓tN_84, ↓tO_37, ↓tI_37_0, ↓tI_37_1, ↓tI_37_2, ↓tI_37_3, ↓tR_37_4, ↓tR_37_5, ↓tR_37_6, ↓tR_37_7, ↓tA_38, ↓tN_38, ↓tA_39, ↓tN_39, ↓tA_40, ↓tN_40, ↓w_ldcp, ↓w_ldne, ↓w_ldat, ↓w_ldj, ↓wLd_of r0, ↓wLd_of r1, ↓wLd_of r2, ↓wf_acp (a := 82) (b := 38) (la := 17) (lb := 17) rfl rfl, ↓wf_acp (a := 83) (b := 39) (la := 16) (lb := 16) rfl rfl, ↓wf_acp (a := 84) (b := 40) (la := 400) (lb := 400) rfl rfl]
    refine ⟨fun a ha => ?_, ?_, ?_, ?_, ?_, fun i i0 i1 => ?_, fun j j0 j1 => ?_⟩
    · simp (disch := omega) only [cp_ne, up_k]
    · simp (disch := omega) only [cp_ne, up_j, up_at]
    · simp (disch := omega) only [cp_ne, up_j, up_at]
    · simp (disch := omega) only [cp_ne, up_j, up_at]
    · simp (disch := omega) only [Nat.reduceAdd, cp_ne, cp_in, up_k]; exact r3
    · simp (disch := omega) only [Nat.reduceAdd, cp_ne, cp_in, up_k]; exact r4 i i0 i1
    · simp (disch := omega) only [Nat.reduceAdd, cp_ne, cp_in, up_k]; exact r5 j j0 j1
  obtain ⟨o, D, e, rfl, d1⟩ := wF_of key
  exact ⟨D, e, d1⟩

theorem im_ruleT0 {C : mMem} {R : aS} (h : RelRC C 6 R) (hw : WfR R) : ∃ D, f_Ru_become [.ref 27, .ref 6] C = some (none, D) ∧ (∀ a, a < 27 ∨ 30 < a → D a = C a) ∧ RelRC D 27 R := by
  obtain ⟨r0, r1, r2, r3, r4, r5⟩ := h
  obtain ⟨w0, w1, w2, w3, w4, _⟩ := hw
  have n0 : w01 (iz (R 0 2)) := by rcases w4 with e | e <;> rw [e] <;> unfold w01 <;> decide
  have key : wF f_Ru_become [.ref 27, .ref 6] C (fun o D => o = none ∧ (∀ a, a < 27 ∨ 30 < a → D a = C a) ∧ RelRC D 27 R) := by
    unfold f_Ru_become
    simp only [↓w_rcv, ↓w_bodyI, ↓w_bodyZ, ↓w_bodyV, true_and, List.length_cons, List.length_nil, Nat.reduceAdd, Nat.reduceSub, Nat.reduceLeDiff, List.replicate_succ, List.replicate_zero, List.cons_append, List.nil_append, List.append_nil, ↓tO_0, ↓tO_2, ↓tO_6, ↓tO_11, ↓tO_18, ↓tO_19, ↓tO_27, ↓tO_32, ↓tO_37, ↓tO_43, ↓tO_44, ↓tO_52, ↓tO_62, ↓tO_63, ↓tO_71, ↓tO_76, ↓tO_81, ↓tO_87, ↓tO_88, ↓tO_96, ↓tO_106, ↓tO_107, ↓tO_115, ↓tO_127, ↓tO_127c, ↓tO_133, ↓tO_133c, ↓tO_139]
    unfold S_Ru_become
    simp (disch := omega) only [↓w_eBin, ↓w_eUn, ↓w_eDiv, ↓w_eRem, ↓w_eFld, ↓w_rFld, ↓w_eALd, ↓w_rALd, ↓w_eALen, ↓w_rStr, ↓w_aNil, ↓w_aI, ↓w_aR, ↓w_N, ↓w_eCall, ↓w_X, ↓w_bCmp, ↓w_bAnd, ↓w_bOr, ↓w_bNot, ↓w_eB, ↓w_eIte, ↓w_sSkip, ↓w_sRet, ↓w_sRetZ, ↓w_sRetV, ↓w_sBrk, ↓w_sCont, ↓w_sIf, ↓w_sSeq, ↓w_sCaC, ↓w_sCaB, ↓w_sSw, ↓w_sCall, ↓w_sPut, ↓w_sPutOp, ↓w_sASt, ↓w_sAOp, ↓w_sADiv, ↓w_eLoc0, ↓w_rLoc0, ↓w_sSet0, ↓w_sSetR0, ↓w_sIncP0, ↓w_sIncM0, ↓w_eLoc1, ↓w_rLoc1, ↓w_sSet1, ↓w_sSetR1, ↓w_sIncP1, ↓w_sIncM1, ↓w_eLoc2, ↓w_rLoc2, ↓w_sSet2, ↓w_sSetR2, ↓w_sIncP2, ↓w_sIncM2, ↓w_eLoc3, ↓w_rLoc3, ↓w_sSet3, ↓w_sSetR3, ↓w_sIncP3, ↓w_sIncM3, ↓w_eLoc4, ↓w_rLoc4, ↓w_sSet4, ↓w_sSetR4, ↓w_sIncP4, ↓w_sIncM4, ↓w_eLoc5, ↓w_rLoc5, ↓w_sSet5, ↓w_sSetR5, ↓w_sIncP5, ↓w_sIncM5, ↓w_eLoc6, ↓w_rLoc6, ↓w_sSet6, ↓w_sSetR6, ↓w_sIncP6, ↓w_sIncM6, ↓w_eLoc7, ↓w_rLoc7, ↓w_sSet7, ↓w_sSetR7, ↓w_sIncP7, ↓w_sIncM7, ↓w_eLoc8, ↓w_rLoc8, ↓w_sSet8, ↓w_sSetR8, ↓w_sIncP8, ↓w_sIncM8, ↓w_eLoc9, ↓w_rLoc9, ↓w_sSet9, ↓w_sSetR9, ↓w_sIncP9, ↓w_sIncM9, ↓w_eLoc10, ↓w_rLoc10, ↓w_sSet10, ↓w_sSetR10, ↓w_sIncP10, ↓w_sIncM10, ↓w_eLoc11, ↓w_rLoc11, ↓w_sSet11, ↓w_sSetR11, ↓w_sIncP11, ↓w_sIncM11, ↓w_eLoc12, ↓w_rLoc12, ↓w_sSet12, ↓w_sSetR12, ↓w_sIncP12, ↓w_sIncM12, ↓w_eLoc13, ↓w_rLoc13, ↓w_sSet13, ↓w_sSetR13, ↓w_sIncP13, ↓w_sIncM13, ↓w_eIntN, ↓w_eIntM, ↓w_bZi, ↓w_add, ↓w_sub, ↓w_mul, ↓w_neg, ↓w_nar, ↓w_div, ↓w_ldne, ↓w_ldat, ↓w_ldj, List.length_cons, List.length_nil, Nat.reduceAdd, Nat.reduceSub, Nat.reduceLeDiff, List.replicate_succ, List.replicate_zero, List.cons_append, List.nil_append, List.append_nil, iz_nI, iz_ofNat, iz_add, iz_sub, iz_mul, cz_lt, cz_le, cz_gt, cz_ge, cz_eq, cz_ne, mIn_iz, iz_nat, decide_eq_true_eq, Bool.not_eq_true', decide_eq_false_iff_not, true_and, and_true, ↓reduceIte, not_true_eq_false, not_false_eq_true, w01_bI, w01_i0, w01_i1, bI_ne', bI_eq', bI_t, bI_f, Bool.false_eq_true, false_implies, forall_const, implies_true, true_implies, imp_self, eq_self, n0, ↓tO_6, ↓tI_6_0, ↓tI_6_1, ↓tI_6_2, ↓tI_6_3, ↓tR_6_4, ↓tR_6_5, ↓tR_6_6, ↓tR_6_7, ↓tA_7, ↓tN_7, ↓tA_8, ↓tN_8, ↓tA_9, ↓tN_9, ↓tO_27, ↓tI_27_0, ↓tI_27_1, ↓tI_27_2, ↓tI_27_3, ↓tR_27_4, ↓tR_27_5, ↓tR_27_6, ↓tR_27_7, ↓tA_28, ↓tN_28, ↓tA_29, ↓tN_29, ↓tA_30, ↓tN_30, ↓w_ldcp, ↓w_ldne, ↓w_ldat, ↓w_ldj, ↓wLd_of r0, ↓wLd_of r1, ↓wLd_of r2, ↓wf_acp (a := 7) (b := 28) (la := 17) (lb := 17) rfl rfl, ↓wf_acp (a := 8) (b := 29) (la := 16) (lb := 16) rfl rfl, ↓wf_acp (a := 9) (b := 30) (la := 400) (lb := 400) rfl rfl]
    refine ⟨fun a ha => ?_, ?_, ?_, ?_, ?_, fun i i0 i1 => ?_, fun j j0 j1 => ?_⟩
    · simp (disch := omega) only [cp_ne, up_k]
    · simp (disch := omega) only [cp_ne, up_j, up_at]
    · simp (disch := omega) only [cp_ne, up_j, up_at]
    · simp (disch := omega) only [cp_ne, up_j, up_at]
    · simp (disch := omega) only [Nat.reduceAdd, cp_ne, cp_in, up_k]; exact r3
    · simp (disch := omega) only [Nat.reduceAdd, cp_ne, cp_in, up_k]; exact r4 i i0 i1
    · simp (disch := omega) only [Nat.reduceAdd, cp_ne, cp_in, up_k]; exact r5 j j0 j1
  obtain ⟨o, D, e, rfl, d1⟩ := wF_of key
  exact ⟨D, e, d1⟩

theorem im_ruleT1 {C : mMem} {R : aS} (h : RelRC C 6 R) (hw : WfR R) : ∃ D, f_Ru_become [.ref 32, .ref 6] C = some (none, D) ∧ (∀ a, a < 32 ∨ 35 < a → D a = C a) ∧ RelRC D 32 R := by
  obtain ⟨r0, r1, r2, r3, r4, r5⟩ := h
  obtain ⟨w0, w1, w2, w3, w4, _⟩ := hw
  have n0 : w01 (iz (R 0 2)) := by rcases w4 with e | e <;> rw [e] <;> unfold w01 <;> decide
  have key : wF f_Ru_become [.ref 32, .ref 6] C (fun o D => o = none ∧ (∀ a, a < 32 ∨ 35 < a → D a = C a) ∧ RelRC D 32 R) := by
    unfold f_Ru_become
    simp only [↓w_rcv, ↓w_bodyI, ↓w_bodyZ, ↓w_bodyV, true_and, List.length_cons, List.length_nil, Nat.reduceAdd, Nat.reduceSub, Nat.reduceLeDiff, List.replicate_succ, List.replicate_zero, List.cons_append, List.nil_append, List.append_nil, ↓tO_0, ↓tO_2, ↓tO_6, ↓tO_11, ↓tO_18, ↓tO_19, ↓tO_27, ↓tO_32, ↓tO_37, ↓tO_43, ↓tO_44, ↓tO_52, ↓tO_62, ↓tO_63, ↓tO_71, ↓tO_76, ↓tO_81, ↓tO_87, ↓tO_88, ↓tO_96, ↓tO_106, ↓tO_107, ↓tO_115, ↓tO_127, ↓tO_127c, ↓tO_133, ↓tO_133c, ↓tO_139]
    unfold S_Ru_become
    simp (disch := omega) only [↓w_eBin, ↓w_eUn, ↓w_eDiv, ↓w_eRem, ↓w_eFld, ↓w_rFld, ↓w_eALd, ↓w_rALd, ↓w_eALen, ↓w_rStr, ↓w_aNil, ↓w_aI, ↓w_aR, ↓w_N, ↓w_eCall, ↓w_X, ↓w_bCmp, ↓w_bAnd, ↓w_bOr, ↓w_bNot, ↓w_eB, ↓w_eIte, ↓w_sSkip, ↓w_sRet, ↓w_sRetZ, ↓w_sRetV, ↓w_sBrk, ↓w_sCont, ↓w_sIf, ↓w_sSeq, ↓w_sCaC, ↓w_sCaB, ↓w_sSw, ↓w_sCall, ↓w_sPut, ↓w_sPutOp, ↓w_sASt, ↓w_sAOp, ↓w_sADiv, ↓w_eLoc0, ↓w_rLoc0, ↓w_sSet0, ↓w_sSetR0, ↓w_sIncP0, ↓w_sIncM0, ↓w_eLoc1, ↓w_rLoc1, ↓w_sSet1, ↓w_sSetR1, ↓w_sIncP1, ↓w_sIncM1, ↓w_eLoc2, ↓w_rLoc2, ↓w_sSet2, ↓w_sSetR2, ↓w_sIncP2, ↓w_sIncM2, ↓w_eLoc3, ↓w_rLoc3, ↓w_sSet3, ↓w_sSetR3, ↓w_sIncP3, ↓w_sIncM3, ↓w_eLoc4, ↓w_rLoc4, ↓w_sSet4, ↓w_sSetR4, ↓w_sIncP4, ↓w_sIncM4, ↓w_eLoc5, ↓w_rLoc5, ↓w_sSet5, ↓w_sSetR5, ↓w_sIncP5, ↓w_sIncM5, ↓w_eLoc6, ↓w_rLoc6, ↓w_sSet6, ↓w_sSetR6, ↓w_sIncP6, ↓w_sIncM6, ↓w_eLoc7, ↓w_rLoc7, ↓w_sSet7, ↓w_sSetR7, ↓w_sIncP7, ↓w_sIncM7, ↓w_eLoc8, ↓w_rLoc8, ↓w_sSet8, ↓w_sSetR8, ↓w_sIncP8, ↓w_sIncM8, ↓w_eLoc9, ↓w_rLoc9, ↓w_sSet9, ↓w_sSetR9, ↓w_sIncP9, ↓w_sIncM9, ↓w_eLoc10, ↓w_rLoc10, ↓w_sSet10, ↓w_sSetR10, ↓w_sIncP10, ↓w_sIncM10, ↓w_eLoc11, ↓w_rLoc11, ↓w_sSet11, ↓w_sSetR11, ↓w_sIncP11, ↓w_sIncM11, ↓w_eLoc12, ↓w_rLoc12, ↓w_sSet12, ↓w_sSetR12, ↓w_sIncP12, ↓w_sIncM12, ↓w_eLoc13, ↓w_rLoc13, ↓w_sSet13, ↓w_sSetR13, ↓w_sIncP13, ↓w_sIncM13, ↓w_eIntN, ↓w_eIntM, ↓w_bZi, ↓w_add, ↓w_sub, ↓w_mul, ↓w_neg, ↓w_nar, ↓w_div, ↓w_ldne, ↓w_ldat, ↓w_ldj, List.length_cons, List.length_nil, Nat.reduceAdd, Nat.reduceSub, Nat.reduceLeDiff, List.replicate_succ, List.replicate_zero, List.cons_append, List.nil_append, List.append_nil, iz_nI, iz_ofNat, iz_add, iz_sub, iz_mul, cz_lt, cz_le, cz_gt, cz_ge, cz_eq, cz_ne, mIn_iz, iz_nat, decide_eq_true_eq, Bool.not_eq_true', decide_eq_false_iff_not, true_and, and_true, ↓reduceIte, not_true_eq_false, not_false_eq_true, w01_bI, w01_i0, w01_i1, bI_ne', bI_eq', bI_t, bI_f, Bool.false_eq_true, false_implies, forall_const, implies_true, true_implies, imp_self, eq_self, n0, ↓tO_6, ↓tI_6_0, ↓tI_6_1, ↓tI_6_2, ↓tI_6_3, ↓tR_6_4, ↓tR_6_5, ↓tR_6_6, ↓tR_6_7, ↓tA_7, ↓tN_7, ↓tA_8, ↓tN_8, ↓tA_9, ↓tN_9, ↓tO_32, ↓tI_32_0, ↓tI_32_1, ↓tI_32_2, ↓tI_32_3, ↓tR_32_4, ↓tR_32_5, ↓tR_32_6, ↓tR_32_7, ↓tA_33, ↓tN_33, ↓tA_34, ↓tN_34, ↓tA_35, ↓tN_35, ↓w_ldcp, ↓w_ldne, ↓w_ldat, ↓w_ldj, ↓wLd_of r0, ↓wLd_of r1, ↓wLd_of r2, ↓wf_acp (a := 7) (b := 33) (la := 17) (lb := 17) rfl rfl, ↓wf_acp (a := 8) (b := 34) (la := 16) (lb := 16) rfl rfl, ↓wf_acp (a := 9) (b := 35) (la := 400) (lb := 400) rfl rfl]
    refine ⟨fun a ha => ?_, ?_, ?_, ?_, ?_, fun i i0 i1 => ?_, fun j j0 j1 => ?_⟩
    · simp (disch := omega) only [cp_ne, up_k]
    · simp (disch := omega) only [cp_ne, up_j, up_at]
    · simp (disch := omega) only [cp_ne, up_j, up_at]
    · simp (disch := omega) only [cp_ne, up_j, up_at]
    · simp (disch := omega) only [Nat.reduceAdd, cp_ne, cp_in, up_k]; exact r3
    · simp (disch := omega) only [Nat.reduceAdd, cp_ne, cp_in, up_k]; exact r4 i i0 i1
    · simp (disch := omega) only [Nat.reduceAdd, cp_ne, cp_in, up_k]; exact r5 j j0 j1
  obtain ⟨o, D, e, rfl, d1⟩ := wF_of key
  exact ⟨D, e, d1⟩

theorem im_ruleT2 {C : mMem} {R : aS} (h : RelRC C 6 R) (hw : WfR R) : ∃ D, f_Ru_become [.ref 37, .ref 6] C = some (none, D) ∧ (∀ a, a < 37 ∨ 40 < a → D a = C a) ∧ RelRC D 37 R := by
  obtain ⟨r0, r1, r2, r3, r4, r5⟩ := h
  obtain ⟨w0, w1, w2, w3, w4, _⟩ := hw
  have n0 : w01 (iz (R 0 2)) := by rcases w4 with e | e <;> rw [e] <;> unfold w01 <;> decide
  have key : wF f_Ru_become [.ref 37, .ref 6] C (fun o D => o = none ∧ (∀ a, a < 37 ∨ 40 < a → D a = C a) ∧ RelRC D 37 R) := by
    unfold f_Ru_become
    simp only [↓w_rcv, ↓w_bodyI, ↓w_bodyZ, ↓w_bodyV, true_and, List.length_cons, List.length_nil, Nat.reduceAdd, Nat.reduceSub, Nat.reduceLeDiff, List.replicate_succ, List.replicate_zero, List.cons_append, List.nil_append, List.append_nil, ↓tO_0, ↓tO_2, ↓tO_6, ↓tO_11, ↓tO_18, ↓tO_19, ↓tO_27, ↓tO_32, ↓tO_37, ↓tO_43, ↓tO_44, ↓tO_52, ↓tO_62, ↓tO_63, ↓tO_71, ↓tO_76, ↓tO_81, ↓tO_87, ↓tO_88, ↓tO_96, ↓tO_106, ↓tO_107, ↓tO_115, ↓tO_127, ↓tO_127c, ↓tO_133, ↓tO_133c, ↓tO_139]
    unfold S_Ru_become
    simp (disch := omega) only [↓w_eBin, ↓w_eUn, ↓w_eDiv, ↓w_eRem, ↓w_eFld, ↓w_rFld, ↓w_eALd, ↓w_rALd, ↓w_eALen, ↓w_rStr, ↓w_aNil, ↓w_aI, ↓w_aR, ↓w_N, ↓w_eCall, ↓w_X, ↓w_bCmp, ↓w_bAnd, ↓w_bOr, ↓w_bNot, ↓w_eB, ↓w_eIte, ↓w_sSkip, ↓w_sRet, ↓w_sRetZ, ↓w_sRetV, ↓w_sBrk, ↓w_sCont, ↓w_sIf, ↓w_sSeq, ↓w_sCaC, ↓w_sCaB, ↓w_sSw, ↓w_sCall, ↓w_sPut, ↓w_sPutOp, ↓w_sASt, ↓w_sAOp, ↓w_sADiv, ↓w_eLoc0, ↓w_rLoc0, ↓w_sSet0, ↓w_sSetR0, ↓w_sIncP0, ↓w_sIncM0, ↓w_eLoc1, ↓w_rLoc1, ↓w_sSet1, ↓w_sSetR1, ↓w_sIncP1, ↓w_sIncM1, ↓w_eLoc2, ↓w_rLoc2, ↓w_sSet2, ↓w_sSetR2, ↓w_sIncP2, ↓w_sIncM2, ↓w_eLoc3, ↓w_rLoc3, ↓w_sSet3, ↓w_sSetR3, ↓w_sIncP3, ↓w_sIncM3, ↓w_eLoc4, ↓w_rLoc4, ↓w_sSet4, ↓w_sSetR4, ↓w_sIncP4, ↓w_sIncM4, ↓w_eLoc5, ↓w_rLoc5, ↓w_sSet5, ↓w_sSetR5, ↓w_sIncP5, ↓w_sIncM5, ↓w_eLoc6, ↓w_rLoc6, ↓w_sSet6, ↓w_sSetR6, ↓w_sIncP6, ↓w_sIncM6, ↓w_eLoc7, ↓w_rLoc7, ↓w_sSet7, ↓w_sSetR7, ↓w_sIncP7, ↓w_sIncM7, ↓w_eLoc8, ↓w_rLoc8, ↓w_sSet8, ↓w_sSetR8, ↓w_sIncP8, ↓w_sIncM8, ↓w_eLoc9, ↓w_rLoc9, ↓w_sSet9, ↓w_sSetR9, ↓w_sIncP9, ↓w_sIncM9, ↓w_eLoc10, ↓w_rLoc10, ↓w_sSet10, ↓w_sSetR10, ↓w_sIncP10, ↓w_sIncM10, ↓w_eLoc11, ↓w_rLoc11, ↓w_sSet11, ↓w_sSetR11, ↓w_sIncP11, ↓w_sIncM11, ↓w_eLoc12, ↓w_rLoc12, ↓w_sSet12, ↓w_sSetR12, ↓w_sIncP12, ↓w_sIncM12, ↓w_eLoc13, ↓w_rLoc13, ↓w_sSet13, ↓w_sSetR13, ↓w_sIncP13, ↓w_sIncM13, ↓w_eIntN, ↓w_eIntM, ↓w_bZi, ↓w_add, ↓w_sub, ↓w_mul, ↓w_neg, ↓w_nar, ↓w_div, ↓w_ldne, ↓w_ldat, ↓w_ldj, List.length_cons, List.length_nil, Nat.reduceAdd, Nat.reduceSub, Nat.reduceLeDiff, List.replicate_succ, List.replicate_zero, List.cons_append, List.nil_append, List.append_nil, iz_nI, iz_ofNat, iz_add, iz_sub, iz_mul, cz_lt, cz_le, cz_gt, cz_ge, cz_eq, cz_ne, mIn_iz, iz_nat, decide_eq_true_eq, Bool.not_eq_true', decide_eq_false_iff_not, true_and, and_true, ↓reduceIte, not_true_eq_false, not_false_eq_true, w01_bI, w01_i0, w01_i1, bI_ne', bI_eq', bI_t, bI_f, Bool.false_eq_true, false_implies, forall_const, implies_true, true_implies, imp_self, eq_self, n0, ↓tO_6, ↓tI_6_0, ↓tI_6_1, ↓tI_6_2, ↓tI_6_3, ↓tR_6_4, ↓tR_6_5, ↓tR_6_6, ↓tR_6_7, ↓tA_7, ↓tN_7, ↓tA_8, ↓tN_8, ↓tA_9, ↓tN_9, ↓tO_37, ↓tI_37_0, ↓tI_37_1, ↓tI_37_2, ↓tI_37_3, ↓tR_37_4, ↓tR_37_5, ↓tR_37_6, ↓tR_37_7, ↓tA_38, ↓tN_38, ↓tA_39, ↓tN_39, ↓tA_40, ↓tN_40, ↓w_ldcp, ↓w_ldne, ↓w_ldat, ↓w_ldj, ↓wLd_of r0, ↓wLd_of r1, ↓wLd_of r2, ↓wf_acp (a := 7) (b := 38) (la := 17) (lb := 17) rfl rfl, ↓wf_acp (a := 8) (b := 39) (la := 16) (lb := 16) rfl rfl, ↓wf_acp (a := 9) (b := 40) (la := 400) (lb := 400) rfl rfl]
    refine ⟨fun a ha => ?_, ?_, ?_, ?_, ?_, fun i i0 i1 => ?_, fun j j0 j1 => ?_⟩
    · simp (disch := omega) only [cp_ne, up_k]
    · simp (disch := omega) only [cp_ne, up_j, up_at]
    · simp (disch := omega) only [cp_ne, up_j, up_at]
    · simp (disch := omega) only [cp_ne, up_j, up_at]
    · simp (disch := omega) only [Nat.reduceAdd, cp_ne, cp_in, up_k]; exact r3
    · simp (disch := omega) only [Nat.reduceAdd, cp_ne, cp_in, up_k]; exact r4 i i0 i1
    · simp (disch := omega) only [Nat.reduceAdd, cp_ne, cp_in, up_k]; exact r5 j j0 j1
  obtain ⟨o, D, e, rfl, d1⟩ := wF_of key
  exact ⟨D, e, d1⟩

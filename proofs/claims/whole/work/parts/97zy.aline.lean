/-! texts: a line of a rule, in the reference -/
noncomputable section
section
variable {b : Nat → Int} {L n j q : Nat} {C D E F G0 G1 G2 G3 G4 G5 G6 G7 : mMem} {l o : List (Int × Int)} {Ls : List Ln} {wh dp : Int}
theorem ml_1 {p : Int} (h18 : E 139 18 = iz p) (pr : 0 ≤ p ∧ p ≤ 400) (n1 : ¬ (20 ≤ p ∧ p ≤ 21)) (rf : f_M_bad [.ref 139, .int (iz 1)] E = some (some (bI false), F)) : f_M_aLine [.ref 139] E = some (some (bI false), F) := by
  apply wF_to
  unfold f_M_aLine
  simp only [↓w_rcv, ↓w_bodyI, ↓w_bodyZ, ↓w_bodyV, true_and, List.length_cons, List.length_nil, Nat.reduceAdd, Nat.reduceSub, Nat.reduceLeDiff, List.replicate_succ, List.replicate_zero, List.cons_append, List.nil_append, List.append_nil, ↓tO_0, ↓tO_2, ↓tO_6, ↓tO_11, ↓tO_18, ↓tO_19, ↓tO_27, ↓tO_32, ↓tO_37, ↓tO_43, ↓tO_44, ↓tO_52, ↓tO_62, ↓tO_63, ↓tO_71, ↓tO_76, ↓tO_81, ↓tO_87, ↓tO_88, ↓tO_96, ↓tO_106, ↓tO_107, ↓tO_115, ↓tO_127, ↓tO_127c, ↓tO_133, ↓tO_133c, ↓tO_139]
  unfold S_M_aLine
  simp (disch := omega) only [↓w_eBin, ↓w_eUn, ↓w_eDiv, ↓w_eRem, ↓w_eFld, ↓w_rFld, ↓w_eALd, ↓w_rALd, ↓w_eALen, ↓w_rStr, ↓w_aNil, ↓w_aI, ↓w_aR, ↓w_N, ↓w_eCall, ↓w_X, ↓w_bCmp, ↓w_bAnd, ↓w_bOr, ↓w_bNot, ↓w_eB, ↓w_eIte, ↓w_sSkip, ↓w_sRet, ↓w_sRetZ, ↓w_sRetV, ↓w_sBrk, ↓w_sCont, ↓w_sIf, ↓w_sSeq, ↓w_sCaC, ↓w_sCaB, ↓w_sSw, ↓w_sCall, ↓w_sPut, ↓w_sPutOp, ↓w_sASt, ↓w_sAOp, ↓w_sADiv, ↓w_eLoc0, ↓w_rLoc0, ↓w_sSet0, ↓w_sSetR0, ↓w_sIncP0, ↓w_sIncM0, ↓w_eLoc1, ↓w_rLoc1, ↓w_sSet1, ↓w_sSetR1, ↓w_sIncP1, ↓w_sIncM1, ↓w_eLoc2, ↓w_rLoc2, ↓w_sSet2, ↓w_sSetR2, ↓w_sIncP2, ↓w_sIncM2, ↓w_eLoc3, ↓w_rLoc3, ↓w_sSet3, ↓w_sSetR3, ↓w_sIncP3, ↓w_sIncM3, ↓w_eLoc4, ↓w_rLoc4, ↓w_sSet4, ↓w_sSetR4, ↓w_sIncP4, ↓w_sIncM4, ↓w_eLoc5, ↓w_rLoc5, ↓w_sSet5, ↓w_sSetR5, ↓w_sIncP5, ↓w_sIncM5, ↓w_eLoc6, ↓w_rLoc6, ↓w_sSet6, ↓w_sSetR6, ↓w_sIncP6, ↓w_sIncM6, ↓w_eLoc7, ↓w_rLoc7, ↓w_sSet7, ↓w_sSetR7, ↓w_sIncP7, ↓w_sIncM7, ↓w_eLoc8, ↓w_rLoc8, ↓w_sSet8, ↓w_sSetR8, ↓w_sIncP8, ↓w_sIncM8, ↓w_eLoc9, ↓w_rLoc9, ↓w_sSet9, ↓w_sSetR9, ↓w_sIncP9, ↓w_sIncM9, ↓w_eLoc10, ↓w_rLoc10, ↓w_sSet10, ↓w_sSetR10, ↓w_sIncP10, ↓w_sIncM10, ↓w_eLoc11, ↓w_rLoc11, ↓w_sSet11, ↓w_sSetR11, ↓w_sIncP11, ↓w_sIncM11, ↓w_eLoc12, ↓w_rLoc12, ↓w_sSet12, ↓w_sSetR12, ↓w_sIncP12, ↓w_sIncM12, ↓w_eLoc13, ↓w_rLoc13, ↓w_sSet13, ↓w_sSetR13, ↓w_sIncP13, ↓w_sIncM13, ↓w_eIntN, ↓w_eIntM, ↓w_bZi, ↓w_add, ↓w_sub, ↓w_mul, ↓w_neg, ↓w_nar, ↓w_div, ↓w_ldne, ↓w_ldat, ↓w_ldj, List.length_cons, List.length_nil, Nat.reduceAdd, Nat.reduceSub, Nat.reduceLeDiff, List.replicate_succ, List.replicate_zero, List.cons_append, List.nil_append, List.append_nil, iz_nI, iz_ofNat, iz_add, iz_sub, iz_mul, cz_lt, cz_le, cz_gt, cz_ge, cz_eq, cz_ne, mIn_iz, iz_nat, decide_eq_true_eq, Bool.not_eq_true', decide_eq_false_iff_not, true_and, and_true, ↓reduceIte, not_true_eq_false, not_false_eq_true, w01_bI, w01_i0, w01_i1, bI_ne', bI_eq', Bool.false_eq_true, false_implies, forall_const, implies_true, true_implies, imp_self, eq_self, cz10, cz00, w01_0, w01_1, Bool.true_eq_false, Bool.not_true, Bool.not_false, decide_true, decide_false, ↓tO_139, ↓tR_139_0, ↓tR_139_1, ↓tR_139_2, ↓tI_139_3, ↓tR_139_4, ↓tR_139_5, ↓tR_139_6, ↓tR_139_7, ↓tR_139_8, ↓tR_139_9, ↓tR_139_10, ↓tI_139_11, ↓tI_139_12, ↓tI_139_13, ↓tI_139_14, ↓tI_139_15, ↓tI_139_16, ↓tI_139_17, ↓tI_139_18, ↓tI_139_19, ↓tI_139_20, ↓tI_139_21, ↓tI_139_22, ↓tI_139_23, ↓tI_139_24, ↓tI_139_25, ↓tI_139_26, ↓tR_139_27, ↓tI_139_28, ↓tI_139_29, ↓tI_139_30, ↓tI_139_31, ↓tR_139_32, ↓tI_139_33, ↓tR_139_34, ↓tR_139_35, ↓tR_139_36, ↓tR_139_37, ↓tI_139_38, ↓tA_143, ↓tN_143, Int.reduceEq, Int.reduceLE, Int.reduceSub, and_self, ↓wf_isIn, ↓wLd_of h18, n1, ↓wF_eq rf]
theorem ml_3 {p : Int} (h18 : E 139 18 = iz p) (hp : p = 20 ∨ p = 21) (h12 : E 139 12 = iz 16) (rf : f_M_bad [.ref 139, .int (iz 3)] E = some (some (bI false), F)) : f_M_aLine [.ref 139] E = some (some (bI false), F) := by
  apply wF_to
  unfold f_M_aLine
  simp only [↓w_rcv, ↓w_bodyI, ↓w_bodyZ, ↓w_bodyV, true_and, List.length_cons, List.length_nil, Nat.reduceAdd, Nat.reduceSub, Nat.reduceLeDiff, List.replicate_succ, List.replicate_zero, List.cons_append, List.nil_append, List.append_nil, ↓tO_0, ↓tO_2, ↓tO_6, ↓tO_11, ↓tO_18, ↓tO_19, ↓tO_27, ↓tO_32, ↓tO_37, ↓tO_43, ↓tO_44, ↓tO_52, ↓tO_62, ↓tO_63, ↓tO_71, ↓tO_76, ↓tO_81, ↓tO_87, ↓tO_88, ↓tO_96, ↓tO_106, ↓tO_107, ↓tO_115, ↓tO_127, ↓tO_127c, ↓tO_133, ↓tO_133c, ↓tO_139]
  unfold S_M_aLine
  rcases hp with rfl | rfl
  · simp (disch := omega) only [↓w_eBin, ↓w_eUn, ↓w_eDiv, ↓w_eRem, ↓w_eFld, ↓w_rFld, ↓w_eALd, ↓w_rALd, ↓w_eALen, ↓w_rStr, ↓w_aNil, ↓w_aI, ↓w_aR, ↓w_N, ↓w_eCall, ↓w_X, ↓w_bCmp, ↓w_bAnd, ↓w_bOr, ↓w_bNot, ↓w_eB, ↓w_eIte, ↓w_sSkip, ↓w_sRet, ↓w_sRetZ, ↓w_sRetV, ↓w_sBrk, ↓w_sCont, ↓w_sIf, ↓w_sSeq, ↓w_sCaC, ↓w_sCaB, ↓w_sSw, ↓w_sCall, ↓w_sPut, ↓w_sPutOp, ↓w_sASt, ↓w_sAOp, ↓w_sADiv, ↓w_eLoc0, ↓w_rLoc0, ↓w_sSet0, ↓w_sSetR0, ↓w_sIncP0, ↓w_sIncM0, ↓w_eLoc1, ↓w_rLoc1, ↓w_sSet1, ↓w_sSetR1, ↓w_sIncP1, ↓w_sIncM1, ↓w_eLoc2, ↓w_rLoc2, ↓w_sSet2, ↓w_sSetR2, ↓w_sIncP2, ↓w_sIncM2, ↓w_eLoc3, ↓w_rLoc3, ↓w_sSet3, ↓w_sSetR3, ↓w_sIncP3, ↓w_sIncM3, ↓w_eLoc4, ↓w_rLoc4, ↓w_sSet4, ↓w_sSetR4, ↓w_sIncP4, ↓w_sIncM4, ↓w_eLoc5, ↓w_rLoc5, ↓w_sSet5, ↓w_sSetR5, ↓w_sIncP5, ↓w_sIncM5, ↓w_eLoc6, ↓w_rLoc6, ↓w_sSet6, ↓w_sSetR6, ↓w_sIncP6, ↓w_sIncM6, ↓w_eLoc7, ↓w_rLoc7, ↓w_sSet7, ↓w_sSetR7, ↓w_sIncP7, ↓w_sIncM7, ↓w_eLoc8, ↓w_rLoc8, ↓w_sSet8, ↓w_sSetR8, ↓w_sIncP8, ↓w_sIncM8, ↓w_eLoc9, ↓w_rLoc9, ↓w_sSet9, ↓w_sSetR9, ↓w_sIncP9, ↓w_sIncM9, ↓w_eLoc10, ↓w_rLoc10, ↓w_sSet10, ↓w_sSetR10, ↓w_sIncP10, ↓w_sIncM10, ↓w_eLoc11, ↓w_rLoc11, ↓w_sSet11, ↓w_sSetR11, ↓w_sIncP11, ↓w_sIncM11, ↓w_eLoc12, ↓w_rLoc12, ↓w_sSet12, ↓w_sSetR12, ↓w_sIncP12, ↓w_sIncM12, ↓w_eLoc13, ↓w_rLoc13, ↓w_sSet13, ↓w_sSetR13, ↓w_sIncP13, ↓w_sIncM13, ↓w_eIntN, ↓w_eIntM, ↓w_bZi, ↓w_add, ↓w_sub, ↓w_mul, ↓w_neg, ↓w_nar, ↓w_div, ↓w_ldne, ↓w_ldat, ↓w_ldj, List.length_cons, List.length_nil, Nat.reduceAdd, Nat.reduceSub, Nat.reduceLeDiff, List.replicate_succ, List.replicate_zero, List.cons_append, List.nil_append, List.append_nil, iz_nI, iz_ofNat, iz_add, iz_sub, iz_mul, cz_lt, cz_le, cz_gt, cz_ge, cz_eq, cz_ne, mIn_iz, iz_nat, decide_eq_true_eq, Bool.not_eq_true', decide_eq_false_iff_not, true_and, and_true, ↓reduceIte, not_true_eq_false, not_false_eq_true, w01_bI, w01_i0, w01_i1, bI_ne', bI_eq', Bool.false_eq_true, false_implies, forall_const, implies_true, true_implies, imp_self, eq_self, cz10, cz00, w01_0, w01_1, Bool.true_eq_false, Bool.not_true, Bool.not_false, decide_true, decide_false, ↓tO_139, ↓tR_139_0, ↓tR_139_1, ↓tR_139_2, ↓tI_139_3, ↓tR_139_4, ↓tR_139_5, ↓tR_139_6, ↓tR_139_7, ↓tR_139_8, ↓tR_139_9, ↓tR_139_10, ↓tI_139_11, ↓tI_139_12, ↓tI_139_13, ↓tI_139_14, ↓tI_139_15, ↓tI_139_16, ↓tI_139_17, ↓tI_139_18, ↓tI_139_19, ↓tI_139_20, ↓tI_139_21, ↓tI_139_22, ↓tI_139_23, ↓tI_139_24, ↓tI_139_25, ↓tI_139_26, ↓tR_139_27, ↓tI_139_28, ↓tI_139_29, ↓tI_139_30, ↓tI_139_31, ↓tR_139_32, ↓tI_139_33, ↓tR_139_34, ↓tR_139_35, ↓tR_139_36, ↓tR_139_37, ↓tI_139_38, ↓tA_143, ↓tN_143, Int.reduceEq, Int.reduceLE, Int.reduceSub, and_self, ↓wf_isIn, ↓wLd_of h18, ↓wLd_of h12, ↓wF_eq rf]
  · simp (disch := omega) only [↓w_eBin, ↓w_eUn, ↓w_eDiv, ↓w_eRem, ↓w_eFld, ↓w_rFld, ↓w_eALd, ↓w_rALd, ↓w_eALen, ↓w_rStr, ↓w_aNil, ↓w_aI, ↓w_aR, ↓w_N, ↓w_eCall, ↓w_X, ↓w_bCmp, ↓w_bAnd, ↓w_bOr, ↓w_bNot, ↓w_eB, ↓w_eIte, ↓w_sSkip, ↓w_sRet, ↓w_sRetZ, ↓w_sRetV, ↓w_sBrk, ↓w_sCont, ↓w_sIf, ↓w_sSeq, ↓w_sCaC, ↓w_sCaB, ↓w_sSw, ↓w_sCall, ↓w_sPut, ↓w_sPutOp, ↓w_sASt, ↓w_sAOp, ↓w_sADiv, ↓w_eLoc0, ↓w_rLoc0, ↓w_sSet0, ↓w_sSetR0, ↓w_sIncP0, ↓w_sIncM0, ↓w_eLoc1, ↓w_rLoc1, ↓w_sSet1, ↓w_sSetR1, ↓w_sIncP1, ↓w_sIncM1, ↓w_eLoc2, ↓w_rLoc2, ↓w_sSet2, ↓w_sSetR2, ↓w_sIncP2, ↓w_sIncM2, ↓w_eLoc3, ↓w_rLoc3, ↓w_sSet3, ↓w_sSetR3, ↓w_sIncP3, ↓w_sIncM3, ↓w_eLoc4, ↓w_rLoc4, ↓w_sSet4, ↓w_sSetR4, ↓w_sIncP4, ↓w_sIncM4, ↓w_eLoc5, ↓w_rLoc5, ↓w_sSet5, ↓w_sSetR5, ↓w_sIncP5, ↓w_sIncM5, ↓w_eLoc6, ↓w_rLoc6, ↓w_sSet6, ↓w_sSetR6, ↓w_sIncP6, ↓w_sIncM6, ↓w_eLoc7, ↓w_rLoc7, ↓w_sSet7, ↓w_sSetR7, ↓w_sIncP7, ↓w_sIncM7, ↓w_eLoc8, ↓w_rLoc8, ↓w_sSet8, ↓w_sSetR8, ↓w_sIncP8, ↓w_sIncM8, ↓w_eLoc9, ↓w_rLoc9, ↓w_sSet9, ↓w_sSetR9, ↓w_sIncP9, ↓w_sIncM9, ↓w_eLoc10, ↓w_rLoc10, ↓w_sSet10, ↓w_sSetR10, ↓w_sIncP10, ↓w_sIncM10, ↓w_eLoc11, ↓w_rLoc11, ↓w_sSet11, ↓w_sSetR11, ↓w_sIncP11, ↓w_sIncM11, ↓w_eLoc12, ↓w_rLoc12, ↓w_sSet12, ↓w_sSetR12, ↓w_sIncP12, ↓w_sIncM12, ↓w_eLoc13, ↓w_rLoc13, ↓w_sSet13, ↓w_sSetR13, ↓w_sIncP13, ↓w_sIncM13, ↓w_eIntN, ↓w_eIntM, ↓w_bZi, ↓w_add, ↓w_sub, ↓w_mul, ↓w_neg, ↓w_nar, ↓w_div, ↓w_ldne, ↓w_ldat, ↓w_ldj, List.length_cons, List.length_nil, Nat.reduceAdd, Nat.reduceSub, Nat.reduceLeDiff, List.replicate_succ, List.replicate_zero, List.cons_append, List.nil_append, List.append_nil, iz_nI, iz_ofNat, iz_add, iz_sub, iz_mul, cz_lt, cz_le, cz_gt, cz_ge, cz_eq, cz_ne, mIn_iz, iz_nat, decide_eq_true_eq, Bool.not_eq_true', decide_eq_false_iff_not, true_and, and_true, ↓reduceIte, not_true_eq_false, not_false_eq_true, w01_bI, w01_i0, w01_i1, bI_ne', bI_eq', Bool.false_eq_true, false_implies, forall_const, implies_true, true_implies, imp_self, eq_self, cz10, cz00, w01_0, w01_1, Bool.true_eq_false, Bool.not_true, Bool.not_false, decide_true, decide_false, ↓tO_139, ↓tR_139_0, ↓tR_139_1, ↓tR_139_2, ↓tI_139_3, ↓tR_139_4, ↓tR_139_5, ↓tR_139_6, ↓tR_139_7, ↓tR_139_8, ↓tR_139_9, ↓tR_139_10, ↓tI_139_11, ↓tI_139_12, ↓tI_139_13, ↓tI_139_14, ↓tI_139_15, ↓tI_139_16, ↓tI_139_17, ↓tI_139_18, ↓tI_139_19, ↓tI_139_20, ↓tI_139_21, ↓tI_139_22, ↓tI_139_23, ↓tI_139_24, ↓tI_139_25, ↓tI_139_26, ↓tR_139_27, ↓tI_139_28, ↓tI_139_29, ↓tI_139_30, ↓tI_139_31, ↓tR_139_32, ↓tI_139_33, ↓tR_139_34, ↓tR_139_35, ↓tR_139_36, ↓tR_139_37, ↓tI_139_38, ↓tA_143, ↓tN_143, Int.reduceEq, Int.reduceLE, Int.reduceSub, and_self, ↓wf_isIn, ↓wLd_of h18, ↓wLd_of h12, ↓wF_eq rf]
theorem ml_s {i sz0 : Int} (hi : 0 ≤ i ∧ i < 16) (h18 : E 139 18 = iz 20) (h12 : E 139 12 = iz i) (e1 : f_M_next0 [.ref 139] (mUp (mUp E 143 (4 * i).toNat (iz 0)) 139 24 (iz 0)) = some (none, G1)) (i1 : G1 139 12 = iz i) (z0 : G1 139 13 = iz sz0) (e2 : f_M_sumUp [.ref 139] (mUp G1 143 (4 * i + 1).toNat (iz sz0)) = some (some (bI false), G3)) : f_M_aLine [.ref 139] E = some (some (bI false), G3) := by
  have hi6 : ¬ i = 16 := by omega
  apply wF_to
  unfold f_M_aLine
  simp only [↓w_rcv, ↓w_bodyI, ↓w_bodyZ, ↓w_bodyV, true_and, List.length_cons, List.length_nil, Nat.reduceAdd, Nat.reduceSub, Nat.reduceLeDiff, List.replicate_succ, List.replicate_zero, List.cons_append, List.nil_append, List.append_nil, ↓tO_0, ↓tO_2, ↓tO_6, ↓tO_11, ↓tO_18, ↓tO_19, ↓tO_27, ↓tO_32, ↓tO_37, ↓tO_43, ↓tO_44, ↓tO_52, ↓tO_62, ↓tO_63, ↓tO_71, ↓tO_76, ↓tO_81, ↓tO_87, ↓tO_88, ↓tO_96, ↓tO_106, ↓tO_107, ↓tO_115, ↓tO_127, ↓tO_127c, ↓tO_133, ↓tO_133c, ↓tO_139]
  unfold S_M_aLine
  simp (disch := omega) only [↓w_eBin, ↓w_eUn, ↓w_eDiv, ↓w_eRem, ↓w_eFld, ↓w_rFld, ↓w_eALd, ↓w_rALd, ↓w_eALen, ↓w_rStr, ↓w_aNil, ↓w_aI, ↓w_aR, ↓w_N, ↓w_eCall, ↓w_X, ↓w_bCmp, ↓w_bAnd, ↓w_bOr, ↓w_bNot, ↓w_eB, ↓w_eIte, ↓w_sSkip, ↓w_sRet, ↓w_sRetZ, ↓w_sRetV, ↓w_sBrk, ↓w_sCont, ↓w_sIf, ↓w_sSeq, ↓w_sCaC, ↓w_sCaB, ↓w_sSw, ↓w_sCall, ↓w_sPut, ↓w_sPutOp, ↓w_sASt, ↓w_sAOp, ↓w_sADiv, ↓w_eLoc0, ↓w_rLoc0, ↓w_sSet0, ↓w_sSetR0, ↓w_sIncP0, ↓w_sIncM0, ↓w_eLoc1, ↓w_rLoc1, ↓w_sSet1, ↓w_sSetR1, ↓w_sIncP1, ↓w_sIncM1, ↓w_eLoc2, ↓w_rLoc2, ↓w_sSet2, ↓w_sSetR2, ↓w_sIncP2, ↓w_sIncM2, ↓w_eLoc3, ↓w_rLoc3, ↓w_sSet3, ↓w_sSetR3, ↓w_sIncP3, ↓w_sIncM3, ↓w_eLoc4, ↓w_rLoc4, ↓w_sSet4, ↓w_sSetR4, ↓w_sIncP4, ↓w_sIncM4, ↓w_eLoc5, ↓w_rLoc5, ↓w_sSet5, ↓w_sSetR5, ↓w_sIncP5, ↓w_sIncM5, ↓w_eLoc6, ↓w_rLoc6, ↓w_sSet6, ↓w_sSetR6, ↓w_sIncP6, ↓w_sIncM6, ↓w_eLoc7, ↓w_rLoc7, ↓w_sSet7, ↓w_sSetR7, ↓w_sIncP7, ↓w_sIncM7, ↓w_eLoc8, ↓w_rLoc8, ↓w_sSet8, ↓w_sSetR8, ↓w_sIncP8, ↓w_sIncM8, ↓w_eLoc9, ↓w_rLoc9, ↓w_sSet9, ↓w_sSetR9, ↓w_sIncP9, ↓w_sIncM9, ↓w_eLoc10, ↓w_rLoc10, ↓w_sSet10, ↓w_sSetR10, ↓w_sIncP10, ↓w_sIncM10, ↓w_eLoc11, ↓w_rLoc11, ↓w_sSet11, ↓w_sSetR11, ↓w_sIncP11, ↓w_sIncM11, ↓w_eLoc12, ↓w_rLoc12, ↓w_sSet12, ↓w_sSetR12, ↓w_sIncP12, ↓w_sIncM12, ↓w_eLoc13, ↓w_rLoc13, ↓w_sSet13, ↓w_sSetR13, ↓w_sIncP13, ↓w_sIncM13, ↓w_eIntN, ↓w_eIntM, ↓w_bZi, ↓w_add, ↓w_sub, ↓w_mul, ↓w_neg, ↓w_nar, ↓w_div, ↓w_ldne, ↓w_ldat, ↓w_ldj, List.length_cons, List.length_nil, Nat.reduceAdd, Nat.reduceSub, Nat.reduceLeDiff, List.replicate_succ, List.replicate_zero, List.cons_append, List.nil_append, List.append_nil, iz_nI, iz_ofNat, iz_add, iz_sub, iz_mul, cz_lt, cz_le, cz_gt, cz_ge, cz_eq, cz_ne, mIn_iz, iz_nat, decide_eq_true_eq, Bool.not_eq_true', decide_eq_false_iff_not, true_and, and_true, ↓reduceIte, not_true_eq_false, not_false_eq_true, w01_bI, w01_i0, w01_i1, bI_ne', bI_eq', Bool.false_eq_true, false_implies, forall_const, implies_true, true_implies, imp_self, eq_self, cz10, cz00, w01_0, w01_1, Bool.true_eq_false, Bool.not_true, Bool.not_false, decide_true, decide_false, ↓tO_139, ↓tR_139_0, ↓tR_139_1, ↓tR_139_2, ↓tI_139_3, ↓tR_139_4, ↓tR_139_5, ↓tR_139_6, ↓tR_139_7, ↓tR_139_8, ↓tR_139_9, ↓tR_139_10, ↓tI_139_11, ↓tI_139_12, ↓tI_139_13, ↓tI_139_14, ↓tI_139_15, ↓tI_139_16, ↓tI_139_17, ↓tI_139_18, ↓tI_139_19, ↓tI_139_20, ↓tI_139_21, ↓tI_139_22, ↓tI_139_23, ↓tI_139_24, ↓tI_139_25, ↓tI_139_26, ↓tR_139_27, ↓tI_139_28, ↓tI_139_29, ↓tI_139_30, ↓tI_139_31, ↓tR_139_32, ↓tI_139_33, ↓tR_139_34, ↓tR_139_35, ↓tR_139_36, ↓tR_139_37, ↓tI_139_38, ↓tA_143, ↓tN_143, Int.reduceEq, Int.reduceLE, Int.reduceSub, and_self, ↓wf_isIn, ↓wLd_of h18, ↓wLd_of h12, hi6, ↓wF_eq e1, ↓wLd_of i1, ↓wLd_of z0, ↓wF_eq e2]
  first | exact ⟨rfl, rfl⟩ | rfl
theorem ml_w {i p sz0 sz1 : Int} (hi : 0 ≤ i ∧ i < 16) (h18 : E 139 18 = iz p) (h12 : E 139 12 = iz i) (e1 : f_M_next0 [.ref 139] (mUp (mUp E 143 (4 * i).toNat (iz (p - 20))) 139 24 (iz 0)) = some (none, G1)) (i1 : G1 139 12 = iz i) (z0 : G1 139 13 = iz sz0) (hG2 : mUp G1 143 (4 * i + 1).toNat (iz sz0) = G2) (s1 : p = 20 ∧ f_M_sumUp [.ref 139] G2 = some (some (bI true), G3) ∨ p = 21 ∧ G3 = G2) (i3 : G3 139 12 = iz i) (z1 : G3 139 13 = iz sz1) (k3 : G3 139 18 = iz 3) (e3 : f_M_next0 [.ref 139] (mUp G3 143 (4 * i + 2).toNat (iz sz1)) = some (none, F)) (e4 : f_M_any [.ref 139] F = some (some (bI false), G5)) : f_M_aLine [.ref 139] E = some (some (bI false), G5) := by
  have hi6 : ¬ i = 16 := by omega
  apply wF_to
  unfold f_M_aLine
  simp only [↓w_rcv, ↓w_bodyI, ↓w_bodyZ, ↓w_bodyV, true_and, List.length_cons, List.length_nil, Nat.reduceAdd, Nat.reduceSub, Nat.reduceLeDiff, List.replicate_succ, List.replicate_zero, List.cons_append, List.nil_append, List.append_nil, ↓tO_0, ↓tO_2, ↓tO_6, ↓tO_11, ↓tO_18, ↓tO_19, ↓tO_27, ↓tO_32, ↓tO_37, ↓tO_43, ↓tO_44, ↓tO_52, ↓tO_62, ↓tO_63, ↓tO_71, ↓tO_76, ↓tO_81, ↓tO_87, ↓tO_88, ↓tO_96, ↓tO_106, ↓tO_107, ↓tO_115, ↓tO_127, ↓tO_127c, ↓tO_133, ↓tO_133c, ↓tO_139]
  unfold S_M_aLine
  rcases s1 with ⟨rfl, e2⟩ | ⟨rfl, rfl⟩
  · simp (disch := omega) only [↓w_eBin, ↓w_eUn, ↓w_eDiv, ↓w_eRem, ↓w_eFld, ↓w_rFld, ↓w_eALd, ↓w_rALd, ↓w_eALen, ↓w_rStr, ↓w_aNil, ↓w_aI, ↓w_aR, ↓w_N, ↓w_eCall, ↓w_X, ↓w_bCmp, ↓w_bAnd, ↓w_bOr, ↓w_bNot, ↓w_eB, ↓w_eIte, ↓w_sSkip, ↓w_sRet, ↓w_sRetZ, ↓w_sRetV, ↓w_sBrk, ↓w_sCont, ↓w_sIf, ↓w_sSeq, ↓w_sCaC, ↓w_sCaB, ↓w_sSw, ↓w_sCall, ↓w_sPut, ↓w_sPutOp, ↓w_sASt, ↓w_sAOp, ↓w_sADiv, ↓w_eLoc0, ↓w_rLoc0, ↓w_sSet0, ↓w_sSetR0, ↓w_sIncP0, ↓w_sIncM0, ↓w_eLoc1, ↓w_rLoc1, ↓w_sSet1, ↓w_sSetR1, ↓w_sIncP1, ↓w_sIncM1, ↓w_eLoc2, ↓w_rLoc2, ↓w_sSet2, ↓w_sSetR2, ↓w_sIncP2, ↓w_sIncM2, ↓w_eLoc3, ↓w_rLoc3, ↓w_sSet3, ↓w_sSetR3, ↓w_sIncP3, ↓w_sIncM3, ↓w_eLoc4, ↓w_rLoc4, ↓w_sSet4, ↓w_sSetR4, ↓w_sIncP4, ↓w_sIncM4, ↓w_eLoc5, ↓w_rLoc5, ↓w_sSet5, ↓w_sSetR5, ↓w_sIncP5, ↓w_sIncM5, ↓w_eLoc6, ↓w_rLoc6, ↓w_sSet6, ↓w_sSetR6, ↓w_sIncP6, ↓w_sIncM6, ↓w_eLoc7, ↓w_rLoc7, ↓w_sSet7, ↓w_sSetR7, ↓w_sIncP7, ↓w_sIncM7, ↓w_eLoc8, ↓w_rLoc8, ↓w_sSet8, ↓w_sSetR8, ↓w_sIncP8, ↓w_sIncM8, ↓w_eLoc9, ↓w_rLoc9, ↓w_sSet9, ↓w_sSetR9, ↓w_sIncP9, ↓w_sIncM9, ↓w_eLoc10, ↓w_rLoc10, ↓w_sSet10, ↓w_sSetR10, ↓w_sIncP10, ↓w_sIncM10, ↓w_eLoc11, ↓w_rLoc11, ↓w_sSet11, ↓w_sSetR11, ↓w_sIncP11, ↓w_sIncM11, ↓w_eLoc12, ↓w_rLoc12, ↓w_sSet12, ↓w_sSetR12, ↓w_sIncP12, ↓w_sIncM12, ↓w_eLoc13, ↓w_rLoc13, ↓w_sSet13, ↓w_sSetR13, ↓w_sIncP13, ↓w_sIncM13, ↓w_eIntN, ↓w_eIntM, ↓w_bZi, ↓w_add, ↓w_sub, ↓w_mul, ↓w_neg, ↓w_nar, ↓w_div, ↓w_ldne, ↓w_ldat, ↓w_ldj, List.length_cons, List.length_nil, Nat.reduceAdd, Nat.reduceSub, Nat.reduceLeDiff, List.replicate_succ, List.replicate_zero, List.cons_append, List.nil_append, List.append_nil, iz_nI, iz_ofNat, iz_add, iz_sub, iz_mul, cz_lt, cz_le, cz_gt, cz_ge, cz_eq, cz_ne, mIn_iz, iz_nat, decide_eq_true_eq, Bool.not_eq_true', decide_eq_false_iff_not, true_and, and_true, ↓reduceIte, not_true_eq_false, not_false_eq_true, w01_bI, w01_i0, w01_i1, bI_ne', bI_eq', Bool.false_eq_true, false_implies, forall_const, implies_true, true_implies, imp_self, eq_self, cz10, cz00, w01_0, w01_1, Bool.true_eq_false, Bool.not_true, Bool.not_false, decide_true, decide_false, ↓tO_139, ↓tR_139_0, ↓tR_139_1, ↓tR_139_2, ↓tI_139_3, ↓tR_139_4, ↓tR_139_5, ↓tR_139_6, ↓tR_139_7, ↓tR_139_8, ↓tR_139_9, ↓tR_139_10, ↓tI_139_11, ↓tI_139_12, ↓tI_139_13, ↓tI_139_14, ↓tI_139_15, ↓tI_139_16, ↓tI_139_17, ↓tI_139_18, ↓tI_139_19, ↓tI_139_20, ↓tI_139_21, ↓tI_139_22, ↓tI_139_23, ↓tI_139_24, ↓tI_139_25, ↓tI_139_26, ↓tR_139_27, ↓tI_139_28, ↓tI_139_29, ↓tI_139_30, ↓tI_139_31, ↓tR_139_32, ↓tI_139_33, ↓tR_139_34, ↓tR_139_35, ↓tR_139_36, ↓tR_139_37, ↓tI_139_38, ↓tA_143, ↓tN_143, Int.reduceEq, Int.reduceLE, Int.reduceSub, and_self, ↓wf_isIn, ↓wLd_of h18, ↓wLd_of h12, hi6, ↓wF_eq e1, ↓wLd_of i1, ↓wLd_of z0, hG2, ↓wF_eq e2, ↓wLd_of i3, ↓wLd_of z1, ↓wLd_of k3, ↓wF_eq e3, ↓wF_eq e4]
    first | exact ⟨rfl, rfl⟩ | rfl
  · have k1 : G1 139 18 = iz 3 := by rw [← k3, ← hG2, up_k (by omega)]
    have e10 : iz sz1 = iz sz0 := by rw [← z1, ← hG2, up_k (by omega)]; exact z0
    rw [e10] at e3
    simp (disch := omega) only [↓w_eBin, ↓w_eUn, ↓w_eDiv, ↓w_eRem, ↓w_eFld, ↓w_rFld, ↓w_eALd, ↓w_rALd, ↓w_eALen, ↓w_rStr, ↓w_aNil, ↓w_aI, ↓w_aR, ↓w_N, ↓w_eCall, ↓w_X, ↓w_bCmp, ↓w_bAnd, ↓w_bOr, ↓w_bNot, ↓w_eB, ↓w_eIte, ↓w_sSkip, ↓w_sRet, ↓w_sRetZ, ↓w_sRetV, ↓w_sBrk, ↓w_sCont, ↓w_sIf, ↓w_sSeq, ↓w_sCaC, ↓w_sCaB, ↓w_sSw, ↓w_sCall, ↓w_sPut, ↓w_sPutOp, ↓w_sASt, ↓w_sAOp, ↓w_sADiv, ↓w_eLoc0, ↓w_rLoc0, ↓w_sSet0, ↓w_sSetR0, ↓w_sIncP0, ↓w_sIncM0, ↓w_eLoc1, ↓w_rLoc1, ↓w_sSet1, ↓w_sSetR1, ↓w_sIncP1, ↓w_sIncM1, ↓w_eLoc2, ↓w_rLoc2, ↓w_sSet2, ↓w_sSetR2, ↓w_sIncP2, ↓w_sIncM2, ↓w_eLoc3, ↓w_rLoc3, ↓w_sSet3, ↓w_sSetR3, ↓w_sIncP3, ↓w_sIncM3, ↓w_eLoc4, ↓w_rLoc4, ↓w_sSet4, ↓w_sSetR4, ↓w_sIncP4, ↓w_sIncM4, ↓w_eLoc5, ↓w_rLoc5, ↓w_sSet5, ↓w_sSetR5, ↓w_sIncP5, ↓w_sIncM5, ↓w_eLoc6, ↓w_rLoc6, ↓w_sSet6, ↓w_sSetR6, ↓w_sIncP6, ↓w_sIncM6, ↓w_eLoc7, ↓w_rLoc7, ↓w_sSet7, ↓w_sSetR7, ↓w_sIncP7, ↓w_sIncM7, ↓w_eLoc8, ↓w_rLoc8, ↓w_sSet8, ↓w_sSetR8, ↓w_sIncP8, ↓w_sIncM8, ↓w_eLoc9, ↓w_rLoc9, ↓w_sSet9, ↓w_sSetR9, ↓w_sIncP9, ↓w_sIncM9, ↓w_eLoc10, ↓w_rLoc10, ↓w_sSet10, ↓w_sSetR10, ↓w_sIncP10, ↓w_sIncM10, ↓w_eLoc11, ↓w_rLoc11, ↓w_sSet11, ↓w_sSetR11, ↓w_sIncP11, ↓w_sIncM11, ↓w_eLoc12, ↓w_rLoc12, ↓w_sSet12, ↓w_sSetR12, ↓w_sIncP12, ↓w_sIncM12, ↓w_eLoc13, ↓w_rLoc13, ↓w_sSet13, ↓w_sSetR13, ↓w_sIncP13, ↓w_sIncM13, ↓w_eIntN, ↓w_eIntM, ↓w_bZi, ↓w_add, ↓w_sub, ↓w_mul, ↓w_neg, ↓w_nar, ↓w_div, ↓w_ldne, ↓w_ldat, ↓w_ldj, List.length_cons, List.length_nil, Nat.reduceAdd, Nat.reduceSub, Nat.reduceLeDiff, List.replicate_succ, List.replicate_zero, List.cons_append, List.nil_append, List.append_nil, iz_nI, iz_ofNat, iz_add, iz_sub, iz_mul, cz_lt, cz_le, cz_gt, cz_ge, cz_eq, cz_ne, mIn_iz, iz_nat, decide_eq_true_eq, Bool.not_eq_true', decide_eq_false_iff_not, true_and, and_true, ↓reduceIte, not_true_eq_false, not_false_eq_true, w01_bI, w01_i0, w01_i1, bI_ne', bI_eq', Bool.false_eq_true, false_implies, forall_const, implies_true, true_implies, imp_self, eq_self, cz10, cz00, w01_0, w01_1, Bool.true_eq_false, Bool.not_true, Bool.not_false, decide_true, decide_false, ↓tO_139, ↓tR_139_0, ↓tR_139_1, ↓tR_139_2, ↓tI_139_3, ↓tR_139_4, ↓tR_139_5, ↓tR_139_6, ↓tR_139_7, ↓tR_139_8, ↓tR_139_9, ↓tR_139_10, ↓tI_139_11, ↓tI_139_12, ↓tI_139_13, ↓tI_139_14, ↓tI_139_15, ↓tI_139_16, ↓tI_139_17, ↓tI_139_18, ↓tI_139_19, ↓tI_139_20, ↓tI_139_21, ↓tI_139_22, ↓tI_139_23, ↓tI_139_24, ↓tI_139_25, ↓tI_139_26, ↓tR_139_27, ↓tI_139_28, ↓tI_139_29, ↓tI_139_30, ↓tI_139_31, ↓tR_139_32, ↓tI_139_33, ↓tR_139_34, ↓tR_139_35, ↓tR_139_36, ↓tR_139_37, ↓tI_139_38, ↓tA_143, ↓tN_143, Int.reduceEq, Int.reduceLE, Int.reduceSub, and_self, ↓wf_isIn, ↓wLd_of h18, ↓wLd_of h12, hi6, ↓wF_eq e1, ↓wLd_of i1, ↓wLd_of z0, ↓wLd_of k1, hG2, ↓wLd_of i3, ↓wLd_of k3, ↓wF_eq e3, ↓wF_eq e4]
    first | exact ⟨rfl, rfl⟩ | rfl
theorem ml_n {i p p1 sz0 sz1 sz2 : Int} {t : Bool} (hi : 0 ≤ i ∧ i < 16) (h18 : E 139 18 = iz p) (h12 : E 139 12 = iz i) (e1 : f_M_next0 [.ref 139] (mUp (mUp E 143 (4 * i).toNat (iz (p - 20))) 139 24 (iz 0)) = some (none, G1)) (i1 : G1 139 12 = iz i) (z0 : G1 139 13 = iz sz0) (hG2 : mUp G1 143 (4 * i + 1).toNat (iz sz0) = G2) (s1 : p = 20 ∧ f_M_sumUp [.ref 139] G2 = some (some (bI true), G3) ∨ p = 21 ∧ G3 = G2) (i3 : G3 139 12 = iz i) (z1 : G3 139 13 = iz sz1) (hG4 : mUp G3 143 (4 * i + 2).toNat (iz sz1) = G4) (k3 : G3 139 18 = iz p1) (pr1 : 0 ≤ p1 ∧ p1 ≤ 400) (s2 : p1 = 3 ∧ (∃ F, f_M_next0 [.ref 139] G4 = some (none, F) ∧ f_M_any [.ref 139] F = some (some (bI true), G5)) ∨ ¬ p1 = 3 ∧ G5 = G4) (i5 : G5 139 12 = iz i) (z2 : G5 139 13 = iz sz2) (e5 : f_M_need [.ref 139, .int (iz 159)] (mUp G5 143 (4 * i + 3).toNat (iz sz2)) = some (some (bI t), G7)) : f_M_aLine [.ref 139] E = some (some (bI t), G7) := by
  have hi6 : ¬ i = 16 := by omega
  have k4 : G4 139 18 = iz p1 := by rw [← hG4, up_k (by omega)]; exact k3
  have i4 : G4 139 12 = iz i := by rw [← hG4, up_k (by omega)]; exact i3
  have z4 : G4 139 13 = iz sz1 := by rw [← hG4, up_k (by omega)]; exact z1
  have i2 : G2 139 12 = iz i := by rw [← hG2, up_k (by omega)]; exact i1
  have z22 : G2 139 13 = iz sz0 := by rw [← hG2, up_k (by omega)]; exact z0
  apply wF_to
  unfold f_M_aLine
  simp only [↓w_rcv, ↓w_bodyI, ↓w_bodyZ, ↓w_bodyV, true_and, List.length_cons, List.length_nil, Nat.reduceAdd, Nat.reduceSub, Nat.reduceLeDiff, List.replicate_succ, List.replicate_zero, List.cons_append, List.nil_append, List.append_nil, ↓tO_0, ↓tO_2, ↓tO_6, ↓tO_11, ↓tO_18, ↓tO_19, ↓tO_27, ↓tO_32, ↓tO_37, ↓tO_43, ↓tO_44, ↓tO_52, ↓tO_62, ↓tO_63, ↓tO_71, ↓tO_76, ↓tO_81, ↓tO_87, ↓tO_88, ↓tO_96, ↓tO_106, ↓tO_107, ↓tO_115, ↓tO_127, ↓tO_127c, ↓tO_133, ↓tO_133c, ↓tO_139]
  unfold S_M_aLine
  rcases s1 with ⟨rfl, e2⟩ | ⟨rfl, rfl⟩
  · rcases s2 with ⟨rfl, F, e3, e4⟩ | ⟨g, rfl⟩
    · simp (disch := omega) only [↓w_eBin, ↓w_eUn, ↓w_eDiv, ↓w_eRem, ↓w_eFld, ↓w_rFld, ↓w_eALd, ↓w_rALd, ↓w_eALen, ↓w_rStr, ↓w_aNil, ↓w_aI, ↓w_aR, ↓w_N, ↓w_eCall, ↓w_X, ↓w_bCmp, ↓w_bAnd, ↓w_bOr, ↓w_bNot, ↓w_eB, ↓w_eIte, ↓w_sSkip, ↓w_sRet, ↓w_sRetZ, ↓w_sRetV, ↓w_sBrk, ↓w_sCont, ↓w_sIf, ↓w_sSeq, ↓w_sCaC, ↓w_sCaB, ↓w_sSw, ↓w_sCall, ↓w_sPut, ↓w_sPutOp, ↓w_sASt, ↓w_sAOp, ↓w_sADiv, ↓w_eLoc0, ↓w_rLoc0, ↓w_sSet0, ↓w_sSetR0, ↓w_sIncP0, ↓w_sIncM0, ↓w_eLoc1, ↓w_rLoc1, ↓w_sSet1, ↓w_sSetR1, ↓w_sIncP1, ↓w_sIncM1, ↓w_eLoc2, ↓w_rLoc2, ↓w_sSet2, ↓w_sSetR2, ↓w_sIncP2, ↓w_sIncM2, ↓w_eLoc3, ↓w_rLoc3, ↓w_sSet3, ↓w_sSetR3, ↓w_sIncP3, ↓w_sIncM3, ↓w_eLoc4, ↓w_rLoc4, ↓w_sSet4, ↓w_sSetR4, ↓w_sIncP4, ↓w_sIncM4, ↓w_eLoc5, ↓w_rLoc5, ↓w_sSet5, ↓w_sSetR5, ↓w_sIncP5, ↓w_sIncM5, ↓w_eLoc6, ↓w_rLoc6, ↓w_sSet6, ↓w_sSetR6, ↓w_sIncP6, ↓w_sIncM6, ↓w_eLoc7, ↓w_rLoc7, ↓w_sSet7, ↓w_sSetR7, ↓w_sIncP7, ↓w_sIncM7, ↓w_eLoc8, ↓w_rLoc8, ↓w_sSet8, ↓w_sSetR8, ↓w_sIncP8, ↓w_sIncM8, ↓w_eLoc9, ↓w_rLoc9, ↓w_sSet9, ↓w_sSetR9, ↓w_sIncP9, ↓w_sIncM9, ↓w_eLoc10, ↓w_rLoc10, ↓w_sSet10, ↓w_sSetR10, ↓w_sIncP10, ↓w_sIncM10, ↓w_eLoc11, ↓w_rLoc11, ↓w_sSet11, ↓w_sSetR11, ↓w_sIncP11, ↓w_sIncM11, ↓w_eLoc12, ↓w_rLoc12, ↓w_sSet12, ↓w_sSetR12, ↓w_sIncP12, ↓w_sIncM12, ↓w_eLoc13, ↓w_rLoc13, ↓w_sSet13, ↓w_sSetR13, ↓w_sIncP13, ↓w_sIncM13, ↓w_eIntN, ↓w_eIntM, ↓w_bZi, ↓w_add, ↓w_sub, ↓w_mul, ↓w_neg, ↓w_nar, ↓w_div, ↓w_ldne, ↓w_ldat, ↓w_ldj, List.length_cons, List.length_nil, Nat.reduceAdd, Nat.reduceSub, Nat.reduceLeDiff, List.replicate_succ, List.replicate_zero, List.cons_append, List.nil_append, List.append_nil, iz_nI, iz_ofNat, iz_add, iz_sub, iz_mul, cz_lt, cz_le, cz_gt, cz_ge, cz_eq, cz_ne, mIn_iz, iz_nat, decide_eq_true_eq, Bool.not_eq_true', decide_eq_false_iff_not, true_and, and_true, ↓reduceIte, not_true_eq_false, not_false_eq_true, w01_bI, w01_i0, w01_i1, bI_ne', bI_eq', Bool.false_eq_true, false_implies, forall_const, implies_true, true_implies, imp_self, eq_self, cz10, cz00, w01_0, w01_1, Bool.true_eq_false, Bool.not_true, Bool.not_false, decide_true, decide_false, ↓tO_139, ↓tR_139_0, ↓tR_139_1, ↓tR_139_2, ↓tI_139_3, ↓tR_139_4, ↓tR_139_5, ↓tR_139_6, ↓tR_139_7, ↓tR_139_8, ↓tR_139_9, ↓tR_139_10, ↓tI_139_11, ↓tI_139_12, ↓tI_139_13, ↓tI_139_14, ↓tI_139_15, ↓tI_139_16, ↓tI_139_17, ↓tI_139_18, ↓tI_139_19, ↓tI_139_20, ↓tI_139_21, ↓tI_139_22, ↓tI_139_23, ↓tI_139_24, ↓tI_139_25, ↓tI_139_26, ↓tR_139_27, ↓tI_139_28, ↓tI_139_29, ↓tI_139_30, ↓tI_139_31, ↓tR_139_32, ↓tI_139_33, ↓tR_139_34, ↓tR_139_35, ↓tR_139_36, ↓tR_139_37, ↓tI_139_38, ↓tA_143, ↓tN_143, Int.reduceEq, Int.reduceLE, Int.reduceSub, and_self, ↓wf_isIn, ↓wLd_of h18, ↓wLd_of h12, hi6, ↓wF_eq e1, ↓wLd_of i1, ↓wLd_of z0, hG2, ↓wF_eq e2, ↓wLd_of i3, ↓wLd_of z1, ↓wLd_of k3, hG4, ↓wF_eq e3, ↓wF_eq e4, ↓wLd_of i5, ↓wLd_of z2, ↓wF_eq e5]
    · have e21 : iz sz2 = iz sz1 := by rw [← z2]; exact z4
      rw [e21] at e5
      simp (disch := omega) only [↓w_eBin, ↓w_eUn, ↓w_eDiv, ↓w_eRem, ↓w_eFld, ↓w_rFld, ↓w_eALd, ↓w_rALd, ↓w_eALen, ↓w_rStr, ↓w_aNil, ↓w_aI, ↓w_aR, ↓w_N, ↓w_eCall, ↓w_X, ↓w_bCmp, ↓w_bAnd, ↓w_bOr, ↓w_bNot, ↓w_eB, ↓w_eIte, ↓w_sSkip, ↓w_sRet, ↓w_sRetZ, ↓w_sRetV, ↓w_sBrk, ↓w_sCont, ↓w_sIf, ↓w_sSeq, ↓w_sCaC, ↓w_sCaB, ↓w_sSw, ↓w_sCall, ↓w_sPut, ↓w_sPutOp, ↓w_sASt, ↓w_sAOp, ↓w_sADiv, ↓w_eLoc0, ↓w_rLoc0, ↓w_sSet0, ↓w_sSetR0, ↓w_sIncP0, ↓w_sIncM0, ↓w_eLoc1, ↓w_rLoc1, ↓w_sSet1, ↓w_sSetR1, ↓w_sIncP1, ↓w_sIncM1, ↓w_eLoc2, ↓w_rLoc2, ↓w_sSet2, ↓w_sSetR2, ↓w_sIncP2, ↓w_sIncM2, ↓w_eLoc3, ↓w_rLoc3, ↓w_sSet3, ↓w_sSetR3, ↓w_sIncP3, ↓w_sIncM3, ↓w_eLoc4, ↓w_rLoc4, ↓w_sSet4, ↓w_sSetR4, ↓w_sIncP4, ↓w_sIncM4, ↓w_eLoc5, ↓w_rLoc5, ↓w_sSet5, ↓w_sSetR5, ↓w_sIncP5, ↓w_sIncM5, ↓w_eLoc6, ↓w_rLoc6, ↓w_sSet6, ↓w_sSetR6, ↓w_sIncP6, ↓w_sIncM6, ↓w_eLoc7, ↓w_rLoc7, ↓w_sSet7, ↓w_sSetR7, ↓w_sIncP7, ↓w_sIncM7, ↓w_eLoc8, ↓w_rLoc8, ↓w_sSet8, ↓w_sSetR8, ↓w_sIncP8, ↓w_sIncM8, ↓w_eLoc9, ↓w_rLoc9, ↓w_sSet9, ↓w_sSetR9, ↓w_sIncP9, ↓w_sIncM9, ↓w_eLoc10, ↓w_rLoc10, ↓w_sSet10, ↓w_sSetR10, ↓w_sIncP10, ↓w_sIncM10, ↓w_eLoc11, ↓w_rLoc11, ↓w_sSet11, ↓w_sSetR11, ↓w_sIncP11, ↓w_sIncM11, ↓w_eLoc12, ↓w_rLoc12, ↓w_sSet12, ↓w_sSetR12, ↓w_sIncP12, ↓w_sIncM12, ↓w_eLoc13, ↓w_rLoc13, ↓w_sSet13, ↓w_sSetR13, ↓w_sIncP13, ↓w_sIncM13, ↓w_eIntN, ↓w_eIntM, ↓w_bZi, ↓w_add, ↓w_sub, ↓w_mul, ↓w_neg, ↓w_nar, ↓w_div, ↓w_ldne, ↓w_ldat, ↓w_ldj, List.length_cons, List.length_nil, Nat.reduceAdd, Nat.reduceSub, Nat.reduceLeDiff, List.replicate_succ, List.replicate_zero, List.cons_append, List.nil_append, List.append_nil, iz_nI, iz_ofNat, iz_add, iz_sub, iz_mul, cz_lt, cz_le, cz_gt, cz_ge, cz_eq, cz_ne, mIn_iz, iz_nat, decide_eq_true_eq, Bool.not_eq_true', decide_eq_false_iff_not, true_and, and_true, ↓reduceIte, not_true_eq_false, not_false_eq_true, w01_bI, w01_i0, w01_i1, bI_ne', bI_eq', Bool.false_eq_true, false_implies, forall_const, implies_true, true_implies, imp_self, eq_self, cz10, cz00, w01_0, w01_1, Bool.true_eq_false, Bool.not_true, Bool.not_false, decide_true, decide_false, ↓tO_139, ↓tR_139_0, ↓tR_139_1, ↓tR_139_2, ↓tI_139_3, ↓tR_139_4, ↓tR_139_5, ↓tR_139_6, ↓tR_139_7, ↓tR_139_8, ↓tR_139_9, ↓tR_139_10, ↓tI_139_11, ↓tI_139_12, ↓tI_139_13, ↓tI_139_14, ↓tI_139_15, ↓tI_139_16, ↓tI_139_17, ↓tI_139_18, ↓tI_139_19, ↓tI_139_20, ↓tI_139_21, ↓tI_139_22, ↓tI_139_23, ↓tI_139_24, ↓tI_139_25, ↓tI_139_26, ↓tR_139_27, ↓tI_139_28, ↓tI_139_29, ↓tI_139_30, ↓tI_139_31, ↓tR_139_32, ↓tI_139_33, ↓tR_139_34, ↓tR_139_35, ↓tR_139_36, ↓tR_139_37, ↓tI_139_38, ↓tA_143, ↓tN_143, Int.reduceEq, Int.reduceLE, Int.reduceSub, and_self, ↓wf_isIn, ↓wLd_of h18, ↓wLd_of h12, hi6, ↓wF_eq e1, ↓wLd_of i1, ↓wLd_of z0, hG2, ↓wF_eq e2, ↓wLd_of i3, ↓wLd_of z1, ↓wLd_of k3, g, hG4, ↓wLd_of i4, ↓wLd_of z4, ↓wF_eq e5]
  · have k1 : G1 139 18 = iz p1 := by rw [← k3, ← hG2, up_k (by omega)]
    have e10 : iz sz1 = iz sz0 := by rw [← z1]; exact z22
    rw [e10] at hG4 z4
    rcases s2 with ⟨rfl, F, e3, e4⟩ | ⟨g, rfl⟩
    · simp (disch := omega) only [↓w_eBin, ↓w_eUn, ↓w_eDiv, ↓w_eRem, ↓w_eFld, ↓w_rFld, ↓w_eALd, ↓w_rALd, ↓w_eALen, ↓w_rStr, ↓w_aNil, ↓w_aI, ↓w_aR, ↓w_N, ↓w_eCall, ↓w_X, ↓w_bCmp, ↓w_bAnd, ↓w_bOr, ↓w_bNot, ↓w_eB, ↓w_eIte, ↓w_sSkip, ↓w_sRet, ↓w_sRetZ, ↓w_sRetV, ↓w_sBrk, ↓w_sCont, ↓w_sIf, ↓w_sSeq, ↓w_sCaC, ↓w_sCaB, ↓w_sSw, ↓w_sCall, ↓w_sPut, ↓w_sPutOp, ↓w_sASt, ↓w_sAOp, ↓w_sADiv, ↓w_eLoc0, ↓w_rLoc0, ↓w_sSet0, ↓w_sSetR0, ↓w_sIncP0, ↓w_sIncM0, ↓w_eLoc1, ↓w_rLoc1, ↓w_sSet1, ↓w_sSetR1, ↓w_sIncP1, ↓w_sIncM1, ↓w_eLoc2, ↓w_rLoc2, ↓w_sSet2, ↓w_sSetR2, ↓w_sIncP2, ↓w_sIncM2, ↓w_eLoc3, ↓w_rLoc3, ↓w_sSet3, ↓w_sSetR3, ↓w_sIncP3, ↓w_sIncM3, ↓w_eLoc4, ↓w_rLoc4, ↓w_sSet4, ↓w_sSetR4, ↓w_sIncP4, ↓w_sIncM4, ↓w_eLoc5, ↓w_rLoc5, ↓w_sSet5, ↓w_sSetR5, ↓w_sIncP5, ↓w_sIncM5, ↓w_eLoc6, ↓w_rLoc6, ↓w_sSet6, ↓w_sSetR6, ↓w_sIncP6, ↓w_sIncM6, ↓w_eLoc7, ↓w_rLoc7, ↓w_sSet7, ↓w_sSetR7, ↓w_sIncP7, ↓w_sIncM7, ↓w_eLoc8, ↓w_rLoc8, ↓w_sSet8, ↓w_sSetR8, ↓w_sIncP8, ↓w_sIncM8, ↓w_eLoc9, ↓w_rLoc9, ↓w_sSet9, ↓w_sSetR9, ↓w_sIncP9, ↓w_sIncM9, ↓w_eLoc10, ↓w_rLoc10, ↓w_sSet10, ↓w_sSetR10, ↓w_sIncP10, ↓w_sIncM10, ↓w_eLoc11, ↓w_rLoc11, ↓w_sSet11, ↓w_sSetR11, ↓w_sIncP11, ↓w_sIncM11, ↓w_eLoc12, ↓w_rLoc12, ↓w_sSet12, ↓w_sSetR12, ↓w_sIncP12, ↓w_sIncM12, ↓w_eLoc13, ↓w_rLoc13, ↓w_sSet13, ↓w_sSetR13, ↓w_sIncP13, ↓w_sIncM13, ↓w_eIntN, ↓w_eIntM, ↓w_bZi, ↓w_add, ↓w_sub, ↓w_mul, ↓w_neg, ↓w_nar, ↓w_div, ↓w_ldne, ↓w_ldat, ↓w_ldj, List.length_cons, List.length_nil, Nat.reduceAdd, Nat.reduceSub, Nat.reduceLeDiff, List.replicate_succ, List.replicate_zero, List.cons_append, List.nil_append, List.append_nil, iz_nI, iz_ofNat, iz_add, iz_sub, iz_mul, cz_lt, cz_le, cz_gt, cz_ge, cz_eq, cz_ne, mIn_iz, iz_nat, decide_eq_true_eq, Bool.not_eq_true', decide_eq_false_iff_not, true_and, and_true, ↓reduceIte, not_true_eq_false, not_false_eq_true, w01_bI, w01_i0, w01_i1, bI_ne', bI_eq', Bool.false_eq_true, false_implies, forall_const, implies_true, true_implies, imp_self, eq_self, cz10, cz00, w01_0, w01_1, Bool.true_eq_false, Bool.not_true, Bool.not_false, decide_true, decide_false, ↓tO_139, ↓tR_139_0, ↓tR_139_1, ↓tR_139_2, ↓tI_139_3, ↓tR_139_4, ↓tR_139_5, ↓tR_139_6, ↓tR_139_7, ↓tR_139_8, ↓tR_139_9, ↓tR_139_10, ↓tI_139_11, ↓tI_139_12, ↓tI_139_13, ↓tI_139_14, ↓tI_139_15, ↓tI_139_16, ↓tI_139_17, ↓tI_139_18, ↓tI_139_19, ↓tI_139_20, ↓tI_139_21, ↓tI_139_22, ↓tI_139_23, ↓tI_139_24, ↓tI_139_25, ↓tI_139_26, ↓tR_139_27, ↓tI_139_28, ↓tI_139_29, ↓tI_139_30, ↓tI_139_31, ↓tR_139_32, ↓tI_139_33, ↓tR_139_34, ↓tR_139_35, ↓tR_139_36, ↓tR_139_37, ↓tI_139_38, ↓tA_143, ↓tN_143, Int.reduceEq, Int.reduceLE, Int.reduceSub, and_self, ↓wf_isIn, ↓wLd_of h18, ↓wLd_of h12, hi6, ↓wF_eq e1, ↓wLd_of i1, ↓wLd_of z0, ↓wLd_of k1, hG2, ↓wLd_of i3, ↓wLd_of z22, ↓wLd_of k3, hG4, ↓wF_eq e3, ↓wF_eq e4, ↓wLd_of i5, ↓wLd_of z2, ↓wF_eq e5]
    · have e21 : iz sz2 = iz sz0 := by rw [← z2]; exact z4
      rw [e21] at e5
      simp (disch := omega) only [↓w_eBin, ↓w_eUn, ↓w_eDiv, ↓w_eRem, ↓w_eFld, ↓w_rFld, ↓w_eALd, ↓w_rALd, ↓w_eALen, ↓w_rStr, ↓w_aNil, ↓w_aI, ↓w_aR, ↓w_N, ↓w_eCall, ↓w_X, ↓w_bCmp, ↓w_bAnd, ↓w_bOr, ↓w_bNot, ↓w_eB, ↓w_eIte, ↓w_sSkip, ↓w_sRet, ↓w_sRetZ, ↓w_sRetV, ↓w_sBrk, ↓w_sCont, ↓w_sIf, ↓w_sSeq, ↓w_sCaC, ↓w_sCaB, ↓w_sSw, ↓w_sCall, ↓w_sPut, ↓w_sPutOp, ↓w_sASt, ↓w_sAOp, ↓w_sADiv, ↓w_eLoc0, ↓w_rLoc0, ↓w_sSet0, ↓w_sSetR0, ↓w_sIncP0, ↓w_sIncM0, ↓w_eLoc1, ↓w_rLoc1, ↓w_sSet1, ↓w_sSetR1, ↓w_sIncP1, ↓w_sIncM1, ↓w_eLoc2, ↓w_rLoc2, ↓w_sSet2, ↓w_sSetR2, ↓w_sIncP2, ↓w_sIncM2, ↓w_eLoc3, ↓w_rLoc3, ↓w_sSet3, ↓w_sSetR3, ↓w_sIncP3, ↓w_sIncM3, ↓w_eLoc4, ↓w_rLoc4, ↓w_sSet4, ↓w_sSetR4, ↓w_sIncP4, ↓w_sIncM4, ↓w_eLoc5, ↓w_rLoc5, ↓w_sSet5, ↓w_sSetR5, ↓w_sIncP5, ↓w_sIncM5, ↓w_eLoc6, ↓w_rLoc6, ↓w_sSet6, ↓w_sSetR6, ↓w_sIncP6, ↓w_sIncM6, ↓w_eLoc7, ↓w_rLoc7, ↓w_sSet7, ↓w_sSetR7, ↓w_sIncP7, ↓w_sIncM7, ↓w_eLoc8, ↓w_rLoc8, ↓w_sSet8, ↓w_sSetR8, ↓w_sIncP8, ↓w_sIncM8, ↓w_eLoc9, ↓w_rLoc9, ↓w_sSet9, ↓w_sSetR9, ↓w_sIncP9, ↓w_sIncM9, ↓w_eLoc10, ↓w_rLoc10, ↓w_sSet10, ↓w_sSetR10, ↓w_sIncP10, ↓w_sIncM10, ↓w_eLoc11, ↓w_rLoc11, ↓w_sSet11, ↓w_sSetR11, ↓w_sIncP11, ↓w_sIncM11, ↓w_eLoc12, ↓w_rLoc12, ↓w_sSet12, ↓w_sSetR12, ↓w_sIncP12, ↓w_sIncM12, ↓w_eLoc13, ↓w_rLoc13, ↓w_sSet13, ↓w_sSetR13, ↓w_sIncP13, ↓w_sIncM13, ↓w_eIntN, ↓w_eIntM, ↓w_bZi, ↓w_add, ↓w_sub, ↓w_mul, ↓w_neg, ↓w_nar, ↓w_div, ↓w_ldne, ↓w_ldat, ↓w_ldj, List.length_cons, List.length_nil, Nat.reduceAdd, Nat.reduceSub, Nat.reduceLeDiff, List.replicate_succ, List.replicate_zero, List.cons_append, List.nil_append, List.append_nil, iz_nI, iz_ofNat, iz_add, iz_sub, iz_mul, cz_lt, cz_le, cz_gt, cz_ge, cz_eq, cz_ne, mIn_iz, iz_nat, decide_eq_true_eq, Bool.not_eq_true', decide_eq_false_iff_not, true_and, and_true, ↓reduceIte, not_true_eq_false, not_false_eq_true, w01_bI, w01_i0, w01_i1, bI_ne', bI_eq', Bool.false_eq_true, false_implies, forall_const, implies_true, true_implies, imp_self, eq_self, cz10, cz00, w01_0, w01_1, Bool.true_eq_false, Bool.not_true, Bool.not_false, decide_true, decide_false, ↓tO_139, ↓tR_139_0, ↓tR_139_1, ↓tR_139_2, ↓tI_139_3, ↓tR_139_4, ↓tR_139_5, ↓tR_139_6, ↓tR_139_7, ↓tR_139_8, ↓tR_139_9, ↓tR_139_10, ↓tI_139_11, ↓tI_139_12, ↓tI_139_13, ↓tI_139_14, ↓tI_139_15, ↓tI_139_16, ↓tI_139_17, ↓tI_139_18, ↓tI_139_19, ↓tI_139_20, ↓tI_139_21, ↓tI_139_22, ↓tI_139_23, ↓tI_139_24, ↓tI_139_25, ↓tI_139_26, ↓tR_139_27, ↓tI_139_28, ↓tI_139_29, ↓tI_139_30, ↓tI_139_31, ↓tR_139_32, ↓tI_139_33, ↓tR_139_34, ↓tR_139_35, ↓tR_139_36, ↓tR_139_37, ↓tI_139_38, ↓tA_143, ↓tN_143, Int.reduceEq, Int.reduceLE, Int.reduceSub, and_self, ↓wf_isIn, ↓wLd_of h18, ↓wLd_of h12, hi6, ↓wF_eq e1, ↓wLd_of i1, ↓wLd_of z0, ↓wLd_of k1, hG2, ↓wLd_of i3, ↓wLd_of z22, ↓wLd_of k3, g, hG4, ↓wLd_of i4, ↓wLd_of z4, ↓wF_eq e5]
def FrXM (C D : mMem) : Prop := (∀ a, a ≠ 139 → a ≠ 143 → a ≠ 144 → D a = C a) ∧ (∀ i, i < 12 ∨ (13 < i ∧ i < 17) ∨ 24 < i ∨ i = 23 → D 139 i = C 139 i)
theorem frXM_R (h : FrR C D) : FrXM C D := ⟨fun a a1 _ a3 => h.1 a a1 a3, fun i hi => h.2 i (by omega)⟩
theorem frXM_t (h : FrXM C D) (g : FrXM D E) : FrXM C E := ⟨fun a x y z => (g.1 a x y z).trans (h.1 a x y z), fun i x => (g.2 i x).trans (h.2 i x)⟩
theorem frXM_1 {i : Nat} {x : Int32} : FrXM C (mUp C 143 i x) := ⟨fun a _ a2 _ => up_k a2, fun _ _ => by rw [up_k (by omega)]⟩
def LnM (D : mMem) (cnt : Nat) (Ls : List Ln) : Prop := D 139 12 = iz (cnt : Int) ∧ ∀ i w, Ls[i]? = some w → D 143 (4 * i) = iz w.1 ∧ D 143 (4 * i + 1) = iz (w.2.1 : Int) ∧ D 143 (4 * i + 2) = iz (w.2.2.1 : Int) ∧ D 143 (4 * i + 3) = iz (w.2.2.2 : Int)
def RdM (b : Nat → Int) (L : Nat) (C : mMem) (t : Bool) (D : mMem) : Sum (List Ln × List (Int × Int)) (Nat × Int) → Prop
  | .inl (Ls, l) => t = true ∧ LnM D Ls.length Ls ∧ OutM D l ∧ D 139 21 = C 139 21
  | .inr (j, f) => t = false ∧ D 139 21 = iz f ∧ D 139 22 = iz (st b L j)
/-- the state between two lines -/
def BtM (b : Nat → Int) (L n : Nat) (wh : Int) (C : mMem) (E : mMem) (j cnt : Nat) (Ls : List Ln) (l : List (Int × Int)) : Prop := (∃ dp, PoM b L n wh E l dp true E (.inl (j, []))) ∧ LnM E cnt Ls ∧ FrXM C E ∧ E 139 21 = C 139 21 ∧ Ls.length ≤ 16
theorem poM_s {t : Bool} (P : PoM b L n wh C l dp t D (.inl (q, o))) : PoM b L n wh D (l ++ o) dp true D (.inl (q, [])) := poM_0 P.2.2.1 P.2.2.2.1 P.2.2.2.2.1 P.2.2.2.2.2.1 P.2.2.2.2.2.2.2
theorem poM_x (P : PoM b L n wh D l dp true D (.inl (q, []))) (h : ∀ a, a ≠ 139 → a ≠ 143 → E a = D a) (h9 : ∀ i, i ≠ 12 → E 139 i = D 139 i) : PoM b L n wh E l dp true E (.inl (q, [])) := by
  have p4 := P.2.2.2.1
  have p5 := P.2.2.2.2.1
  rw [List.append_nil] at p4 p5
  exact poM_0 (tokM_fr P.2.2.1 (fun i hi => h9 i (by omega)) (h 146 (by omega) (by omega))) (outM_fr p4 (h9 13 (by omega)) (h 144 (by omega) (by omega))) p5 P.2.2.2.2.2.1 (by rw [h9 24 (by omega)]; exact P.2.2.2.2.2.2.2)
theorem poM_3 {i : Nat} {x : Int32} (P : PoM b L n wh D l dp true D (.inl (q, []))) : PoM b L n wh (mUp D 143 i x) l dp true (mUp D 143 i x) (.inl (q, [])) := poM_x P (fun a _ a2 => up_k a2) (fun i _ => by rw [up_k (by omega)])
/-- one line -/
theorem rf_aLine {f : Nat} {R0 : Sum (List Ln × List (Int × Int)) (Nat × Int)} (hN : NK b L n) (hw : wh ≠ 3) (B : BtM b L n wh C E j Ls.length Ls l) (hr : rdF (kj b L) (vj b L) (f + 1) j Ls l = R0) (hK : ¬ kj b L j = 0) : ∃ t D, f_M_aLine [.ref 139] E = some (some (bI t), D) ∧ FrXM C D ∧ (t = true ∧ (∃ j' Ls' l', BtM b L n wh C D j' Ls.length Ls' l' ∧ rdF (kj b L) (vj b L) f j' Ls' l' = R0 ∧ Ls'.length = Ls.length + 1) ∨ t = false ∧ RdM b L C false D R0) := by
  obtain ⟨⟨dp, P⟩, ⟨Lc, Ld⟩, Fx, B21, B16⟩ := B
  obtain ⟨p, h18, pa, pb, -, -, -, -, -, -, p20, p21, -⟩ := poM_k hN hw P
  rw [rdF, if_neg hK] at hr
  by_cases g1 : kj b L j = 256 ∨ kj b L j = 257
  · rw [if_neg (by omega)] at hr
    have hp : p = 20 ∨ p = 21 := by omega
    by_cases g2 : Ls.length = 16
    · rw [if_pos g2] at hr
      obtain ⟨F, e, P1⟩ := rf_badG (f := 3) P
      rw [g2] at Lc
      refine ⟨false, F, ml_3 h18 hp Lc e, frXM_t Fx (frXM_R P1.1), Or.inr ⟨rfl, ?_⟩⟩
      rw [← hr]
      exact ⟨rfl, P1.2.2.1, P1.2.2.2⟩
    · rw [if_neg g2] at hr
      have hi : 0 ≤ (Ls.length : Int) ∧ (Ls.length : Int) < 16 := by omega
      have kw : kj b L j - 256 = p - 20 := by omega
      have a0 : (4 * (Ls.length : Int)).toNat = 4 * Ls.length := by omega
      have a1 : (4 * (Ls.length : Int) + 1).toNat = 4 * Ls.length + 1 := by omega
      have a2 : (4 * (Ls.length : Int) + 2).toNat = 4 * Ls.length + 2 := by omega
      have a3 : (4 * (Ls.length : Int) + 3).toNat = 4 * Ls.length + 3 := by omega
      have P0 := poM_s (poM_dp (x := 0) (poM_3 (i := (4 * (Ls.length : Int)).toNat) (x := iz (p - 20)) P))
      rw [List.append_nil] at P0
      obtain ⟨G0, hG0⟩ : ∃ G0, mUp (mUp E 143 (4 * (Ls.length : Int)).toNat (iz (p - 20))) 139 24 (iz 0) = G0 := ⟨_, rfl⟩
      rw [hG0] at P0
      have fr0 : FrXM E G0 := by rw [← hG0]; exact ⟨fun a x y z => by rw [up_k x, up_k y], fun i hi => by rw [up_j (by omega), up_k (by omega)]⟩
      have g143 : ∀ x, x ≠ 4 * Ls.length → G0 143 x = E 143 x := fun x hx => by rw [← hG0, up_k (by omega), up_j (by omega)]
      have g143' : G0 143 (4 * Ls.length) = iz (p - 20) := by rw [← hG0, up_k (by omega), a0, up_at]
      have g12 : G0 139 12 = iz (Ls.length : Int) := by rw [← hG0, up_j (by omega), up_k (by omega)]; exact Lc
      have g21 : G0 139 21 = E 139 21 := by rw [← hG0, up_j (by omega), up_k (by omega)]
      obtain ⟨G1, e1, P1⟩ := rf_nextG hN P0 (by omega)
      have f1 := P1.1
      have q21 := P1.2.2.2.2.2.2.1
      have z0 := P1.2.2.2.1.1
      have i1 : G1 139 12 = iz (Ls.length : Int) := by rw [f1.2 12 (by omega)]; exact g12
      have P1 := poM_s P1
      rw [List.append_nil] at P1 z0
      rw [← hG0] at e1
      obtain ⟨G2, hG2⟩ : ∃ G2, mUp G1 143 (4 * (Ls.length : Int) + 1).toNat (iz (l.length : Int)) = G2 := ⟨_, rfl⟩
      have P2 : PoM b L n wh G2 l 0 true G2 (.inl (j + 1, [])) := by rw [← hG2]; exact poM_3 P1
      have s1 : ∃ t G3, (p = 20 ∧ f_M_sumUp [.ref 139] G2 = some (some (bI t), G3) ∨ p = 21 ∧ t = true ∧ G3 = G2) ∧ PoM b L n wh G2 l 0 t G3 (hdF (kj b L) (vj b L) j) := by
        unfold hdF
        by_cases g : kj b L j = 256
        · rw [if_pos g]
          obtain ⟨t, G3, e, Q⟩ := rf_sum hN hw P2
          rw [pre_nil] at Q
          exact ⟨t, G3, Or.inl ⟨by omega, e⟩, Q⟩
        · rw [if_neg g]
          exact ⟨true, G2, Or.inr ⟨by omega, rfl, rfl⟩, P2⟩
      have F2 : FrXM C G2 := by
        rw [← hG2]
        exact frXM_t Fx (frXM_t fr0 (frXM_t (frXM_R f1) frXM_1))
      have w21 : G2 139 21 = C 139 21 := by rw [← hG2, up_k (by omega), q21, g21]; exact B21
      have c1 : ∀ x, x < 4 * Ls.length → G2 143 x = E 143 x := fun x hx => by rw [← hG2, up_j (by omega), f1.1 143 (by omega) (by omega), g143 x (by omega)]
      have c2 : G2 143 (4 * Ls.length) = iz (kj b L j - 256) := by rw [← hG2, up_j (by omega), f1.1 143 (by omega) (by omega), g143', kw]
      have c3 : G2 143 (4 * Ls.length + 1) = iz (l.length : Int) := by rw [← hG2, a1, up_at]
      have i2 : G2 139 12 = iz (Ls.length : Int) := by rw [← hG2, up_k (by omega)]; exact i1
      obtain ⟨t1, G3, s1, P3⟩ := s1
      rcases u1 : hdF (kj b L) (vj b L) j with ⟨q1, o1⟩ | ⟨q1, ff⟩ <;> rw [u1] at P3 hr
      · rw [bnd_l] at hr
        obtain rfl : t1 = true := P3.2.1
        have s1 : p = 20 ∧ f_M_sumUp [.ref 139] G2 = some (some (bI true), G3) ∨ p = 21 ∧ G3 = G2 := by
          rcases s1 with a | ⟨a, -, c⟩
          · exact Or.inl a
          · exact Or.inr ⟨a, c⟩
        have f3 := P3.1
        have z1 := P3.2.2.2.1.1
        have x21 := P3.2.2.2.2.2.2.1
        have i3 : G3 139 12 = iz (Ls.length : Int) := by rw [f3.2 12 (by omega)]; exact i2
        obtain ⟨p1, k3, pa1, pb1, -, -, p3, -⟩ := poM_k hN hw P3
        have P3 := poM_s P3
        obtain ⟨G4, hG4⟩ : ∃ G4, mUp G3 143 (4 * (Ls.length : Int) + 2).toNat (iz ((l ++ o1).length : Nat)) = G4 := ⟨_, rfl⟩
        have P4 : PoM b L n wh G4 (l ++ o1) 0 true G4 (.inl (q1, [])) := by rw [← hG4]; exact poM_3 P3
        have F4 : FrXM C G4 := by
          rw [← hG4]
          exact frXM_t F2 (frXM_t (frXM_R f3) frXM_1)
        have y21 : G4 139 21 = C 139 21 := by rw [← hG4, up_k (by omega), x21]; exact w21
        have d1 : ∀ x, x < 4 * Ls.length + 2 → G4 143 x = G2 143 x := fun x hx => by rw [← hG4, up_j (by omega), f3.1 143 (by omega) (by omega)]
        have d3 : G4 143 (4 * Ls.length + 2) = iz (((l ++ o1).length : Nat) : Int) := by rw [← hG4, a2, up_at]
        have i4 : G4 139 12 = iz (Ls.length : Int) := by rw [← hG4, up_k (by omega)]; exact i3
        have s2 : ∃ t G5, (p1 = 3 ∧ (∃ F, f_M_next0 [.ref 139] G4 = some (none, F) ∧ f_M_any [.ref 139] F = some (some (bI t), G5)) ∨ ¬ p1 = 3 ∧ t = true ∧ G5 = G4) ∧ PoM b L n wh G4 (l ++ o1) 0 t G5 (cnF (kj b L) (vj b L) q1) := by
          unfold cnF
          by_cases g : kj b L q1 = 258
          · rw [if_pos g]
            obtain ⟨F, e3, Q1⟩ := rf_nextG hN P4 (by omega)
            obtain ⟨t, G5, e, Q⟩ := rf_condition hN hw G4 (l ++ o1) F (q1 + 1) [] Q1
            rw [pre_nil] at Q
            exact ⟨t, G5, Or.inl ⟨p3.mpr g, F, e3, e⟩, Q⟩
          · rw [if_neg g]
            exact ⟨true, G4, Or.inr ⟨fun z => g (p3.mp z), rfl, rfl⟩, P4⟩
        obtain ⟨t2, G5, s2, P5⟩ := s2
        rcases u2 : cnF (kj b L) (vj b L) q1 with ⟨q2, o2⟩ | ⟨q2, ff⟩ <;> rw [u2] at P5 hr
        · rw [bnd_l] at hr
          obtain rfl : t2 = true := P5.2.1
          have s2 : p1 = 3 ∧ (∃ F, f_M_next0 [.ref 139] G4 = some (none, F) ∧ f_M_any [.ref 139] F = some (some (bI true), G5)) ∨ ¬ p1 = 3 ∧ G5 = G4 := by
            rcases s2 with a | ⟨a, -, c⟩
            · exact Or.inl a
            · exact Or.inr ⟨a, c⟩
          have f5 := P5.1
          have z2 := P5.2.2.2.1.1
          have v21 := P5.2.2.2.2.2.2.1
          have i5 : G5 139 12 = iz (Ls.length : Int) := by rw [f5.2 12 (by omega)]; exact i4
          have P5 := poM_s P5
          have P6 := poM_3 (i := (4 * (Ls.length : Int) + 3).toNat) (x := iz ((l ++ o1 ++ o2).length : Nat)) P5
          obtain ⟨t7, G7, e7, P7⟩ := rf_needG (c := 59) hN hw (by omega) P6
          have main := ml_n hi h18 Lc e1 i1 z0 hG2 s1 i3 z1 hG4 k3 ⟨pa1, pb1⟩ s2 i5 z2 e7
          have F6 : FrXM C (mUp G5 143 (4 * (Ls.length : Int) + 3).toNat (iz ((l ++ o1 ++ o2).length : Nat))) := frXM_t F4 (frXM_t (frXM_R f5) frXM_1)
          unfold clF at hr
          by_cases g3 : kj b L q2 = 59
          · rw [if_pos g3] at P7 hr
            rw [bnd_l] at hr
            obtain rfl : t7 = true := P7.2.1
            have f7 := P7.1
            have u21 := P7.2.2.2.2.2.2.1
            have P7 := poM_s P7
            rw [List.append_nil] at P7
            refine ⟨true, G7, main, frXM_t F6 (frXM_R f7), Or.inl ⟨rfl, q2 + 1, _, _, ⟨⟨0, P7⟩, ⟨?_, fun i w hw => ?_⟩, frXM_t F6 (frXM_R f7), ?_, ?_⟩, hr, ?_⟩⟩
            · rw [f7.2 12 (by omega), up_k (by omega)]; exact i5
            · have cc : ∀ x, x < 4 * Ls.length + 3 → G7 143 x = G4 143 x := fun x hx => by rw [f7.1 143 (by omega) (by omega), up_j (by omega), f5.1 143 (by omega) (by omega)]
              by_cases z : i < Ls.length
              · rw [List.getElem?_append_left z] at hw
                rw [cc _ (by omega), cc _ (by omega), cc _ (by omega), cc _ (by omega), d1 _ (by omega), d1 _ (by omega), d1 _ (by omega), d1 _ (by omega), c1 _ (by omega), c1 _ (by omega), c1 _ (by omega), c1 _ (by omega)]
                exact Ld i w hw
              · have hlt : i < (Ls ++ [(kj b L j - 256, l.length, l.length + o1.length, l.length + o1.length + o2.length)]).length := (List.getElem?_eq_some_iff.mp hw).1
                rw [List.length_append, List.length_singleton] at hlt
                obtain rfl : i = Ls.length := by omega
                rw [List.getElem?_append_right (Nat.le_refl _), Nat.sub_self] at hw
                have hy := Option.some.inj hw
                subst hy
                rw [cc _ (by omega), cc _ (by omega), cc _ (by omega), d1 _ (by omega), d1 _ (by omega), c2, c3, d3, f7.1 143 (by omega) (by omega), a3, up_at]
                refine ⟨rfl, rfl, by rw [List.length_append], by rw [List.length_append, List.length_append]⟩
            · rw [u21, up_k (by omega), v21]; exact y21
            · rw [List.length_append, List.length_singleton]; omega
            · rw [List.length_append, List.length_singleton]
          · rw [if_neg g3] at P7 hr
            rw [bnd_r] at hr
            obtain rfl : t7 = false := P7.2.1
            refine ⟨false, G7, main, frXM_t F6 (frXM_R P7.1), Or.inr ⟨rfl, ?_⟩⟩
            rw [← hr]
            exact ⟨rfl, P7.2.2.1, P7.2.2.2⟩
        · rw [bnd_r] at hr
          obtain rfl : t2 = false := P5.2.1
          rcases s2 with ⟨a, F, e3, e4⟩ | ⟨-, a, -⟩
          · rw [a] at k3
            rw [← hG4] at e3
            refine ⟨false, G5, ml_w hi h18 Lc e1 i1 z0 hG2 s1 i3 z1 k3 e3 e4, frXM_t F4 (frXM_R P5.1), Or.inr ⟨rfl, ?_⟩⟩
            rw [← hr]
            exact ⟨rfl, P5.2.2.1, P5.2.2.2⟩
          · simp at a
      · rw [bnd_r] at hr
        obtain rfl : t1 = false := P3.2.1
        rcases s1 with ⟨a, e2⟩ | ⟨-, a, -⟩
        · subst a
          rw [← hG2] at e2
          refine ⟨false, G3, ml_s hi h18 Lc e1 i1 z0 e2, frXM_t F2 (frXM_R P3.1), Or.inr ⟨rfl, ?_⟩⟩
          rw [← hr]
          exact ⟨rfl, P3.2.2.1, P3.2.2.2⟩
        · simp at a
  · rw [if_pos g1] at hr
    obtain ⟨F, e, P1⟩ := rf_badG (f := 1) P
    refine ⟨false, F, ml_1 h18 ⟨pa, pb⟩ (by omega) e, frXM_t Fx (frXM_R P1.1), Or.inr ⟨rfl, ?_⟩⟩
    rw [← hr]
    exact ⟨rfl, P1.2.2.1, P1.2.2.2⟩
end
end

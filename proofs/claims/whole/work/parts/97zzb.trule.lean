/-! texts: a rule's text answers alike -/
noncomputable section
section
variable {b : Nat → Int} {L n j q : Nat} {C D E F G : mMem} {l o : List (Int × Int)} {Ls : List Ln} {k : Int} {Q : Option Int32 → mMem → Prop}
def cTx (C : mMem) : mMem := mUp (mUp (mUp C 0 1 (iz 0)) 2 7 (iz 0)) 2 8 (iz (-1))
theorem ft_no {x : Int32} (h1 : C 0 1 = x) (hr : -2147483648 ≤ k ∧ k < 2147483648) (hk : k < 0 ∨ 3 < k) : f_F_text [.ref 0, .int (iz k)] C = some (some (iz (-1)), cTx C) := by
  unfold cTx
  apply wF_to
  unfold f_F_text
  simp only [↓w_rcv, ↓w_bodyI, ↓w_bodyZ, ↓w_bodyV, true_and, List.length_cons, List.length_nil, Nat.reduceAdd, Nat.reduceSub, Nat.reduceLeDiff, List.replicate_succ, List.replicate_zero, List.cons_append, List.nil_append, List.append_nil, ↓tO_0, ↓tO_2, ↓tO_6, ↓tO_11, ↓tO_18, ↓tO_19, ↓tO_27, ↓tO_32, ↓tO_37, ↓tO_43, ↓tO_44, ↓tO_52, ↓tO_62, ↓tO_63, ↓tO_71, ↓tO_76, ↓tO_81, ↓tO_87, ↓tO_88, ↓tO_96, ↓tO_106, ↓tO_107, ↓tO_115, ↓tO_127, ↓tO_127c, ↓tO_133, ↓tO_133c, ↓tO_139]
  unfold S_F_text
  by_cases g : k < 0
  · clear hk
    simp (disch := omega) only [↓w_eBin, ↓w_eUn, ↓w_eDiv, ↓w_eRem, ↓w_eFld, ↓w_rFld, ↓w_eALd, ↓w_rALd, ↓w_eALen, ↓w_rStr, ↓w_aNil, ↓w_aI, ↓w_aR, ↓w_N, ↓w_eCall, ↓w_X, ↓w_bCmp, ↓w_bAnd, ↓w_bOr, ↓w_bNot, ↓w_eB, ↓w_eIte, ↓w_sSkip, ↓w_sRet, ↓w_sRetZ, ↓w_sRetV, ↓w_sBrk, ↓w_sCont, ↓w_sIf, ↓w_sSeq, ↓w_sCaC, ↓w_sCaB, ↓w_sSw, ↓w_sCall, ↓w_sPut, ↓w_sPutOp, ↓w_sASt, ↓w_sAOp, ↓w_sADiv, ↓w_eLoc0, ↓w_rLoc0, ↓w_sSet0, ↓w_sSetR0, ↓w_sIncP0, ↓w_sIncM0, ↓w_eLoc1, ↓w_rLoc1, ↓w_sSet1, ↓w_sSetR1, ↓w_sIncP1, ↓w_sIncM1, ↓w_eLoc2, ↓w_rLoc2, ↓w_sSet2, ↓w_sSetR2, ↓w_sIncP2, ↓w_sIncM2, ↓w_eLoc3, ↓w_rLoc3, ↓w_sSet3, ↓w_sSetR3, ↓w_sIncP3, ↓w_sIncM3, ↓w_eLoc4, ↓w_rLoc4, ↓w_sSet4, ↓w_sSetR4, ↓w_sIncP4, ↓w_sIncM4, ↓w_eLoc5, ↓w_rLoc5, ↓w_sSet5, ↓w_sSetR5, ↓w_sIncP5, ↓w_sIncM5, ↓w_eLoc6, ↓w_rLoc6, ↓w_sSet6, ↓w_sSetR6, ↓w_sIncP6, ↓w_sIncM6, ↓w_eLoc7, ↓w_rLoc7, ↓w_sSet7, ↓w_sSetR7, ↓w_sIncP7, ↓w_sIncM7, ↓w_eLoc8, ↓w_rLoc8, ↓w_sSet8, ↓w_sSetR8, ↓w_sIncP8, ↓w_sIncM8, ↓w_eLoc9, ↓w_rLoc9, ↓w_sSet9, ↓w_sSetR9, ↓w_sIncP9, ↓w_sIncM9, ↓w_eLoc10, ↓w_rLoc10, ↓w_sSet10, ↓w_sSetR10, ↓w_sIncP10, ↓w_sIncM10, ↓w_eLoc11, ↓w_rLoc11, ↓w_sSet11, ↓w_sSetR11, ↓w_sIncP11, ↓w_sIncM11, ↓w_eLoc12, ↓w_rLoc12, ↓w_sSet12, ↓w_sSetR12, ↓w_sIncP12, ↓w_sIncM12, ↓w_eLoc13, ↓w_rLoc13, ↓w_sSet13, ↓w_sSetR13, ↓w_sIncP13, ↓w_sIncM13, ↓w_eIntN, ↓w_eIntM, ↓w_bZi, ↓w_add, ↓w_sub, ↓w_mul, ↓w_neg, ↓w_nar, ↓w_div, ↓w_ldne, ↓w_ldat, ↓w_ldj, List.length_cons, List.length_nil, Nat.reduceAdd, Nat.reduceSub, Nat.reduceLeDiff, List.replicate_succ, List.replicate_zero, List.cons_append, List.nil_append, List.append_nil, iz_nI, iz_ofNat, iz_add, iz_sub, iz_mul, cz_lt, cz_le, cz_gt, cz_ge, cz_eq, cz_ne, mIn_iz, iz_nat, decide_eq_true_eq, Bool.not_eq_true', decide_eq_false_iff_not, true_and, and_true, ↓reduceIte, not_true_eq_false, not_false_eq_true, w01_bI, w01_i0, w01_i1, bI_ne', bI_eq', Bool.false_eq_true, false_implies, forall_const, implies_true, true_implies, imp_self, eq_self, cz10, cz00, w01_0, w01_1, Bool.true_eq_false, Bool.not_true, Bool.not_false, decide_true, decide_false, ↓tO_0, ↓tR_0_0, ↓tI_0_1, ↓tR_0_2, ↓tR_0_3, ↓tR_0_4, ↓tR_0_5, ↓tR_0_6, ↓tI_0_7, ↓tR_0_8, ↓tR_0_9, ↓tR_0_10, ↓tR_0_11, ↓tR_0_12, ↓tO_2, ↓tR_2_0, ↓tR_2_1, ↓tR_2_2, ↓tI_2_3, ↓tI_2_4, ↓tI_2_5, ↓tI_2_6, ↓tI_2_7, ↓tI_2_8, ↓tO_6, ↓tI_6_0, ↓tI_6_1, ↓tI_6_2, ↓tI_6_3, ↓tR_6_4, ↓tR_6_5, ↓tR_6_6, ↓tR_6_7, ↓tO_11, ↓tI_11_0, ↓tI_11_1, ↓tI_11_2, ↓tR_11_3, ↓tR_11_4, ↓tR_11_5, ↓tR_11_6, ↓tR_11_7, ↓tR_11_8, ↓tO_18, ↓tR_18_0, ↓tR_18_1, ↓tR_18_2, ↓tR_18_3, ↓tI_18_4, Int.reduceEq, ↓wLd_of h1, g, and_self]
  · have g2 : k > 3 := by omega
    have g3 : 3 < k := by omega
    clear hk
    simp (disch := omega) only [↓w_eBin, ↓w_eUn, ↓w_eDiv, ↓w_eRem, ↓w_eFld, ↓w_rFld, ↓w_eALd, ↓w_rALd, ↓w_eALen, ↓w_rStr, ↓w_aNil, ↓w_aI, ↓w_aR, ↓w_N, ↓w_eCall, ↓w_X, ↓w_bCmp, ↓w_bAnd, ↓w_bOr, ↓w_bNot, ↓w_eB, ↓w_eIte, ↓w_sSkip, ↓w_sRet, ↓w_sRetZ, ↓w_sRetV, ↓w_sBrk, ↓w_sCont, ↓w_sIf, ↓w_sSeq, ↓w_sCaC, ↓w_sCaB, ↓w_sSw, ↓w_sCall, ↓w_sPut, ↓w_sPutOp, ↓w_sASt, ↓w_sAOp, ↓w_sADiv, ↓w_eLoc0, ↓w_rLoc0, ↓w_sSet0, ↓w_sSetR0, ↓w_sIncP0, ↓w_sIncM0, ↓w_eLoc1, ↓w_rLoc1, ↓w_sSet1, ↓w_sSetR1, ↓w_sIncP1, ↓w_sIncM1, ↓w_eLoc2, ↓w_rLoc2, ↓w_sSet2, ↓w_sSetR2, ↓w_sIncP2, ↓w_sIncM2, ↓w_eLoc3, ↓w_rLoc3, ↓w_sSet3, ↓w_sSetR3, ↓w_sIncP3, ↓w_sIncM3, ↓w_eLoc4, ↓w_rLoc4, ↓w_sSet4, ↓w_sSetR4, ↓w_sIncP4, ↓w_sIncM4, ↓w_eLoc5, ↓w_rLoc5, ↓w_sSet5, ↓w_sSetR5, ↓w_sIncP5, ↓w_sIncM5, ↓w_eLoc6, ↓w_rLoc6, ↓w_sSet6, ↓w_sSetR6, ↓w_sIncP6, ↓w_sIncM6, ↓w_eLoc7, ↓w_rLoc7, ↓w_sSet7, ↓w_sSetR7, ↓w_sIncP7, ↓w_sIncM7, ↓w_eLoc8, ↓w_rLoc8, ↓w_sSet8, ↓w_sSetR8, ↓w_sIncP8, ↓w_sIncM8, ↓w_eLoc9, ↓w_rLoc9, ↓w_sSet9, ↓w_sSetR9, ↓w_sIncP9, ↓w_sIncM9, ↓w_eLoc10, ↓w_rLoc10, ↓w_sSet10, ↓w_sSetR10, ↓w_sIncP10, ↓w_sIncM10, ↓w_eLoc11, ↓w_rLoc11, ↓w_sSet11, ↓w_sSetR11, ↓w_sIncP11, ↓w_sIncM11, ↓w_eLoc12, ↓w_rLoc12, ↓w_sSet12, ↓w_sSetR12, ↓w_sIncP12, ↓w_sIncM12, ↓w_eLoc13, ↓w_rLoc13, ↓w_sSet13, ↓w_sSetR13, ↓w_sIncP13, ↓w_sIncM13, ↓w_eIntN, ↓w_eIntM, ↓w_bZi, ↓w_add, ↓w_sub, ↓w_mul, ↓w_neg, ↓w_nar, ↓w_div, ↓w_ldne, ↓w_ldat, ↓w_ldj, List.length_cons, List.length_nil, Nat.reduceAdd, Nat.reduceSub, Nat.reduceLeDiff, List.replicate_succ, List.replicate_zero, List.cons_append, List.nil_append, List.append_nil, iz_nI, iz_ofNat, iz_add, iz_sub, iz_mul, cz_lt, cz_le, cz_gt, cz_ge, cz_eq, cz_ne, mIn_iz, iz_nat, decide_eq_true_eq, Bool.not_eq_true', decide_eq_false_iff_not, true_and, and_true, ↓reduceIte, not_true_eq_false, not_false_eq_true, w01_bI, w01_i0, w01_i1, bI_ne', bI_eq', Bool.false_eq_true, false_implies, forall_const, implies_true, true_implies, imp_self, eq_self, cz10, cz00, w01_0, w01_1, Bool.true_eq_false, Bool.not_true, Bool.not_false, decide_true, decide_false, ↓tO_0, ↓tR_0_0, ↓tI_0_1, ↓tR_0_2, ↓tR_0_3, ↓tR_0_4, ↓tR_0_5, ↓tR_0_6, ↓tI_0_7, ↓tR_0_8, ↓tR_0_9, ↓tR_0_10, ↓tR_0_11, ↓tR_0_12, ↓tO_2, ↓tR_2_0, ↓tR_2_1, ↓tR_2_2, ↓tI_2_3, ↓tI_2_4, ↓tI_2_5, ↓tI_2_6, ↓tI_2_7, ↓tI_2_8, ↓tO_6, ↓tI_6_0, ↓tI_6_1, ↓tI_6_2, ↓tI_6_3, ↓tR_6_4, ↓tR_6_5, ↓tR_6_6, ↓tR_6_7, ↓tO_11, ↓tI_11_0, ↓tI_11_1, ↓tI_11_2, ↓tR_11_3, ↓tR_11_4, ↓tR_11_5, ↓tR_11_6, ↓tR_11_7, ↓tR_11_8, ↓tO_18, ↓tR_18_0, ↓tR_18_1, ↓tR_18_2, ↓tR_18_3, ↓tI_18_4, Int.reduceEq, ↓wLd_of h1, g, g2, g3, and_self]
theorem fm_no (hr : -2147483648 ≤ k ∧ k < 2147483648) (hk : ¬ (0 ≤ k ∧ k ≤ 3)) : f_M_text [.ref 139, .int (iz k)] C = some (some (iz (-1)), mUp (mUp (mUp (mUp C 139 21 (iz 0)) 139 16 (iz 0)) 139 23 (iz 0)) 139 25 (iz (-1))) := by
  apply wF_to
  unfold f_M_text
  simp only [↓w_rcv, ↓w_bodyI, ↓w_bodyZ, ↓w_bodyV, true_and, List.length_cons, List.length_nil, Nat.reduceAdd, Nat.reduceSub, Nat.reduceLeDiff, List.replicate_succ, List.replicate_zero, List.cons_append, List.nil_append, List.append_nil, ↓tO_0, ↓tO_2, ↓tO_6, ↓tO_11, ↓tO_18, ↓tO_19, ↓tO_27, ↓tO_32, ↓tO_37, ↓tO_43, ↓tO_44, ↓tO_52, ↓tO_62, ↓tO_63, ↓tO_71, ↓tO_76, ↓tO_81, ↓tO_87, ↓tO_88, ↓tO_96, ↓tO_106, ↓tO_107, ↓tO_115, ↓tO_127, ↓tO_127c, ↓tO_133, ↓tO_133c, ↓tO_139]
  rw [tx_eq]
  have hin : (decide (0 ≤ k ∧ k ≤ 3)) = false := decide_eq_false hk
  clear hk
  simp (disch := omega) only [↓w_eBin, ↓w_eUn, ↓w_eDiv, ↓w_eRem, ↓w_eFld, ↓w_rFld, ↓w_eALd, ↓w_rALd, ↓w_eALen, ↓w_rStr, ↓w_aNil, ↓w_aI, ↓w_aR, ↓w_N, ↓w_eCall, ↓w_X, ↓w_bCmp, ↓w_bAnd, ↓w_bOr, ↓w_bNot, ↓w_eB, ↓w_eIte, ↓w_sSkip, ↓w_sRet, ↓w_sRetZ, ↓w_sRetV, ↓w_sBrk, ↓w_sCont, ↓w_sIf, ↓w_sSeq, ↓w_sCaC, ↓w_sCaB, ↓w_sSw, ↓w_sCall, ↓w_sPut, ↓w_sPutOp, ↓w_sASt, ↓w_sAOp, ↓w_sADiv, ↓w_eLoc0, ↓w_rLoc0, ↓w_sSet0, ↓w_sSetR0, ↓w_sIncP0, ↓w_sIncM0, ↓w_eLoc1, ↓w_rLoc1, ↓w_sSet1, ↓w_sSetR1, ↓w_sIncP1, ↓w_sIncM1, ↓w_eLoc2, ↓w_rLoc2, ↓w_sSet2, ↓w_sSetR2, ↓w_sIncP2, ↓w_sIncM2, ↓w_eLoc3, ↓w_rLoc3, ↓w_sSet3, ↓w_sSetR3, ↓w_sIncP3, ↓w_sIncM3, ↓w_eLoc4, ↓w_rLoc4, ↓w_sSet4, ↓w_sSetR4, ↓w_sIncP4, ↓w_sIncM4, ↓w_eLoc5, ↓w_rLoc5, ↓w_sSet5, ↓w_sSetR5, ↓w_sIncP5, ↓w_sIncM5, ↓w_eLoc6, ↓w_rLoc6, ↓w_sSet6, ↓w_sSetR6, ↓w_sIncP6, ↓w_sIncM6, ↓w_eLoc7, ↓w_rLoc7, ↓w_sSet7, ↓w_sSetR7, ↓w_sIncP7, ↓w_sIncM7, ↓w_eLoc8, ↓w_rLoc8, ↓w_sSet8, ↓w_sSetR8, ↓w_sIncP8, ↓w_sIncM8, ↓w_eLoc9, ↓w_rLoc9, ↓w_sSet9, ↓w_sSetR9, ↓w_sIncP9, ↓w_sIncM9, ↓w_eLoc10, ↓w_rLoc10, ↓w_sSet10, ↓w_sSetR10, ↓w_sIncP10, ↓w_sIncM10, ↓w_eLoc11, ↓w_rLoc11, ↓w_sSet11, ↓w_sSetR11, ↓w_sIncP11, ↓w_sIncM11, ↓w_eLoc12, ↓w_rLoc12, ↓w_sSet12, ↓w_sSetR12, ↓w_sIncP12, ↓w_sIncM12, ↓w_eLoc13, ↓w_rLoc13, ↓w_sSet13, ↓w_sSetR13, ↓w_sIncP13, ↓w_sIncM13, ↓w_eIntN, ↓w_eIntM, ↓w_bZi, ↓w_add, ↓w_sub, ↓w_mul, ↓w_neg, ↓w_nar, ↓w_div, ↓w_ldne, ↓w_ldat, ↓w_ldj, List.length_cons, List.length_nil, Nat.reduceAdd, Nat.reduceSub, Nat.reduceLeDiff, List.replicate_succ, List.replicate_zero, List.cons_append, List.nil_append, List.append_nil, iz_nI, iz_ofNat, iz_add, iz_sub, iz_mul, cz_lt, cz_le, cz_gt, cz_ge, cz_eq, cz_ne, mIn_iz, iz_nat, decide_eq_true_eq, Bool.not_eq_true', decide_eq_false_iff_not, true_and, and_true, ↓reduceIte, not_true_eq_false, not_false_eq_true, w01_bI, w01_i0, w01_i1, bI_ne', bI_eq', Bool.false_eq_true, false_implies, forall_const, implies_true, true_implies, imp_self, eq_self, cz10, cz00, w01_0, w01_1, Bool.true_eq_false, Bool.not_true, Bool.not_false, decide_true, decide_false, ↓tO_0, ↓tR_0_0, ↓tI_0_1, ↓tR_0_2, ↓tR_0_3, ↓tR_0_4, ↓tR_0_5, ↓tR_0_6, ↓tI_0_7, ↓tR_0_8, ↓tR_0_9, ↓tR_0_10, ↓tR_0_11, ↓tR_0_12, ↓tO_2, ↓tR_2_0, ↓tR_2_1, ↓tR_2_2, ↓tI_2_3, ↓tI_2_4, ↓tI_2_5, ↓tI_2_6, ↓tI_2_7, ↓tI_2_8, ↓tO_6, ↓tI_6_0, ↓tI_6_1, ↓tI_6_2, ↓tI_6_3, ↓tR_6_4, ↓tR_6_5, ↓tR_6_6, ↓tR_6_7, ↓tO_11, ↓tI_11_0, ↓tI_11_1, ↓tI_11_2, ↓tR_11_3, ↓tR_11_4, ↓tR_11_5, ↓tR_11_6, ↓tR_11_7, ↓tR_11_8, ↓tO_18, ↓tR_18_0, ↓tR_18_1, ↓tR_18_2, ↓tR_18_3, ↓tI_18_4, Int.reduceEq, ↓tO_139, ↓tR_139_0, ↓tR_139_1, ↓tR_139_2, ↓tI_139_3, ↓tR_139_4, ↓tR_139_5, ↓tR_139_6, ↓tR_139_7, ↓tR_139_8, ↓tR_139_9, ↓tR_139_10, ↓tI_139_11, ↓tI_139_12, ↓tI_139_13, ↓tI_139_14, ↓tI_139_15, ↓tI_139_16, ↓tI_139_17, ↓tI_139_18, ↓tI_139_19, ↓tI_139_20, ↓tI_139_21, ↓tI_139_22, ↓tI_139_23, ↓tI_139_24, ↓tI_139_25, ↓tI_139_26, ↓tR_139_27, ↓tI_139_28, ↓tI_139_29, ↓tI_139_30, ↓tI_139_31, ↓tR_139_32, ↓tI_139_33, ↓tR_139_34, ↓tR_139_35, ↓tR_139_36, ↓tR_139_37, ↓tI_139_38, ↓wf_isIn, hin, and_self]
theorem ft_r0 (h1 : C 0 1 = iz L) (hk : 0 ≤ k ∧ k ≤ 2) (e1 : f_Tk_scan [.ref 2, .ref 1, .int (iz L)] (cTx C) = some (none, D)) (e2 : f_Ru_read [.ref 6, .ref 2] D = some (some (bI false), E)) : f_F_text [.ref 0, .int (iz k)] C = some (some (iz (-1)), E) := by
  unfold cTx at e1
  have g1 : ¬ k < 0 := by omega
  have g2 : ¬ k > 3 := by omega
  have g3 : ¬ 3 < k := by omega
  have g4 : ¬ k = 3 := by omega
  apply wF_to
  unfold f_F_text
  simp only [↓w_rcv, ↓w_bodyI, ↓w_bodyZ, ↓w_bodyV, true_and, List.length_cons, List.length_nil, Nat.reduceAdd, Nat.reduceSub, Nat.reduceLeDiff, List.replicate_succ, List.replicate_zero, List.cons_append, List.nil_append, List.append_nil, ↓tO_0, ↓tO_2, ↓tO_6, ↓tO_11, ↓tO_18, ↓tO_19, ↓tO_27, ↓tO_32, ↓tO_37, ↓tO_43, ↓tO_44, ↓tO_52, ↓tO_62, ↓tO_63, ↓tO_71, ↓tO_76, ↓tO_81, ↓tO_87, ↓tO_88, ↓tO_96, ↓tO_106, ↓tO_107, ↓tO_115, ↓tO_127, ↓tO_127c, ↓tO_133, ↓tO_133c, ↓tO_139]
  unfold S_F_text
  simp (disch := omega) only [↓w_eBin, ↓w_eUn, ↓w_eDiv, ↓w_eRem, ↓w_eFld, ↓w_rFld, ↓w_eALd, ↓w_rALd, ↓w_eALen, ↓w_rStr, ↓w_aNil, ↓w_aI, ↓w_aR, ↓w_N, ↓w_eCall, ↓w_X, ↓w_bCmp, ↓w_bAnd, ↓w_bOr, ↓w_bNot, ↓w_eB, ↓w_eIte, ↓w_sSkip, ↓w_sRet, ↓w_sRetZ, ↓w_sRetV, ↓w_sBrk, ↓w_sCont, ↓w_sIf, ↓w_sSeq, ↓w_sCaC, ↓w_sCaB, ↓w_sSw, ↓w_sCall, ↓w_sPut, ↓w_sPutOp, ↓w_sASt, ↓w_sAOp, ↓w_sADiv, ↓w_eLoc0, ↓w_rLoc0, ↓w_sSet0, ↓w_sSetR0, ↓w_sIncP0, ↓w_sIncM0, ↓w_eLoc1, ↓w_rLoc1, ↓w_sSet1, ↓w_sSetR1, ↓w_sIncP1, ↓w_sIncM1, ↓w_eLoc2, ↓w_rLoc2, ↓w_sSet2, ↓w_sSetR2, ↓w_sIncP2, ↓w_sIncM2, ↓w_eLoc3, ↓w_rLoc3, ↓w_sSet3, ↓w_sSetR3, ↓w_sIncP3, ↓w_sIncM3, ↓w_eLoc4, ↓w_rLoc4, ↓w_sSet4, ↓w_sSetR4, ↓w_sIncP4, ↓w_sIncM4, ↓w_eLoc5, ↓w_rLoc5, ↓w_sSet5, ↓w_sSetR5, ↓w_sIncP5, ↓w_sIncM5, ↓w_eLoc6, ↓w_rLoc6, ↓w_sSet6, ↓w_sSetR6, ↓w_sIncP6, ↓w_sIncM6, ↓w_eLoc7, ↓w_rLoc7, ↓w_sSet7, ↓w_sSetR7, ↓w_sIncP7, ↓w_sIncM7, ↓w_eLoc8, ↓w_rLoc8, ↓w_sSet8, ↓w_sSetR8, ↓w_sIncP8, ↓w_sIncM8, ↓w_eLoc9, ↓w_rLoc9, ↓w_sSet9, ↓w_sSetR9, ↓w_sIncP9, ↓w_sIncM9, ↓w_eLoc10, ↓w_rLoc10, ↓w_sSet10, ↓w_sSetR10, ↓w_sIncP10, ↓w_sIncM10, ↓w_eLoc11, ↓w_rLoc11, ↓w_sSet11, ↓w_sSetR11, ↓w_sIncP11, ↓w_sIncM11, ↓w_eLoc12, ↓w_rLoc12, ↓w_sSet12, ↓w_sSetR12, ↓w_sIncP12, ↓w_sIncM12, ↓w_eLoc13, ↓w_rLoc13, ↓w_sSet13, ↓w_sSetR13, ↓w_sIncP13, ↓w_sIncM13, ↓w_eIntN, ↓w_eIntM, ↓w_bZi, ↓w_add, ↓w_sub, ↓w_mul, ↓w_neg, ↓w_nar, ↓w_div, ↓w_ldne, ↓w_ldat, ↓w_ldj, List.length_cons, List.length_nil, Nat.reduceAdd, Nat.reduceSub, Nat.reduceLeDiff, List.replicate_succ, List.replicate_zero, List.cons_append, List.nil_append, List.append_nil, iz_nI, iz_ofNat, iz_add, iz_sub, iz_mul, cz_lt, cz_le, cz_gt, cz_ge, cz_eq, cz_ne, mIn_iz, iz_nat, decide_eq_true_eq, Bool.not_eq_true', decide_eq_false_iff_not, true_and, and_true, ↓reduceIte, not_true_eq_false, not_false_eq_true, w01_bI, w01_i0, w01_i1, bI_ne', bI_eq', Bool.false_eq_true, false_implies, forall_const, implies_true, true_implies, imp_self, eq_self, cz10, cz00, w01_0, w01_1, Bool.true_eq_false, Bool.not_true, Bool.not_false, decide_true, decide_false, ↓tO_0, ↓tR_0_0, ↓tI_0_1, ↓tR_0_2, ↓tR_0_3, ↓tR_0_4, ↓tR_0_5, ↓tR_0_6, ↓tI_0_7, ↓tR_0_8, ↓tR_0_9, ↓tR_0_10, ↓tR_0_11, ↓tR_0_12, ↓tO_2, ↓tR_2_0, ↓tR_2_1, ↓tR_2_2, ↓tI_2_3, ↓tI_2_4, ↓tI_2_5, ↓tI_2_6, ↓tI_2_7, ↓tI_2_8, ↓tO_6, ↓tI_6_0, ↓tI_6_1, ↓tI_6_2, ↓tI_6_3, ↓tR_6_4, ↓tR_6_5, ↓tR_6_6, ↓tR_6_7, ↓tO_11, ↓tI_11_0, ↓tI_11_1, ↓tI_11_2, ↓tR_11_3, ↓tR_11_4, ↓tR_11_5, ↓tR_11_6, ↓tR_11_7, ↓tR_11_8, ↓tO_18, ↓tR_18_0, ↓tR_18_1, ↓tR_18_2, ↓tR_18_3, ↓tI_18_4, Int.reduceEq, ↓wLd_of h1, g1, g2, g3, g4, ↓wF_eq e1, ↓wF_eq e2, and_self]
theorem ft_r1 {x : Int32} (h1 : C 0 1 = iz L) (hk : 0 ≤ k ∧ k ≤ 2) (e1 : f_Tk_scan [.ref 2, .ref 1, .int (iz L)] (cTx C) = some (none, D)) (e2 : f_Ru_read [.ref 6, .ref 2] D = some (some (bI true), E)) (e3 : f_F_takeRule [.ref 0, .int (iz k)] E = some (some x, F)) : f_F_text [.ref 0, .int (iz k)] C = some (some x, F) := by
  unfold cTx at e1
  have g1 : ¬ k < 0 := by omega
  have g2 : ¬ k > 3 := by omega
  have g3 : ¬ 3 < k := by omega
  have g4 : ¬ k = 3 := by omega
  apply wF_to
  unfold f_F_text
  simp only [↓w_rcv, ↓w_bodyI, ↓w_bodyZ, ↓w_bodyV, true_and, List.length_cons, List.length_nil, Nat.reduceAdd, Nat.reduceSub, Nat.reduceLeDiff, List.replicate_succ, List.replicate_zero, List.cons_append, List.nil_append, List.append_nil, ↓tO_0, ↓tO_2, ↓tO_6, ↓tO_11, ↓tO_18, ↓tO_19, ↓tO_27, ↓tO_32, ↓tO_37, ↓tO_43, ↓tO_44, ↓tO_52, ↓tO_62, ↓tO_63, ↓tO_71, ↓tO_76, ↓tO_81, ↓tO_87, ↓tO_88, ↓tO_96, ↓tO_106, ↓tO_107, ↓tO_115, ↓tO_127, ↓tO_127c, ↓tO_133, ↓tO_133c, ↓tO_139]
  unfold S_F_text
  simp (disch := omega) only [↓w_eBin, ↓w_eUn, ↓w_eDiv, ↓w_eRem, ↓w_eFld, ↓w_rFld, ↓w_eALd, ↓w_rALd, ↓w_eALen, ↓w_rStr, ↓w_aNil, ↓w_aI, ↓w_aR, ↓w_N, ↓w_eCall, ↓w_X, ↓w_bCmp, ↓w_bAnd, ↓w_bOr, ↓w_bNot, ↓w_eB, ↓w_eIte, ↓w_sSkip, ↓w_sRet, ↓w_sRetZ, ↓w_sRetV, ↓w_sBrk, ↓w_sCont, ↓w_sIf, ↓w_sSeq, ↓w_sCaC, ↓w_sCaB, ↓w_sSw, ↓w_sCall, ↓w_sPut, ↓w_sPutOp, ↓w_sASt, ↓w_sAOp, ↓w_sADiv, ↓w_eLoc0, ↓w_rLoc0, ↓w_sSet0, ↓w_sSetR0, ↓w_sIncP0, ↓w_sIncM0, ↓w_eLoc1, ↓w_rLoc1, ↓w_sSet1, ↓w_sSetR1, ↓w_sIncP1, ↓w_sIncM1, ↓w_eLoc2, ↓w_rLoc2, ↓w_sSet2, ↓w_sSetR2, ↓w_sIncP2, ↓w_sIncM2, ↓w_eLoc3, ↓w_rLoc3, ↓w_sSet3, ↓w_sSetR3, ↓w_sIncP3, ↓w_sIncM3, ↓w_eLoc4, ↓w_rLoc4, ↓w_sSet4, ↓w_sSetR4, ↓w_sIncP4, ↓w_sIncM4, ↓w_eLoc5, ↓w_rLoc5, ↓w_sSet5, ↓w_sSetR5, ↓w_sIncP5, ↓w_sIncM5, ↓w_eLoc6, ↓w_rLoc6, ↓w_sSet6, ↓w_sSetR6, ↓w_sIncP6, ↓w_sIncM6, ↓w_eLoc7, ↓w_rLoc7, ↓w_sSet7, ↓w_sSetR7, ↓w_sIncP7, ↓w_sIncM7, ↓w_eLoc8, ↓w_rLoc8, ↓w_sSet8, ↓w_sSetR8, ↓w_sIncP8, ↓w_sIncM8, ↓w_eLoc9, ↓w_rLoc9, ↓w_sSet9, ↓w_sSetR9, ↓w_sIncP9, ↓w_sIncM9, ↓w_eLoc10, ↓w_rLoc10, ↓w_sSet10, ↓w_sSetR10, ↓w_sIncP10, ↓w_sIncM10, ↓w_eLoc11, ↓w_rLoc11, ↓w_sSet11, ↓w_sSetR11, ↓w_sIncP11, ↓w_sIncM11, ↓w_eLoc12, ↓w_rLoc12, ↓w_sSet12, ↓w_sSetR12, ↓w_sIncP12, ↓w_sIncM12, ↓w_eLoc13, ↓w_rLoc13, ↓w_sSet13, ↓w_sSetR13, ↓w_sIncP13, ↓w_sIncM13, ↓w_eIntN, ↓w_eIntM, ↓w_bZi, ↓w_add, ↓w_sub, ↓w_mul, ↓w_neg, ↓w_nar, ↓w_div, ↓w_ldne, ↓w_ldat, ↓w_ldj, List.length_cons, List.length_nil, Nat.reduceAdd, Nat.reduceSub, Nat.reduceLeDiff, List.replicate_succ, List.replicate_zero, List.cons_append, List.nil_append, List.append_nil, iz_nI, iz_ofNat, iz_add, iz_sub, iz_mul, cz_lt, cz_le, cz_gt, cz_ge, cz_eq, cz_ne, mIn_iz, iz_nat, decide_eq_true_eq, Bool.not_eq_true', decide_eq_false_iff_not, true_and, and_true, ↓reduceIte, not_true_eq_false, not_false_eq_true, w01_bI, w01_i0, w01_i1, bI_ne', bI_eq', Bool.false_eq_true, false_implies, forall_const, implies_true, true_implies, imp_self, eq_self, cz10, cz00, w01_0, w01_1, Bool.true_eq_false, Bool.not_true, Bool.not_false, decide_true, decide_false, ↓tO_0, ↓tR_0_0, ↓tI_0_1, ↓tR_0_2, ↓tR_0_3, ↓tR_0_4, ↓tR_0_5, ↓tR_0_6, ↓tI_0_7, ↓tR_0_8, ↓tR_0_9, ↓tR_0_10, ↓tR_0_11, ↓tR_0_12, ↓tO_2, ↓tR_2_0, ↓tR_2_1, ↓tR_2_2, ↓tI_2_3, ↓tI_2_4, ↓tI_2_5, ↓tI_2_6, ↓tI_2_7, ↓tI_2_8, ↓tO_6, ↓tI_6_0, ↓tI_6_1, ↓tI_6_2, ↓tI_6_3, ↓tR_6_4, ↓tR_6_5, ↓tR_6_6, ↓tR_6_7, ↓tO_11, ↓tI_11_0, ↓tI_11_1, ↓tI_11_2, ↓tR_11_3, ↓tR_11_4, ↓tR_11_5, ↓tR_11_6, ↓tR_11_7, ↓tR_11_8, ↓tO_18, ↓tR_18_0, ↓tR_18_1, ↓tR_18_2, ↓tR_18_3, ↓tI_18_4, Int.reduceEq, ↓wLd_of h1, g1, g2, g3, g4, ↓wF_eq e1, ↓wF_eq e2, ↓wF_eq e3, and_self]
theorem ft_t0 (h1 : C 0 1 = iz L) (e1 : f_Tk_scan [.ref 2, .ref 1, .int (iz L)] (cTx C) = some (none, D)) (e2 : f_Tw_read [.ref 11, .ref 2] D = some (some (bI false), E)) : f_F_text [.ref 0, .int (iz 3)] C = some (some (iz (-1)), E) := by
  unfold cTx at e1
  apply wF_to
  unfold f_F_text
  simp only [↓w_rcv, ↓w_bodyI, ↓w_bodyZ, ↓w_bodyV, true_and, List.length_cons, List.length_nil, Nat.reduceAdd, Nat.reduceSub, Nat.reduceLeDiff, List.replicate_succ, List.replicate_zero, List.cons_append, List.nil_append, List.append_nil, ↓tO_0, ↓tO_2, ↓tO_6, ↓tO_11, ↓tO_18, ↓tO_19, ↓tO_27, ↓tO_32, ↓tO_37, ↓tO_43, ↓tO_44, ↓tO_52, ↓tO_62, ↓tO_63, ↓tO_71, ↓tO_76, ↓tO_81, ↓tO_87, ↓tO_88, ↓tO_96, ↓tO_106, ↓tO_107, ↓tO_115, ↓tO_127, ↓tO_127c, ↓tO_133, ↓tO_133c, ↓tO_139]
  unfold S_F_text
  simp (disch := omega) only [↓w_eBin, ↓w_eUn, ↓w_eDiv, ↓w_eRem, ↓w_eFld, ↓w_rFld, ↓w_eALd, ↓w_rALd, ↓w_eALen, ↓w_rStr, ↓w_aNil, ↓w_aI, ↓w_aR, ↓w_N, ↓w_eCall, ↓w_X, ↓w_bCmp, ↓w_bAnd, ↓w_bOr, ↓w_bNot, ↓w_eB, ↓w_eIte, ↓w_sSkip, ↓w_sRet, ↓w_sRetZ, ↓w_sRetV, ↓w_sBrk, ↓w_sCont, ↓w_sIf, ↓w_sSeq, ↓w_sCaC, ↓w_sCaB, ↓w_sSw, ↓w_sCall, ↓w_sPut, ↓w_sPutOp, ↓w_sASt, ↓w_sAOp, ↓w_sADiv, ↓w_eLoc0, ↓w_rLoc0, ↓w_sSet0, ↓w_sSetR0, ↓w_sIncP0, ↓w_sIncM0, ↓w_eLoc1, ↓w_rLoc1, ↓w_sSet1, ↓w_sSetR1, ↓w_sIncP1, ↓w_sIncM1, ↓w_eLoc2, ↓w_rLoc2, ↓w_sSet2, ↓w_sSetR2, ↓w_sIncP2, ↓w_sIncM2, ↓w_eLoc3, ↓w_rLoc3, ↓w_sSet3, ↓w_sSetR3, ↓w_sIncP3, ↓w_sIncM3, ↓w_eLoc4, ↓w_rLoc4, ↓w_sSet4, ↓w_sSetR4, ↓w_sIncP4, ↓w_sIncM4, ↓w_eLoc5, ↓w_rLoc5, ↓w_sSet5, ↓w_sSetR5, ↓w_sIncP5, ↓w_sIncM5, ↓w_eLoc6, ↓w_rLoc6, ↓w_sSet6, ↓w_sSetR6, ↓w_sIncP6, ↓w_sIncM6, ↓w_eLoc7, ↓w_rLoc7, ↓w_sSet7, ↓w_sSetR7, ↓w_sIncP7, ↓w_sIncM7, ↓w_eLoc8, ↓w_rLoc8, ↓w_sSet8, ↓w_sSetR8, ↓w_sIncP8, ↓w_sIncM8, ↓w_eLoc9, ↓w_rLoc9, ↓w_sSet9, ↓w_sSetR9, ↓w_sIncP9, ↓w_sIncM9, ↓w_eLoc10, ↓w_rLoc10, ↓w_sSet10, ↓w_sSetR10, ↓w_sIncP10, ↓w_sIncM10, ↓w_eLoc11, ↓w_rLoc11, ↓w_sSet11, ↓w_sSetR11, ↓w_sIncP11, ↓w_sIncM11, ↓w_eLoc12, ↓w_rLoc12, ↓w_sSet12, ↓w_sSetR12, ↓w_sIncP12, ↓w_sIncM12, ↓w_eLoc13, ↓w_rLoc13, ↓w_sSet13, ↓w_sSetR13, ↓w_sIncP13, ↓w_sIncM13, ↓w_eIntN, ↓w_eIntM, ↓w_bZi, ↓w_add, ↓w_sub, ↓w_mul, ↓w_neg, ↓w_nar, ↓w_div, ↓w_ldne, ↓w_ldat, ↓w_ldj, List.length_cons, List.length_nil, Nat.reduceAdd, Nat.reduceSub, Nat.reduceLeDiff, List.replicate_succ, List.replicate_zero, List.cons_append, List.nil_append, List.append_nil, iz_nI, iz_ofNat, iz_add, iz_sub, iz_mul, cz_lt, cz_le, cz_gt, cz_ge, cz_eq, cz_ne, mIn_iz, iz_nat, decide_eq_true_eq, Bool.not_eq_true', decide_eq_false_iff_not, true_and, and_true, ↓reduceIte, not_true_eq_false, not_false_eq_true, w01_bI, w01_i0, w01_i1, bI_ne', bI_eq', Bool.false_eq_true, false_implies, forall_const, implies_true, true_implies, imp_self, eq_self, cz10, cz00, w01_0, w01_1, Bool.true_eq_false, Bool.not_true, Bool.not_false, decide_true, decide_false, ↓tO_0, ↓tR_0_0, ↓tI_0_1, ↓tR_0_2, ↓tR_0_3, ↓tR_0_4, ↓tR_0_5, ↓tR_0_6, ↓tI_0_7, ↓tR_0_8, ↓tR_0_9, ↓tR_0_10, ↓tR_0_11, ↓tR_0_12, ↓tO_2, ↓tR_2_0, ↓tR_2_1, ↓tR_2_2, ↓tI_2_3, ↓tI_2_4, ↓tI_2_5, ↓tI_2_6, ↓tI_2_7, ↓tI_2_8, ↓tO_6, ↓tI_6_0, ↓tI_6_1, ↓tI_6_2, ↓tI_6_3, ↓tR_6_4, ↓tR_6_5, ↓tR_6_6, ↓tR_6_7, ↓tO_11, ↓tI_11_0, ↓tI_11_1, ↓tI_11_2, ↓tR_11_3, ↓tR_11_4, ↓tR_11_5, ↓tR_11_6, ↓tR_11_7, ↓tR_11_8, ↓tO_18, ↓tR_18_0, ↓tR_18_1, ↓tR_18_2, ↓tR_18_3, ↓tI_18_4, Int.reduceEq, ↓wLd_of h1, Int.reduceLT, gt_iff_lt, Int.lt_irrefl, ↓wF_eq e1, ↓wF_eq e2, and_self]
theorem ft_t1 {x : Int32} (h1 : C 0 1 = iz L) (e1 : f_Tk_scan [.ref 2, .ref 1, .int (iz L)] (cTx C) = some (none, D)) (e2 : f_Tw_read [.ref 11, .ref 2] D = some (some (bI true), E)) (e3 : f_F_takeTower [.ref 0] E = some (some x, F)) : f_F_text [.ref 0, .int (iz 3)] C = some (some x, F) := by
  unfold cTx at e1
  apply wF_to
  unfold f_F_text
  simp only [↓w_rcv, ↓w_bodyI, ↓w_bodyZ, ↓w_bodyV, true_and, List.length_cons, List.length_nil, Nat.reduceAdd, Nat.reduceSub, Nat.reduceLeDiff, List.replicate_succ, List.replicate_zero, List.cons_append, List.nil_append, List.append_nil, ↓tO_0, ↓tO_2, ↓tO_6, ↓tO_11, ↓tO_18, ↓tO_19, ↓tO_27, ↓tO_32, ↓tO_37, ↓tO_43, ↓tO_44, ↓tO_52, ↓tO_62, ↓tO_63, ↓tO_71, ↓tO_76, ↓tO_81, ↓tO_87, ↓tO_88, ↓tO_96, ↓tO_106, ↓tO_107, ↓tO_115, ↓tO_127, ↓tO_127c, ↓tO_133, ↓tO_133c, ↓tO_139]
  unfold S_F_text
  simp (disch := omega) only [↓w_eBin, ↓w_eUn, ↓w_eDiv, ↓w_eRem, ↓w_eFld, ↓w_rFld, ↓w_eALd, ↓w_rALd, ↓w_eALen, ↓w_rStr, ↓w_aNil, ↓w_aI, ↓w_aR, ↓w_N, ↓w_eCall, ↓w_X, ↓w_bCmp, ↓w_bAnd, ↓w_bOr, ↓w_bNot, ↓w_eB, ↓w_eIte, ↓w_sSkip, ↓w_sRet, ↓w_sRetZ, ↓w_sRetV, ↓w_sBrk, ↓w_sCont, ↓w_sIf, ↓w_sSeq, ↓w_sCaC, ↓w_sCaB, ↓w_sSw, ↓w_sCall, ↓w_sPut, ↓w_sPutOp, ↓w_sASt, ↓w_sAOp, ↓w_sADiv, ↓w_eLoc0, ↓w_rLoc0, ↓w_sSet0, ↓w_sSetR0, ↓w_sIncP0, ↓w_sIncM0, ↓w_eLoc1, ↓w_rLoc1, ↓w_sSet1, ↓w_sSetR1, ↓w_sIncP1, ↓w_sIncM1, ↓w_eLoc2, ↓w_rLoc2, ↓w_sSet2, ↓w_sSetR2, ↓w_sIncP2, ↓w_sIncM2, ↓w_eLoc3, ↓w_rLoc3, ↓w_sSet3, ↓w_sSetR3, ↓w_sIncP3, ↓w_sIncM3, ↓w_eLoc4, ↓w_rLoc4, ↓w_sSet4, ↓w_sSetR4, ↓w_sIncP4, ↓w_sIncM4, ↓w_eLoc5, ↓w_rLoc5, ↓w_sSet5, ↓w_sSetR5, ↓w_sIncP5, ↓w_sIncM5, ↓w_eLoc6, ↓w_rLoc6, ↓w_sSet6, ↓w_sSetR6, ↓w_sIncP6, ↓w_sIncM6, ↓w_eLoc7, ↓w_rLoc7, ↓w_sSet7, ↓w_sSetR7, ↓w_sIncP7, ↓w_sIncM7, ↓w_eLoc8, ↓w_rLoc8, ↓w_sSet8, ↓w_sSetR8, ↓w_sIncP8, ↓w_sIncM8, ↓w_eLoc9, ↓w_rLoc9, ↓w_sSet9, ↓w_sSetR9, ↓w_sIncP9, ↓w_sIncM9, ↓w_eLoc10, ↓w_rLoc10, ↓w_sSet10, ↓w_sSetR10, ↓w_sIncP10, ↓w_sIncM10, ↓w_eLoc11, ↓w_rLoc11, ↓w_sSet11, ↓w_sSetR11, ↓w_sIncP11, ↓w_sIncM11, ↓w_eLoc12, ↓w_rLoc12, ↓w_sSet12, ↓w_sSetR12, ↓w_sIncP12, ↓w_sIncM12, ↓w_eLoc13, ↓w_rLoc13, ↓w_sSet13, ↓w_sSetR13, ↓w_sIncP13, ↓w_sIncM13, ↓w_eIntN, ↓w_eIntM, ↓w_bZi, ↓w_add, ↓w_sub, ↓w_mul, ↓w_neg, ↓w_nar, ↓w_div, ↓w_ldne, ↓w_ldat, ↓w_ldj, List.length_cons, List.length_nil, Nat.reduceAdd, Nat.reduceSub, Nat.reduceLeDiff, List.replicate_succ, List.replicate_zero, List.cons_append, List.nil_append, List.append_nil, iz_nI, iz_ofNat, iz_add, iz_sub, iz_mul, cz_lt, cz_le, cz_gt, cz_ge, cz_eq, cz_ne, mIn_iz, iz_nat, decide_eq_true_eq, Bool.not_eq_true', decide_eq_false_iff_not, true_and, and_true, ↓reduceIte, not_true_eq_false, not_false_eq_true, w01_bI, w01_i0, w01_i1, bI_ne', bI_eq', Bool.false_eq_true, false_implies, forall_const, implies_true, true_implies, imp_self, eq_self, cz10, cz00, w01_0, w01_1, Bool.true_eq_false, Bool.not_true, Bool.not_false, decide_true, decide_false, ↓tO_0, ↓tR_0_0, ↓tI_0_1, ↓tR_0_2, ↓tR_0_3, ↓tR_0_4, ↓tR_0_5, ↓tR_0_6, ↓tI_0_7, ↓tR_0_8, ↓tR_0_9, ↓tR_0_10, ↓tR_0_11, ↓tR_0_12, ↓tO_2, ↓tR_2_0, ↓tR_2_1, ↓tR_2_2, ↓tI_2_3, ↓tI_2_4, ↓tI_2_5, ↓tI_2_6, ↓tI_2_7, ↓tI_2_8, ↓tO_6, ↓tI_6_0, ↓tI_6_1, ↓tI_6_2, ↓tI_6_3, ↓tR_6_4, ↓tR_6_5, ↓tR_6_6, ↓tR_6_7, ↓tO_11, ↓tI_11_0, ↓tI_11_1, ↓tI_11_2, ↓tR_11_3, ↓tR_11_4, ↓tR_11_5, ↓tR_11_6, ↓tR_11_7, ↓tR_11_8, ↓tO_18, ↓tR_18_0, ↓tR_18_1, ↓tR_18_2, ↓tR_18_3, ↓tI_18_4, Int.reduceEq, ↓wLd_of h1, Int.reduceLT, gt_iff_lt, Int.lt_irrefl, ↓wF_eq e1, ↓wF_eq e2, ↓wF_eq e3, and_self]
theorem rc_takeRule {R : aS} (hk : 0 ≤ k ∧ k ≤ 2) (hR : RelRC E 6 R) (hw : WfR R) : ∃ F, f_F_takeRule [.ref 0, .int (iz k)] E = some (some (iz (R 0 0)), F) ∧ RelRC F (27 + 5 * k.toNat) R ∧ ∀ a, a < 27 + 5 * k.toNat ∨ 30 + 5 * k.toNat < a → F a = E a := by
  have fin : ∀ F, f_Ru_become [.ref (27 + 5 * k.toNat), .ref 6] E = some (none, F) → F 6 0 = iz (R 0 0) → f_F_takeRule [.ref 0, .int (iz k)] E = some (some (iz (R 0 0)), F) := by
    intro F e h6
    apply wF_to
    unfold f_F_takeRule
    simp only [↓w_rcv, ↓w_bodyI, ↓w_bodyZ, ↓w_bodyV, true_and, List.length_cons, List.length_nil, Nat.reduceAdd, Nat.reduceSub, Nat.reduceLeDiff, List.replicate_succ, List.replicate_zero, List.cons_append, List.nil_append, List.append_nil, ↓tO_0, ↓tO_2, ↓tO_6, ↓tO_11, ↓tO_18, ↓tO_19, ↓tO_27, ↓tO_32, ↓tO_37, ↓tO_43, ↓tO_44, ↓tO_52, ↓tO_62, ↓tO_63, ↓tO_71, ↓tO_76, ↓tO_81, ↓tO_87, ↓tO_88, ↓tO_96, ↓tO_106, ↓tO_107, ↓tO_115, ↓tO_127, ↓tO_127c, ↓tO_133, ↓tO_133c, ↓tO_139]
    unfold S_F_takeRule
    simp (disch := omega) only [↓w_eBin, ↓w_eUn, ↓w_eDiv, ↓w_eRem, ↓w_eFld, ↓w_rFld, ↓w_eALd, ↓w_rALd, ↓w_eALen, ↓w_rStr, ↓w_aNil, ↓w_aI, ↓w_aR, ↓w_N, ↓w_eCall, ↓w_X, ↓w_bCmp, ↓w_bAnd, ↓w_bOr, ↓w_bNot, ↓w_eB, ↓w_eIte, ↓w_sSkip, ↓w_sRet, ↓w_sRetZ, ↓w_sRetV, ↓w_sBrk, ↓w_sCont, ↓w_sIf, ↓w_sSeq, ↓w_sCaC, ↓w_sCaB, ↓w_sSw, ↓w_sCall, ↓w_sPut, ↓w_sPutOp, ↓w_sASt, ↓w_sAOp, ↓w_sADiv, ↓w_eLoc0, ↓w_rLoc0, ↓w_sSet0, ↓w_sSetR0, ↓w_sIncP0, ↓w_sIncM0, ↓w_eLoc1, ↓w_rLoc1, ↓w_sSet1, ↓w_sSetR1, ↓w_sIncP1, ↓w_sIncM1, ↓w_eLoc2, ↓w_rLoc2, ↓w_sSet2, ↓w_sSetR2, ↓w_sIncP2, ↓w_sIncM2, ↓w_eLoc3, ↓w_rLoc3, ↓w_sSet3, ↓w_sSetR3, ↓w_sIncP3, ↓w_sIncM3, ↓w_eLoc4, ↓w_rLoc4, ↓w_sSet4, ↓w_sSetR4, ↓w_sIncP4, ↓w_sIncM4, ↓w_eLoc5, ↓w_rLoc5, ↓w_sSet5, ↓w_sSetR5, ↓w_sIncP5, ↓w_sIncM5, ↓w_eLoc6, ↓w_rLoc6, ↓w_sSet6, ↓w_sSetR6, ↓w_sIncP6, ↓w_sIncM6, ↓w_eLoc7, ↓w_rLoc7, ↓w_sSet7, ↓w_sSetR7, ↓w_sIncP7, ↓w_sIncM7, ↓w_eLoc8, ↓w_rLoc8, ↓w_sSet8, ↓w_sSetR8, ↓w_sIncP8, ↓w_sIncM8, ↓w_eLoc9, ↓w_rLoc9, ↓w_sSet9, ↓w_sSetR9, ↓w_sIncP9, ↓w_sIncM9, ↓w_eLoc10, ↓w_rLoc10, ↓w_sSet10, ↓w_sSetR10, ↓w_sIncP10, ↓w_sIncM10, ↓w_eLoc11, ↓w_rLoc11, ↓w_sSet11, ↓w_sSetR11, ↓w_sIncP11, ↓w_sIncM11, ↓w_eLoc12, ↓w_rLoc12, ↓w_sSet12, ↓w_sSetR12, ↓w_sIncP12, ↓w_sIncM12, ↓w_eLoc13, ↓w_rLoc13, ↓w_sSet13, ↓w_sSetR13, ↓w_sIncP13, ↓w_sIncM13, ↓w_eIntN, ↓w_eIntM, ↓w_bZi, ↓w_add, ↓w_sub, ↓w_mul, ↓w_neg, ↓w_nar, ↓w_div, ↓w_ldne, ↓w_ldat, ↓w_ldj, List.length_cons, List.length_nil, Nat.reduceAdd, Nat.reduceSub, Nat.reduceLeDiff, List.replicate_succ, List.replicate_zero, List.cons_append, List.nil_append, List.append_nil, iz_nI, iz_ofNat, iz_add, iz_sub, iz_mul, cz_lt, cz_le, cz_gt, cz_ge, cz_eq, cz_ne, mIn_iz, iz_nat, decide_eq_true_eq, Bool.not_eq_true', decide_eq_false_iff_not, true_and, and_true, ↓reduceIte, not_true_eq_false, not_false_eq_true, w01_bI, w01_i0, w01_i1, bI_ne', bI_eq', Bool.false_eq_true, false_implies, forall_const, implies_true, true_implies, imp_self, eq_self, cz10, cz00, w01_0, w01_1, Bool.true_eq_false, Bool.not_true, Bool.not_false, decide_true, decide_false, ↓tO_0, ↓tR_0_0, ↓tI_0_1, ↓tR_0_2, ↓tR_0_3, ↓tR_0_4, ↓tR_0_5, ↓tR_0_6, ↓tI_0_7, ↓tR_0_8, ↓tR_0_9, ↓tR_0_10, ↓tR_0_11, ↓tR_0_12, ↓tO_2, ↓tR_2_0, ↓tR_2_1, ↓tR_2_2, ↓tI_2_3, ↓tI_2_4, ↓tI_2_5, ↓tI_2_6, ↓tI_2_7, ↓tI_2_8, ↓tO_6, ↓tI_6_0, ↓tI_6_1, ↓tI_6_2, ↓tI_6_3, ↓tR_6_4, ↓tR_6_5, ↓tR_6_6, ↓tR_6_7, ↓tO_11, ↓tI_11_0, ↓tI_11_1, ↓tI_11_2, ↓tR_11_3, ↓tR_11_4, ↓tR_11_5, ↓tR_11_6, ↓tR_11_7, ↓tR_11_8, ↓tO_18, ↓tR_18_0, ↓tR_18_1, ↓tR_18_2, ↓tR_18_3, ↓tI_18_4, Int.reduceEq, ↓q26, ↓wF_eq e, ↓wLd_of h6, and_self]
  have h60 := hR.1
  rcases (by omega : k = 0 ∨ k = 1 ∨ k = 2) with rfl | rfl | rfl
  · obtain ⟨F, e, f1, f2⟩ := im_ruleT0 hR hw
    exact ⟨F, fin F e (by rw [f1 6 (by omega)]; exact h60), f2, f1⟩
  · obtain ⟨F, e, f1, f2⟩ := im_ruleT1 hR hw
    exact ⟨F, fin F e (by rw [f1 6 (by omega)]; exact h60), f2, f1⟩
  · obtain ⟨F, e, f1, f2⟩ := im_ruleT2 hR hw
    exact ⟨F, fin F e (by rw [f1 6 (by omega)]; exact h60), f2, f1⟩
theorem mk_ag {g g' : Nat → Int32} {r p : Int} (h : r ≠ 6 ∧ r ≤ 6 ∧ 0 ≤ r) : mkR Ls l g r p = mkR Ls l g' r p := by
  unfold mkR
  by_cases h0 : r = 0
  · rw [if_pos h0, if_pos h0]
  rw [if_neg h0, if_neg h0]
  by_cases h1 : r = 1
  · rw [if_pos h1, if_pos h1]
  rw [if_neg h1, if_neg h1]
  by_cases h2 : r = 2
  · rw [if_pos h2, if_pos h2]
  rw [if_neg h2, if_neg h2]
  by_cases h3 : r = 3
  · rw [if_pos h3, if_pos h3]
  rw [if_neg h3, if_neg h3]
  by_cases h4 : r = 4
  · rw [if_pos h4, if_pos h4]
  rw [if_neg h4, if_neg h4, if_pos (by omega), if_pos (by omega)]
theorem relRC_g {r : Nat} {g g' : Nat → Int32} (h : RelRC D r (mkR Ls l g)) (hg : StG g l) (hg' : StG g' l) : RelRC D r (mkR Ls l g') := by
  obtain ⟨a1, a2, a3, a4, a5, a6⟩ := h
  have ag : ∀ {r p : Int}, r ≠ 6 ∧ r ≤ 6 ∧ 0 ≤ r → mkR Ls l g' r p = mkR Ls l g r p := fun h => mk_ag h
  refine ⟨by rw [ag (by omega)]; exact a1, by rw [ag (by omega)]; exact a2, by rw [ag (by omega)]; exact a3, a4, fun i i0 i1 => ?_, fun j j0 j1 => ?_⟩
  · rw [ag (by omega)] at i1
    rw [ag (r := 2) (by omega), ag (r := 4) (by omega), ag (r := 3) (by omega)]
    exact a5 i i0 i1
  rw [ag (by omega)] at j1
  have j2 := j1
  rw [mk_1] at j2
  rw [a6 j j0 j1]
  obtain ⟨m, rfl⟩ := Int.eq_ofNat_of_zero_le j0
  have hm : m < l.length := by omega
  have hx : l[m]? = some l[m] := List.getElem?_eq_getElem hm
  have e1 : mkR Ls l g 5 (m : Int) = (l[m]).1 := mk_5 hx
  have e2 : mkR Ls l g' 5 (m : Int) = (l[m]).1 := mk_5 hx
  have e3 : mkR Ls l g 6 (m : Int) = (g (2 * m + 1)).toInt := mk_6
  have e4 : mkR Ls l g' 6 (m : Int) = (g' (2 * m + 1)).toInt := mk_6
  rw [e1, e2, e3, e4]
  exact rEn_iz (fun z => by rw [iz_self, iz_self, hg m _ hx z, hg' m _ hx z])
/-- one rule is another one -/
theorem invW_rule {A : aS} {Rs : Int → aS} {R : aS} (hk : 0 ≤ k ∧ k ≤ 2) (h : InvW C A Rs) (hM : RelRM D 140 k R) (hc : RelRC D (27 + 5 * k.toNat) R) (hw : WfR R) (hD : ∀ a i, LvO 18 a i → a < 27 + 5 * k.toNat ∨ 30 + 5 * k.toNat < a → D a i = C a i) (hq : ∀ i, ¬ InR k i → D 140 i = C 140 i) (h29 : D 139 29 = C 139 29) (h30 : D 139 30 = C 139 30) : InvW D A (fun i => if i = k then R else Rs i) := by
  obtain ⟨⟨⟨w1, w2, w3, w4, w5, w6⟩, h1r⟩, h2, h3, ⟨o1, o2, o3, o4, o5, o6, o7⟩, v1, v2, v3, v4, v5, v6, v7, v8, v9⟩ := h
  have kn : k.toNat ≤ 2 := by omega
  refine ⟨⟨⟨fun i p a1 a2 a3 a4 => ?_, fun i c a1 a2 a3 a4 => ?_, fun i a1 a2 => ?_, fun c f a1 a2 a3 a4 => ?_, fun c f a1 a2 a3 a4 => ?_, fun f a1 a2 => ?_⟩, fun i i0 i1 => ?_⟩, by rw [h29]; exact h2, by rw [h30]; exact h3, ?_, v1, v2, v3, v4, v5, v6, v7, fun i i0 i1 => ?_, v9⟩
  · rw [hq _ (by unfold InR; omega)]; exact w1 i p a1 a2 a3 a4
  · rw [hq _ (by unfold InR; omega)]; exact w2 i c a1 a2 a3 a4
  · rw [hq _ (by unfold InR; omega)]; exact w3 i a1 a2
  · rw [hq _ (by unfold InR; omega)]; exact w4 c f a1 a2 a3 a4
  · rw [hq _ (by unfold InR; omega)]; exact w5 c f a1 a2 a3 a4
  · rw [hq _ (by unfold InR; omega)]; exact w6 f a1 a2
  · by_cases e : i = k
    · subst e
      show RelRM D 140 i (if i = i then R else Rs i)
      rw [if_pos rfl]; exact hM
    · show RelRM D 140 i (if i = k then R else Rs i)
      rw [if_neg e]
      obtain ⟨u0, u1, u2, u3, u4⟩ := v8 i i0 i1
      obtain ⟨r0, r1, r2⟩ := h1r i i0 i1
      refine ⟨?_, fun x x0 x1 => ?_, fun x x0 x1 => ?_⟩
      · rw [hq _ (by unfold InR; omega)]; exact r0
      · rw [hq _ (by unfold InR; omega), hq _ (by unfold InR; omega), hq _ (by unfold InR; omega), hq _ (by unfold InR; omega)]; exact r1 x x0 x1
      · rw [hq _ (by unfold InR; omega), hq _ (by unfold InR; omega)]; exact r2 x x0 x1
  · refine ⟨RelT_fr o1 (fun a i a1 a2 => hD a i (by unfold LvO; omega) (by omega)) rfl rfl (fun _ _ _ _ => rfl) (fun _ _ _ => rfl), ?_, ?_, ?_, fun f f0 f1 => ?_, fun i i0 i1 => ?_, fun i hi => ?_⟩
    · obtain ⟨a1, a2, a3, a4, aP, aK, a5, a6, a7, a8⟩ := o2
      refine rs_fr ⟨a1, a2, a3, a4, aP, aK, a5, a6, a7, a8⟩ (fun a i g1 g2 => hD _ _ (by unfold LvO; omega) (by omega)) (fun k q k1 k2 => rfl) rfl rfl ?_ ?_ ?_ ?_
      · rw [hD _ _ (by unfold LvO; omega) (by omega)]; exact a5
      · rw [hD _ _ (by unfold LvO; omega) (by omega)]; exact a6
      · rw [hD _ _ (by unfold LvO; omega) (by omega)]; exact a7
      · rw [hD _ _ (by unfold LvO; omega) (by omega)]; exact a8
    · rw [hD _ _ (by unfold LvO; omega) (by omega)]; exact o3
    · rw [hD _ _ (by unfold LvO; omega) (by omega)]; exact o4
    · rw [hD _ _ (by unfold LvO; omega) (by omega)]; exact o5 f f0 f1
    · by_cases e : i = k
      · subst e
        show RelRC D _ (if i = i then R else Rs i)
        rw [if_pos rfl]; exact hc
      · show RelRC D _ (if i = k then R else Rs i)
        rw [if_neg e]
        obtain ⟨r0, r1, r2, r3, r4, r5⟩ := o6 i i0 i1
        have hi : i.toNat = 0 ∨ i.toNat = 1 ∨ i.toNat = 2 := by omega
        have hne : i.toNat ≠ k.toNat := by omega
        refine ⟨?_, ?_, ?_, ?_, fun x x0 x1 => ?_, fun x x0 x1 => ?_⟩
        · rw [hD _ _ (by unfold LvO; omega) (by omega)]; exact r0
        · rw [hD _ _ (by unfold LvO; omega) (by omega)]; exact r1
        · rw [hD _ _ (by unfold LvO; omega) (by omega)]; exact r2
        · rw [hD _ _ (by unfold LvO; omega) (by omega)]; exact r3
        · rw [hD _ _ (by unfold LvO; omega) (by omega), hD _ _ (by unfold LvO; omega) (by omega), hD _ _ (by unfold LvO; omega) (by omega)]; exact r4 x x0 x1
        · rw [hD _ _ (by unfold LvO; omega) (by omega)]; exact r5 x x0 x1
    · rw [hD _ _ (by unfold LvO; omega) (by omega)]; exact o7 i hi
  · by_cases e : i = k
    · subst e
      show WfR (if i = i then R else Rs i)
      rw [if_pos rfl]; exact hw
    · show WfR (if i = k then R else Rs i)
      rw [if_neg e]; exact v8 i i0 i1
end
end

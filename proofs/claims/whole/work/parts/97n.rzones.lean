/-! zones: the reference -/
def RfZ (C : mMem) (W : Int → Int) (N sp dr : Int) : Prop := RfW C W N ∧ C 140 (10 + 20 * 0 + 7 : Int).toNat = iz sp ∧ C 140 (10 + 20 * 0 + 8 : Int).toNat = iz dr
theorem rfZ_fr {C D : mMem} {W : Int → Int} {N sp dr : Int} (h : RfZ C W N sp dr) (hD : D 140 = C 140) : RfZ D W N sp dr := by
  unfold RfZ RfW at h ⊢
  rw [hD]; exact h
theorem rf_zone {C : mMem} {W : Int → Int} {N sp dr a b : Int} (h : RfZ C W N sp dr) (hN : N ≤ 80) (hab : 1 ≤ a ∧ a ≤ b ∧ b ≤ N) : f_M_zone [.ref 139, .int (iz a), .int (iz (b - 1))] C = some (some (iz (zP W sp dr a b)), C) := by
  obtain ⟨h1, h2, h3⟩ := h
  have k7 : ∀ Q : Option Int32 → mMem → Prop, wF f_M_ofCar [.ref 139, .int (iz 0), .int (iz 7)] C Q ↔ Q (some (iz sp)) C := by
    intro Q
    unfold f_M_ofCar
    simp only [↓w_rcv, ↓w_bodyI, ↓w_bodyZ, ↓w_bodyV, true_and, List.length_cons, List.length_nil, Nat.reduceAdd, Nat.reduceSub, Nat.reduceLeDiff, List.replicate_succ, List.replicate_zero, List.cons_append, List.nil_append, List.append_nil, ↓tO_0, ↓tO_2, ↓tO_6, ↓tO_11, ↓tO_18, ↓tO_19, ↓tO_27, ↓tO_32, ↓tO_37, ↓tO_43, ↓tO_44, ↓tO_52, ↓tO_62, ↓tO_63, ↓tO_71, ↓tO_76, ↓tO_81, ↓tO_87, ↓tO_88, ↓tO_96, ↓tO_106, ↓tO_107, ↓tO_115, ↓tO_127, ↓tO_127c, ↓tO_133, ↓tO_133c, ↓tO_139]
    unfold S_M_ofCar
    simp (disch := omega) only [↓w_eBin, ↓w_eUn, ↓w_eDiv, ↓w_eRem, ↓w_eFld, ↓w_rFld, ↓w_eALd, ↓w_rALd, ↓w_eALen, ↓w_rStr, ↓w_aNil, ↓w_aI, ↓w_aR, ↓w_N, ↓w_eCall, ↓w_X, ↓w_bCmp, ↓w_bAnd, ↓w_bOr, ↓w_bNot, ↓w_eB, ↓w_eIte, ↓w_sSkip, ↓w_sRet, ↓w_sRetZ, ↓w_sRetV, ↓w_sBrk, ↓w_sCont, ↓w_sIf, ↓w_sSeq, ↓w_sCaC, ↓w_sCaB, ↓w_sSw, ↓w_sCall, ↓w_sPut, ↓w_sPutOp, ↓w_sASt, ↓w_sAOp, ↓w_sADiv, ↓w_eLoc0, ↓w_rLoc0, ↓w_sSet0, ↓w_sSetR0, ↓w_sIncP0, ↓w_sIncM0, ↓w_eLoc1, ↓w_rLoc1, ↓w_sSet1, ↓w_sSetR1, ↓w_sIncP1, ↓w_sIncM1, ↓w_eLoc2, ↓w_rLoc2, ↓w_sSet2, ↓w_sSetR2, ↓w_sIncP2, ↓w_sIncM2, ↓w_eLoc3, ↓w_rLoc3, ↓w_sSet3, ↓w_sSetR3, ↓w_sIncP3, ↓w_sIncM3, ↓w_eLoc4, ↓w_rLoc4, ↓w_sSet4, ↓w_sSetR4, ↓w_sIncP4, ↓w_sIncM4, ↓w_eLoc5, ↓w_rLoc5, ↓w_sSet5, ↓w_sSetR5, ↓w_sIncP5, ↓w_sIncM5, ↓w_eLoc6, ↓w_rLoc6, ↓w_sSet6, ↓w_sSetR6, ↓w_sIncP6, ↓w_sIncM6, ↓w_eLoc7, ↓w_rLoc7, ↓w_sSet7, ↓w_sSetR7, ↓w_sIncP7, ↓w_sIncM7, ↓w_eLoc8, ↓w_rLoc8, ↓w_sSet8, ↓w_sSetR8, ↓w_sIncP8, ↓w_sIncM8, ↓w_eLoc9, ↓w_rLoc9, ↓w_sSet9, ↓w_sSetR9, ↓w_sIncP9, ↓w_sIncM9, ↓w_eLoc10, ↓w_rLoc10, ↓w_sSet10, ↓w_sSetR10, ↓w_sIncP10, ↓w_sIncM10, ↓w_eLoc11, ↓w_rLoc11, ↓w_sSet11, ↓w_sSetR11, ↓w_sIncP11, ↓w_sIncM11, ↓w_eLoc12, ↓w_rLoc12, ↓w_sSet12, ↓w_sSetR12, ↓w_sIncP12, ↓w_sIncM12, ↓w_eLoc13, ↓w_rLoc13, ↓w_sSet13, ↓w_sSetR13, ↓w_sIncP13, ↓w_sIncM13, ↓w_eIntN, ↓w_eIntM, ↓w_bZi, ↓w_add, ↓w_sub, ↓w_mul, ↓w_neg, ↓w_nar, ↓w_div, ↓w_ldne, ↓w_ldat, ↓w_ldj, List.length_cons, List.length_nil, Nat.reduceAdd, Nat.reduceSub, Nat.reduceLeDiff, List.replicate_succ, List.replicate_zero, List.cons_append, List.nil_append, List.append_nil, iz_nI, iz_ofNat, iz_add, iz_sub, iz_mul, cz_lt, cz_le, cz_gt, cz_ge, cz_eq, cz_ne, mIn_iz, iz_nat, decide_eq_true_eq, Bool.not_eq_true', decide_eq_false_iff_not, true_and, and_true, ↓reduceIte, not_true_eq_false, not_false_eq_true, w01_bI, w01_i0, w01_i1, bI_ne', bI_eq', bI_t, bI_f, Bool.false_eq_true, false_implies, forall_const, implies_true, true_implies, imp_self, eq_self, cz10, cz00, Bool.true_eq_false, Bool.not_true, Bool.not_false, decide_true, decide_false, ↓tO_139, ↓tR_139_0, ↓tR_139_1, ↓tR_139_2, ↓tI_139_3, ↓tR_139_4, ↓tR_139_5, ↓tR_139_6, ↓tR_139_7, ↓tR_139_8, ↓tR_139_9, ↓tR_139_10, ↓tI_139_11, ↓tI_139_12, ↓tI_139_13, ↓tI_139_14, ↓tI_139_15, ↓tI_139_16, ↓tI_139_17, ↓tI_139_18, ↓tI_139_19, ↓tI_139_20, ↓tI_139_21, ↓tI_139_22, ↓tI_139_23, ↓tI_139_24, ↓tI_139_25, ↓tI_139_26, ↓tR_139_27, ↓tI_139_28, ↓tI_139_29, ↓tI_139_30, ↓tI_139_31, ↓tR_139_32, ↓tI_139_33, ↓tR_139_34, ↓tR_139_35, ↓tR_139_36, ↓tR_139_37, ↓tI_139_38, ↓tA_140, ↓tN_140, ↓tA_154, ↓tN_154, ↓tA_155, ↓tN_155, ↓wLd_of h2]
  have k8 : ∀ Q : Option Int32 → mMem → Prop, wF f_M_ofCar [.ref 139, .int (iz 0), .int (iz 8)] C Q ↔ Q (some (iz dr)) C := by
    intro Q
    unfold f_M_ofCar
    simp only [↓w_rcv, ↓w_bodyI, ↓w_bodyZ, ↓w_bodyV, true_and, List.length_cons, List.length_nil, Nat.reduceAdd, Nat.reduceSub, Nat.reduceLeDiff, List.replicate_succ, List.replicate_zero, List.cons_append, List.nil_append, List.append_nil, ↓tO_0, ↓tO_2, ↓tO_6, ↓tO_11, ↓tO_18, ↓tO_19, ↓tO_27, ↓tO_32, ↓tO_37, ↓tO_43, ↓tO_44, ↓tO_52, ↓tO_62, ↓tO_63, ↓tO_71, ↓tO_76, ↓tO_81, ↓tO_87, ↓tO_88, ↓tO_96, ↓tO_106, ↓tO_107, ↓tO_115, ↓tO_127, ↓tO_127c, ↓tO_133, ↓tO_133c, ↓tO_139]
    unfold S_M_ofCar
    simp (disch := omega) only [↓w_eBin, ↓w_eUn, ↓w_eDiv, ↓w_eRem, ↓w_eFld, ↓w_rFld, ↓w_eALd, ↓w_rALd, ↓w_eALen, ↓w_rStr, ↓w_aNil, ↓w_aI, ↓w_aR, ↓w_N, ↓w_eCall, ↓w_X, ↓w_bCmp, ↓w_bAnd, ↓w_bOr, ↓w_bNot, ↓w_eB, ↓w_eIte, ↓w_sSkip, ↓w_sRet, ↓w_sRetZ, ↓w_sRetV, ↓w_sBrk, ↓w_sCont, ↓w_sIf, ↓w_sSeq, ↓w_sCaC, ↓w_sCaB, ↓w_sSw, ↓w_sCall, ↓w_sPut, ↓w_sPutOp, ↓w_sASt, ↓w_sAOp, ↓w_sADiv, ↓w_eLoc0, ↓w_rLoc0, ↓w_sSet0, ↓w_sSetR0, ↓w_sIncP0, ↓w_sIncM0, ↓w_eLoc1, ↓w_rLoc1, ↓w_sSet1, ↓w_sSetR1, ↓w_sIncP1, ↓w_sIncM1, ↓w_eLoc2, ↓w_rLoc2, ↓w_sSet2, ↓w_sSetR2, ↓w_sIncP2, ↓w_sIncM2, ↓w_eLoc3, ↓w_rLoc3, ↓w_sSet3, ↓w_sSetR3, ↓w_sIncP3, ↓w_sIncM3, ↓w_eLoc4, ↓w_rLoc4, ↓w_sSet4, ↓w_sSetR4, ↓w_sIncP4, ↓w_sIncM4, ↓w_eLoc5, ↓w_rLoc5, ↓w_sSet5, ↓w_sSetR5, ↓w_sIncP5, ↓w_sIncM5, ↓w_eLoc6, ↓w_rLoc6, ↓w_sSet6, ↓w_sSetR6, ↓w_sIncP6, ↓w_sIncM6, ↓w_eLoc7, ↓w_rLoc7, ↓w_sSet7, ↓w_sSetR7, ↓w_sIncP7, ↓w_sIncM7, ↓w_eLoc8, ↓w_rLoc8, ↓w_sSet8, ↓w_sSetR8, ↓w_sIncP8, ↓w_sIncM8, ↓w_eLoc9, ↓w_rLoc9, ↓w_sSet9, ↓w_sSetR9, ↓w_sIncP9, ↓w_sIncM9, ↓w_eLoc10, ↓w_rLoc10, ↓w_sSet10, ↓w_sSetR10, ↓w_sIncP10, ↓w_sIncM10, ↓w_eLoc11, ↓w_rLoc11, ↓w_sSet11, ↓w_sSetR11, ↓w_sIncP11, ↓w_sIncM11, ↓w_eLoc12, ↓w_rLoc12, ↓w_sSet12, ↓w_sSetR12, ↓w_sIncP12, ↓w_sIncM12, ↓w_eLoc13, ↓w_rLoc13, ↓w_sSet13, ↓w_sSetR13, ↓w_sIncP13, ↓w_sIncM13, ↓w_eIntN, ↓w_eIntM, ↓w_bZi, ↓w_add, ↓w_sub, ↓w_mul, ↓w_neg, ↓w_nar, ↓w_div, ↓w_ldne, ↓w_ldat, ↓w_ldj, List.length_cons, List.length_nil, Nat.reduceAdd, Nat.reduceSub, Nat.reduceLeDiff, List.replicate_succ, List.replicate_zero, List.cons_append, List.nil_append, List.append_nil, iz_nI, iz_ofNat, iz_add, iz_sub, iz_mul, cz_lt, cz_le, cz_gt, cz_ge, cz_eq, cz_ne, mIn_iz, iz_nat, decide_eq_true_eq, Bool.not_eq_true', decide_eq_false_iff_not, true_and, and_true, ↓reduceIte, not_true_eq_false, not_false_eq_true, w01_bI, w01_i0, w01_i1, bI_ne', bI_eq', bI_t, bI_f, Bool.false_eq_true, false_implies, forall_const, implies_true, true_implies, imp_self, eq_self, cz10, cz00, Bool.true_eq_false, Bool.not_true, Bool.not_false, decide_true, decide_false, ↓tO_139, ↓tR_139_0, ↓tR_139_1, ↓tR_139_2, ↓tI_139_3, ↓tR_139_4, ↓tR_139_5, ↓tR_139_6, ↓tR_139_7, ↓tR_139_8, ↓tR_139_9, ↓tR_139_10, ↓tI_139_11, ↓tI_139_12, ↓tI_139_13, ↓tI_139_14, ↓tI_139_15, ↓tI_139_16, ↓tI_139_17, ↓tI_139_18, ↓tI_139_19, ↓tI_139_20, ↓tI_139_21, ↓tI_139_22, ↓tI_139_23, ↓tI_139_24, ↓tI_139_25, ↓tI_139_26, ↓tR_139_27, ↓tI_139_28, ↓tI_139_29, ↓tI_139_30, ↓tI_139_31, ↓tR_139_32, ↓tI_139_33, ↓tR_139_34, ↓tR_139_35, ↓tR_139_36, ↓tR_139_37, ↓tI_139_38, ↓tA_140, ↓tN_140, ↓tA_154, ↓tN_154, ↓tA_155, ↓tN_155, ↓wLd_of h3]
  apply wF_to
  unfold f_M_zone
  simp only [↓w_rcv, ↓w_bodyI, ↓w_bodyZ, ↓w_bodyV, true_and, List.length_cons, List.length_nil, Nat.reduceAdd, Nat.reduceSub, Nat.reduceLeDiff, List.replicate_succ, List.replicate_zero, List.cons_append, List.nil_append, List.append_nil, ↓tO_0, ↓tO_2, ↓tO_6, ↓tO_11, ↓tO_18, ↓tO_19, ↓tO_27, ↓tO_32, ↓tO_37, ↓tO_43, ↓tO_44, ↓tO_52, ↓tO_62, ↓tO_63, ↓tO_71, ↓tO_76, ↓tO_81, ↓tO_87, ↓tO_88, ↓tO_96, ↓tO_106, ↓tO_107, ↓tO_115, ↓tO_127, ↓tO_127c, ↓tO_133, ↓tO_133c, ↓tO_139]
  unfold S_M_zone
  simp (disch := omega) only [↓w_eBin, ↓w_eUn, ↓w_eDiv, ↓w_eRem, ↓w_eFld, ↓w_rFld, ↓w_eALd, ↓w_rALd, ↓w_eALen, ↓w_rStr, ↓w_aNil, ↓w_aI, ↓w_aR, ↓w_N, ↓w_eCall, ↓w_X, ↓w_bCmp, ↓w_bAnd, ↓w_bOr, ↓w_bNot, ↓w_eB, ↓w_eIte, ↓w_sSkip, ↓w_sRet, ↓w_sRetZ, ↓w_sRetV, ↓w_sBrk, ↓w_sCont, ↓w_sIf, ↓w_sSeq, ↓w_sCaC, ↓w_sCaB, ↓w_sSw, ↓w_sCall, ↓w_sPut, ↓w_sPutOp, ↓w_sASt, ↓w_sAOp, ↓w_sADiv, ↓w_eLoc0, ↓w_rLoc0, ↓w_sSet0, ↓w_sSetR0, ↓w_sIncP0, ↓w_sIncM0, ↓w_eLoc1, ↓w_rLoc1, ↓w_sSet1, ↓w_sSetR1, ↓w_sIncP1, ↓w_sIncM1, ↓w_eLoc2, ↓w_rLoc2, ↓w_sSet2, ↓w_sSetR2, ↓w_sIncP2, ↓w_sIncM2, ↓w_eLoc3, ↓w_rLoc3, ↓w_sSet3, ↓w_sSetR3, ↓w_sIncP3, ↓w_sIncM3, ↓w_eLoc4, ↓w_rLoc4, ↓w_sSet4, ↓w_sSetR4, ↓w_sIncP4, ↓w_sIncM4, ↓w_eLoc5, ↓w_rLoc5, ↓w_sSet5, ↓w_sSetR5, ↓w_sIncP5, ↓w_sIncM5, ↓w_eLoc6, ↓w_rLoc6, ↓w_sSet6, ↓w_sSetR6, ↓w_sIncP6, ↓w_sIncM6, ↓w_eLoc7, ↓w_rLoc7, ↓w_sSet7, ↓w_sSetR7, ↓w_sIncP7, ↓w_sIncM7, ↓w_eLoc8, ↓w_rLoc8, ↓w_sSet8, ↓w_sSetR8, ↓w_sIncP8, ↓w_sIncM8, ↓w_eLoc9, ↓w_rLoc9, ↓w_sSet9, ↓w_sSetR9, ↓w_sIncP9, ↓w_sIncM9, ↓w_eLoc10, ↓w_rLoc10, ↓w_sSet10, ↓w_sSetR10, ↓w_sIncP10, ↓w_sIncM10, ↓w_eLoc11, ↓w_rLoc11, ↓w_sSet11, ↓w_sSetR11, ↓w_sIncP11, ↓w_sIncM11, ↓w_eLoc12, ↓w_rLoc12, ↓w_sSet12, ↓w_sSetR12, ↓w_sIncP12, ↓w_sIncM12, ↓w_eLoc13, ↓w_rLoc13, ↓w_sSet13, ↓w_sSetR13, ↓w_sIncP13, ↓w_sIncM13, ↓w_eIntN, ↓w_eIntM, ↓w_bZi, ↓w_add, ↓w_sub, ↓w_mul, ↓w_neg, ↓w_nar, ↓w_div, ↓w_ldne, ↓w_ldat, ↓w_ldj, List.length_cons, List.length_nil, Nat.reduceAdd, Nat.reduceSub, Nat.reduceLeDiff, List.replicate_succ, List.replicate_zero, List.cons_append, List.nil_append, List.append_nil, iz_nI, iz_ofNat, iz_add, iz_sub, iz_mul, cz_lt, cz_le, cz_gt, cz_ge, cz_eq, cz_ne, mIn_iz, iz_nat, decide_eq_true_eq, Bool.not_eq_true', decide_eq_false_iff_not, true_and, and_true, ↓reduceIte, not_true_eq_false, not_false_eq_true, w01_bI, w01_i0, w01_i1, bI_ne', bI_eq', bI_t, bI_f, Bool.false_eq_true, false_implies, forall_const, implies_true, true_implies, imp_self, eq_self, cz10, cz00, Bool.true_eq_false, Bool.not_true, Bool.not_false, decide_true, decide_false, ↓tO_139, ↓tR_139_0, ↓tR_139_1, ↓tR_139_2, ↓tI_139_3, ↓tR_139_4, ↓tR_139_5, ↓tR_139_6, ↓tR_139_7, ↓tR_139_8, ↓tR_139_9, ↓tR_139_10, ↓tI_139_11, ↓tI_139_12, ↓tI_139_13, ↓tI_139_14, ↓tI_139_15, ↓tI_139_16, ↓tI_139_17, ↓tI_139_18, ↓tI_139_19, ↓tI_139_20, ↓tI_139_21, ↓tI_139_22, ↓tI_139_23, ↓tI_139_24, ↓tI_139_25, ↓tI_139_26, ↓tR_139_27, ↓tI_139_28, ↓tI_139_29, ↓tI_139_30, ↓tI_139_31, ↓tR_139_32, ↓tI_139_33, ↓tR_139_34, ↓tR_139_35, ↓tR_139_36, ↓tR_139_37, ↓tI_139_38, ↓tA_140, ↓tN_140, ↓tA_154, ↓tN_154, ↓tA_155, ↓tN_155]
  refine wS_up (b - a).toNat (fun j l D => D = C ∧ l = [.ref 139, .int (iz a), .int (iz (b - 1)), .int (iz (pS W (a.toNat + j) - pS W a.toNat)), .int (iz (a + j))]) ?_ (Nat.zero_le _) ⟨rfl, by simp only [Nat.add_zero, Int.sub_self, Int.natCast_zero, Int.add_zero]⟩
  rintro j l D hj ⟨rfl, rfl⟩
  by_cases hlt : a + (j : Int) ≤ b - 1
  · simp (disch := omega) only [↓w_eBin, ↓w_eUn, ↓w_eDiv, ↓w_eRem, ↓w_eFld, ↓w_rFld, ↓w_eALd, ↓w_rALd, ↓w_eALen, ↓w_rStr, ↓w_aNil, ↓w_aI, ↓w_aR, ↓w_N, ↓w_eCall, ↓w_X, ↓w_bCmp, ↓w_bAnd, ↓w_bOr, ↓w_bNot, ↓w_eB, ↓w_eIte, ↓w_sSkip, ↓w_sRet, ↓w_sRetZ, ↓w_sRetV, ↓w_sBrk, ↓w_sCont, ↓w_sIf, ↓w_sSeq, ↓w_sCaC, ↓w_sCaB, ↓w_sSw, ↓w_sCall, ↓w_sPut, ↓w_sPutOp, ↓w_sASt, ↓w_sAOp, ↓w_sADiv, ↓w_eLoc0, ↓w_rLoc0, ↓w_sSet0, ↓w_sSetR0, ↓w_sIncP0, ↓w_sIncM0, ↓w_eLoc1, ↓w_rLoc1, ↓w_sSet1, ↓w_sSetR1, ↓w_sIncP1, ↓w_sIncM1, ↓w_eLoc2, ↓w_rLoc2, ↓w_sSet2, ↓w_sSetR2, ↓w_sIncP2, ↓w_sIncM2, ↓w_eLoc3, ↓w_rLoc3, ↓w_sSet3, ↓w_sSetR3, ↓w_sIncP3, ↓w_sIncM3, ↓w_eLoc4, ↓w_rLoc4, ↓w_sSet4, ↓w_sSetR4, ↓w_sIncP4, ↓w_sIncM4, ↓w_eLoc5, ↓w_rLoc5, ↓w_sSet5, ↓w_sSetR5, ↓w_sIncP5, ↓w_sIncM5, ↓w_eLoc6, ↓w_rLoc6, ↓w_sSet6, ↓w_sSetR6, ↓w_sIncP6, ↓w_sIncM6, ↓w_eLoc7, ↓w_rLoc7, ↓w_sSet7, ↓w_sSetR7, ↓w_sIncP7, ↓w_sIncM7, ↓w_eLoc8, ↓w_rLoc8, ↓w_sSet8, ↓w_sSetR8, ↓w_sIncP8, ↓w_sIncM8, ↓w_eLoc9, ↓w_rLoc9, ↓w_sSet9, ↓w_sSetR9, ↓w_sIncP9, ↓w_sIncM9, ↓w_eLoc10, ↓w_rLoc10, ↓w_sSet10, ↓w_sSetR10, ↓w_sIncP10, ↓w_sIncM10, ↓w_eLoc11, ↓w_rLoc11, ↓w_sSet11, ↓w_sSetR11, ↓w_sIncP11, ↓w_sIncM11, ↓w_eLoc12, ↓w_rLoc12, ↓w_sSet12, ↓w_sSetR12, ↓w_sIncP12, ↓w_sIncM12, ↓w_eLoc13, ↓w_rLoc13, ↓w_sSet13, ↓w_sSetR13, ↓w_sIncP13, ↓w_sIncM13, ↓w_eIntN, ↓w_eIntM, ↓w_bZi, ↓w_add, ↓w_sub, ↓w_mul, ↓w_neg, ↓w_nar, ↓w_div, ↓w_ldne, ↓w_ldat, ↓w_ldj, List.length_cons, List.length_nil, Nat.reduceAdd, Nat.reduceSub, Nat.reduceLeDiff, List.replicate_succ, List.replicate_zero, List.cons_append, List.nil_append, List.append_nil, iz_nI, iz_ofNat, iz_add, iz_sub, iz_mul, cz_lt, cz_le, cz_gt, cz_ge, cz_eq, cz_ne, mIn_iz, iz_nat, decide_eq_true_eq, Bool.not_eq_true', decide_eq_false_iff_not, true_and, and_true, ↓reduceIte, not_true_eq_false, not_false_eq_true, w01_bI, w01_i0, w01_i1, bI_ne', bI_eq', bI_t, bI_f, Bool.false_eq_true, false_implies, forall_const, implies_true, true_implies, imp_self, eq_self, cz10, cz00, Bool.true_eq_false, Bool.not_true, Bool.not_false, decide_true, decide_false, ↓tO_139, ↓tR_139_0, ↓tR_139_1, ↓tR_139_2, ↓tI_139_3, ↓tR_139_4, ↓tR_139_5, ↓tR_139_6, ↓tR_139_7, ↓tR_139_8, ↓tR_139_9, ↓tR_139_10, ↓tI_139_11, ↓tI_139_12, ↓tI_139_13, ↓tI_139_14, ↓tI_139_15, ↓tI_139_16, ↓tI_139_17, ↓tI_139_18, ↓tI_139_19, ↓tI_139_20, ↓tI_139_21, ↓tI_139_22, ↓tI_139_23, ↓tI_139_24, ↓tI_139_25, ↓tI_139_26, ↓tR_139_27, ↓tI_139_28, ↓tI_139_29, ↓tI_139_30, ↓tI_139_31, ↓tR_139_32, ↓tI_139_33, ↓tR_139_34, ↓tR_139_35, ↓tR_139_36, ↓tR_139_37, ↓tI_139_38, ↓tA_140, ↓tN_140, ↓tA_154, ↓tN_154, ↓tA_155, ↓tN_155, ↓wf_weight h1 hN, hlt]
    refine ⟨by omega, ?_⟩
    rw [show a.toNat + (j + 1) = a.toNat + j + 1 by omega, pS, show ((a.toNat + j : Nat) : Int) = a + j by omega, show a + ((j + 1 : Nat) : Int) = a + j + 1 by omega]
    congr 6
    omega
  · simp (disch := omega) only [↓w_eBin, ↓w_eUn, ↓w_eDiv, ↓w_eRem, ↓w_eFld, ↓w_rFld, ↓w_eALd, ↓w_rALd, ↓w_eALen, ↓w_rStr, ↓w_aNil, ↓w_aI, ↓w_aR, ↓w_N, ↓w_eCall, ↓w_X, ↓w_bCmp, ↓w_bAnd, ↓w_bOr, ↓w_bNot, ↓w_eB, ↓w_eIte, ↓w_sSkip, ↓w_sRet, ↓w_sRetZ, ↓w_sRetV, ↓w_sBrk, ↓w_sCont, ↓w_sIf, ↓w_sSeq, ↓w_sCaC, ↓w_sCaB, ↓w_sSw, ↓w_sCall, ↓w_sPut, ↓w_sPutOp, ↓w_sASt, ↓w_sAOp, ↓w_sADiv, ↓w_eLoc0, ↓w_rLoc0, ↓w_sSet0, ↓w_sSetR0, ↓w_sIncP0, ↓w_sIncM0, ↓w_eLoc1, ↓w_rLoc1, ↓w_sSet1, ↓w_sSetR1, ↓w_sIncP1, ↓w_sIncM1, ↓w_eLoc2, ↓w_rLoc2, ↓w_sSet2, ↓w_sSetR2, ↓w_sIncP2, ↓w_sIncM2, ↓w_eLoc3, ↓w_rLoc3, ↓w_sSet3, ↓w_sSetR3, ↓w_sIncP3, ↓w_sIncM3, ↓w_eLoc4, ↓w_rLoc4, ↓w_sSet4, ↓w_sSetR4, ↓w_sIncP4, ↓w_sIncM4, ↓w_eLoc5, ↓w_rLoc5, ↓w_sSet5, ↓w_sSetR5, ↓w_sIncP5, ↓w_sIncM5, ↓w_eLoc6, ↓w_rLoc6, ↓w_sSet6, ↓w_sSetR6, ↓w_sIncP6, ↓w_sIncM6, ↓w_eLoc7, ↓w_rLoc7, ↓w_sSet7, ↓w_sSetR7, ↓w_sIncP7, ↓w_sIncM7, ↓w_eLoc8, ↓w_rLoc8, ↓w_sSet8, ↓w_sSetR8, ↓w_sIncP8, ↓w_sIncM8, ↓w_eLoc9, ↓w_rLoc9, ↓w_sSet9, ↓w_sSetR9, ↓w_sIncP9, ↓w_sIncM9, ↓w_eLoc10, ↓w_rLoc10, ↓w_sSet10, ↓w_sSetR10, ↓w_sIncP10, ↓w_sIncM10, ↓w_eLoc11, ↓w_rLoc11, ↓w_sSet11, ↓w_sSetR11, ↓w_sIncP11, ↓w_sIncM11, ↓w_eLoc12, ↓w_rLoc12, ↓w_sSet12, ↓w_sSetR12, ↓w_sIncP12, ↓w_sIncM12, ↓w_eLoc13, ↓w_rLoc13, ↓w_sSet13, ↓w_sSetR13, ↓w_sIncP13, ↓w_sIncM13, ↓w_eIntN, ↓w_eIntM, ↓w_bZi, ↓w_add, ↓w_sub, ↓w_mul, ↓w_neg, ↓w_nar, ↓w_div, ↓w_ldne, ↓w_ldat, ↓w_ldj, List.length_cons, List.length_nil, Nat.reduceAdd, Nat.reduceSub, Nat.reduceLeDiff, List.replicate_succ, List.replicate_zero, List.cons_append, List.nil_append, List.append_nil, iz_nI, iz_ofNat, iz_add, iz_sub, iz_mul, cz_lt, cz_le, cz_gt, cz_ge, cz_eq, cz_ne, mIn_iz, iz_nat, decide_eq_true_eq, Bool.not_eq_true', decide_eq_false_iff_not, true_and, and_true, ↓reduceIte, not_true_eq_false, not_false_eq_true, w01_bI, w01_i0, w01_i1, bI_ne', bI_eq', bI_t, bI_f, Bool.false_eq_true, false_implies, forall_const, implies_true, true_implies, imp_self, eq_self, cz10, cz00, Bool.true_eq_false, Bool.not_true, Bool.not_false, decide_true, decide_false, ↓tO_139, ↓tR_139_0, ↓tR_139_1, ↓tR_139_2, ↓tI_139_3, ↓tR_139_4, ↓tR_139_5, ↓tR_139_6, ↓tR_139_7, ↓tR_139_8, ↓tR_139_9, ↓tR_139_10, ↓tI_139_11, ↓tI_139_12, ↓tI_139_13, ↓tI_139_14, ↓tI_139_15, ↓tI_139_16, ↓tI_139_17, ↓tI_139_18, ↓tI_139_19, ↓tI_139_20, ↓tI_139_21, ↓tI_139_22, ↓tI_139_23, ↓tI_139_24, ↓tI_139_25, ↓tI_139_26, ↓tR_139_27, ↓tI_139_28, ↓tI_139_29, ↓tI_139_30, ↓tI_139_31, ↓tR_139_32, ↓tI_139_33, ↓tR_139_34, ↓tR_139_35, ↓tR_139_36, ↓tR_139_37, ↓tI_139_38, ↓tA_140, ↓tN_140, ↓tA_154, ↓tN_154, ↓tA_155, ↓tN_155, ↓k7, ↓k8, hlt]
    unfold zP
    rw [if_neg (by omega), show a.toNat + j = b.toNat by omega]
/-- the cut that is best after m of them -/
def zA (P : Int → Int → Int) (N fr : Int) (s m : Nat) : Int := am (fun c => P fr c + cG P N s c) (fr + 1) (min (m - 1) (N - s - 2 - fr).toNat)
def zC (P : Int → Int → Int) (N fr sum L : Int) (s m : Nat) : Prop := m ≠ 0 ∧ fr + s + 1 < N ∧ (L = -1 ∨ sum + (P fr (zA P N fr s m) + cG P N s (zA P N fr s m)) < L)
def zB (P : Int → Int → Int) (N fr sum L : Int) (s i m : Nat) (C D : mMem) : Prop := (¬ zC P N fr sum L s m ∧ D 139 38 = iz L ∧ D 155 = C 155) ∨ (zC P N fr sum L s m ∧ D 139 38 = iz (sum + (P fr (zA P N fr s m) + cG P N s (zA P N fr s m))) ∧ (∀ j, j < i → D 155 j = C 154 j) ∧ D 155 i = iz (zA P N fr s m) ∧ (∀ j, j < s → D 155 (i + 1 + j) = iz (cPath P N s (zA P N fr s m) (j + 1))))
theorem zB_step {P : Int → Int → Int} {N fr sum L M : Int} {s i m : Nat} {C D E : mMem} (hB : cB P N 1) (hfr : 1 ≤ fr) (hs : 0 ≤ sum) (hm : fr + 1 + (m : Int) < N) (hL : L = -1 ∨ 0 ≤ L) (h : zB P N fr sum L s i m C D)
    (hMc : (zC P N fr sum L s m → M = sum + (P fr (zA P N fr s m) + cG P N s (zA P N fr s m))) ∧ (¬ zC P N fr sum L s m → M = L))
    (hE : (¬ (fr + 1 + m + s < N ∧ (M = -1 ∨ sum + P fr (fr + 1 + m) + cG P N s (fr + 1 + m) < M)) ∧ E 139 38 = iz M ∧ E 155 = D 155) ∨
      ((fr + 1 + m + s < N ∧ (M = -1 ∨ sum + P fr (fr + 1 + m) + cG P N s (fr + 1 + m) < M)) ∧ E 139 38 = iz (sum + P fr (fr + 1 + m) + cG P N s (fr + 1 + m)) ∧ (∀ j, j < i → E 155 j = C 154 j) ∧ E 155 i = iz (fr + 1 + m) ∧ (∀ j, j < s → E 155 (i + 1 + j) = iz (cPath P N s (fr + 1 + m) (j + 1))))) :
    zB P N fr sum L s i (m + 1) C E := by
  have keep : (zC P N fr sum L s (m + 1) ↔ zC P N fr sum L s m) → (zC P N fr sum L s m → zA P N fr s (m + 1) = zA P N fr s m) → E 139 38 = iz M → E 155 = D 155 → zB P N fr sum L s i (m + 1) C E := by
    intro hc ha h38 h155
    rcases h with ⟨n, x1, x2⟩ | ⟨y, x1, x2, x3, x4⟩
    · refine Or.inl ⟨fun z => n (hc.mp z), ?_, by rw [h155]; exact x2⟩
      rw [h38, hMc.2 n]
    · refine Or.inr ⟨hc.mpr y, ?_, fun j hj => by rw [h155]; exact x2 j hj, ?_, fun j hj => ?_⟩
      · rw [h38, hMc.1 y, ha y]
      · rw [h155, ha y]; exact x3
      · rw [h155, ha y]; exact x4 j hj
  by_cases f : fr + s + 1 < N
  · by_cases mn : fr + 1 + (m : Int) + s < N
    · -- this cut has room behind it
      have gz : 0 ≤ P fr (fr + 1 + m) + cG P N s (fr + 1 + m) := by
        have p := hB fr (fr + 1 + m) (by omega) (by omega) (by omega) (by omega) (by omega)
        have q := cG_rg hB (by omega) s (fr + 1 + m) (by omega) (by omega)
        omega
      by_cases m0 : m = 0
      · subst m0
        have nz : ¬ zC P N fr sum L s 0 := fun z => z.1 rfl
        have eM := hMc.2 nz
        have ea : zA P N fr s (0 + 1) = fr + 1 + ((0 : Nat) : Int) := by
          unfold zA
          rw [show min (0 + 1 - 1) (N - s - 2 - fr).toNat = 0 by omega, am]; omega
        rcases hE with ⟨n, x1, x2⟩ | ⟨y, x1, x2, x3, x4⟩
        · have nn : ¬ zC P N fr sum L s (0 + 1) := by
            unfold zC
            rw [ea]
            intro z
            exact n ⟨mn, by rw [eM]; omega⟩
          refine Or.inl ⟨nn, by rw [x1, eM], ?_⟩
          rcases h with ⟨_, _, x⟩ | ⟨z, _⟩
          · rw [x2, x]
          · exact absurd z nz
        · refine Or.inr ⟨?_, ?_, x2, by rw [ea]; exact x3, fun j hj => by rw [ea]; exact x4 j hj⟩
          · refine ⟨by omega, f, ?_⟩
            rw [ea, ← eM]; omega
          · rw [x1, ea]; congr 1; omega
      · obtain ⟨r, rfl⟩ : ∃ r, m = r + 1 := ⟨m - 1, by omega⟩
        have r0 := am_rg (g := fun c => P fr c + cG P N s c) (lo := fr + 1) r
        have ea : zA P N fr s (r + 1) = am (fun c => P fr c + cG P N s c) (fr + 1) r := by
          unfold zA
          rw [show min (r + 1 - 1) (N - s - 2 - fr).toNat = r by omega]
        have eb : zA P N fr s (r + 1 + 1) = if P fr (fr + 1 + r + 1) + cG P N s (fr + 1 + r + 1) < P fr (zA P N fr s (r + 1)) + cG P N s (zA P N fr s (r + 1)) then fr + 1 + r + 1 else zA P N fr s (r + 1) := by
          rw [ea]
          unfold zA
          rw [show min (r + 1 + 1 - 1) (N - s - 2 - fr).toNat = r + 1 by omega, am]
        have g0 : 0 ≤ P fr (zA P N fr s (r + 1)) + cG P N s (zA P N fr s (r + 1)) := by
          rw [ea]
          have p := hB fr (am (fun c => P fr c + cG P N s c) (fr + 1) r) (by omega) (by omega) (by omega) (by omega) (by omega)
          have q := cG_rg hB (by omega) s (am (fun c => P fr c + cG P N s c) (fr + 1) r) (by omega) (by omega)
          omega
        rw [show fr + 1 + ((r + 1 : Nat) : Int) = fr + 1 + r + 1 by omega] at hE mn gz
        clear ea r0
        rcases hE with ⟨n, x1, x2⟩ | ⟨y, x1, x2, x3, x4⟩
        · have n' : ¬ (M = -1 ∨ sum + P fr (fr + 1 + r + 1) + cG P N s (fr + 1 + r + 1) < M) := fun z => n ⟨mn, z⟩
          by_cases z : zC P N fr sum L s (r + 1)
          · have eM := hMc.1 z
            have : zA P N fr s (r + 1 + 1) = zA P N fr s (r + 1) := by
              rw [eb, if_neg]; omega
            refine keep ?_ (fun _ => this) x1 x2
            unfold zC
            rw [this]
            constructor
            · rintro ⟨_, a, b⟩; exact ⟨by omega, a, b⟩
            · rintro ⟨_, a, b⟩; exact ⟨by omega, a, b⟩
          · have eM := hMc.2 z
            refine keep ?_ (fun y => absurd y z) x1 x2
            have : ¬ zC P N fr sum L s (r + 1 + 1) := by
              intro y
              apply z
              refine ⟨by omega, f, ?_⟩
              have y3 := y.2.2
              rw [eb] at y3
              split at y3
              · exfalso; omega
              · exact y3
            exact ⟨fun y => absurd y this, fun y => absurd y z⟩
        · have hlt : P fr (fr + 1 + r + 1) + cG P N s (fr + 1 + r + 1) < P fr (zA P N fr s (r + 1)) + cG P N s (zA P N fr s (r + 1)) ∧ (L = -1 ∨ sum + (P fr (fr + 1 + r + 1) + cG P N s (fr + 1 + r + 1)) < L) := by
            by_cases z : zC P N fr sum L s (r + 1)
            · have eM := hMc.1 z
              have z3 := z.2.2
              omega
            · have eM := hMc.2 z
              have nz : ¬ (L = -1 ∨ sum + (P fr (zA P N fr s (r + 1)) + cG P N s (zA P N fr s (r + 1))) < L) := fun x => z ⟨by omega, f, x⟩
              omega
          rw [if_pos hlt.1] at eb
          refine Or.inr ⟨⟨by omega, f, by rw [eb]; exact hlt.2⟩, ?_, x2, by rw [eb, x3], fun j hj => ?_⟩
          · rw [x1, eb]; congr 1; omega
          · rw [eb, x4 j hj]
    · -- no room behind it
      have ea : zA P N fr s (m + 1) = zA P N fr s m := by
        unfold zA
        rw [show min (m + 1 - 1) (N - s - 2 - fr).toNat = min (m - 1) (N - s - 2 - fr).toNat by omega]
      rcases hE with ⟨n, x1, x2⟩ | ⟨y, _⟩
      · refine keep ?_ (fun _ => ea) x1 x2
        unfold zC
        rw [ea]
        constructor
        · rintro ⟨_, a, b⟩; exact ⟨by omega, a, b⟩
        · rintro ⟨_, a, b⟩; exact ⟨by omega, a, b⟩
      · exact absurd y.1 mn
  · have n1 : ∀ m, ¬ zC P N fr sum L s m := fun m z => f z.2.1
    rcases hE with ⟨n, x1, x2⟩ | ⟨y, _⟩
    · exact keep ⟨fun z => absurd z (n1 _), fun z => absurd z (n1 _)⟩ (fun z => absurd z (n1 _)) x1 x2
    · exfalso; omega

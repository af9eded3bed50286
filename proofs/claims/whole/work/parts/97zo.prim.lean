/-! texts: the smallest steps of both readers -/
noncomputable section
theorem shl16 {a : Int} : iz a <<< (iz 4 &&& 31) = iz (16 * a) := by
  have e0 : iz 4 &&& 31 = 4 := by decide
  have e1 : ∀ x : Int32, x <<< (4 : Int32) = iz 16 * x := by
    intro x
    apply Int32.toBitVec_inj.mp
    have h4 : (4 : Int32).toBitVec.smod 32 = 4#32 := by decide
    have h16 : (iz 16).toBitVec = BitVec.twoPow 32 4 := by decide
    rw [Int32.toBitVec_shiftLeft, Int32.toBitVec_mul, h4, h16, BitVec.mul_comm]
    show x.toBitVec <<< (4#32).toNat = _
    rw [show (4#32).toNat = 4 from rfl, BitVec.shiftLeft_eq_mul_twoPow]
  rw [e0, e1, iz_mul]
theorem or16 {o a : Int} (ho : 0 ≤ o ∧ o < 16) (ha : 0 ≤ a ∧ a ≤ 9999) : iz o ||| iz (16 * a) = iz (o + 16 * a) := by
  obtain ⟨m, rfl⟩ := Int.eq_ofNat_of_zero_le ho.1
  obtain ⟨n, rfl⟩ := Int.eq_ofNat_of_zero_le ha.1
  have e1 : (16 * (n : Int)) = ((16 * n : Nat) : Int) := by omega
  have e2 : (m : Int) + ((16 * n : Nat) : Int) = ((m + 16 * n : Nat) : Int) := by omega
  rw [e1, e2, ← iz_ofNat, ← iz_ofNat, ← iz_ofNat]
  apply Int32.toBitVec_inj.mp
  apply BitVec.eq_of_toNat_eq
  simp only [Int32.toBitVec_or, Int32.toBitVec_ofNat', BitVec.toNat_or, BitVec.toNat_ofNat]
  rw [Nat.mod_eq_of_lt (by omega : m < 2 ^ 32), Nat.mod_eq_of_lt (by omega : 16 * n < 2 ^ 32), Nat.mod_eq_of_lt (by omega : m + 16 * n < 2 ^ 32)]
  have := Nat.two_pow_add_eq_or_of_lt (i := 4) (b := m) (by omega) n
  rw [Nat.or_comm, Nat.add_comm]
  exact this.symm
section
variable {b : Nat → Int} {L n j : Nat} {C : mMem} {wh : Int}
theorem tK_1 {i : Nat} (h : tK b L i = 1) : cD (sv b L i) = true := by
  unfold tK at h
  split at h
  · omega
  · split at h
    · have := wdK_rg (b := b) (i := i) (e := tE b L i); omega
    · split at h
      · assumption
      · unfold sgK at h; split at h <;> omega
def TokM (C : mMem) (b : Nat → Int) (L : Nat) (wh : Int) (j : Nat) : Prop := MB C b L wh ∧ C 139 19 = iz (st b L j) ∧ C 139 18 = iz (ph wh (kj b L j)) ∧ C 139 17 = iz ((if L ≤ st b L j then st b L j else tE b L (st b L j) : Nat) : Int) ∧ (kj b L j = 1 → C 139 20 = iz (vj b L j))
theorem mb_fr {D : mMem} (h : MB C b L wh) (h16 : D 139 16 = C 139 16) (h11 : D 139 11 = C 139 11) (h146 : D 146 = C 146) : MB D b L wh := by
  obtain ⟨h1, h2, h3, h4, h5⟩ := h
  exact ⟨h1, by rw [h16]; exact h2, by rw [h11]; exact h3, h4, fun q hq => by rw [h146]; exact h5 q hq⟩
theorem tokM_fr {D : mMem} (h : TokM C b L wh j) (h9 : ∀ i, i = 11 ∨ i = 16 ∨ i = 17 ∨ i = 18 ∨ i = 19 ∨ i = 20 → D 139 i = C 139 i) (h146 : D 146 = C 146) : TokM D b L wh j := by
  obtain ⟨h1, h2, h3, h4, h5⟩ := h
  exact ⟨mb_fr h1 (h9 16 (by omega)) (h9 11 (by omega)) h146, by rw [h9 19 (by omega)]; exact h2, by rw [h9 18 (by omega)]; exact h3, by rw [h9 17 (by omega)]; exact h4, fun z => by rw [h9 20 (by omega)]; exact h5 z⟩
/-- what a token's reading leaves alone -/
def FrN (C D : mMem) : Prop := (∀ x, x ≠ 139 → D x = C x) ∧ (∀ x, x ≠ 17 → x ≠ 18 → x ≠ 19 → x ≠ 20 → D 139 x = C 139 x)
theorem rf_tnext (h : TokM C b L wh j) : ∃ D, f_M_next0 [.ref 139] C = some (none, D) ∧ TokM D b L wh (j + 1) ∧ FrN C D := by
  obtain ⟨h1, h2, h3, h4, h5⟩ := h
  have sj := (st_ok (b := b) (L := L) j).1
  have ha : (if L ≤ st b L j then st b L j else tE b L (st b L j)) ≤ L := by
    split
    · omega
    · exact (tE_ok (b := b) (by omega)).2
  obtain ⟨D, e1, d19, d18, d17, d20, f1, f2⟩ := rf_nx h1 h4 ha
  have e : rn cW b L (if L ≤ st b L j then st b L j else tE b L (st b L j)) = st b L (j + 1) := rfl
  rw [e] at d19 d18 d17 d20
  exact ⟨D, e1, ⟨mb_fr h1 (f2 16 (by omega) (by omega) (by omega) (by omega)) (f2 11 (by omega) (by omega) (by omega) (by omega)) (f1 146 (by omega)), d19, d18, d17, fun z => d20 (tK_1 z)⟩, f1, f2⟩
theorem rf_bad {k : Int} (h : TokM C b L wh j) : f_M_bad [.ref 139, .int (iz k)] C = some (some (bI false), mUp (mUp C 139 21 (iz k)) 139 22 (iz (st b L j))) := by
  have h19 := h.2.1
  apply wF_to
  unfold f_M_bad
  simp only [↓w_rcv, ↓w_bodyI, ↓w_bodyZ, ↓w_bodyV, true_and, List.length_cons, List.length_nil, Nat.reduceAdd, Nat.reduceSub, Nat.reduceLeDiff, List.replicate_succ, List.replicate_zero, List.cons_append, List.nil_append, List.append_nil, ↓tO_0, ↓tO_2, ↓tO_6, ↓tO_11, ↓tO_18, ↓tO_19, ↓tO_27, ↓tO_32, ↓tO_37, ↓tO_43, ↓tO_44, ↓tO_52, ↓tO_62, ↓tO_63, ↓tO_71, ↓tO_76, ↓tO_81, ↓tO_87, ↓tO_88, ↓tO_96, ↓tO_106, ↓tO_107, ↓tO_115, ↓tO_127, ↓tO_127c, ↓tO_133, ↓tO_133c, ↓tO_139]
  unfold S_M_bad
  simp (disch := omega) only [↓w_eBin, ↓w_eUn, ↓w_eDiv, ↓w_eRem, ↓w_eFld, ↓w_rFld, ↓w_eALd, ↓w_rALd, ↓w_eALen, ↓w_rStr, ↓w_aNil, ↓w_aI, ↓w_aR, ↓w_N, ↓w_eCall, ↓w_X, ↓w_bCmp, ↓w_bAnd, ↓w_bOr, ↓w_bNot, ↓w_eB, ↓w_eIte, ↓w_sSkip, ↓w_sRet, ↓w_sRetZ, ↓w_sRetV, ↓w_sBrk, ↓w_sCont, ↓w_sIf, ↓w_sSeq, ↓w_sCaC, ↓w_sCaB, ↓w_sSw, ↓w_sCall, ↓w_sPut, ↓w_sPutOp, ↓w_sASt, ↓w_sAOp, ↓w_sADiv, ↓w_eLoc0, ↓w_rLoc0, ↓w_sSet0, ↓w_sSetR0, ↓w_sIncP0, ↓w_sIncM0, ↓w_eLoc1, ↓w_rLoc1, ↓w_sSet1, ↓w_sSetR1, ↓w_sIncP1, ↓w_sIncM1, ↓w_eLoc2, ↓w_rLoc2, ↓w_sSet2, ↓w_sSetR2, ↓w_sIncP2, ↓w_sIncM2, ↓w_eLoc3, ↓w_rLoc3, ↓w_sSet3, ↓w_sSetR3, ↓w_sIncP3, ↓w_sIncM3, ↓w_eLoc4, ↓w_rLoc4, ↓w_sSet4, ↓w_sSetR4, ↓w_sIncP4, ↓w_sIncM4, ↓w_eLoc5, ↓w_rLoc5, ↓w_sSet5, ↓w_sSetR5, ↓w_sIncP5, ↓w_sIncM5, ↓w_eLoc6, ↓w_rLoc6, ↓w_sSet6, ↓w_sSetR6, ↓w_sIncP6, ↓w_sIncM6, ↓w_eLoc7, ↓w_rLoc7, ↓w_sSet7, ↓w_sSetR7, ↓w_sIncP7, ↓w_sIncM7, ↓w_eLoc8, ↓w_rLoc8, ↓w_sSet8, ↓w_sSetR8, ↓w_sIncP8, ↓w_sIncM8, ↓w_eLoc9, ↓w_rLoc9, ↓w_sSet9, ↓w_sSetR9, ↓w_sIncP9, ↓w_sIncM9, ↓w_eLoc10, ↓w_rLoc10, ↓w_sSet10, ↓w_sSetR10, ↓w_sIncP10, ↓w_sIncM10, ↓w_eLoc11, ↓w_rLoc11, ↓w_sSet11, ↓w_sSetR11, ↓w_sIncP11, ↓w_sIncM11, ↓w_eLoc12, ↓w_rLoc12, ↓w_sSet12, ↓w_sSetR12, ↓w_sIncP12, ↓w_sIncM12, ↓w_eLoc13, ↓w_rLoc13, ↓w_sSet13, ↓w_sSetR13, ↓w_sIncP13, ↓w_sIncM13, ↓w_eIntN, ↓w_eIntM, ↓w_bZi, ↓w_add, ↓w_sub, ↓w_mul, ↓w_neg, ↓w_nar, ↓w_div, ↓w_ldne, ↓w_ldat, ↓w_ldj, List.length_cons, List.length_nil, Nat.reduceAdd, Nat.reduceSub, Nat.reduceLeDiff, List.replicate_succ, List.replicate_zero, List.cons_append, List.nil_append, List.append_nil, iz_nI, iz_ofNat, iz_add, iz_sub, iz_mul, cz_lt, cz_le, cz_gt, cz_ge, cz_eq, cz_ne, mIn_iz, iz_nat, decide_eq_true_eq, Bool.not_eq_true', decide_eq_false_iff_not, true_and, and_true, ↓reduceIte, not_true_eq_false, not_false_eq_true, w01_bI, w01_i0, w01_i1, bI_ne', bI_eq', bI_t, bI_f, Bool.false_eq_true, false_implies, forall_const, implies_true, true_implies, imp_self, eq_self, cz10, cz00, w01_0, w01_1, Bool.true_eq_false, Bool.not_true, Bool.not_false, decide_true, decide_false, ↓tO_0, ↓tR_0_0, ↓tI_0_1, ↓tR_0_2, ↓tR_0_3, ↓tR_0_4, ↓tR_0_5, ↓tR_0_6, ↓tI_0_7, ↓tR_0_8, ↓tR_0_9, ↓tR_0_10, ↓tR_0_11, ↓tR_0_12, ↓tA_1, ↓tN_1, ↓tO_2, ↓tR_2_0, ↓tR_2_1, ↓tR_2_2, ↓tI_2_3, ↓tI_2_4, ↓tI_2_5, ↓tI_2_6, ↓tI_2_7, ↓tI_2_8, ↓tA_3, ↓tN_3, ↓tA_4, ↓tN_4, ↓tA_5, ↓tN_5, ↓tO_6, ↓tI_6_0, ↓tI_6_1, ↓tI_6_2, ↓tI_6_3, ↓tR_6_4, ↓tR_6_5, ↓tR_6_6, ↓tR_6_7, ↓tA_7, ↓tN_7, ↓tA_8, ↓tN_8, ↓tA_9, ↓tN_9, ↓tO_139, ↓tR_139_0, ↓tR_139_1, ↓tR_139_2, ↓tI_139_3, ↓tR_139_4, ↓tR_139_5, ↓tR_139_6, ↓tR_139_7, ↓tR_139_8, ↓tR_139_9, ↓tR_139_10, ↓tI_139_11, ↓tI_139_12, ↓tI_139_13, ↓tI_139_14, ↓tI_139_15, ↓tI_139_16, ↓tI_139_17, ↓tI_139_18, ↓tI_139_19, ↓tI_139_20, ↓tI_139_21, ↓tI_139_22, ↓tI_139_23, ↓tI_139_24, ↓tI_139_25, ↓tI_139_26, ↓tR_139_27, ↓tI_139_28, ↓tI_139_29, ↓tI_139_30, ↓tI_139_31, ↓tR_139_32, ↓tI_139_33, ↓tR_139_34, ↓tR_139_35, ↓tR_139_36, ↓tR_139_37, ↓tI_139_38, ↓tA_140, ↓tN_140, ↓tA_143, ↓tN_143, ↓tA_144, ↓tN_144, ↓tA_145, ↓tN_145, ↓tA_146, ↓tN_146, ↓tA_149, ↓tN_149, ↓wLd_of h19]
  rfl
/-- steps laid down: the reference -/
def OutM (C : mMem) (l : List (Int × Int)) : Prop := C 139 13 = iz (l.length : Int) ∧ ∀ q (x : Int × Int), l[q]? = some x → C 144 (2 * q) = iz x.1 ∧ (x.1 = 0 ∨ x.1 = 16 → C 144 (2 * q + 1) = iz x.2)
def OutC (C : mMem) (l : List (Int × Int)) : Prop := C 6 3 = iz (l.length : Int) ∧ C 6 2 = bI (l.any (fun x => decide (x.1 = 9))) ∧ ∀ q (x : Int × Int), l[q]? = some x → C 9 q = iz (rEn x.1 x.2)
theorem outM_fr {D : mMem} {l : List (Int × Int)} (h : OutM C l) (h1 : D 139 13 = C 139 13) (h2 : D 144 = C 144) : OutM D l := ⟨by rw [h1]; exact h.1, fun q x hq => by rw [h2]; exact h.2 q x hq⟩
theorem outC_fr {D : mMem} {l : List (Int × Int)} (h : OutC C l) (h1 : D 6 3 = C 6 3) (h2 : D 6 2 = C 6 2) (h3 : D 9 = C 9) : OutC D l := ⟨by rw [h1]; exact h.1, by rw [h2]; exact h.2.1, fun q x hq => by rw [h3]; exact h.2.2 q x hq⟩
theorem rf_lay {l : List (Int × Int)} {s : Int} {x : Int32} (h : OutM C l) (hl : l.length < 400) : f_M_lay [.ref 139, .int (iz s), .int x] C = some (none, mUp (mUp (mUp C 144 (2 * l.length) (iz s)) 144 (2 * l.length + 1) x) 139 13 (iz ((l.length : Int) + 1))) := by
  have h13 := h.1
  have e1 : mUp C 144 (2 * (l.length : Int)).toNat (iz s) 139 13 = iz (l.length : Int) := by rw [up_k (by omega)]; exact h13
  have a1 : (2 * (l.length : Int)).toNat = 2 * l.length := by omega
  have a2 : (2 * (l.length : Int) + 1).toNat = 2 * l.length + 1 := by omega
  apply wF_to
  unfold f_M_lay
  simp only [↓w_rcv, ↓w_bodyI, ↓w_bodyZ, ↓w_bodyV, true_and, List.length_cons, List.length_nil, Nat.reduceAdd, Nat.reduceSub, Nat.reduceLeDiff, List.replicate_succ, List.replicate_zero, List.cons_append, List.nil_append, List.append_nil, ↓tO_0, ↓tO_2, ↓tO_6, ↓tO_11, ↓tO_18, ↓tO_19, ↓tO_27, ↓tO_32, ↓tO_37, ↓tO_43, ↓tO_44, ↓tO_52, ↓tO_62, ↓tO_63, ↓tO_71, ↓tO_76, ↓tO_81, ↓tO_87, ↓tO_88, ↓tO_96, ↓tO_106, ↓tO_107, ↓tO_115, ↓tO_127, ↓tO_127c, ↓tO_133, ↓tO_133c, ↓tO_139]
  unfold S_M_lay
  simp (disch := omega) only [↓w_eBin, ↓w_eUn, ↓w_eDiv, ↓w_eRem, ↓w_eFld, ↓w_rFld, ↓w_eALd, ↓w_rALd, ↓w_eALen, ↓w_rStr, ↓w_aNil, ↓w_aI, ↓w_aR, ↓w_N, ↓w_eCall, ↓w_X, ↓w_bCmp, ↓w_bAnd, ↓w_bOr, ↓w_bNot, ↓w_eB, ↓w_eIte, ↓w_sSkip, ↓w_sRet, ↓w_sRetZ, ↓w_sRetV, ↓w_sBrk, ↓w_sCont, ↓w_sIf, ↓w_sSeq, ↓w_sCaC, ↓w_sCaB, ↓w_sSw, ↓w_sCall, ↓w_sPut, ↓w_sPutOp, ↓w_sASt, ↓w_sAOp, ↓w_sADiv, ↓w_eLoc0, ↓w_rLoc0, ↓w_sSet0, ↓w_sSetR0, ↓w_sIncP0, ↓w_sIncM0, ↓w_eLoc1, ↓w_rLoc1, ↓w_sSet1, ↓w_sSetR1, ↓w_sIncP1, ↓w_sIncM1, ↓w_eLoc2, ↓w_rLoc2, ↓w_sSet2, ↓w_sSetR2, ↓w_sIncP2, ↓w_sIncM2, ↓w_eLoc3, ↓w_rLoc3, ↓w_sSet3, ↓w_sSetR3, ↓w_sIncP3, ↓w_sIncM3, ↓w_eLoc4, ↓w_rLoc4, ↓w_sSet4, ↓w_sSetR4, ↓w_sIncP4, ↓w_sIncM4, ↓w_eLoc5, ↓w_rLoc5, ↓w_sSet5, ↓w_sSetR5, ↓w_sIncP5, ↓w_sIncM5, ↓w_eLoc6, ↓w_rLoc6, ↓w_sSet6, ↓w_sSetR6, ↓w_sIncP6, ↓w_sIncM6, ↓w_eLoc7, ↓w_rLoc7, ↓w_sSet7, ↓w_sSetR7, ↓w_sIncP7, ↓w_sIncM7, ↓w_eLoc8, ↓w_rLoc8, ↓w_sSet8, ↓w_sSetR8, ↓w_sIncP8, ↓w_sIncM8, ↓w_eLoc9, ↓w_rLoc9, ↓w_sSet9, ↓w_sSetR9, ↓w_sIncP9, ↓w_sIncM9, ↓w_eLoc10, ↓w_rLoc10, ↓w_sSet10, ↓w_sSetR10, ↓w_sIncP10, ↓w_sIncM10, ↓w_eLoc11, ↓w_rLoc11, ↓w_sSet11, ↓w_sSetR11, ↓w_sIncP11, ↓w_sIncM11, ↓w_eLoc12, ↓w_rLoc12, ↓w_sSet12, ↓w_sSetR12, ↓w_sIncP12, ↓w_sIncM12, ↓w_eLoc13, ↓w_rLoc13, ↓w_sSet13, ↓w_sSetR13, ↓w_sIncP13, ↓w_sIncM13, ↓w_eIntN, ↓w_eIntM, ↓w_bZi, ↓w_add, ↓w_sub, ↓w_mul, ↓w_neg, ↓w_nar, ↓w_div, ↓w_ldne, ↓w_ldat, ↓w_ldj, List.length_cons, List.length_nil, Nat.reduceAdd, Nat.reduceSub, Nat.reduceLeDiff, List.replicate_succ, List.replicate_zero, List.cons_append, List.nil_append, List.append_nil, iz_nI, iz_ofNat, iz_add, iz_sub, iz_mul, cz_lt, cz_le, cz_gt, cz_ge, cz_eq, cz_ne, mIn_iz, iz_nat, decide_eq_true_eq, Bool.not_eq_true', decide_eq_false_iff_not, true_and, and_true, ↓reduceIte, not_true_eq_false, not_false_eq_true, w01_bI, w01_i0, w01_i1, bI_ne', bI_eq', bI_t, bI_f, Bool.false_eq_true, false_implies, forall_const, implies_true, true_implies, imp_self, eq_self, cz10, cz00, w01_0, w01_1, Bool.true_eq_false, Bool.not_true, Bool.not_false, decide_true, decide_false, ↓tO_0, ↓tR_0_0, ↓tI_0_1, ↓tR_0_2, ↓tR_0_3, ↓tR_0_4, ↓tR_0_5, ↓tR_0_6, ↓tI_0_7, ↓tR_0_8, ↓tR_0_9, ↓tR_0_10, ↓tR_0_11, ↓tR_0_12, ↓tA_1, ↓tN_1, ↓tO_2, ↓tR_2_0, ↓tR_2_1, ↓tR_2_2, ↓tI_2_3, ↓tI_2_4, ↓tI_2_5, ↓tI_2_6, ↓tI_2_7, ↓tI_2_8, ↓tA_3, ↓tN_3, ↓tA_4, ↓tN_4, ↓tA_5, ↓tN_5, ↓tO_6, ↓tI_6_0, ↓tI_6_1, ↓tI_6_2, ↓tI_6_3, ↓tR_6_4, ↓tR_6_5, ↓tR_6_6, ↓tR_6_7, ↓tA_7, ↓tN_7, ↓tA_8, ↓tN_8, ↓tA_9, ↓tN_9, ↓tO_139, ↓tR_139_0, ↓tR_139_1, ↓tR_139_2, ↓tI_139_3, ↓tR_139_4, ↓tR_139_5, ↓tR_139_6, ↓tR_139_7, ↓tR_139_8, ↓tR_139_9, ↓tR_139_10, ↓tI_139_11, ↓tI_139_12, ↓tI_139_13, ↓tI_139_14, ↓tI_139_15, ↓tI_139_16, ↓tI_139_17, ↓tI_139_18, ↓tI_139_19, ↓tI_139_20, ↓tI_139_21, ↓tI_139_22, ↓tI_139_23, ↓tI_139_24, ↓tI_139_25, ↓tI_139_26, ↓tR_139_27, ↓tI_139_28, ↓tI_139_29, ↓tI_139_30, ↓tI_139_31, ↓tR_139_32, ↓tI_139_33, ↓tR_139_34, ↓tR_139_35, ↓tR_139_36, ↓tR_139_37, ↓tI_139_38, ↓tA_140, ↓tN_140, ↓tA_143, ↓tN_143, ↓tA_144, ↓tN_144, ↓tA_145, ↓tN_145, ↓tA_146, ↓tN_146, ↓tA_149, ↓tN_149, ↓wLd_of h13, ↓wLd_of e1, a1, a2, and_self]
theorem outM_lay {l : List (Int × Int)} {s v : Int} {x : Int32} (h : OutM C l) (hx : s = 0 ∨ s = 16 → x = iz v) : OutM (mUp (mUp (mUp C 144 (2 * l.length) (iz s)) 144 (2 * l.length + 1) x) 139 13 (iz ((l.length : Int) + 1))) (l ++ [(s, v)]) := by
  refine ⟨by rw [up_at, List.length_append]; rfl, fun q y hq => ?_⟩
  rw [up_k (by omega)]
  by_cases e : q < l.length
  · rw [List.getElem?_append_left e] at hq
    rw [up_j (by omega), up_j (by omega), up_j (by omega), up_j (by omega)]
    exact h.2 q y hq
  · have hlt : q < (l ++ [(s, v)]).length := (List.getElem?_eq_some_iff.mp hq).1
    rw [List.length_append, List.length_singleton] at hlt
    have hq' : q = l.length := by omega
    subst hq'
    rw [List.getElem?_append_right (Nat.le_refl _), Nat.sub_self] at hq
    have hy : (s, v) = y := Option.some.inj hq
    subst hy
    rw [up_j (by omega), up_at]
    exact ⟨rfl, fun z => by rw [up_at]; exact hx z⟩
theorem rc_rput {l : List (Int × Int)} {o a : Int} (h : OutC C l) (hl : l.length < 400) (ho : 0 ≤ o ∧ o < 16) (ha : 0 ≤ a ∧ a ≤ 9999) : f_Ru_put [.ref 6, .int (iz o), .int (iz a)] C = some (none, mUp (mUp C 9 l.length (iz (o + 16 * a))) 6 3 (iz ((l.length : Int) + 1))) := by
  have h3 := h.1
  have e1 : mUp C 9 (l.length : Int).toNat (iz (o + 16 * a)) 6 3 = iz (l.length : Int) := by rw [up_k (by omega)]; exact h3
  have ws : ∀ P : Int32 → Prop, wO2 (fun x y => x <<< (y &&& 31)) (iz a) (iz 4) P ↔ P (iz (16 * a)) := fun P => by
    show P (iz a <<< (iz 4 &&& 31)) ↔ _
    rw [shl16]
  have wo : ∀ P : Int32 → Prop, wO2 (fun x y => x ||| y) (iz o) (iz (16 * a)) P ↔ P (iz (o + 16 * a)) := fun P => by
    show P (iz o ||| iz (16 * a)) ↔ _
    rw [or16 ho ha]
  have lt : (l.length : Int) < 400 := by omega
  apply wF_to
  unfold f_Ru_put
  simp only [↓w_rcv, ↓w_bodyI, ↓w_bodyZ, ↓w_bodyV, true_and, List.length_cons, List.length_nil, Nat.reduceAdd, Nat.reduceSub, Nat.reduceLeDiff, List.replicate_succ, List.replicate_zero, List.cons_append, List.nil_append, List.append_nil, ↓tO_0, ↓tO_2, ↓tO_6, ↓tO_11, ↓tO_18, ↓tO_19, ↓tO_27, ↓tO_32, ↓tO_37, ↓tO_43, ↓tO_44, ↓tO_52, ↓tO_62, ↓tO_63, ↓tO_71, ↓tO_76, ↓tO_81, ↓tO_87, ↓tO_88, ↓tO_96, ↓tO_106, ↓tO_107, ↓tO_115, ↓tO_127, ↓tO_127c, ↓tO_133, ↓tO_133c, ↓tO_139]
  unfold S_Ru_put
  simp (disch := omega) only [↓w_eBin, ↓w_eUn, ↓w_eDiv, ↓w_eRem, ↓w_eFld, ↓w_rFld, ↓w_eALd, ↓w_rALd, ↓w_eALen, ↓w_rStr, ↓w_aNil, ↓w_aI, ↓w_aR, ↓w_N, ↓w_eCall, ↓w_X, ↓w_bCmp, ↓w_bAnd, ↓w_bOr, ↓w_bNot, ↓w_eB, ↓w_eIte, ↓w_sSkip, ↓w_sRet, ↓w_sRetZ, ↓w_sRetV, ↓w_sBrk, ↓w_sCont, ↓w_sIf, ↓w_sSeq, ↓w_sCaC, ↓w_sCaB, ↓w_sSw, ↓w_sCall, ↓w_sPut, ↓w_sPutOp, ↓w_sASt, ↓w_sAOp, ↓w_sADiv, ↓w_eLoc0, ↓w_rLoc0, ↓w_sSet0, ↓w_sSetR0, ↓w_sIncP0, ↓w_sIncM0, ↓w_eLoc1, ↓w_rLoc1, ↓w_sSet1, ↓w_sSetR1, ↓w_sIncP1, ↓w_sIncM1, ↓w_eLoc2, ↓w_rLoc2, ↓w_sSet2, ↓w_sSetR2, ↓w_sIncP2, ↓w_sIncM2, ↓w_eLoc3, ↓w_rLoc3, ↓w_sSet3, ↓w_sSetR3, ↓w_sIncP3, ↓w_sIncM3, ↓w_eLoc4, ↓w_rLoc4, ↓w_sSet4, ↓w_sSetR4, ↓w_sIncP4, ↓w_sIncM4, ↓w_eLoc5, ↓w_rLoc5, ↓w_sSet5, ↓w_sSetR5, ↓w_sIncP5, ↓w_sIncM5, ↓w_eLoc6, ↓w_rLoc6, ↓w_sSet6, ↓w_sSetR6, ↓w_sIncP6, ↓w_sIncM6, ↓w_eLoc7, ↓w_rLoc7, ↓w_sSet7, ↓w_sSetR7, ↓w_sIncP7, ↓w_sIncM7, ↓w_eLoc8, ↓w_rLoc8, ↓w_sSet8, ↓w_sSetR8, ↓w_sIncP8, ↓w_sIncM8, ↓w_eLoc9, ↓w_rLoc9, ↓w_sSet9, ↓w_sSetR9, ↓w_sIncP9, ↓w_sIncM9, ↓w_eLoc10, ↓w_rLoc10, ↓w_sSet10, ↓w_sSetR10, ↓w_sIncP10, ↓w_sIncM10, ↓w_eLoc11, ↓w_rLoc11, ↓w_sSet11, ↓w_sSetR11, ↓w_sIncP11, ↓w_sIncM11, ↓w_eLoc12, ↓w_rLoc12, ↓w_sSet12, ↓w_sSetR12, ↓w_sIncP12, ↓w_sIncM12, ↓w_eLoc13, ↓w_rLoc13, ↓w_sSet13, ↓w_sSetR13, ↓w_sIncP13, ↓w_sIncM13, ↓w_eIntN, ↓w_eIntM, ↓w_bZi, ↓w_add, ↓w_sub, ↓w_mul, ↓w_neg, ↓w_nar, ↓w_div, ↓w_ldne, ↓w_ldat, ↓w_ldj, List.length_cons, List.length_nil, Nat.reduceAdd, Nat.reduceSub, Nat.reduceLeDiff, List.replicate_succ, List.replicate_zero, List.cons_append, List.nil_append, List.append_nil, iz_nI, iz_ofNat, iz_add, iz_sub, iz_mul, cz_lt, cz_le, cz_gt, cz_ge, cz_eq, cz_ne, mIn_iz, iz_nat, decide_eq_true_eq, Bool.not_eq_true', decide_eq_false_iff_not, true_and, and_true, ↓reduceIte, not_true_eq_false, not_false_eq_true, w01_bI, w01_i0, w01_i1, bI_ne', bI_eq', bI_t, bI_f, Bool.false_eq_true, false_implies, forall_const, implies_true, true_implies, imp_self, eq_self, cz10, cz00, w01_0, w01_1, Bool.true_eq_false, Bool.not_true, Bool.not_false, decide_true, decide_false, ↓tO_0, ↓tR_0_0, ↓tI_0_1, ↓tR_0_2, ↓tR_0_3, ↓tR_0_4, ↓tR_0_5, ↓tR_0_6, ↓tI_0_7, ↓tR_0_8, ↓tR_0_9, ↓tR_0_10, ↓tR_0_11, ↓tR_0_12, ↓tA_1, ↓tN_1, ↓tO_2, ↓tR_2_0, ↓tR_2_1, ↓tR_2_2, ↓tI_2_3, ↓tI_2_4, ↓tI_2_5, ↓tI_2_6, ↓tI_2_7, ↓tI_2_8, ↓tA_3, ↓tN_3, ↓tA_4, ↓tN_4, ↓tA_5, ↓tN_5, ↓tO_6, ↓tI_6_0, ↓tI_6_1, ↓tI_6_2, ↓tI_6_3, ↓tR_6_4, ↓tR_6_5, ↓tR_6_6, ↓tR_6_7, ↓tA_7, ↓tN_7, ↓tA_8, ↓tN_8, ↓tA_9, ↓tN_9, ↓tO_139, ↓tR_139_0, ↓tR_139_1, ↓tR_139_2, ↓tI_139_3, ↓tR_139_4, ↓tR_139_5, ↓tR_139_6, ↓tR_139_7, ↓tR_139_8, ↓tR_139_9, ↓tR_139_10, ↓tI_139_11, ↓tI_139_12, ↓tI_139_13, ↓tI_139_14, ↓tI_139_15, ↓tI_139_16, ↓tI_139_17, ↓tI_139_18, ↓tI_139_19, ↓tI_139_20, ↓tI_139_21, ↓tI_139_22, ↓tI_139_23, ↓tI_139_24, ↓tI_139_25, ↓tI_139_26, ↓tR_139_27, ↓tI_139_28, ↓tI_139_29, ↓tI_139_30, ↓tI_139_31, ↓tR_139_32, ↓tI_139_33, ↓tR_139_34, ↓tR_139_35, ↓tR_139_36, ↓tR_139_37, ↓tI_139_38, ↓tA_140, ↓tN_140, ↓tA_143, ↓tN_143, ↓tA_144, ↓tN_144, ↓tA_145, ↓tN_145, ↓tA_146, ↓tN_146, ↓tA_149, ↓tN_149, ↓wLd_of h3, ↓wLd_of e1, ↓ws, ↓wo, lt, Int.toNat_natCast, Int.cast_ofNat_Int]
theorem outC_put {l : List (Int × Int)} {s v k : Int} (h : OutC C l) (hk : k = rEn s v) (hs : s ≠ 9) : OutC (mUp (mUp C 9 l.length (iz k)) 6 3 (iz ((l.length : Int) + 1))) (l ++ [(s, v)]) := by
  refine ⟨by rw [up_at, List.length_append]; rfl, ?_, fun q y hq => ?_⟩
  · rw [up_j (by omega), up_k (by omega), h.2.1, List.any_append]
    congr 1
    simp [hs]
  · rw [up_k (by omega)]
    by_cases e : q < l.length
    · rw [List.getElem?_append_left e] at hq
      rw [up_j (by omega)]
      exact h.2.2 q y hq
    · have hlt : q < (l ++ [(s, v)]).length := (List.getElem?_eq_some_iff.mp hq).1
      rw [List.length_append, List.length_singleton] at hlt
      have hq' : q = l.length := by omega
      subst hq'
      rw [List.getElem?_append_right (Nat.le_refl _), Nat.sub_self] at hq
      have hy : (s, v) = y := Option.some.inj hq
      subst hy
      rw [up_at, hk]
end
end

/-! texts: the class's tokens, one by one -/
noncomputable section
def kj (b : Nat → Int) (L j : Nat) : Int := tK b L (st b L j)
def vj (b : Nat → Int) (L j : Nat) : Int := tV b L (st b L j)
section
variable {b : Nat → Int} {L n j : Nat} {C : mMem} {Q : Option Int32 → mMem → Prop}
theorem wdK_rg {i e : Nat} : wdK b i e = 2 ∨ (256 ≤ wdK b i e ∧ wdK b i e ≤ 273) := by
  by_cases h : ∃ (k : Nat) (w : List Nat), WL[k]? = some w ∧ Sp b i e w
  · obtain ⟨k, w, h1, h2⟩ := h
    have hk : k < 18 := (List.getElem?_eq_some_iff.mp h1).1
    rw [wdK_of h1 h2]; omega
  · left
    refine wdK_no (fun w hw z => h ?_)
    obtain ⟨k, k1, k2⟩ := List.getElem_of_mem hw
    exact ⟨k, w, by rw [List.getElem?_eq_getElem k1, k2], z⟩
theorem tK_rg {i : Nat} : (L ≤ i → tK b L i = 0) ∧ (i < L → 1 ≤ tK b L i ∧ tK b L i ≤ 273) := by
  unfold tK
  constructor
  · intro h; rw [if_pos h]
  · intro h
    rw [if_neg (by omega)]
    split
    · have := wdK_rg (b := b) (i := i) (e := tE b L i); omega
    · split
      · split <;> omega
      · unfold sgK; split <;> omega
def TokA (C : mMem) (b : Nat → Int) (L n : Nat) : Prop := st b L n = L ∧ (∀ i, i < n → st b L i < L) ∧ L ≤ 400 ∧ n ≤ L ∧ (∀ i, i < L → 0 ≤ b i ∧ b i < 256) ∧ ∀ i, i ≤ n → C 3 i = iz (kj b L i) ∧ C 4 i = iz (vj b L i) ∧ C 5 i = iz (st b L i)
def TokC (C : mMem) (b : Nat → Int) (L n j : Nat) : Prop := TokA C b L n ∧ C 2 4 = iz ((min j n : Nat) : Int) ∧ C 2 5 = iz (kj b L j) ∧ C 2 6 = iz (vj b L j)
theorem st_past (h : st b L n = L) (r : Nat) : st b L (n + r) = L := by
  induction r with
  | zero => exact h
  | succ r ih => rw [← Nat.add_assoc]; exact st_end ih
theorem st_min (h : TokA C b L n) : st b L (min j n) = st b L j := by
  by_cases g : j ≤ n
  · rw [show min j n = j by omega]
  · rw [show min j n = n by omega, h.1]
    have := st_past h.1 (j - n)
    rw [show n + (j - n) = j by omega] at this
    exact this.symm
theorem kj_rg (h : TokA C b L n) : (n ≤ j → kj b L j = 0) ∧ (j < n → 1 ≤ kj b L j ∧ kj b L j ≤ 273) := by
  constructor
  · intro g
    have := st_past h.1 (j - n)
    rw [show n + (j - n) = j by omega] at this
    unfold kj
    rw [this]; exact tK_rg.1 (Nat.le_refl _)
  · intro g
    exact tK_rg.2 (h.2.1 j g)
theorem vj_rg (h : TokA C b L n) : 0 ≤ vj b L j ∧ vj b L j ≤ 9999 := by
  unfold vj
  by_cases g : st b L j < L
  · exact tV_rg h.2.2.2.2.1 g
  · unfold tV
    have : cD (sv b L (st b L j)) = false := by unfold sv; rw [if_neg g]; exact cD_m
    rw [this, if_neg (by simp)]; omega
theorem tokA_fr {D : mMem} (h : TokA C b L n) (hD : ∀ a i, a = 3 ∨ a = 4 ∨ a = 5 → D a i = C a i) : TokA D b L n := by
  obtain ⟨h1, h2, h3, h4, h5, h6⟩ := h
  refine ⟨h1, h2, h3, h4, h5, fun i hi => ?_⟩
  rw [hD 3 i (by omega), hD 4 i (by omega), hD 5 i (by omega)]; exact h6 i hi
theorem tokC_fr {D : mMem} (h : TokC C b L n j) (hD : ∀ a i, a = 3 ∨ a = 4 ∨ a = 5 ∨ (a = 2 ∧ (i = 4 ∨ i = 5 ∨ i = 6)) → D a i = C a i) : TokC D b L n j := by
  obtain ⟨h1, h2, h3, h4⟩ := h
  refine ⟨tokA_fr h1 (fun a i g => hD a i (by omega)), ?_, ?_, ?_⟩
  · rw [hD 2 4 (by omega)]; exact h2
  · rw [hD 2 5 (by omega)]; exact h3
  · rw [hD 2 6 (by omega)]; exact h4
theorem rc_tnext (h : TokC C b L n j) : ∃ D, f_Tk_next [.ref 2] C = some (none, D) ∧ TokC D b L n (j + 1) ∧ (∀ a, a ≠ 2 → D a = C a) ∧ (∀ i, i ≠ 4 → i ≠ 5 → i ≠ 6 → D 2 i = C 2 i) := by
  obtain ⟨hA, h4, h5, h6⟩ := h
  have r := kj_rg (j := j) hA
  by_cases g : j < n
  · have rk := r.2 g
    have hn := hA.2.2
    have mj : min j n = j := by omega
    rw [mj] at h4
    obtain ⟨a1, a2, _⟩ := hA.2.2.2.2.2 (j + 1) (by omega)
    have k0 : ¬ kj b L j = 0 := by omega
    have e1 : mUp C 2 4 (iz ((j : Int) + 1)) 3 ((j : Int) + 1).toNat = iz (kj b L (j + 1)) := by rw [up_k (by omega), show ((j : Int) + 1).toNat = j + 1 by omega]; exact a1
    have e2 : mUp (mUp C 2 4 (iz ((j : Int) + 1))) 2 5 (iz (kj b L (j + 1))) 4 ((j : Int) + 1).toNat = iz (vj b L (j + 1)) := by rw [up_k (by omega), up_k (by omega), show ((j : Int) + 1).toNat = j + 1 by omega]; exact a2
    have e3 : C 3 ((j : Int) + 1).toNat = iz (kj b L (j + 1)) := by rw [show ((j : Int) + 1).toNat = j + 1 by omega]; exact a1
    have e4 : C 4 ((j : Int) + 1).toNat = iz (vj b L (j + 1)) := by rw [show ((j : Int) + 1).toNat = j + 1 by omega]; exact a2
    refine ⟨mUp (mUp (mUp C 2 4 (iz ((j : Int) + 1))) 2 5 (iz (kj b L (j + 1)))) 2 6 (iz (vj b L (j + 1))), ?_, ⟨tokA_fr hA (fun a i z => by rw [up_k (by omega), up_k (by omega), up_k (by omega)]), ?_, ?_, up_at⟩, fun a ha => by rw [up_k ha, up_k ha, up_k ha], fun i i1 i2 i3 => by rw [up_j i3, up_j i2, up_j i1]⟩
    · apply wF_to
      unfold f_Tk_next
      simp only [↓w_rcv, ↓w_bodyI, ↓w_bodyZ, ↓w_bodyV, true_and, List.length_cons, List.length_nil, Nat.reduceAdd, Nat.reduceSub, Nat.reduceLeDiff, List.replicate_succ, List.replicate_zero, List.cons_append, List.nil_append, List.append_nil, ↓tO_0, ↓tO_2, ↓tO_6, ↓tO_11, ↓tO_18, ↓tO_19, ↓tO_27, ↓tO_32, ↓tO_37, ↓tO_43, ↓tO_44, ↓tO_52, ↓tO_62, ↓tO_63, ↓tO_71, ↓tO_76, ↓tO_81, ↓tO_87, ↓tO_88, ↓tO_96, ↓tO_106, ↓tO_107, ↓tO_115, ↓tO_127, ↓tO_127c, ↓tO_133, ↓tO_133c, ↓tO_139]
      unfold S_Tk_next
      simp (disch := omega) only [↓w_eBin, ↓w_eUn, ↓w_eDiv, ↓w_eRem, ↓w_eFld, ↓w_rFld, ↓w_eALd, ↓w_rALd, ↓w_eALen, ↓w_rStr, ↓w_aNil, ↓w_aI, ↓w_aR, ↓w_N, ↓w_eCall, ↓w_X, ↓w_bCmp, ↓w_bAnd, ↓w_bOr, ↓w_bNot, ↓w_eB, ↓w_eIte, ↓w_sSkip, ↓w_sRet, ↓w_sRetZ, ↓w_sRetV, ↓w_sBrk, ↓w_sCont, ↓w_sIf, ↓w_sSeq, ↓w_sCaC, ↓w_sCaB, ↓w_sSw, ↓w_sCall, ↓w_sPut, ↓w_sPutOp, ↓w_sASt, ↓w_sAOp, ↓w_sADiv, ↓w_eLoc0, ↓w_rLoc0, ↓w_sSet0, ↓w_sSetR0, ↓w_sIncP0, ↓w_sIncM0, ↓w_eLoc1, ↓w_rLoc1, ↓w_sSet1, ↓w_sSetR1, ↓w_sIncP1, ↓w_sIncM1, ↓w_eLoc2, ↓w_rLoc2, ↓w_sSet2, ↓w_sSetR2, ↓w_sIncP2, ↓w_sIncM2, ↓w_eLoc3, ↓w_rLoc3, ↓w_sSet3, ↓w_sSetR3, ↓w_sIncP3, ↓w_sIncM3, ↓w_eLoc4, ↓w_rLoc4, ↓w_sSet4, ↓w_sSetR4, ↓w_sIncP4, ↓w_sIncM4, ↓w_eLoc5, ↓w_rLoc5, ↓w_sSet5, ↓w_sSetR5, ↓w_sIncP5, ↓w_sIncM5, ↓w_eLoc6, ↓w_rLoc6, ↓w_sSet6, ↓w_sSetR6, ↓w_sIncP6, ↓w_sIncM6, ↓w_eLoc7, ↓w_rLoc7, ↓w_sSet7, ↓w_sSetR7, ↓w_sIncP7, ↓w_sIncM7, ↓w_eLoc8, ↓w_rLoc8, ↓w_sSet8, ↓w_sSetR8, ↓w_sIncP8, ↓w_sIncM8, ↓w_eLoc9, ↓w_rLoc9, ↓w_sSet9, ↓w_sSetR9, ↓w_sIncP9, ↓w_sIncM9, ↓w_eLoc10, ↓w_rLoc10, ↓w_sSet10, ↓w_sSetR10, ↓w_sIncP10, ↓w_sIncM10, ↓w_eLoc11, ↓w_rLoc11, ↓w_sSet11, ↓w_sSetR11, ↓w_sIncP11, ↓w_sIncM11, ↓w_eLoc12, ↓w_rLoc12, ↓w_sSet12, ↓w_sSetR12, ↓w_sIncP12, ↓w_sIncM12, ↓w_eLoc13, ↓w_rLoc13, ↓w_sSet13, ↓w_sSetR13, ↓w_sIncP13, ↓w_sIncM13, ↓w_eIntN, ↓w_eIntM, ↓w_bZi, ↓w_add, ↓w_sub, ↓w_mul, ↓w_neg, ↓w_nar, ↓w_div, ↓w_ldne, ↓w_ldat, ↓w_ldj, List.length_cons, List.length_nil, Nat.reduceAdd, Nat.reduceSub, Nat.reduceLeDiff, List.replicate_succ, List.replicate_zero, List.cons_append, List.nil_append, List.append_nil, iz_nI, iz_ofNat, iz_add, iz_sub, iz_mul, cz_lt, cz_le, cz_gt, cz_ge, cz_eq, cz_ne, mIn_iz, iz_nat, decide_eq_true_eq, Bool.not_eq_true', decide_eq_false_iff_not, true_and, and_true, ↓reduceIte, not_true_eq_false, not_false_eq_true, w01_bI, w01_i0, w01_i1, bI_ne', bI_eq', bI_t, bI_f, Bool.false_eq_true, false_implies, forall_const, implies_true, true_implies, imp_self, eq_self, cz10, cz00, w01_0, w01_1, Bool.true_eq_false, Bool.not_true, Bool.not_false, decide_true, decide_false, ↓tO_0, ↓tR_0_0, ↓tI_0_1, ↓tR_0_2, ↓tR_0_3, ↓tR_0_4, ↓tR_0_5, ↓tR_0_6, ↓tI_0_7, ↓tR_0_8, ↓tR_0_9, ↓tR_0_10, ↓tR_0_11, ↓tR_0_12, ↓tA_1, ↓tN_1, ↓tO_2, ↓tR_2_0, ↓tR_2_1, ↓tR_2_2, ↓tI_2_3, ↓tI_2_4, ↓tI_2_5, ↓tI_2_6, ↓tI_2_7, ↓tI_2_8, ↓tA_3, ↓tN_3, ↓tA_4, ↓tN_4, ↓tA_5, ↓tN_5, ↓wLd_of h4, ↓wLd_of h5, ↓wLd_of e1, ↓wLd_of e2, ↓wLd_of e3, ↓wLd_of e4, k0, and_self]
    · rw [up_j (by omega), up_j (by omega), up_at, show min (j + 1) n = j + 1 by omega]; rfl
    · rw [up_j (by omega), up_at]
  · have k0 := r.1 (by omega)
    have r1 := (kj_rg (j := j + 1) hA).1 (by omega)
    have s1 : st b L (j + 1) = st b L j := by
      have z1 := st_past hA.1 (j - n)
      have z2 := st_past hA.1 (j + 1 - n)
      rw [show n + (j - n) = j by omega] at z1
      rw [show n + (j + 1 - n) = j + 1 by omega] at z2
      rw [z1, z2]
    refine ⟨C, ?_, ⟨hA, ?_, ?_, ?_⟩, fun _ _ => rfl, fun _ _ _ _ => rfl⟩
    · apply wF_to
      unfold f_Tk_next
      simp only [↓w_rcv, ↓w_bodyI, ↓w_bodyZ, ↓w_bodyV, true_and, List.length_cons, List.length_nil, Nat.reduceAdd, Nat.reduceSub, Nat.reduceLeDiff, List.replicate_succ, List.replicate_zero, List.cons_append, List.nil_append, List.append_nil, ↓tO_0, ↓tO_2, ↓tO_6, ↓tO_11, ↓tO_18, ↓tO_19, ↓tO_27, ↓tO_32, ↓tO_37, ↓tO_43, ↓tO_44, ↓tO_52, ↓tO_62, ↓tO_63, ↓tO_71, ↓tO_76, ↓tO_81, ↓tO_87, ↓tO_88, ↓tO_96, ↓tO_106, ↓tO_107, ↓tO_115, ↓tO_127, ↓tO_127c, ↓tO_133, ↓tO_133c, ↓tO_139]
      unfold S_Tk_next
      simp (disch := omega) only [↓w_eBin, ↓w_eUn, ↓w_eDiv, ↓w_eRem, ↓w_eFld, ↓w_rFld, ↓w_eALd, ↓w_rALd, ↓w_eALen, ↓w_rStr, ↓w_aNil, ↓w_aI, ↓w_aR, ↓w_N, ↓w_eCall, ↓w_X, ↓w_bCmp, ↓w_bAnd, ↓w_bOr, ↓w_bNot, ↓w_eB, ↓w_eIte, ↓w_sSkip, ↓w_sRet, ↓w_sRetZ, ↓w_sRetV, ↓w_sBrk, ↓w_sCont, ↓w_sIf, ↓w_sSeq, ↓w_sCaC, ↓w_sCaB, ↓w_sSw, ↓w_sCall, ↓w_sPut, ↓w_sPutOp, ↓w_sASt, ↓w_sAOp, ↓w_sADiv, ↓w_eLoc0, ↓w_rLoc0, ↓w_sSet0, ↓w_sSetR0, ↓w_sIncP0, ↓w_sIncM0, ↓w_eLoc1, ↓w_rLoc1, ↓w_sSet1, ↓w_sSetR1, ↓w_sIncP1, ↓w_sIncM1, ↓w_eLoc2, ↓w_rLoc2, ↓w_sSet2, ↓w_sSetR2, ↓w_sIncP2, ↓w_sIncM2, ↓w_eLoc3, ↓w_rLoc3, ↓w_sSet3, ↓w_sSetR3, ↓w_sIncP3, ↓w_sIncM3, ↓w_eLoc4, ↓w_rLoc4, ↓w_sSet4, ↓w_sSetR4, ↓w_sIncP4, ↓w_sIncM4, ↓w_eLoc5, ↓w_rLoc5, ↓w_sSet5, ↓w_sSetR5, ↓w_sIncP5, ↓w_sIncM5, ↓w_eLoc6, ↓w_rLoc6, ↓w_sSet6, ↓w_sSetR6, ↓w_sIncP6, ↓w_sIncM6, ↓w_eLoc7, ↓w_rLoc7, ↓w_sSet7, ↓w_sSetR7, ↓w_sIncP7, ↓w_sIncM7, ↓w_eLoc8, ↓w_rLoc8, ↓w_sSet8, ↓w_sSetR8, ↓w_sIncP8, ↓w_sIncM8, ↓w_eLoc9, ↓w_rLoc9, ↓w_sSet9, ↓w_sSetR9, ↓w_sIncP9, ↓w_sIncM9, ↓w_eLoc10, ↓w_rLoc10, ↓w_sSet10, ↓w_sSetR10, ↓w_sIncP10, ↓w_sIncM10, ↓w_eLoc11, ↓w_rLoc11, ↓w_sSet11, ↓w_sSetR11, ↓w_sIncP11, ↓w_sIncM11, ↓w_eLoc12, ↓w_rLoc12, ↓w_sSet12, ↓w_sSetR12, ↓w_sIncP12, ↓w_sIncM12, ↓w_eLoc13, ↓w_rLoc13, ↓w_sSet13, ↓w_sSetR13, ↓w_sIncP13, ↓w_sIncM13, ↓w_eIntN, ↓w_eIntM, ↓w_bZi, ↓w_add, ↓w_sub, ↓w_mul, ↓w_neg, ↓w_nar, ↓w_div, ↓w_ldne, ↓w_ldat, ↓w_ldj, List.length_cons, List.length_nil, Nat.reduceAdd, Nat.reduceSub, Nat.reduceLeDiff, List.replicate_succ, List.replicate_zero, List.cons_append, List.nil_append, List.append_nil, iz_nI, iz_ofNat, iz_add, iz_sub, iz_mul, cz_lt, cz_le, cz_gt, cz_ge, cz_eq, cz_ne, mIn_iz, iz_nat, decide_eq_true_eq, Bool.not_eq_true', decide_eq_false_iff_not, true_and, and_true, ↓reduceIte, not_true_eq_false, not_false_eq_true, w01_bI, w01_i0, w01_i1, bI_ne', bI_eq', bI_t, bI_f, Bool.false_eq_true, false_implies, forall_const, implies_true, true_implies, imp_self, eq_self, cz10, cz00, w01_0, w01_1, Bool.true_eq_false, Bool.not_true, Bool.not_false, decide_true, decide_false, ↓tO_0, ↓tR_0_0, ↓tI_0_1, ↓tR_0_2, ↓tR_0_3, ↓tR_0_4, ↓tR_0_5, ↓tR_0_6, ↓tI_0_7, ↓tR_0_8, ↓tR_0_9, ↓tR_0_10, ↓tR_0_11, ↓tR_0_12, ↓tA_1, ↓tN_1, ↓tO_2, ↓tR_2_0, ↓tR_2_1, ↓tR_2_2, ↓tI_2_3, ↓tI_2_4, ↓tI_2_5, ↓tI_2_6, ↓tI_2_7, ↓tI_2_8, ↓tA_3, ↓tN_3, ↓tA_4, ↓tN_4, ↓tA_5, ↓tN_5, ↓wLd_of h5, k0, and_self]
    · rw [h4, show min j n = min (j + 1) n by omega]
    · rw [h5, k0, r1]
    · rw [h6]; unfold vj; rw [s1]
theorem rc_refuse {f : Int} (h : TokC C b L n j) : f_Tk_refuse [.ref 2, .int (iz f)] C = some (some (bI false), mUp (mUp C 2 7 (iz f)) 2 8 (iz (st b L j))) := by
  obtain ⟨hA, h4, h5, h6⟩ := h
  have hl := hA.2.2
  have e := (hA.2.2.2.2.2 (min j n) (by omega)).2.2
  rw [st_min hA] at e
  have e : C 5 ((min j n : Nat) : Int).toNat = iz (st b L j) := by rw [Int.toNat_natCast]; exact e
  apply wF_to
  unfold f_Tk_refuse
  simp only [↓w_rcv, ↓w_bodyI, ↓w_bodyZ, ↓w_bodyV, true_and, List.length_cons, List.length_nil, Nat.reduceAdd, Nat.reduceSub, Nat.reduceLeDiff, List.replicate_succ, List.replicate_zero, List.cons_append, List.nil_append, List.append_nil, ↓tO_0, ↓tO_2, ↓tO_6, ↓tO_11, ↓tO_18, ↓tO_19, ↓tO_27, ↓tO_32, ↓tO_37, ↓tO_43, ↓tO_44, ↓tO_52, ↓tO_62, ↓tO_63, ↓tO_71, ↓tO_76, ↓tO_81, ↓tO_87, ↓tO_88, ↓tO_96, ↓tO_106, ↓tO_107, ↓tO_115, ↓tO_127, ↓tO_127c, ↓tO_133, ↓tO_133c, ↓tO_139]
  unfold S_Tk_refuse
  simp (disch := omega) only [↓w_eBin, ↓w_eUn, ↓w_eDiv, ↓w_eRem, ↓w_eFld, ↓w_rFld, ↓w_eALd, ↓w_rALd, ↓w_eALen, ↓w_rStr, ↓w_aNil, ↓w_aI, ↓w_aR, ↓w_N, ↓w_eCall, ↓w_X, ↓w_bCmp, ↓w_bAnd, ↓w_bOr, ↓w_bNot, ↓w_eB, ↓w_eIte, ↓w_sSkip, ↓w_sRet, ↓w_sRetZ, ↓w_sRetV, ↓w_sBrk, ↓w_sCont, ↓w_sIf, ↓w_sSeq, ↓w_sCaC, ↓w_sCaB, ↓w_sSw, ↓w_sCall, ↓w_sPut, ↓w_sPutOp, ↓w_sASt, ↓w_sAOp, ↓w_sADiv, ↓w_eLoc0, ↓w_rLoc0, ↓w_sSet0, ↓w_sSetR0, ↓w_sIncP0, ↓w_sIncM0, ↓w_eLoc1, ↓w_rLoc1, ↓w_sSet1, ↓w_sSetR1, ↓w_sIncP1, ↓w_sIncM1, ↓w_eLoc2, ↓w_rLoc2, ↓w_sSet2, ↓w_sSetR2, ↓w_sIncP2, ↓w_sIncM2, ↓w_eLoc3, ↓w_rLoc3, ↓w_sSet3, ↓w_sSetR3, ↓w_sIncP3, ↓w_sIncM3, ↓w_eLoc4, ↓w_rLoc4, ↓w_sSet4, ↓w_sSetR4, ↓w_sIncP4, ↓w_sIncM4, ↓w_eLoc5, ↓w_rLoc5, ↓w_sSet5, ↓w_sSetR5, ↓w_sIncP5, ↓w_sIncM5, ↓w_eLoc6, ↓w_rLoc6, ↓w_sSet6, ↓w_sSetR6, ↓w_sIncP6, ↓w_sIncM6, ↓w_eLoc7, ↓w_rLoc7, ↓w_sSet7, ↓w_sSetR7, ↓w_sIncP7, ↓w_sIncM7, ↓w_eLoc8, ↓w_rLoc8, ↓w_sSet8, ↓w_sSetR8, ↓w_sIncP8, ↓w_sIncM8, ↓w_eLoc9, ↓w_rLoc9, ↓w_sSet9, ↓w_sSetR9, ↓w_sIncP9, ↓w_sIncM9, ↓w_eLoc10, ↓w_rLoc10, ↓w_sSet10, ↓w_sSetR10, ↓w_sIncP10, ↓w_sIncM10, ↓w_eLoc11, ↓w_rLoc11, ↓w_sSet11, ↓w_sSetR11, ↓w_sIncP11, ↓w_sIncM11, ↓w_eLoc12, ↓w_rLoc12, ↓w_sSet12, ↓w_sSetR12, ↓w_sIncP12, ↓w_sIncM12, ↓w_eLoc13, ↓w_rLoc13, ↓w_sSet13, ↓w_sSetR13, ↓w_sIncP13, ↓w_sIncM13, ↓w_eIntN, ↓w_eIntM, ↓w_bZi, ↓w_add, ↓w_sub, ↓w_mul, ↓w_neg, ↓w_nar, ↓w_div, ↓w_ldne, ↓w_ldat, ↓w_ldj, List.length_cons, List.length_nil, Nat.reduceAdd, Nat.reduceSub, Nat.reduceLeDiff, List.replicate_succ, List.replicate_zero, List.cons_append, List.nil_append, List.append_nil, iz_nI, iz_ofNat, iz_add, iz_sub, iz_mul, cz_lt, cz_le, cz_gt, cz_ge, cz_eq, cz_ne, mIn_iz, iz_nat, decide_eq_true_eq, Bool.not_eq_true', decide_eq_false_iff_not, true_and, and_true, ↓reduceIte, not_true_eq_false, not_false_eq_true, w01_bI, w01_i0, w01_i1, bI_ne', bI_eq', bI_t, bI_f, Bool.false_eq_true, false_implies, forall_const, implies_true, true_implies, imp_self, eq_self, cz10, cz00, w01_0, w01_1, Bool.true_eq_false, Bool.not_true, Bool.not_false, decide_true, decide_false, ↓tO_0, ↓tR_0_0, ↓tI_0_1, ↓tR_0_2, ↓tR_0_3, ↓tR_0_4, ↓tR_0_5, ↓tR_0_6, ↓tI_0_7, ↓tR_0_8, ↓tR_0_9, ↓tR_0_10, ↓tR_0_11, ↓tR_0_12, ↓tA_1, ↓tN_1, ↓tO_2, ↓tR_2_0, ↓tR_2_1, ↓tR_2_2, ↓tI_2_3, ↓tI_2_4, ↓tI_2_5, ↓tI_2_6, ↓tI_2_7, ↓tI_2_8, ↓tA_3, ↓tN_3, ↓tA_4, ↓tN_4, ↓tA_5, ↓tN_5, ↓wLd_of h4, ↓wLd_of e]
  rfl
/-- the class cuts -/
theorem rc_scan (hB : BOK C b L) : ∃ n D, f_Tk_scan [.ref 2, .ref 1, .int (iz L)] C = some (none, D) ∧ TokC D b L n 0 ∧ (∀ a, a ≠ 2 → a ≠ 3 → a ≠ 4 → a ≠ 5 → D a = C a) ∧ (∀ i, i ≠ 3 → i ≠ 4 → i ≠ 5 → i ≠ 6 → D 2 i = C 2 i) := by
  have hl := hB.1
  have key : wF f_Tk_scan [.ref 2, .ref 1, .int (iz L)] C (fun o D => o = none ∧ ∃ n, TokC D b L n 0 ∧ (∀ a, a ≠ 2 → a ≠ 3 → a ≠ 4 → a ≠ 5 → D a = C a) ∧ (∀ i, i ≠ 3 → i ≠ 4 → i ≠ 5 → i ≠ 6 → D 2 i = C 2 i)) := by
    unfold f_Tk_scan
    simp only [↓w_rcv, ↓w_bodyI, ↓w_bodyZ, ↓w_bodyV, true_and, List.length_cons, List.length_nil, Nat.reduceAdd, Nat.reduceSub, Nat.reduceLeDiff, List.replicate_succ, List.replicate_zero, List.cons_append, List.nil_append, List.append_nil, ↓tO_0, ↓tO_2, ↓tO_6, ↓tO_11, ↓tO_18, ↓tO_19, ↓tO_27, ↓tO_32, ↓tO_37, ↓tO_43, ↓tO_44, ↓tO_52, ↓tO_62, ↓tO_63, ↓tO_71, ↓tO_76, ↓tO_81, ↓tO_87, ↓tO_88, ↓tO_96, ↓tO_106, ↓tO_107, ↓tO_115, ↓tO_127, ↓tO_127c, ↓tO_133, ↓tO_133c, ↓tO_139]
    unfold S_Tk_scan
    simp (disch := omega) only [↓w_eBin, ↓w_eUn, ↓w_eDiv, ↓w_eRem, ↓w_eFld, ↓w_rFld, ↓w_eALd, ↓w_rALd, ↓w_eALen, ↓w_rStr, ↓w_aNil, ↓w_aI, ↓w_aR, ↓w_N, ↓w_eCall, ↓w_X, ↓w_bCmp, ↓w_bAnd, ↓w_bOr, ↓w_bNot, ↓w_eB, ↓w_eIte, ↓w_sSkip, ↓w_sRet, ↓w_sRetZ, ↓w_sRetV, ↓w_sBrk, ↓w_sCont, ↓w_sIf, ↓w_sSeq, ↓w_sCaC, ↓w_sCaB, ↓w_sSw, ↓w_sCall, ↓w_sPut, ↓w_sPutOp, ↓w_sASt, ↓w_sAOp, ↓w_sADiv, ↓w_eLoc0, ↓w_rLoc0, ↓w_sSet0, ↓w_sSetR0, ↓w_sIncP0, ↓w_sIncM0, ↓w_eLoc1, ↓w_rLoc1, ↓w_sSet1, ↓w_sSetR1, ↓w_sIncP1, ↓w_sIncM1, ↓w_eLoc2, ↓w_rLoc2, ↓w_sSet2, ↓w_sSetR2, ↓w_sIncP2, ↓w_sIncM2, ↓w_eLoc3, ↓w_rLoc3, ↓w_sSet3, ↓w_sSetR3, ↓w_sIncP3, ↓w_sIncM3, ↓w_eLoc4, ↓w_rLoc4, ↓w_sSet4, ↓w_sSetR4, ↓w_sIncP4, ↓w_sIncM4, ↓w_eLoc5, ↓w_rLoc5, ↓w_sSet5, ↓w_sSetR5, ↓w_sIncP5, ↓w_sIncM5, ↓w_eLoc6, ↓w_rLoc6, ↓w_sSet6, ↓w_sSetR6, ↓w_sIncP6, ↓w_sIncM6, ↓w_eLoc7, ↓w_rLoc7, ↓w_sSet7, ↓w_sSetR7, ↓w_sIncP7, ↓w_sIncM7, ↓w_eLoc8, ↓w_rLoc8, ↓w_sSet8, ↓w_sSetR8, ↓w_sIncP8, ↓w_sIncM8, ↓w_eLoc9, ↓w_rLoc9, ↓w_sSet9, ↓w_sSetR9, ↓w_sIncP9, ↓w_sIncM9, ↓w_eLoc10, ↓w_rLoc10, ↓w_sSet10, ↓w_sSetR10, ↓w_sIncP10, ↓w_sIncM10, ↓w_eLoc11, ↓w_rLoc11, ↓w_sSet11, ↓w_sSetR11, ↓w_sIncP11, ↓w_sIncM11, ↓w_eLoc12, ↓w_rLoc12, ↓w_sSet12, ↓w_sSetR12, ↓w_sIncP12, ↓w_sIncM12, ↓w_eLoc13, ↓w_rLoc13, ↓w_sSet13, ↓w_sSetR13, ↓w_sIncP13, ↓w_sIncM13, ↓w_eIntN, ↓w_eIntM, ↓w_bZi, ↓w_add, ↓w_sub, ↓w_mul, ↓w_neg, ↓w_nar, ↓w_div, ↓w_ldne, ↓w_ldat, ↓w_ldj, List.length_cons, List.length_nil, Nat.reduceAdd, Nat.reduceSub, Nat.reduceLeDiff, List.replicate_succ, List.replicate_zero, List.cons_append, List.nil_append, List.append_nil, iz_nI, iz_ofNat, iz_add, iz_sub, iz_mul, cz_lt, cz_le, cz_gt, cz_ge, cz_eq, cz_ne, mIn_iz, iz_nat, decide_eq_true_eq, Bool.not_eq_true', decide_eq_false_iff_not, true_and, and_true, ↓reduceIte, not_true_eq_false, not_false_eq_true, w01_bI, w01_i0, w01_i1, bI_ne', bI_eq', bI_t, bI_f, Bool.false_eq_true, false_implies, forall_const, implies_true, true_implies, imp_self, eq_self, cz10, cz00, w01_0, w01_1, Bool.true_eq_false, Bool.not_true, Bool.not_false, decide_true, decide_false, ↓tO_0, ↓tR_0_0, ↓tI_0_1, ↓tR_0_2, ↓tR_0_3, ↓tR_0_4, ↓tR_0_5, ↓tR_0_6, ↓tI_0_7, ↓tR_0_8, ↓tR_0_9, ↓tR_0_10, ↓tR_0_11, ↓tR_0_12, ↓tA_1, ↓tN_1, ↓tO_2, ↓tR_2_0, ↓tR_2_1, ↓tR_2_2, ↓tI_2_3, ↓tI_2_4, ↓tI_2_5, ↓tI_2_6, ↓tI_2_7, ↓tI_2_8, ↓tA_3, ↓tN_3, ↓tA_4, ↓tN_4, ↓tA_5, ↓tN_5]
    refine wS_wh (fun m l D => ∃ i j : Nat, m = L - i ∧ i ≤ L ∧ l = [.ref 2, .ref 1, .int (iz L), .int (iz i)] ∧ rn cW b L i = st b L j ∧ (∀ q, q < j → st b L q < L) ∧ D 2 3 = iz j ∧ (∀ q, q < j → D 3 q = iz (kj b L q) ∧ D 4 q = iz (vj b L q) ∧ D 5 q = iz (st b L q)) ∧ (∀ a, a ≠ 2 → a ≠ 3 → a ≠ 4 → a ≠ 5 → D a = C a) ∧ (∀ q, q ≠ 3 → q ≠ 4 → q ≠ 5 → q ≠ 6 → D 2 q = C 2 q)) ?_ L _ _ ⟨0, 0, by omega, by omega, rfl, rfl, fun q hq => by omega, up_at, fun q hq => by omega, fun a a1 _ _ _ => up_k a1, fun q q1 _ _ _ => up_j q1⟩
    rintro m l D ⟨i, j, rfl, hi, rfl, hs, hq, d3, dT, dA, d2⟩
    have hBD : BOK D b L := ⟨hl, fun q q1 => by rw [dA 1 (by omega) (by omega) (by omega) (by omega)]; exact hB.2 q q1⟩
    have jst := st_ge hq
    have jst2 := (st_ok (b := b) (L := L) j).1
    by_cases hlt : (i : Int) < L
    · obtain ⟨ri, ei⟩ := hBD.2 i (by omega)
      have ei : D 1 (i : Int).toNat = iz (bS (b i)) := by rw [Int.toNat_natCast]; exact ei
      have rb := bS_rg ri
      have q32 := bS_eq (x := 32) ri (by omega)
      have q10 := bS_eq (x := 10) ri (by omega)
      have si := sv_lt (b := b) (L := L) (i := i) (by omega)
      by_cases g : cW (b i) = true
      · have hs1 : rn cW b L (i + 1) = st b L j := by rw [← rn_s cW_m (by rw [si]; exact g)]; exact hs
        have gg := of_decide_eq_true g
        by_cases g1 : bS (b i) = 32
        · simp (disch := omega) only [↓w_eBin, ↓w_eUn, ↓w_eDiv, ↓w_eRem, ↓w_eFld, ↓w_rFld, ↓w_eALd, ↓w_rALd, ↓w_eALen, ↓w_rStr, ↓w_aNil, ↓w_aI, ↓w_aR, ↓w_N, ↓w_eCall, ↓w_X, ↓w_bCmp, ↓w_bAnd, ↓w_bOr, ↓w_bNot, ↓w_eB, ↓w_eIte, ↓w_sSkip, ↓w_sRet, ↓w_sRetZ, ↓w_sRetV, ↓w_sBrk, ↓w_sCont, ↓w_sIf, ↓w_sSeq, ↓w_sCaC, ↓w_sCaB, ↓w_sSw, ↓w_sCall, ↓w_sPut, ↓w_sPutOp, ↓w_sASt, ↓w_sAOp, ↓w_sADiv, ↓w_eLoc0, ↓w_rLoc0, ↓w_sSet0, ↓w_sSetR0, ↓w_sIncP0, ↓w_sIncM0, ↓w_eLoc1, ↓w_rLoc1, ↓w_sSet1, ↓w_sSetR1, ↓w_sIncP1, ↓w_sIncM1, ↓w_eLoc2, ↓w_rLoc2, ↓w_sSet2, ↓w_sSetR2, ↓w_sIncP2, ↓w_sIncM2, ↓w_eLoc3, ↓w_rLoc3, ↓w_sSet3, ↓w_sSetR3, ↓w_sIncP3, ↓w_sIncM3, ↓w_eLoc4, ↓w_rLoc4, ↓w_sSet4, ↓w_sSetR4, ↓w_sIncP4, ↓w_sIncM4, ↓w_eLoc5, ↓w_rLoc5, ↓w_sSet5, ↓w_sSetR5, ↓w_sIncP5, ↓w_sIncM5, ↓w_eLoc6, ↓w_rLoc6, ↓w_sSet6, ↓w_sSetR6, ↓w_sIncP6, ↓w_sIncM6, ↓w_eLoc7, ↓w_rLoc7, ↓w_sSet7, ↓w_sSetR7, ↓w_sIncP7, ↓w_sIncM7, ↓w_eLoc8, ↓w_rLoc8, ↓w_sSet8, ↓w_sSetR8, ↓w_sIncP8, ↓w_sIncM8, ↓w_eLoc9, ↓w_rLoc9, ↓w_sSet9, ↓w_sSetR9, ↓w_sIncP9, ↓w_sIncM9, ↓w_eLoc10, ↓w_rLoc10, ↓w_sSet10, ↓w_sSetR10, ↓w_sIncP10, ↓w_sIncM10, ↓w_eLoc11, ↓w_rLoc11, ↓w_sSet11, ↓w_sSetR11, ↓w_sIncP11, ↓w_sIncM11, ↓w_eLoc12, ↓w_rLoc12, ↓w_sSet12, ↓w_sSetR12, ↓w_sIncP12, ↓w_sIncM12, ↓w_eLoc13, ↓w_rLoc13, ↓w_sSet13, ↓w_sSetR13, ↓w_sIncP13, ↓w_sIncM13, ↓w_eIntN, ↓w_eIntM, ↓w_bZi, ↓w_add, ↓w_sub, ↓w_mul, ↓w_neg, ↓w_nar, ↓w_div, ↓w_ldne, ↓w_ldat, ↓w_ldj, List.length_cons, List.length_nil, Nat.reduceAdd, Nat.reduceSub, Nat.reduceLeDiff, List.replicate_succ, List.replicate_zero, List.cons_append, List.nil_append, List.append_nil, iz_nI, iz_ofNat, iz_add, iz_sub, iz_mul, cz_lt, cz_le, cz_gt, cz_ge, cz_eq, cz_ne, mIn_iz, iz_nat, decide_eq_true_eq, Bool.not_eq_true', decide_eq_false_iff_not, true_and, and_true, ↓reduceIte, not_true_eq_false, not_false_eq_true, w01_bI, w01_i0, w01_i1, bI_ne', bI_eq', bI_t, bI_f, Bool.false_eq_true, false_implies, forall_const, implies_true, true_implies, imp_self, eq_self, cz10, cz00, w01_0, w01_1, Bool.true_eq_false, Bool.not_true, Bool.not_false, decide_true, decide_false, ↓tO_0, ↓tR_0_0, ↓tI_0_1, ↓tR_0_2, ↓tR_0_3, ↓tR_0_4, ↓tR_0_5, ↓tR_0_6, ↓tI_0_7, ↓tR_0_8, ↓tR_0_9, ↓tR_0_10, ↓tR_0_11, ↓tR_0_12, ↓tA_1, ↓tN_1, ↓tO_2, ↓tR_2_0, ↓tR_2_1, ↓tR_2_2, ↓tI_2_3, ↓tI_2_4, ↓tI_2_5, ↓tI_2_6, ↓tI_2_7, ↓tI_2_8, ↓tA_3, ↓tN_3, ↓tA_4, ↓tN_4, ↓tA_5, ↓tN_5, ↓wLd_of ei, hlt, g1]
          exact ⟨L - (i + 1), by omega, i + 1, j, by omega, by omega, by rw [show ((i + 1 : Nat) : Int) = (i : Int) + 1 by omega], hs1, hq, d3, dT, dA, d2⟩
        · have g2 : bS (b i) = 10 := by omega
          simp (disch := omega) only [↓w_eBin, ↓w_eUn, ↓w_eDiv, ↓w_eRem, ↓w_eFld, ↓w_rFld, ↓w_eALd, ↓w_rALd, ↓w_eALen, ↓w_rStr, ↓w_aNil, ↓w_aI, ↓w_aR, ↓w_N, ↓w_eCall, ↓w_X, ↓w_bCmp, ↓w_bAnd, ↓w_bOr, ↓w_bNot, ↓w_eB, ↓w_eIte, ↓w_sSkip, ↓w_sRet, ↓w_sRetZ, ↓w_sRetV, ↓w_sBrk, ↓w_sCont, ↓w_sIf, ↓w_sSeq, ↓w_sCaC, ↓w_sCaB, ↓w_sSw, ↓w_sCall, ↓w_sPut, ↓w_sPutOp, ↓w_sASt, ↓w_sAOp, ↓w_sADiv, ↓w_eLoc0, ↓w_rLoc0, ↓w_sSet0, ↓w_sSetR0, ↓w_sIncP0, ↓w_sIncM0, ↓w_eLoc1, ↓w_rLoc1, ↓w_sSet1, ↓w_sSetR1, ↓w_sIncP1, ↓w_sIncM1, ↓w_eLoc2, ↓w_rLoc2, ↓w_sSet2, ↓w_sSetR2, ↓w_sIncP2, ↓w_sIncM2, ↓w_eLoc3, ↓w_rLoc3, ↓w_sSet3, ↓w_sSetR3, ↓w_sIncP3, ↓w_sIncM3, ↓w_eLoc4, ↓w_rLoc4, ↓w_sSet4, ↓w_sSetR4, ↓w_sIncP4, ↓w_sIncM4, ↓w_eLoc5, ↓w_rLoc5, ↓w_sSet5, ↓w_sSetR5, ↓w_sIncP5, ↓w_sIncM5, ↓w_eLoc6, ↓w_rLoc6, ↓w_sSet6, ↓w_sSetR6, ↓w_sIncP6, ↓w_sIncM6, ↓w_eLoc7, ↓w_rLoc7, ↓w_sSet7, ↓w_sSetR7, ↓w_sIncP7, ↓w_sIncM7, ↓w_eLoc8, ↓w_rLoc8, ↓w_sSet8, ↓w_sSetR8, ↓w_sIncP8, ↓w_sIncM8, ↓w_eLoc9, ↓w_rLoc9, ↓w_sSet9, ↓w_sSetR9, ↓w_sIncP9, ↓w_sIncM9, ↓w_eLoc10, ↓w_rLoc10, ↓w_sSet10, ↓w_sSetR10, ↓w_sIncP10, ↓w_sIncM10, ↓w_eLoc11, ↓w_rLoc11, ↓w_sSet11, ↓w_sSetR11, ↓w_sIncP11, ↓w_sIncM11, ↓w_eLoc12, ↓w_rLoc12, ↓w_sSet12, ↓w_sSetR12, ↓w_sIncP12, ↓w_sIncM12, ↓w_eLoc13, ↓w_rLoc13, ↓w_sSet13, ↓w_sSetR13, ↓w_sIncP13, ↓w_sIncM13, ↓w_eIntN, ↓w_eIntM, ↓w_bZi, ↓w_add, ↓w_sub, ↓w_mul, ↓w_neg, ↓w_nar, ↓w_div, ↓w_ldne, ↓w_ldat, ↓w_ldj, List.length_cons, List.length_nil, Nat.reduceAdd, Nat.reduceSub, Nat.reduceLeDiff, List.replicate_succ, List.replicate_zero, List.cons_append, List.nil_append, List.append_nil, iz_nI, iz_ofNat, iz_add, iz_sub, iz_mul, cz_lt, cz_le, cz_gt, cz_ge, cz_eq, cz_ne, mIn_iz, iz_nat, decide_eq_true_eq, Bool.not_eq_true', decide_eq_false_iff_not, true_and, and_true, ↓reduceIte, not_true_eq_false, not_false_eq_true, w01_bI, w01_i0, w01_i1, bI_ne', bI_eq', bI_t, bI_f, Bool.false_eq_true, false_implies, forall_const, implies_true, true_implies, imp_self, eq_self, cz10, cz00, w01_0, w01_1, Bool.true_eq_false, Bool.not_true, Bool.not_false, decide_true, decide_false, ↓tO_0, ↓tR_0_0, ↓tI_0_1, ↓tR_0_2, ↓tR_0_3, ↓tR_0_4, ↓tR_0_5, ↓tR_0_6, ↓tI_0_7, ↓tR_0_8, ↓tR_0_9, ↓tR_0_10, ↓tR_0_11, ↓tR_0_12, ↓tA_1, ↓tN_1, ↓tO_2, ↓tR_2_0, ↓tR_2_1, ↓tR_2_2, ↓tI_2_3, ↓tI_2_4, ↓tI_2_5, ↓tI_2_6, ↓tI_2_7, ↓tI_2_8, ↓tA_3, ↓tN_3, ↓tA_4, ↓tN_4, ↓tA_5, ↓tN_5, ↓wLd_of ei, hlt, g1, g2, Int.reduceEq]
          exact ⟨L - (i + 1), by omega, i + 1, j, by omega, by omega, by rw [show ((i + 1 : Nat) : Int) = (i : Int) + 1 by omega], hs1, hq, d3, dT, dA, d2⟩
      · have g' : cW (b i) = false := by simpa using g
        have gg := of_decide_eq_false g'
        have g1 : ¬ bS (b i) = 32 := by omega
        have g2 : ¬ bS (b i) = 10 := by omega
        have sj : st b L j = i := by rw [← hs]; exact rn_0 cW_m (by rw [si]; exact g')
        have tb := tE_ok (b := b) (L := L) (i := i) (by omega)
        have sc := rc_scanTok (i := i) (j := j) hBD (by omega) d3 (by omega)
        have mx : ∀ (E : mMem) Q, wF f_J_max [.int (iz (i : Int)), .int (iz ((tE b L i : Int) - 1))] E Q ↔ Q (some (iz ((tE b L i : Int) - 1))) E := fun E Q => by
          apply wF_eq
          unfold f_J_max
          simp only [iz_lt (a := (i : Int)) (b := (tE b L i : Int) - 1) (by omega)]
          by_cases z : (i : Int) < (tE b L i : Int) - 1
          · rw [if_pos z]
          · rw [if_neg z, show (i : Int) = (tE b L i : Int) - 1 by omega]
        have e1 : (tE b L i : Int) - 1 + 1 = tE b L i := by omega
        simp (disch := omega) only [↓w_eBin, ↓w_eUn, ↓w_eDiv, ↓w_eRem, ↓w_eFld, ↓w_rFld, ↓w_eALd, ↓w_rALd, ↓w_eALen, ↓w_rStr, ↓w_aNil, ↓w_aI, ↓w_aR, ↓w_N, ↓w_eCall, ↓w_X, ↓w_bCmp, ↓w_bAnd, ↓w_bOr, ↓w_bNot, ↓w_eB, ↓w_eIte, ↓w_sSkip, ↓w_sRet, ↓w_sRetZ, ↓w_sRetV, ↓w_sBrk, ↓w_sCont, ↓w_sIf, ↓w_sSeq, ↓w_sCaC, ↓w_sCaB, ↓w_sSw, ↓w_sCall, ↓w_sPut, ↓w_sPutOp, ↓w_sASt, ↓w_sAOp, ↓w_sADiv, ↓w_eLoc0, ↓w_rLoc0, ↓w_sSet0, ↓w_sSetR0, ↓w_sIncP0, ↓w_sIncM0, ↓w_eLoc1, ↓w_rLoc1, ↓w_sSet1, ↓w_sSetR1, ↓w_sIncP1, ↓w_sIncM1, ↓w_eLoc2, ↓w_rLoc2, ↓w_sSet2, ↓w_sSetR2, ↓w_sIncP2, ↓w_sIncM2, ↓w_eLoc3, ↓w_rLoc3, ↓w_sSet3, ↓w_sSetR3, ↓w_sIncP3, ↓w_sIncM3, ↓w_eLoc4, ↓w_rLoc4, ↓w_sSet4, ↓w_sSetR4, ↓w_sIncP4, ↓w_sIncM4, ↓w_eLoc5, ↓w_rLoc5, ↓w_sSet5, ↓w_sSetR5, ↓w_sIncP5, ↓w_sIncM5, ↓w_eLoc6, ↓w_rLoc6, ↓w_sSet6, ↓w_sSetR6, ↓w_sIncP6, ↓w_sIncM6, ↓w_eLoc7, ↓w_rLoc7, ↓w_sSet7, ↓w_sSetR7, ↓w_sIncP7, ↓w_sIncM7, ↓w_eLoc8, ↓w_rLoc8, ↓w_sSet8, ↓w_sSetR8, ↓w_sIncP8, ↓w_sIncM8, ↓w_eLoc9, ↓w_rLoc9, ↓w_sSet9, ↓w_sSetR9, ↓w_sIncP9, ↓w_sIncM9, ↓w_eLoc10, ↓w_rLoc10, ↓w_sSet10, ↓w_sSetR10, ↓w_sIncP10, ↓w_sIncM10, ↓w_eLoc11, ↓w_rLoc11, ↓w_sSet11, ↓w_sSetR11, ↓w_sIncP11, ↓w_sIncM11, ↓w_eLoc12, ↓w_rLoc12, ↓w_sSet12, ↓w_sSetR12, ↓w_sIncP12, ↓w_sIncM12, ↓w_eLoc13, ↓w_rLoc13, ↓w_sSet13, ↓w_sSetR13, ↓w_sIncP13, ↓w_sIncM13, ↓w_eIntN, ↓w_eIntM, ↓w_bZi, ↓w_add, ↓w_sub, ↓w_mul, ↓w_neg, ↓w_nar, ↓w_div, ↓w_ldne, ↓w_ldat, ↓w_ldj, List.length_cons, List.length_nil, Nat.reduceAdd, Nat.reduceSub, Nat.reduceLeDiff, List.replicate_succ, List.replicate_zero, List.cons_append, List.nil_append, List.append_nil, iz_nI, iz_ofNat, iz_add, iz_sub, iz_mul, cz_lt, cz_le, cz_gt, cz_ge, cz_eq, cz_ne, mIn_iz, iz_nat, decide_eq_true_eq, Bool.not_eq_true', decide_eq_false_iff_not, true_and, and_true, ↓reduceIte, not_true_eq_false, not_false_eq_true, w01_bI, w01_i0, w01_i1, bI_ne', bI_eq', bI_t, bI_f, Bool.false_eq_true, false_implies, forall_const, implies_true, true_implies, imp_self, eq_self, cz10, cz00, w01_0, w01_1, Bool.true_eq_false, Bool.not_true, Bool.not_false, decide_true, decide_false, ↓tO_0, ↓tR_0_0, ↓tI_0_1, ↓tR_0_2, ↓tR_0_3, ↓tR_0_4, ↓tR_0_5, ↓tR_0_6, ↓tI_0_7, ↓tR_0_8, ↓tR_0_9, ↓tR_0_10, ↓tR_0_11, ↓tR_0_12, ↓tA_1, ↓tN_1, ↓tO_2, ↓tR_2_0, ↓tR_2_1, ↓tR_2_2, ↓tI_2_3, ↓tI_2_4, ↓tI_2_5, ↓tI_2_6, ↓tI_2_7, ↓tI_2_8, ↓tA_3, ↓tN_3, ↓tA_4, ↓tN_4, ↓tA_5, ↓tN_5, ↓wLd_of ei, hlt, g1, g2, ↓wF_eq sc, ↓mx, e1]
        refine ⟨L - tE b L i, by omega, tE b L i, j + 1, rfl, tb.2, rfl, ?_, fun q q1 => ?_, ?_, fun q q1 => ?_, fun a a1 a2 a3 a4 => ?_, fun q q1 q2 q3 q4 => ?_⟩
        · rw [st, sj, if_neg (by omega)]
        · by_cases z : q = j
          · subst z; omega
          · exact hq q (by omega)
        · unfold tkPut; rw [up_at]; rfl
        · unfold tkPut
          by_cases z : q = j
          · subst z
            unfold kj vj
            rw [sj]
            simp (disch := omega) only [up_k, up_at, and_self]
          · simp (disch := omega) only [up_k, up_j]
            exact dT q (by omega)
        · unfold tkPut
          rw [up_k a1, up_k a4, up_k a3, up_k a2]; exact dA a a1 a2 a3 a4
        · unfold tkPut
          rw [up_j q1, up_k (by omega), up_k (by omega), up_k (by omega)]; exact d2 q q1 q2 q3 q4
    · have hiL : i = L := by omega
      subst hiL
      have sj : st b i j = i := by
        rw [← hs]
        refine rn_0 cW_m ?_
        unfold sv; rw [if_neg (by omega)]; exact cW_m
      have k0 : kj b i j = 0 := by unfold kj; rw [sj]; exact tK_rg.1 (Nat.le_refl _)
      have v0 : vj b i j = 0 := by
        have z : cD (sv b i i) = false := by unfold sv; rw [if_neg (by omega)]; exact cD_m
        unfold vj tV
        rw [sj, z, if_neg (by simp)]
      have hA : TokA (tkPut D j 0 0 i) b i j := by
        refine ⟨sj, hq, hl, by omega, fun q q1 => (hB.2 q q1).1, fun q q1 => ?_⟩
        unfold tkPut
        by_cases z : q = j
        · subst z
          rw [k0, v0, sj]
          simp (disch := omega) only [up_k, up_at, and_self]
        · simp (disch := omega) only [up_k, up_j]
          exact dT q (by omega)
      obtain ⟨a1, a2, a3⟩ := hA.2.2.2.2.2 0 (by omega)
      have a1' : tkPut D j 0 0 i 3 (0 : Int).toNat = iz (kj b i 0) := a1
      have a2' : tkPut D j 0 0 i 4 (0 : Int).toNat = iz (vj b i 0) := a2
      simp (disch := omega) only [↓w_eBin, ↓w_eUn, ↓w_eDiv, ↓w_eRem, ↓w_eFld, ↓w_rFld, ↓w_eALd, ↓w_rALd, ↓w_eALen, ↓w_rStr, ↓w_aNil, ↓w_aI, ↓w_aR, ↓w_N, ↓w_eCall, ↓w_X, ↓w_bCmp, ↓w_bAnd, ↓w_bOr, ↓w_bNot, ↓w_eB, ↓w_eIte, ↓w_sSkip, ↓w_sRet, ↓w_sRetZ, ↓w_sRetV, ↓w_sBrk, ↓w_sCont, ↓w_sIf, ↓w_sSeq, ↓w_sCaC, ↓w_sCaB, ↓w_sSw, ↓w_sCall, ↓w_sPut, ↓w_sPutOp, ↓w_sASt, ↓w_sAOp, ↓w_sADiv, ↓w_eLoc0, ↓w_rLoc0, ↓w_sSet0, ↓w_sSetR0, ↓w_sIncP0, ↓w_sIncM0, ↓w_eLoc1, ↓w_rLoc1, ↓w_sSet1, ↓w_sSetR1, ↓w_sIncP1, ↓w_sIncM1, ↓w_eLoc2, ↓w_rLoc2, ↓w_sSet2, ↓w_sSetR2, ↓w_sIncP2, ↓w_sIncM2, ↓w_eLoc3, ↓w_rLoc3, ↓w_sSet3, ↓w_sSetR3, ↓w_sIncP3, ↓w_sIncM3, ↓w_eLoc4, ↓w_rLoc4, ↓w_sSet4, ↓w_sSetR4, ↓w_sIncP4, ↓w_sIncM4, ↓w_eLoc5, ↓w_rLoc5, ↓w_sSet5, ↓w_sSetR5, ↓w_sIncP5, ↓w_sIncM5, ↓w_eLoc6, ↓w_rLoc6, ↓w_sSet6, ↓w_sSetR6, ↓w_sIncP6, ↓w_sIncM6, ↓w_eLoc7, ↓w_rLoc7, ↓w_sSet7, ↓w_sSetR7, ↓w_sIncP7, ↓w_sIncM7, ↓w_eLoc8, ↓w_rLoc8, ↓w_sSet8, ↓w_sSetR8, ↓w_sIncP8, ↓w_sIncM8, ↓w_eLoc9, ↓w_rLoc9, ↓w_sSet9, ↓w_sSetR9, ↓w_sIncP9, ↓w_sIncM9, ↓w_eLoc10, ↓w_rLoc10, ↓w_sSet10, ↓w_sSetR10, ↓w_sIncP10, ↓w_sIncM10, ↓w_eLoc11, ↓w_rLoc11, ↓w_sSet11, ↓w_sSetR11, ↓w_sIncP11, ↓w_sIncM11, ↓w_eLoc12, ↓w_rLoc12, ↓w_sSet12, ↓w_sSetR12, ↓w_sIncP12, ↓w_sIncM12, ↓w_eLoc13, ↓w_rLoc13, ↓w_sSet13, ↓w_sSetR13, ↓w_sIncP13, ↓w_sIncM13, ↓w_eIntN, ↓w_eIntM, ↓w_bZi, ↓w_add, ↓w_sub, ↓w_mul, ↓w_neg, ↓w_nar, ↓w_div, ↓w_ldne, ↓w_ldat, ↓w_ldj, List.length_cons, List.length_nil, Nat.reduceAdd, Nat.reduceSub, Nat.reduceLeDiff, List.replicate_succ, List.replicate_zero, List.cons_append, List.nil_append, List.append_nil, iz_nI, iz_ofNat, iz_add, iz_sub, iz_mul, cz_lt, cz_le, cz_gt, cz_ge, cz_eq, cz_ne, mIn_iz, iz_nat, decide_eq_true_eq, Bool.not_eq_true', decide_eq_false_iff_not, true_and, and_true, ↓reduceIte, not_true_eq_false, not_false_eq_true, w01_bI, w01_i0, w01_i1, bI_ne', bI_eq', bI_t, bI_f, Bool.false_eq_true, false_implies, forall_const, implies_true, true_implies, imp_self, eq_self, cz10, cz00, w01_0, w01_1, Bool.true_eq_false, Bool.not_true, Bool.not_false, decide_true, decide_false, ↓tO_0, ↓tR_0_0, ↓tI_0_1, ↓tR_0_2, ↓tR_0_3, ↓tR_0_4, ↓tR_0_5, ↓tR_0_6, ↓tI_0_7, ↓tR_0_8, ↓tR_0_9, ↓tR_0_10, ↓tR_0_11, ↓tR_0_12, ↓tA_1, ↓tN_1, ↓tO_2, ↓tR_2_0, ↓tR_2_1, ↓tR_2_2, ↓tI_2_3, ↓tI_2_4, ↓tI_2_5, ↓tI_2_6, ↓tI_2_7, ↓tI_2_8, ↓tA_3, ↓tN_3, ↓tA_4, ↓tN_4, ↓tA_5, ↓tN_5, hlt, ↓wf_tput d3 (by omega : j ≤ 400), ↓wLd_of a1', ↓wLd_of a2']
      refine ⟨j, ⟨tokA_fr hA (fun a q z => by rw [up_k (by omega), up_k (by omega), up_k (by omega)]), ?_, ?_, up_at⟩, fun a b1 b2 b3 b4 => ?_, fun q q1 q2 q3 q4 => ?_⟩
      · rw [up_j (by omega), up_j (by omega), up_at, Nat.zero_min]; rfl
      · rw [up_j (by omega), up_at]
      · rw [up_k b1, up_k b1, up_k b1]
        unfold tkPut
        rw [up_k b1, up_k b4, up_k b3, up_k b2]; exact dA a b1 b2 b3 b4
      · rw [up_j q4, up_j q3, up_j q2]
        unfold tkPut
        rw [up_j q1, up_k (by omega), up_k (by omega), up_k (by omega)]; exact d2 q q1 q2 q3 q4
  obtain ⟨o, D, e, rfl, n, r⟩ := wF_of key
  exact ⟨n, D, e, r⟩
end
end

/-! one who presses for fun: in thought -/
def aFun (A : aS) (p f : Int) : aS := aUp (aUp A 32 1 p) 32 2 f
theorem aFun_r {A : aS} {p f k q : Int} (h : k ≠ 32 ∨ q = 0) : aFun A p f k q = A k q := by
  unfold aFun
  by_cases e : k = 32
  · rw [aUp_i (by omega), aUp_i (by omega)]
  · rw [aUp_k e, aUp_k e]
theorem aFun_1 {A : aS} {p f : Int} : aFun A p f 32 1 = p := by unfold aFun; rw [aUp_i (by omega), aUp_at]
theorem aFun_2 {A : aS} {p f : Int} : aFun A p f 32 2 = f := by unfold aFun; rw [aUp_at]
theorem WfA_fun {A : aS} {p f : Int} (hw : WfA A) (h0 : A 32 0 = -1) (hp : -1 ≤ p ∧ p < 60) (hf : 0 ≤ f ∧ f < A 30 0) : WfA (aFun A p f) := by
  obtain ⟨⟨hG, hP, hC, hS, hF⟩, hD⟩ := hw
  refine ⟨⟨?_, fun q h0 h1 => ?_, fun d h0 h1 => ?_, fun d f => ?_, fun q h0' h1 h2 h3 => ?_⟩, fun c h0 h1 => ?_⟩
  · unfold WfG at hG ⊢
    simp (disch := omega) only [aFun_r, aFun_1, aFun_2]
    omega
  · rw [aFun_r (by omega)] at h1
    have hq := hP q h0 h1
    unfold WfP at hq ⊢
    simp (disch := omega) only [aFun_r]
    exact hq
  · rw [aFun_r (by omega)] at h1
    have hq := hC d h0 h1
    unfold WfC at hq ⊢
    simp (disch := omega) only [aFun_r]
    exact hq
  · intro a b e g
    rw [aFun_r (by omega)]
    exact hS d f a b e g
  · rw [aFun_r (by omega)]; exact h0
  · rw [aFun_r (by omega)] at h1
    exact WfD_i (fun k k1 k2 => aFun_r (by omega)) (aFun_r (by omega)) (hD c h0 h1)
theorem relW_fun {C : mMem} {a : Nat} {A B : aS} (h : RelW C a A) (h0 : A 32 0 = -1) (hB0 : B 32 0 = -1) (hB : ∀ k q, k ≠ 32 → B k q = A k q) : RelW C a B := by
  obtain ⟨h1, h2, h3, h4, h5, h6⟩ := h
  refine ⟨fun k p a1 a2 a3 a4 => ?_, fun k c a1 a2 a3 a4 => ?_, fun i a1 a2 => ?_, fun c f a1 a2 a3 a4 => ?_, fun c f a1 a2 a3 a4 => ?_, fun f a1 a2 => ?_⟩
  · rw [hB _ _ (by omega)]; exact h1 k p a1 a2 a3 a4
  · rw [hB _ _ (by omega)]; exact h2 k c a1 a2 a3 a4
  · rw [hB _ _ (by omega)]; exact h3 i a1 a2
  · rw [hB _ _ (by omega)]; exact h4 c f a1 a2 a3 a4
  · rw [h5 c f a1 a2 a3 a4, if_neg (by omega), if_neg (by omega)]
  · rw [hB _ _ (by omega)]; exact h6 f a1 a2
theorem aOv_but {A : aS} {p : Int} {n : Nat} (hp : 0 ≤ p) : aOv A p n = if p < n then aOv A (-1) n - (A 6 p - A 0 p) else aOv A (-1) n := by
  induction n with
  | zero => rw [if_neg (by omega)]; rfl
  | succ n ih =>
    rw [aOv, aOv, ih, if_neg (by omega : ¬ (n : Int) = -1)]
    by_cases e : (n : Int) = p
    · subst e
      rw [if_pos rfl, if_neg (by omega), if_pos (by omega)]; omega
    · rw [if_neg e]
      by_cases e2 : p < n
      · rw [if_pos e2, if_pos (by omega)]; omega
      · rw [if_neg e2, if_neg (by omega)]
theorem rf_fun {C : mMem} {A : aS} {p f : Int} {ev : aEv} (hM : RelM C A) (hw : WfA A) (hnow : A 30 3 ≤ 19999) (h0 : A 32 0 = -1) (h28 : C 139 28 = iz 0) (hev : EvM C (A 30 4) ev) (hp : 0 ≤ p ∧ p < A 30 2) (hf : 0 ≤ f ∧ f < A 30 0) (h3 : A 3 p = 1) (hf1 : ¬ f = A 1 p) (hf2 : ¬ f = A 2 p) :
    ∃ (g h : Nat) (v : Int) (F : mMem), f_M_fun [.ref 139, .int (iz p), .int (iz f)] C = some (some (iz v), F) ∧ aEnd (aCh1 ev) A 3000 g ∧ aEnd (aCh1 ev) (aFun A p f) 3000 h ∧
      v = (if aThr (aIt (aCh1 ev) A g) < A 30 2 then -100000 else if aThr (aIt (aCh1 ev) (aFun A p f) h) < A 30 2 then -100000 else aOv (aIt (aCh1 ev) (aFun A p f) h) p (A 30 2).toNat - aOv (aIt (aCh1 ev) A g) p (A 30 2).toNat) ∧
      F 140 = C 140 ∧ (∀ a, a ≠ 139 → a ≠ 142 → a ≠ 147 → a ≠ 148 → F a = C a) ∧ (∀ i, i ≠ 26 → i ≠ 31 → i ≠ 29 → i ≠ 30 → F 139 i = C 139 i) ∧ F 139 29 = iz (-1) ∧ F 139 30 = iz f := by
  have hgr : 0 ≤ A 30 2 ∧ A 30 2 ≤ 60 ∧ 0 ≤ A 30 0 ∧ A 30 0 ≤ 80 := by
    have hg := hw.1.1
    unfold WfG at hg
    omega
  have hpp := hw.1.2.1 p hp.1 hp.2
  unfold WfP at hpp
  have hpr : 0 ≤ A 1 p ∧ A 1 p < 80 ∧ 0 ≤ A 2 p ∧ A 2 p < 80 := by omega
  clear hpp
  have hg' := hw.1.1
  have g1 : 0 ≤ p ∧ p < A 30 2 := hp
  have g2 : 0 ≤ f ∧ f < A 30 0 := hf
  obtain ⟨D0, e1, d1, d2⟩ := rf_setsOut (C := C)
  have hM0 : RelM D0 A := rm_same hM (d1 140 (by omega)) (by rw [d1 139 (by omega)]) (by rw [d1 139 (by omega)])
  have h28' : D0 139 28 = iz 0 := by rw [d1 139 (by omega)]; exact h28
  obtain ⟨g, E, e2, hend, hE, h31, hFE⟩ := rf_ends (m := 3000) (aCh1_rg ev) (chE_rule h28' (evm_fr hev (fun i _ => by rw [d1 140 (by omega)]))) hM0 hw (by omega)
  obtain ⟨F1, e3, f1, f2, f3⟩ := rf_comesBack (C := E)
  have hQ1 : FrQ C F1 := frQ_back (D1 := D0) d1 d2 (fun _ _ => rfl) (fun _ _ => rfl) hFE f1 f2 f3
  have w1 : ∀ i, i < 1300 → F1 142 i = C 140 i := fun i hi => by rw [f1 142 (by omega), hFE.2.2.1 142 (by omega) (by omega) (by omega), d2 i hi]
  have hMf : RelM (mUp (mUp F1 139 29 (iz p)) 139 30 (iz f)) (aFun A p f) := by
    refine rm_iff.mpr ⟨?_, ?_, ?_⟩
    · refine relW_fun (A := A) ?_ h0 (by rw [aFun_r (by omega)]; exact h0) (fun k q hk => aFun_r (by omega))
      have := (rm_iff.mp hM).1
      unfold RelW at this ⊢
      rw [up_k (by omega), up_k (by omega), hQ1.1]
      exact this
    · rw [up_j (by omega), up_at, aFun_1]
    · rw [up_at, aFun_2]
  have hwf := WfA_fun (p := p) hw h0 (by omega) hf
  have h28'' : mUp (mUp F1 139 29 (iz p)) 139 30 (iz f) 139 28 = iz 0 := by rw [up_j (by omega), up_j (by omega), hQ1.2.2 28 (by omega) (by omega)]; exact h28
  have e304 : aFun A p f 30 4 = A 30 4 := aFun_r (by omega)
  have e302 : aFun A p f 30 2 = A 30 2 := aFun_r (by omega)
  obtain ⟨h, E2, e4, hend2, hE2, h31b, hFE2⟩ := rf_ends (m := 3000) (aCh1_rg ev) (chE_rule h28'' (by rw [e304]; exact evm_fr hev (fun i _ => by rw [up_k (by omega), up_k (by omega), hQ1.1]))) hMf hwf (by rw [aFun_r (by omega)]; omega)
  rw [e302] at e4
  have wG := WfA_it (aCh1_rg ev) hw g (by have := hend.1; omega)
  have wH := WfA_it (aCh1_rg ev) hwf h (by rw [aFun_r (by omega)]; have := hend2.1; omega)
  have nG : aIt (aCh1 ev) A g 30 2 = A 30 2 := aIt_r (by omega)
  have nH : aIt (aCh1 ev) (aFun A p f) h 30 2 = A 30 2 := by rw [aIt_r (by omega)]; exact e302
  have oG : ∀ Q, wF f_M_overAll [.ref 139, .int (iz p)] E Q ↔ Q (some (iz (aOv (aIt (aCh1 ev) A g) p (A 30 2).toNat))) E := fun Q => by rw [← nG]; exact wf_overAll hE wG.1 (by omega)
  have oH : ∀ Q, wF f_M_overAll [.ref 139, .int (iz p)] E2 Q ↔ Q (some (iz (aOv (aIt (aCh1 ev) (aFun A p f) h) p (A 30 2).toNat))) E2 := fun Q => by rw [← nH]; exact wf_overAll hE2 wH.1 (by omega)
  -- the end: from any memory that a run has left
  have back : ∀ M : mMem, FrE (mUp (mUp F1 139 29 (iz p)) 139 30 (iz f)) M → ∃ F, f_M_comesBack [.ref 139] (mUp M 139 29 (iz (-1))) = some (none, F) ∧ F 140 = C 140 ∧ (∀ a, a ≠ 139 → a ≠ 142 → a ≠ 147 → a ≠ 148 → F a = C a) ∧ (∀ i, i ≠ 26 → i ≠ 31 → i ≠ 29 → i ≠ 30 → F 139 i = C 139 i) ∧ F 139 29 = iz (-1) ∧ F 139 30 = iz f := by
    intro M hM
    obtain ⟨F, e5, b1, b2, b3⟩ := rf_comesBack (C := mUp M 139 29 (iz (-1)))
    have h140 : F 140 = C 140 := funext fun i => by
      by_cases e : i < 1300
      · rw [b2 i e, up_k (by omega), hM.2.2.1 142 (by omega) (by omega) (by omega), up_k (by omega), up_k (by omega), w1 i e]
      · rw [b3 i (by omega), up_k (by omega), hM.2.1 i (by omega), up_k (by omega), up_k (by omega), hQ1.1]
    refine ⟨F, e5, h140, fun a a1 a2 a3 a4 => ?_, fun i i1 i2 i3 i4 => ?_, ?_, ?_⟩
    · by_cases e : a = 140
      · subst e; exact h140
      · rw [b1 a e, up_k a1]
        by_cases e2 : a < 139
        · rw [hM.1 a e2, up_k a1, up_k a1, hQ1.2.1 a a1 a2 a3 a4]
        · rw [hM.2.2.1 a (by omega) a3 a4, up_k a1, up_k a1, hQ1.2.1 a a1 a2 a3 a4]
    · rw [b1 139 (by omega), up_j i3, hM.2.2.2 i i1 i2, up_j i4, up_j i3, hQ1.2.2 i i1 i2]
    · rw [b1 139 (by omega), up_at]
    · rw [b1 139 (by omega), up_j (by omega), hM.2.2.2 30 (by omega) (by omega), up_at]
  have e2' : f_M_ends [.ref 139, .int (iz 3000)] D0 = _ := e2
  have e4' : f_M_ends [.ref 139, .int (iz 3000)] (mUp (mUp F1 139 29 (iz p)) 139 30 (iz f)) = _ := e4
  clear e2 e4
  by_cases t1 : aThr (aIt (aCh1 ev) A g) < A 30 2
  · have t1' : decide (¬ aThr (aIt (aCh1 ev) A g) < A 30 2) = false := by simp [t1]
    rw [t1'] at e2'
    obtain ⟨F, e5, rest⟩ := back _ (frE_of (frM_r _))
    refine ⟨g, h, -100000, F, ?_, hend, hend2, by rw [if_pos t1], rest⟩
    apply wF_to
    unfold f_M_fun
    simp only [↓w_rcv, ↓w_bodyI, ↓w_bodyZ, ↓w_bodyV, true_and, List.length_cons, List.length_nil, Nat.reduceAdd, Nat.reduceSub, Nat.reduceLeDiff, List.replicate_succ, List.replicate_zero, List.cons_append, List.nil_append, List.append_nil, ↓tO_0, ↓tO_2, ↓tO_6, ↓tO_11, ↓tO_18, ↓tO_19, ↓tO_27, ↓tO_32, ↓tO_37, ↓tO_43, ↓tO_44, ↓tO_52, ↓tO_62, ↓tO_63, ↓tO_71, ↓tO_76, ↓tO_81, ↓tO_87, ↓tO_88, ↓tO_96, ↓tO_106, ↓tO_107, ↓tO_115, ↓tO_127, ↓tO_127c, ↓tO_133, ↓tO_133c, ↓tO_139]
    unfold S_M_fun
    simp (disch := omega) only [↓w_eBin, ↓w_eUn, ↓w_eDiv, ↓w_eRem, ↓w_eFld, ↓w_rFld, ↓w_eALd, ↓w_rALd, ↓w_eALen, ↓w_rStr, ↓w_aNil, ↓w_aI, ↓w_aR, ↓w_N, ↓w_eCall, ↓w_X, ↓w_bCmp, ↓w_bAnd, ↓w_bOr, ↓w_bNot, ↓w_eB, ↓w_eIte, ↓w_sSkip, ↓w_sRet, ↓w_sRetZ, ↓w_sRetV, ↓w_sBrk, ↓w_sCont, ↓w_sIf, ↓w_sSeq, ↓w_sCaC, ↓w_sCaB, ↓w_sSw, ↓w_sCall, ↓w_sPut, ↓w_sPutOp, ↓w_sASt, ↓w_sAOp, ↓w_sADiv, ↓w_eLoc0, ↓w_rLoc0, ↓w_sSet0, ↓w_sSetR0, ↓w_sIncP0, ↓w_sIncM0, ↓w_eLoc1, ↓w_rLoc1, ↓w_sSet1, ↓w_sSetR1, ↓w_sIncP1, ↓w_sIncM1, ↓w_eLoc2, ↓w_rLoc2, ↓w_sSet2, ↓w_sSetR2, ↓w_sIncP2, ↓w_sIncM2, ↓w_eLoc3, ↓w_rLoc3, ↓w_sSet3, ↓w_sSetR3, ↓w_sIncP3, ↓w_sIncM3, ↓w_eLoc4, ↓w_rLoc4, ↓w_sSet4, ↓w_sSetR4, ↓w_sIncP4, ↓w_sIncM4, ↓w_eLoc5, ↓w_rLoc5, ↓w_sSet5, ↓w_sSetR5, ↓w_sIncP5, ↓w_sIncM5, ↓w_eLoc6, ↓w_rLoc6, ↓w_sSet6, ↓w_sSetR6, ↓w_sIncP6, ↓w_sIncM6, ↓w_eLoc7, ↓w_rLoc7, ↓w_sSet7, ↓w_sSetR7, ↓w_sIncP7, ↓w_sIncM7, ↓w_eLoc8, ↓w_rLoc8, ↓w_sSet8, ↓w_sSetR8, ↓w_sIncP8, ↓w_sIncM8, ↓w_eLoc9, ↓w_rLoc9, ↓w_sSet9, ↓w_sSetR9, ↓w_sIncP9, ↓w_sIncM9, ↓w_eLoc10, ↓w_rLoc10, ↓w_sSet10, ↓w_sSetR10, ↓w_sIncP10, ↓w_sIncM10, ↓w_eLoc11, ↓w_rLoc11, ↓w_sSet11, ↓w_sSetR11, ↓w_sIncP11, ↓w_sIncM11, ↓w_eLoc12, ↓w_rLoc12, ↓w_sSet12, ↓w_sSetR12, ↓w_sIncP12, ↓w_sIncM12, ↓w_eLoc13, ↓w_rLoc13, ↓w_sSet13, ↓w_sSetR13, ↓w_sIncP13, ↓w_sIncM13, ↓w_eIntN, ↓w_eIntM, ↓w_bZi, ↓w_add, ↓w_sub, ↓w_mul, ↓w_neg, ↓w_nar, ↓w_div, ↓w_ldne, ↓w_ldat, ↓w_ldj, List.length_cons, List.length_nil, Nat.reduceAdd, Nat.reduceSub, Nat.reduceLeDiff, List.replicate_succ, List.replicate_zero, List.cons_append, List.nil_append, List.append_nil, iz_nI, iz_ofNat, iz_add, iz_sub, iz_mul, cz_lt, cz_le, cz_gt, cz_ge, cz_eq, cz_ne, mIn_iz, iz_nat, decide_eq_true_eq, Bool.not_eq_true', decide_eq_false_iff_not, true_and, and_true, ↓reduceIte, not_true_eq_false, not_false_eq_true, w01_bI, w01_i0, w01_i1, bI_ne', bI_eq', bI_t, bI_f, Bool.false_eq_true, false_implies, forall_const, implies_true, true_implies, imp_self, eq_self, cz10, cz00, Bool.true_eq_false, Bool.not_true, Bool.not_false, decide_true, decide_false, ↓tO_0, ↓tR_0_0, ↓tI_0_1, ↓tR_0_2, ↓tR_0_3, ↓tR_0_4, ↓tR_0_5, ↓tR_0_6, ↓tI_0_7, ↓tR_0_8, ↓tR_0_9, ↓tR_0_10, ↓tR_0_11, ↓tR_0_12, ↓tO_18, ↓tR_18_0, ↓tR_18_1, ↓tR_18_2, ↓tR_18_3, ↓tI_18_4, ↓tA_45, ↓tN_45, ↓tA_46, ↓tN_46, ↓tA_47, ↓tN_47, ↓tA_48, ↓tN_48, ↓tA_49, ↓tN_49, ↓tA_50, ↓tN_50, ↓tA_51, ↓tN_51, ↓tO_19, ↓tI_19_0, ↓tI_19_1, ↓tI_19_2, ↓tR_19_3, ↓tR_19_4, ↓tR_19_5, ↓tR_19_6, ↓tR_19_7, ↓tR_19_8, ↓tA_20, ↓tN_20, ↓tA_21, ↓tN_21, ↓tA_22, ↓tN_22, ↓tA_23, ↓tN_23, ↓tA_24, ↓tN_24, ↓tA_25, ↓tN_25, ↓tA_42, ↓tN_42, ↓tO_43, ↓tR_43_0, ↓tR_43_1, ↓tR_43_2, ↓tR_43_3, ↓tI_43_4, ↓tI_43_5, ↓tI_43_6, ↓tI_43_7, ↓tI_43_8, ↓tO_44, ↓tI_44_0, ↓tI_44_1, ↓tI_44_2, ↓tI_44_3, ↓tR_44_4, ↓tR_44_5, ↓tR_44_6, ↓tR_44_7, ↓tR_44_8, ↓tR_44_9, ↓tR_44_10, ↓tO_52, ↓tR_52_0, ↓tR_52_1, ↓tR_52_2, ↓tR_52_3, ↓tR_52_4, ↓tR_52_5, ↓tR_52_6, ↓tR_52_7, ↓tO_106, ↓tR_106_0, ↓tR_106_1, ↓tR_106_2, ↓tR_106_3, ↓tI_106_4, ↓tI_106_5, ↓tI_106_6, ↓tI_106_7, ↓tI_106_8, ↓tO_107, ↓tI_107_0, ↓tI_107_1, ↓tI_107_2, ↓tI_107_3, ↓tR_107_4, ↓tR_107_5, ↓tR_107_6, ↓tR_107_7, ↓tR_107_8, ↓tR_107_9, ↓tR_107_10, ↓tA_108, ↓tN_108, ↓tA_109, ↓tN_109, ↓tA_110, ↓tN_110, ↓tA_111, ↓tN_111, ↓tA_112, ↓tN_112, ↓tA_113, ↓tN_113, ↓tA_114, ↓tN_114, ↓tO_115, ↓tR_115_0, ↓tR_115_1, ↓tR_115_2, ↓tR_115_3, ↓tR_115_4, ↓tR_115_5, ↓tR_115_6, ↓tR_115_7, ↓tA_116, ↓tN_116, ↓tA_117, ↓tN_117, ↓tA_118, ↓tN_118, ↓tA_119, ↓tN_119, ↓tA_120, ↓tN_120, ↓tA_121, ↓tN_121, ↓tA_122, ↓tN_122, ↓tA_123, ↓tN_123, ↓tA_124, ↓tN_124, ↓tO_139, ↓tR_139_0, ↓tR_139_1, ↓tR_139_2, ↓tI_139_3, ↓tR_139_4, ↓tR_139_5, ↓tR_139_6, ↓tR_139_7, ↓tR_139_8, ↓tR_139_9, ↓tR_139_10, ↓tI_139_11, ↓tI_139_12, ↓tI_139_13, ↓tI_139_14, ↓tI_139_15, ↓tI_139_16, ↓tI_139_17, ↓tI_139_18, ↓tI_139_19, ↓tI_139_20, ↓tI_139_21, ↓tI_139_22, ↓tI_139_23, ↓tI_139_24, ↓tI_139_25, ↓tI_139_26, ↓tR_139_27, ↓tI_139_28, ↓tI_139_29, ↓tI_139_30, ↓tI_139_31, ↓tR_139_32, ↓tI_139_33, ↓tR_139_34, ↓tR_139_35, ↓tR_139_36, ↓tR_139_37, ↓tI_139_38, ↓tA_140, ↓tN_140, ↓tA_142, ↓tN_142, ↓wf_isOne hM hg', ↓wf_own hM, ↓wf_isFloor hM hg', ↓wF_eq e1, ↓wF_eq e2', ↓wF_eq e3, ↓wF_eq e5, g1, g2, h3, hf1, hf2, and_self]
  · have t1' : decide (¬ aThr (aIt (aCh1 ev) A g) < A 30 2) = true := by simp [t1]
    rw [t1'] at e2'
    obtain ⟨F, e5, rest⟩ := back E2 hFE2
    by_cases t2 : aThr (aIt (aCh1 ev) (aFun A p f) h) < A 30 2
    · have t2' : decide (¬ aThr (aIt (aCh1 ev) (aFun A p f) h) < A 30 2) = false := by simp [t2]
      rw [t2'] at e4'
      refine ⟨g, h, -100000, F, ?_, hend, hend2, by rw [if_neg t1, if_pos t2], rest⟩
      apply wF_to
      unfold f_M_fun
      simp only [↓w_rcv, ↓w_bodyI, ↓w_bodyZ, ↓w_bodyV, true_and, List.length_cons, List.length_nil, Nat.reduceAdd, Nat.reduceSub, Nat.reduceLeDiff, List.replicate_succ, List.replicate_zero, List.cons_append, List.nil_append, List.append_nil, ↓tO_0, ↓tO_2, ↓tO_6, ↓tO_11, ↓tO_18, ↓tO_19, ↓tO_27, ↓tO_32, ↓tO_37, ↓tO_43, ↓tO_44, ↓tO_52, ↓tO_62, ↓tO_63, ↓tO_71, ↓tO_76, ↓tO_81, ↓tO_87, ↓tO_88, ↓tO_96, ↓tO_106, ↓tO_107, ↓tO_115, ↓tO_127, ↓tO_127c, ↓tO_133, ↓tO_133c, ↓tO_139]
      unfold S_M_fun
      simp (disch := omega) only [↓w_eBin, ↓w_eUn, ↓w_eDiv, ↓w_eRem, ↓w_eFld, ↓w_rFld, ↓w_eALd, ↓w_rALd, ↓w_eALen, ↓w_rStr, ↓w_aNil, ↓w_aI, ↓w_aR, ↓w_N, ↓w_eCall, ↓w_X, ↓w_bCmp, ↓w_bAnd, ↓w_bOr, ↓w_bNot, ↓w_eB, ↓w_eIte, ↓w_sSkip, ↓w_sRet, ↓w_sRetZ, ↓w_sRetV, ↓w_sBrk, ↓w_sCont, ↓w_sIf, ↓w_sSeq, ↓w_sCaC, ↓w_sCaB, ↓w_sSw, ↓w_sCall, ↓w_sPut, ↓w_sPutOp, ↓w_sASt, ↓w_sAOp, ↓w_sADiv, ↓w_eLoc0, ↓w_rLoc0, ↓w_sSet0, ↓w_sSetR0, ↓w_sIncP0, ↓w_sIncM0, ↓w_eLoc1, ↓w_rLoc1, ↓w_sSet1, ↓w_sSetR1, ↓w_sIncP1, ↓w_sIncM1, ↓w_eLoc2, ↓w_rLoc2, ↓w_sSet2, ↓w_sSetR2, ↓w_sIncP2, ↓w_sIncM2, ↓w_eLoc3, ↓w_rLoc3, ↓w_sSet3, ↓w_sSetR3, ↓w_sIncP3, ↓w_sIncM3, ↓w_eLoc4, ↓w_rLoc4, ↓w_sSet4, ↓w_sSetR4, ↓w_sIncP4, ↓w_sIncM4, ↓w_eLoc5, ↓w_rLoc5, ↓w_sSet5, ↓w_sSetR5, ↓w_sIncP5, ↓w_sIncM5, ↓w_eLoc6, ↓w_rLoc6, ↓w_sSet6, ↓w_sSetR6, ↓w_sIncP6, ↓w_sIncM6, ↓w_eLoc7, ↓w_rLoc7, ↓w_sSet7, ↓w_sSetR7, ↓w_sIncP7, ↓w_sIncM7, ↓w_eLoc8, ↓w_rLoc8, ↓w_sSet8, ↓w_sSetR8, ↓w_sIncP8, ↓w_sIncM8, ↓w_eLoc9, ↓w_rLoc9, ↓w_sSet9, ↓w_sSetR9, ↓w_sIncP9, ↓w_sIncM9, ↓w_eLoc10, ↓w_rLoc10, ↓w_sSet10, ↓w_sSetR10, ↓w_sIncP10, ↓w_sIncM10, ↓w_eLoc11, ↓w_rLoc11, ↓w_sSet11, ↓w_sSetR11, ↓w_sIncP11, ↓w_sIncM11, ↓w_eLoc12, ↓w_rLoc12, ↓w_sSet12, ↓w_sSetR12, ↓w_sIncP12, ↓w_sIncM12, ↓w_eLoc13, ↓w_rLoc13, ↓w_sSet13, ↓w_sSetR13, ↓w_sIncP13, ↓w_sIncM13, ↓w_eIntN, ↓w_eIntM, ↓w_bZi, ↓w_add, ↓w_sub, ↓w_mul, ↓w_neg, ↓w_nar, ↓w_div, ↓w_ldne, ↓w_ldat, ↓w_ldj, List.length_cons, List.length_nil, Nat.reduceAdd, Nat.reduceSub, Nat.reduceLeDiff, List.replicate_succ, List.replicate_zero, List.cons_append, List.nil_append, List.append_nil, iz_nI, iz_ofNat, iz_add, iz_sub, iz_mul, cz_lt, cz_le, cz_gt, cz_ge, cz_eq, cz_ne, mIn_iz, iz_nat, decide_eq_true_eq, Bool.not_eq_true', decide_eq_false_iff_not, true_and, and_true, ↓reduceIte, not_true_eq_false, not_false_eq_true, w01_bI, w01_i0, w01_i1, bI_ne', bI_eq', bI_t, bI_f, Bool.false_eq_true, false_implies, forall_const, implies_true, true_implies, imp_self, eq_self, cz10, cz00, Bool.true_eq_false, Bool.not_true, Bool.not_false, decide_true, decide_false, ↓tO_0, ↓tR_0_0, ↓tI_0_1, ↓tR_0_2, ↓tR_0_3, ↓tR_0_4, ↓tR_0_5, ↓tR_0_6, ↓tI_0_7, ↓tR_0_8, ↓tR_0_9, ↓tR_0_10, ↓tR_0_11, ↓tR_0_12, ↓tO_18, ↓tR_18_0, ↓tR_18_1, ↓tR_18_2, ↓tR_18_3, ↓tI_18_4, ↓tA_45, ↓tN_45, ↓tA_46, ↓tN_46, ↓tA_47, ↓tN_47, ↓tA_48, ↓tN_48, ↓tA_49, ↓tN_49, ↓tA_50, ↓tN_50, ↓tA_51, ↓tN_51, ↓tO_19, ↓tI_19_0, ↓tI_19_1, ↓tI_19_2, ↓tR_19_3, ↓tR_19_4, ↓tR_19_5, ↓tR_19_6, ↓tR_19_7, ↓tR_19_8, ↓tA_20, ↓tN_20, ↓tA_21, ↓tN_21, ↓tA_22, ↓tN_22, ↓tA_23, ↓tN_23, ↓tA_24, ↓tN_24, ↓tA_25, ↓tN_25, ↓tA_42, ↓tN_42, ↓tO_43, ↓tR_43_0, ↓tR_43_1, ↓tR_43_2, ↓tR_43_3, ↓tI_43_4, ↓tI_43_5, ↓tI_43_6, ↓tI_43_7, ↓tI_43_8, ↓tO_44, ↓tI_44_0, ↓tI_44_1, ↓tI_44_2, ↓tI_44_3, ↓tR_44_4, ↓tR_44_5, ↓tR_44_6, ↓tR_44_7, ↓tR_44_8, ↓tR_44_9, ↓tR_44_10, ↓tO_52, ↓tR_52_0, ↓tR_52_1, ↓tR_52_2, ↓tR_52_3, ↓tR_52_4, ↓tR_52_5, ↓tR_52_6, ↓tR_52_7, ↓tO_106, ↓tR_106_0, ↓tR_106_1, ↓tR_106_2, ↓tR_106_3, ↓tI_106_4, ↓tI_106_5, ↓tI_106_6, ↓tI_106_7, ↓tI_106_8, ↓tO_107, ↓tI_107_0, ↓tI_107_1, ↓tI_107_2, ↓tI_107_3, ↓tR_107_4, ↓tR_107_5, ↓tR_107_6, ↓tR_107_7, ↓tR_107_8, ↓tR_107_9, ↓tR_107_10, ↓tA_108, ↓tN_108, ↓tA_109, ↓tN_109, ↓tA_110, ↓tN_110, ↓tA_111, ↓tN_111, ↓tA_112, ↓tN_112, ↓tA_113, ↓tN_113, ↓tA_114, ↓tN_114, ↓tO_115, ↓tR_115_0, ↓tR_115_1, ↓tR_115_2, ↓tR_115_3, ↓tR_115_4, ↓tR_115_5, ↓tR_115_6, ↓tR_115_7, ↓tA_116, ↓tN_116, ↓tA_117, ↓tN_117, ↓tA_118, ↓tN_118, ↓tA_119, ↓tN_119, ↓tA_120, ↓tN_120, ↓tA_121, ↓tN_121, ↓tA_122, ↓tN_122, ↓tA_123, ↓tN_123, ↓tA_124, ↓tN_124, ↓tO_139, ↓tR_139_0, ↓tR_139_1, ↓tR_139_2, ↓tI_139_3, ↓tR_139_4, ↓tR_139_5, ↓tR_139_6, ↓tR_139_7, ↓tR_139_8, ↓tR_139_9, ↓tR_139_10, ↓tI_139_11, ↓tI_139_12, ↓tI_139_13, ↓tI_139_14, ↓tI_139_15, ↓tI_139_16, ↓tI_139_17, ↓tI_139_18, ↓tI_139_19, ↓tI_139_20, ↓tI_139_21, ↓tI_139_22, ↓tI_139_23, ↓tI_139_24, ↓tI_139_25, ↓tI_139_26, ↓tR_139_27, ↓tI_139_28, ↓tI_139_29, ↓tI_139_30, ↓tI_139_31, ↓tR_139_32, ↓tI_139_33, ↓tR_139_34, ↓tR_139_35, ↓tR_139_36, ↓tR_139_37, ↓tI_139_38, ↓tA_140, ↓tN_140, ↓tA_142, ↓tN_142, ↓wf_isOne hM hg', ↓wf_own hM, ↓wf_isFloor hM hg', ↓wF_eq e1, ↓wF_eq e2', ↓wF_eq e3, ↓wF_eq e4', ↓wF_eq e5, ↓oG, g1, g2, h3, hf1, hf2, and_self]
    · have t2' : decide (¬ aThr (aIt (aCh1 ev) (aFun A p f) h) < A 30 2) = true := by simp [t2]
      rw [t2'] at e4'
      refine ⟨g, h, _, F, ?_, hend, hend2, by rw [if_neg t1, if_neg t2], rest⟩
      apply wF_to
      unfold f_M_fun
      simp only [↓w_rcv, ↓w_bodyI, ↓w_bodyZ, ↓w_bodyV, true_and, List.length_cons, List.length_nil, Nat.reduceAdd, Nat.reduceSub, Nat.reduceLeDiff, List.replicate_succ, List.replicate_zero, List.cons_append, List.nil_append, List.append_nil, ↓tO_0, ↓tO_2, ↓tO_6, ↓tO_11, ↓tO_18, ↓tO_19, ↓tO_27, ↓tO_32, ↓tO_37, ↓tO_43, ↓tO_44, ↓tO_52, ↓tO_62, ↓tO_63, ↓tO_71, ↓tO_76, ↓tO_81, ↓tO_87, ↓tO_88, ↓tO_96, ↓tO_106, ↓tO_107, ↓tO_115, ↓tO_127, ↓tO_127c, ↓tO_133, ↓tO_133c, ↓tO_139]
      unfold S_M_fun
      simp (disch := omega) only [↓w_eBin, ↓w_eUn, ↓w_eDiv, ↓w_eRem, ↓w_eFld, ↓w_rFld, ↓w_eALd, ↓w_rALd, ↓w_eALen, ↓w_rStr, ↓w_aNil, ↓w_aI, ↓w_aR, ↓w_N, ↓w_eCall, ↓w_X, ↓w_bCmp, ↓w_bAnd, ↓w_bOr, ↓w_bNot, ↓w_eB, ↓w_eIte, ↓w_sSkip, ↓w_sRet, ↓w_sRetZ, ↓w_sRetV, ↓w_sBrk, ↓w_sCont, ↓w_sIf, ↓w_sSeq, ↓w_sCaC, ↓w_sCaB, ↓w_sSw, ↓w_sCall, ↓w_sPut, ↓w_sPutOp, ↓w_sASt, ↓w_sAOp, ↓w_sADiv, ↓w_eLoc0, ↓w_rLoc0, ↓w_sSet0, ↓w_sSetR0, ↓w_sIncP0, ↓w_sIncM0, ↓w_eLoc1, ↓w_rLoc1, ↓w_sSet1, ↓w_sSetR1, ↓w_sIncP1, ↓w_sIncM1, ↓w_eLoc2, ↓w_rLoc2, ↓w_sSet2, ↓w_sSetR2, ↓w_sIncP2, ↓w_sIncM2, ↓w_eLoc3, ↓w_rLoc3, ↓w_sSet3, ↓w_sSetR3, ↓w_sIncP3, ↓w_sIncM3, ↓w_eLoc4, ↓w_rLoc4, ↓w_sSet4, ↓w_sSetR4, ↓w_sIncP4, ↓w_sIncM4, ↓w_eLoc5, ↓w_rLoc5, ↓w_sSet5, ↓w_sSetR5, ↓w_sIncP5, ↓w_sIncM5, ↓w_eLoc6, ↓w_rLoc6, ↓w_sSet6, ↓w_sSetR6, ↓w_sIncP6, ↓w_sIncM6, ↓w_eLoc7, ↓w_rLoc7, ↓w_sSet7, ↓w_sSetR7, ↓w_sIncP7, ↓w_sIncM7, ↓w_eLoc8, ↓w_rLoc8, ↓w_sSet8, ↓w_sSetR8, ↓w_sIncP8, ↓w_sIncM8, ↓w_eLoc9, ↓w_rLoc9, ↓w_sSet9, ↓w_sSetR9, ↓w_sIncP9, ↓w_sIncM9, ↓w_eLoc10, ↓w_rLoc10, ↓w_sSet10, ↓w_sSetR10, ↓w_sIncP10, ↓w_sIncM10, ↓w_eLoc11, ↓w_rLoc11, ↓w_sSet11, ↓w_sSetR11, ↓w_sIncP11, ↓w_sIncM11, ↓w_eLoc12, ↓w_rLoc12, ↓w_sSet12, ↓w_sSetR12, ↓w_sIncP12, ↓w_sIncM12, ↓w_eLoc13, ↓w_rLoc13, ↓w_sSet13, ↓w_sSetR13, ↓w_sIncP13, ↓w_sIncM13, ↓w_eIntN, ↓w_eIntM, ↓w_bZi, ↓w_add, ↓w_sub, ↓w_mul, ↓w_neg, ↓w_nar, ↓w_div, ↓w_ldne, ↓w_ldat, ↓w_ldj, List.length_cons, List.length_nil, Nat.reduceAdd, Nat.reduceSub, Nat.reduceLeDiff, List.replicate_succ, List.replicate_zero, List.cons_append, List.nil_append, List.append_nil, iz_nI, iz_ofNat, iz_add, iz_sub, iz_mul, cz_lt, cz_le, cz_gt, cz_ge, cz_eq, cz_ne, mIn_iz, iz_nat, decide_eq_true_eq, Bool.not_eq_true', decide_eq_false_iff_not, true_and, and_true, ↓reduceIte, not_true_eq_false, not_false_eq_true, w01_bI, w01_i0, w01_i1, bI_ne', bI_eq', bI_t, bI_f, Bool.false_eq_true, false_implies, forall_const, implies_true, true_implies, imp_self, eq_self, cz10, cz00, Bool.true_eq_false, Bool.not_true, Bool.not_false, decide_true, decide_false, ↓tO_0, ↓tR_0_0, ↓tI_0_1, ↓tR_0_2, ↓tR_0_3, ↓tR_0_4, ↓tR_0_5, ↓tR_0_6, ↓tI_0_7, ↓tR_0_8, ↓tR_0_9, ↓tR_0_10, ↓tR_0_11, ↓tR_0_12, ↓tO_18, ↓tR_18_0, ↓tR_18_1, ↓tR_18_2, ↓tR_18_3, ↓tI_18_4, ↓tA_45, ↓tN_45, ↓tA_46, ↓tN_46, ↓tA_47, ↓tN_47, ↓tA_48, ↓tN_48, ↓tA_49, ↓tN_49, ↓tA_50, ↓tN_50, ↓tA_51, ↓tN_51, ↓tO_19, ↓tI_19_0, ↓tI_19_1, ↓tI_19_2, ↓tR_19_3, ↓tR_19_4, ↓tR_19_5, ↓tR_19_6, ↓tR_19_7, ↓tR_19_8, ↓tA_20, ↓tN_20, ↓tA_21, ↓tN_21, ↓tA_22, ↓tN_22, ↓tA_23, ↓tN_23, ↓tA_24, ↓tN_24, ↓tA_25, ↓tN_25, ↓tA_42, ↓tN_42, ↓tO_43, ↓tR_43_0, ↓tR_43_1, ↓tR_43_2, ↓tR_43_3, ↓tI_43_4, ↓tI_43_5, ↓tI_43_6, ↓tI_43_7, ↓tI_43_8, ↓tO_44, ↓tI_44_0, ↓tI_44_1, ↓tI_44_2, ↓tI_44_3, ↓tR_44_4, ↓tR_44_5, ↓tR_44_6, ↓tR_44_7, ↓tR_44_8, ↓tR_44_9, ↓tR_44_10, ↓tO_52, ↓tR_52_0, ↓tR_52_1, ↓tR_52_2, ↓tR_52_3, ↓tR_52_4, ↓tR_52_5, ↓tR_52_6, ↓tR_52_7, ↓tO_106, ↓tR_106_0, ↓tR_106_1, ↓tR_106_2, ↓tR_106_3, ↓tI_106_4, ↓tI_106_5, ↓tI_106_6, ↓tI_106_7, ↓tI_106_8, ↓tO_107, ↓tI_107_0, ↓tI_107_1, ↓tI_107_2, ↓tI_107_3, ↓tR_107_4, ↓tR_107_5, ↓tR_107_6, ↓tR_107_7, ↓tR_107_8, ↓tR_107_9, ↓tR_107_10, ↓tA_108, ↓tN_108, ↓tA_109, ↓tN_109, ↓tA_110, ↓tN_110, ↓tA_111, ↓tN_111, ↓tA_112, ↓tN_112, ↓tA_113, ↓tN_113, ↓tA_114, ↓tN_114, ↓tO_115, ↓tR_115_0, ↓tR_115_1, ↓tR_115_2, ↓tR_115_3, ↓tR_115_4, ↓tR_115_5, ↓tR_115_6, ↓tR_115_7, ↓tA_116, ↓tN_116, ↓tA_117, ↓tN_117, ↓tA_118, ↓tN_118, ↓tA_119, ↓tN_119, ↓tA_120, ↓tN_120, ↓tA_121, ↓tN_121, ↓tA_122, ↓tN_122, ↓tA_123, ↓tN_123, ↓tA_124, ↓tN_124, ↓tO_139, ↓tR_139_0, ↓tR_139_1, ↓tR_139_2, ↓tI_139_3, ↓tR_139_4, ↓tR_139_5, ↓tR_139_6, ↓tR_139_7, ↓tR_139_8, ↓tR_139_9, ↓tR_139_10, ↓tI_139_11, ↓tI_139_12, ↓tI_139_13, ↓tI_139_14, ↓tI_139_15, ↓tI_139_16, ↓tI_139_17, ↓tI_139_18, ↓tI_139_19, ↓tI_139_20, ↓tI_139_21, ↓tI_139_22, ↓tI_139_23, ↓tI_139_24, ↓tI_139_25, ↓tI_139_26, ↓tR_139_27, ↓tI_139_28, ↓tI_139_29, ↓tI_139_30, ↓tI_139_31, ↓tR_139_32, ↓tI_139_33, ↓tR_139_34, ↓tR_139_35, ↓tR_139_36, ↓tR_139_37, ↓tI_139_38, ↓tA_140, ↓tN_140, ↓tA_142, ↓tN_142, ↓wf_isOne hM hg', ↓wf_own hM, ↓wf_isFloor hM hg', ↓wF_eq e1, ↓wF_eq e2', ↓wF_eq e3, ↓wF_eq e4', ↓wF_eq e5, ↓oG, ↓oH, g1, g2, h3, hf1, hf2, and_self]

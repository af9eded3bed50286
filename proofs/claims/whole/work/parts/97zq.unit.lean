/-! texts: units of a rule, in the class -/
noncomputable section
section
variable {b : Nat → Int} {L n j : Nat} {C : mMem} {l : List (Int × Int)} {wh : Int}
def FrC (C D : mMem) : Prop := (∀ a, a ≠ 2 → a ≠ 6 → a ≠ 9 → D a = C a) ∧ (∀ i, i ≠ 2 → i ≠ 3 → D 6 i = C 6 i) ∧ (∀ i, i < 4 ∨ 8 < i → D 2 i = C 2 i)
theorem frC_r (C : mMem) : FrC C C := ⟨fun _ _ _ _ => rfl, fun _ _ _ => rfl, fun _ _ => rfl⟩
theorem frC_t {C D E : mMem} (h : FrC C D) (g : FrC D E) : FrC C E := ⟨fun a x y z => (g.1 a x y z).trans (h.1 a x y z), fun i x y => (g.2.1 i x y).trans (h.2.1 i x y), fun i x => (g.2.2 i x).trans (h.2.2 i x)⟩
def PoC (b : Nat → Int) (L n : Nat) (C : mMem) (l : List (Int × Int)) (t : Bool) (D : mMem) : Rz → Prop
  | .inl (j, o) => FrC C D ∧ t = true ∧ TokC D b L n j ∧ OutC D (l ++ o) ∧ D 2 7 = C 2 7 ∧ D 2 8 = C 2 8
  | .inr (j, f) => FrC C D ∧ t = false ∧ D 2 7 = iz f ∧ D 2 8 = iz (st b L j)
/-- what the reference leaves alone while it reads -/
def FrR (C D : mMem) : Prop := (∀ a, a ≠ 139 → a ≠ 144 → D a = C a) ∧ (∀ i, i < 13 ∨ (13 < i ∧ i < 17) ∨ 24 < i ∨ i = 23 → D 139 i = C 139 i)
theorem frR_r (C : mMem) : FrR C C := ⟨fun _ _ _ => rfl, fun _ _ => rfl⟩
theorem frR_t {C D E : mMem} (h : FrR C D) (g : FrR D E) : FrR C E := ⟨fun a x y => (g.1 a x y).trans (h.1 a x y), fun i x => (g.2 i x).trans (h.2 i x)⟩
def PoM (b : Nat → Int) (L : Nat) (wh : Int) (C : mMem) (l : List (Int × Int)) (t : Bool) (D : mMem) : Rz → Prop
  | .inl (j, o) => FrR C D ∧ t = true ∧ TokM D b L wh j ∧ OutM D (l ++ o) ∧ D 139 21 = C 139 21 ∧ D 139 24 = C 139 24
  | .inr (j, f) => FrR C D ∧ t = false ∧ D 139 21 = iz f ∧ D 139 22 = iz (st b L j)
theorem rc_unit (hT : TokC C b L n j) (hO : OutC C l) (hl : l.length ≤ j) : ∃ t D, f_Ru_readUnit [.ref 6, .ref 2] C = some (some (bI t), D) ∧ PoC b L n C l t D (unF (kj b L) (vj b L) j) := by
  have h5 := hT.2.2.1
  have h6 := hT.2.2.2
  have kr := kj_rg (j := j) hT.1
  have vr := vj_rg (j := j) hT.1
  have nl := hT.1.2.2
  have kb : 0 ≤ kj b L j ∧ kj b L j ≤ 273 := by
    by_cases z : j < n
    · have := kr.2 z; omega
    · have := kr.1 (by omega); omega
  rcases unF_c (kj b L) (vj b L) j with ⟨a, hr⟩ | ⟨a, c, hr⟩ | ⟨a, c, hr⟩ <;> rw [hr]
  · have jn : j < n := Nat.lt_of_not_le (fun z => by have := kr.1 z; omega)
    have pt := rc_rput (o := 0) (a := vj b L j) hO (by omega) (by omega) vr
    have o2 := outC_put (s := 0) (v := vj b L j) (k := 0 + 16 * vj b L j) hO (by unfold rEn; rw [if_pos rfl]; omega) (by omega)
    generalize hE : mUp (mUp C 9 l.length (iz (0 + 16 * vj b L j))) 6 3 (iz ((l.length : Int) + 1)) = E at *
    have fE : ∀ a, a ≠ 6 → a ≠ 9 → E a = C a := fun a a1 a2 => by rw [← hE, up_k a1, up_k a2]
    have f6 : ∀ i, i ≠ 3 → E 6 i = C 6 i := fun i i1 => by rw [← hE, up_j i1, up_k (by omega)]
    have tE' : TokC E b L n j := tokC_fr hT (fun a i z => by rw [fE a (by omega) (by omega)])
    obtain ⟨D, e1, d1, d2, d3⟩ := rc_tnext tE'
    refine ⟨true, D, ?_, ⟨fun a a1 a2 a3 => by rw [d2 a a1, fE a a2 a3], fun i i1 i2 => by rw [d2 6 (by omega), f6 i i2], fun i i1 => by rw [d3 i (by omega) (by omega) (by omega), fE 2 (by omega) (by omega)]⟩, rfl, d1, outC_fr o2 (by rw [d2 6 (by omega)]) (by rw [d2 6 (by omega)]) (d2 9 (by omega)), by rw [d3 7 (by omega) (by omega) (by omega), fE 2 (by omega) (by omega)], by rw [d3 8 (by omega) (by omega) (by omega), fE 2 (by omega) (by omega)]⟩
    clear kr
    apply wF_to
    unfold f_Ru_readUnit
    simp only [↓w_rcv, ↓w_bodyI, ↓w_bodyZ, ↓w_bodyV, true_and, List.length_cons, List.length_nil, Nat.reduceAdd, Nat.reduceSub, Nat.reduceLeDiff, List.replicate_succ, List.replicate_zero, List.cons_append, List.nil_append, List.append_nil, ↓tO_0, ↓tO_2, ↓tO_6, ↓tO_11, ↓tO_18, ↓tO_19, ↓tO_27, ↓tO_32, ↓tO_37, ↓tO_43, ↓tO_44, ↓tO_52, ↓tO_62, ↓tO_63, ↓tO_71, ↓tO_76, ↓tO_81, ↓tO_87, ↓tO_88, ↓tO_96, ↓tO_106, ↓tO_107, ↓tO_115, ↓tO_127, ↓tO_127c, ↓tO_133, ↓tO_133c, ↓tO_139]
    unfold S_Ru_readUnit
    simp (disch := omega) only [↓w_eBin, ↓w_eUn, ↓w_eDiv, ↓w_eRem, ↓w_eFld, ↓w_rFld, ↓w_eALd, ↓w_rALd, ↓w_eALen, ↓w_rStr, ↓w_aNil, ↓w_aI, ↓w_aR, ↓w_N, ↓w_eCall, ↓w_X, ↓w_bCmp, ↓w_bAnd, ↓w_bOr, ↓w_bNot, ↓w_eB, ↓w_eIte, ↓w_sSkip, ↓w_sRet, ↓w_sRetZ, ↓w_sRetV, ↓w_sBrk, ↓w_sCont, ↓w_sIf, ↓w_sSeq, ↓w_sCaC, ↓w_sCaB, ↓w_sSw, ↓w_sCall, ↓w_sPut, ↓w_sPutOp, ↓w_sASt, ↓w_sAOp, ↓w_sADiv, ↓w_eLoc0, ↓w_rLoc0, ↓w_sSet0, ↓w_sSetR0, ↓w_sIncP0, ↓w_sIncM0, ↓w_eLoc1, ↓w_rLoc1, ↓w_sSet1, ↓w_sSetR1, ↓w_sIncP1, ↓w_sIncM1, ↓w_eLoc2, ↓w_rLoc2, ↓w_sSet2, ↓w_sSetR2, ↓w_sIncP2, ↓w_sIncM2, ↓w_eLoc3, ↓w_rLoc3, ↓w_sSet3, ↓w_sSetR3, ↓w_sIncP3, ↓w_sIncM3, ↓w_eLoc4, ↓w_rLoc4, ↓w_sSet4, ↓w_sSetR4, ↓w_sIncP4, ↓w_sIncM4, ↓w_eLoc5, ↓w_rLoc5, ↓w_sSet5, ↓w_sSetR5, ↓w_sIncP5, ↓w_sIncM5, ↓w_eLoc6, ↓w_rLoc6, ↓w_sSet6, ↓w_sSetR6, ↓w_sIncP6, ↓w_sIncM6, ↓w_eLoc7, ↓w_rLoc7, ↓w_sSet7, ↓w_sSetR7, ↓w_sIncP7, ↓w_sIncM7, ↓w_eLoc8, ↓w_rLoc8, ↓w_sSet8, ↓w_sSetR8, ↓w_sIncP8, ↓w_sIncM8, ↓w_eLoc9, ↓w_rLoc9, ↓w_sSet9, ↓w_sSetR9, ↓w_sIncP9, ↓w_sIncM9, ↓w_eLoc10, ↓w_rLoc10, ↓w_sSet10, ↓w_sSetR10, ↓w_sIncP10, ↓w_sIncM10, ↓w_eLoc11, ↓w_rLoc11, ↓w_sSet11, ↓w_sSetR11, ↓w_sIncP11, ↓w_sIncM11, ↓w_eLoc12, ↓w_rLoc12, ↓w_sSet12, ↓w_sSetR12, ↓w_sIncP12, ↓w_sIncM12, ↓w_eLoc13, ↓w_rLoc13, ↓w_sSet13, ↓w_sSetR13, ↓w_sIncP13, ↓w_sIncM13, ↓w_eIntN, ↓w_eIntM, ↓w_bZi, ↓w_add, ↓w_sub, ↓w_mul, ↓w_neg, ↓w_nar, ↓w_div, ↓w_ldne, ↓w_ldat, ↓w_ldj, List.length_cons, List.length_nil, Nat.reduceAdd, Nat.reduceSub, Nat.reduceLeDiff, List.replicate_succ, List.replicate_zero, List.cons_append, List.nil_append, List.append_nil, iz_nI, iz_ofNat, iz_add, iz_sub, iz_mul, cz_lt, cz_le, cz_gt, cz_ge, cz_eq, cz_ne, mIn_iz, iz_nat, decide_eq_true_eq, Bool.not_eq_true', decide_eq_false_iff_not, true_and, and_true, ↓reduceIte, not_true_eq_false, not_false_eq_true, w01_bI, w01_i0, w01_i1, bI_ne', bI_eq', bI_t, bI_f, Bool.false_eq_true, false_implies, forall_const, implies_true, true_implies, imp_self, eq_self, cz10, cz00, w01_0, w01_1, Bool.true_eq_false, Bool.not_true, Bool.not_false, decide_true, decide_false, ↓tO_0, ↓tR_0_0, ↓tI_0_1, ↓tR_0_2, ↓tR_0_3, ↓tR_0_4, ↓tR_0_5, ↓tR_0_6, ↓tI_0_7, ↓tR_0_8, ↓tR_0_9, ↓tR_0_10, ↓tR_0_11, ↓tR_0_12, ↓tA_1, ↓tN_1, ↓tO_2, ↓tR_2_0, ↓tR_2_1, ↓tR_2_2, ↓tI_2_3, ↓tI_2_4, ↓tI_2_5, ↓tI_2_6, ↓tI_2_7, ↓tI_2_8, ↓tA_3, ↓tN_3, ↓tA_4, ↓tN_4, ↓tA_5, ↓tN_5, ↓tO_6, ↓tI_6_0, ↓tI_6_1, ↓tI_6_2, ↓tI_6_3, ↓tR_6_4, ↓tR_6_5, ↓tR_6_6, ↓tR_6_7, ↓tA_7, ↓tN_7, ↓tA_8, ↓tN_8, ↓tA_9, ↓tN_9, ↓tO_139, ↓tR_139_0, ↓tR_139_1, ↓tR_139_2, ↓tI_139_3, ↓tR_139_4, ↓tR_139_5, ↓tR_139_6, ↓tR_139_7, ↓tR_139_8, ↓tR_139_9, ↓tR_139_10, ↓tI_139_11, ↓tI_139_12, ↓tI_139_13, ↓tI_139_14, ↓tI_139_15, ↓tI_139_16, ↓tI_139_17, ↓tI_139_18, ↓tI_139_19, ↓tI_139_20, ↓tI_139_21, ↓tI_139_22, ↓tI_139_23, ↓tI_139_24, ↓tI_139_25, ↓tI_139_26, ↓tR_139_27, ↓tI_139_28, ↓tI_139_29, ↓tI_139_30, ↓tI_139_31, ↓tR_139_32, ↓tI_139_33, ↓tR_139_34, ↓tR_139_35, ↓tR_139_36, ↓tR_139_37, ↓tI_139_38, ↓tA_140, ↓tN_140, ↓tA_143, ↓tN_143, ↓tA_144, ↓tN_144, ↓tA_145, ↓tN_145, ↓tA_146, ↓tN_146, ↓tA_149, ↓tN_149, ↓wLd_of h5, ↓wLd_of h6, a, ↓wF_eq pt, ↓wF_eq e1]
    rfl
  · have jn : j < n := Nat.lt_of_not_le (fun z => by have := kr.1 z; omega)
    have pt := rc_rput (o := 1) (a := kj b L j - 262) hO (by omega) (by omega) (by omega)
    generalize hE : mUp (mUp C 9 l.length (iz (1 + 16 * (kj b L j - 262)))) 6 3 (iz ((l.length : Int) + 1)) = E at *
    have fE : ∀ a, a ≠ 6 → a ≠ 9 → E a = C a := fun a a1 a2 => by rw [← hE, up_k a1, up_k a2]
    have f6 : ∀ i, i ≠ 3 → E 6 i = C 6 i := fun i i1 => by rw [← hE, up_j i1, up_k (by omega)]
    have E5 : E 2 5 = iz (kj b L j) := by rw [fE 2 (by omega) (by omega)]; exact h5
    have E62 : E 6 2 = bI (l.any (fun x => decide (x.1 = 9))) := by rw [f6 2 (by omega)]; exact hO.2.1
    have wo : ∀ (s t : Bool) (P : Int32 → Prop), wO2 (fun x y => x ||| y) (bI s) (bI t) P ↔ P (bI (s || t)) := fun s t P => by
      have : bI s ||| bI t = bI (s || t) := by cases s <;> cases t <;> decide
      show P (bI s ||| bI t) ↔ _
      rw [this]
    generalize hG : mUp E 6 2 (bI (l.any (fun x => decide (x.1 = 9)) || decide (kj b L j = 270))) = G at *
    have fG : ∀ a, a ≠ 6 → G a = E a := fun a a1 => by rw [← hG, up_k a1]
    have tG : TokC G b L n j := tokC_fr hT (fun a i z => by rw [fG a (by omega), fE a (by omega) (by omega)])
    have o2 : OutC G (l ++ [(kj b L j - 261, 0)]) := by
      refine ⟨by rw [← hG, up_j (by omega), ← hE, up_at, List.length_append]; rfl, ?_, fun q y hq => ?_⟩
      · rw [← hG, up_at, List.any_append]
        congr 2
        simp only [List.any_cons, List.any_nil, Bool.or_false]
        congr 1
        apply propext; omega
      · rw [fG 9 (by omega), ← hE, up_k (by omega)]
        by_cases e : q < l.length
        · rw [List.getElem?_append_left e] at hq
          rw [up_j (by omega)]
          exact hO.2.2 q y hq
        · have hlt : q < (l ++ [(kj b L j - 261, (0 : Int))]).length := (List.getElem?_eq_some_iff.mp hq).1
          rw [List.length_append, List.length_singleton] at hlt
          have hq' : q = l.length := by omega
          subst hq'
          rw [List.getElem?_append_right (Nat.le_refl _), Nat.sub_self] at hq
          have hy : (kj b L j - 261, (0 : Int)) = y := Option.some.inj hq
          subst hy
          rw [up_at]
          unfold rEn
          rw [if_neg (by show ¬ kj b L j - 261 = 0; omega), if_pos (by show kj b L j - 261 < 13; omega)]
          congr 1
          show 1 + 16 * (kj b L j - 262) = 1 + 16 * (kj b L j - 261 - 1)
          omega
    obtain ⟨D, e1, d1, d2, d3⟩ := rc_tnext tG
    refine ⟨true, D, ?_, ⟨fun a a1 a2 a3 => by rw [d2 a a1, fG a a2, fE a a2 a3], fun i i1 i2 => by rw [d2 6 (by omega), ← hG, up_j i1, f6 i i2], fun i i1 => by rw [d3 i (by omega) (by omega) (by omega), fG 2 (by omega), fE 2 (by omega) (by omega)]⟩, rfl, d1, outC_fr o2 (by rw [d2 6 (by omega)]) (by rw [d2 6 (by omega)]) (d2 9 (by omega)), by rw [d3 7 (by omega) (by omega) (by omega), fG 2 (by omega), fE 2 (by omega) (by omega)], by rw [d3 8 (by omega) (by omega) (by omega), fG 2 (by omega), fE 2 (by omega) (by omega)]⟩
    have k1 : ¬ kj b L j = 1 := by omega
    clear kr
    apply wF_to
    unfold f_Ru_readUnit
    simp only [↓w_rcv, ↓w_bodyI, ↓w_bodyZ, ↓w_bodyV, true_and, List.length_cons, List.length_nil, Nat.reduceAdd, Nat.reduceSub, Nat.reduceLeDiff, List.replicate_succ, List.replicate_zero, List.cons_append, List.nil_append, List.append_nil, ↓tO_0, ↓tO_2, ↓tO_6, ↓tO_11, ↓tO_18, ↓tO_19, ↓tO_27, ↓tO_32, ↓tO_37, ↓tO_43, ↓tO_44, ↓tO_52, ↓tO_62, ↓tO_63, ↓tO_71, ↓tO_76, ↓tO_81, ↓tO_87, ↓tO_88, ↓tO_96, ↓tO_106, ↓tO_107, ↓tO_115, ↓tO_127, ↓tO_127c, ↓tO_133, ↓tO_133c, ↓tO_139]
    unfold S_Ru_readUnit
    simp (disch := omega) only [↓w_eBin, ↓w_eUn, ↓w_eDiv, ↓w_eRem, ↓w_eFld, ↓w_rFld, ↓w_eALd, ↓w_rALd, ↓w_eALen, ↓w_rStr, ↓w_aNil, ↓w_aI, ↓w_aR, ↓w_N, ↓w_eCall, ↓w_X, ↓w_bCmp, ↓w_bAnd, ↓w_bOr, ↓w_bNot, ↓w_eB, ↓w_eIte, ↓w_sSkip, ↓w_sRet, ↓w_sRetZ, ↓w_sRetV, ↓w_sBrk, ↓w_sCont, ↓w_sIf, ↓w_sSeq, ↓w_sCaC, ↓w_sCaB, ↓w_sSw, ↓w_sCall, ↓w_sPut, ↓w_sPutOp, ↓w_sASt, ↓w_sAOp, ↓w_sADiv, ↓w_eLoc0, ↓w_rLoc0, ↓w_sSet0, ↓w_sSetR0, ↓w_sIncP0, ↓w_sIncM0, ↓w_eLoc1, ↓w_rLoc1, ↓w_sSet1, ↓w_sSetR1, ↓w_sIncP1, ↓w_sIncM1, ↓w_eLoc2, ↓w_rLoc2, ↓w_sSet2, ↓w_sSetR2, ↓w_sIncP2, ↓w_sIncM2, ↓w_eLoc3, ↓w_rLoc3, ↓w_sSet3, ↓w_sSetR3, ↓w_sIncP3, ↓w_sIncM3, ↓w_eLoc4, ↓w_rLoc4, ↓w_sSet4, ↓w_sSetR4, ↓w_sIncP4, ↓w_sIncM4, ↓w_eLoc5, ↓w_rLoc5, ↓w_sSet5, ↓w_sSetR5, ↓w_sIncP5, ↓w_sIncM5, ↓w_eLoc6, ↓w_rLoc6, ↓w_sSet6, ↓w_sSetR6, ↓w_sIncP6, ↓w_sIncM6, ↓w_eLoc7, ↓w_rLoc7, ↓w_sSet7, ↓w_sSetR7, ↓w_sIncP7, ↓w_sIncM7, ↓w_eLoc8, ↓w_rLoc8, ↓w_sSet8, ↓w_sSetR8, ↓w_sIncP8, ↓w_sIncM8, ↓w_eLoc9, ↓w_rLoc9, ↓w_sSet9, ↓w_sSetR9, ↓w_sIncP9, ↓w_sIncM9, ↓w_eLoc10, ↓w_rLoc10, ↓w_sSet10, ↓w_sSetR10, ↓w_sIncP10, ↓w_sIncM10, ↓w_eLoc11, ↓w_rLoc11, ↓w_sSet11, ↓w_sSetR11, ↓w_sIncP11, ↓w_sIncM11, ↓w_eLoc12, ↓w_rLoc12, ↓w_sSet12, ↓w_sSetR12, ↓w_sIncP12, ↓w_sIncM12, ↓w_eLoc13, ↓w_rLoc13, ↓w_sSet13, ↓w_sSetR13, ↓w_sIncP13, ↓w_sIncM13, ↓w_eIntN, ↓w_eIntM, ↓w_bZi, ↓w_add, ↓w_sub, ↓w_mul, ↓w_neg, ↓w_nar, ↓w_div, ↓w_ldne, ↓w_ldat, ↓w_ldj, List.length_cons, List.length_nil, Nat.reduceAdd, Nat.reduceSub, Nat.reduceLeDiff, List.replicate_succ, List.replicate_zero, List.cons_append, List.nil_append, List.append_nil, iz_nI, iz_ofNat, iz_add, iz_sub, iz_mul, cz_lt, cz_le, cz_gt, cz_ge, cz_eq, cz_ne, mIn_iz, iz_nat, decide_eq_true_eq, Bool.not_eq_true', decide_eq_false_iff_not, true_and, and_true, ↓reduceIte, not_true_eq_false, not_false_eq_true, w01_bI, w01_i0, w01_i1, bI_ne', bI_eq', bI_t, bI_f, Bool.false_eq_true, false_implies, forall_const, implies_true, true_implies, imp_self, eq_self, cz10, cz00, w01_0, w01_1, Bool.true_eq_false, Bool.not_true, Bool.not_false, decide_true, decide_false, ↓tO_0, ↓tR_0_0, ↓tI_0_1, ↓tR_0_2, ↓tR_0_3, ↓tR_0_4, ↓tR_0_5, ↓tR_0_6, ↓tI_0_7, ↓tR_0_8, ↓tR_0_9, ↓tR_0_10, ↓tR_0_11, ↓tR_0_12, ↓tA_1, ↓tN_1, ↓tO_2, ↓tR_2_0, ↓tR_2_1, ↓tR_2_2, ↓tI_2_3, ↓tI_2_4, ↓tI_2_5, ↓tI_2_6, ↓tI_2_7, ↓tI_2_8, ↓tA_3, ↓tN_3, ↓tA_4, ↓tN_4, ↓tA_5, ↓tN_5, ↓tO_6, ↓tI_6_0, ↓tI_6_1, ↓tI_6_2, ↓tI_6_3, ↓tR_6_4, ↓tR_6_5, ↓tR_6_6, ↓tR_6_7, ↓tA_7, ↓tN_7, ↓tA_8, ↓tN_8, ↓tA_9, ↓tN_9, ↓tO_139, ↓tR_139_0, ↓tR_139_1, ↓tR_139_2, ↓tI_139_3, ↓tR_139_4, ↓tR_139_5, ↓tR_139_6, ↓tR_139_7, ↓tR_139_8, ↓tR_139_9, ↓tR_139_10, ↓tI_139_11, ↓tI_139_12, ↓tI_139_13, ↓tI_139_14, ↓tI_139_15, ↓tI_139_16, ↓tI_139_17, ↓tI_139_18, ↓tI_139_19, ↓tI_139_20, ↓tI_139_21, ↓tI_139_22, ↓tI_139_23, ↓tI_139_24, ↓tI_139_25, ↓tI_139_26, ↓tR_139_27, ↓tI_139_28, ↓tI_139_29, ↓tI_139_30, ↓tI_139_31, ↓tR_139_32, ↓tI_139_33, ↓tR_139_34, ↓tR_139_35, ↓tR_139_36, ↓tR_139_37, ↓tI_139_38, ↓tA_140, ↓tN_140, ↓tA_143, ↓tN_143, ↓tA_144, ↓tN_144, ↓tA_145, ↓tN_145, ↓tA_146, ↓tN_146, ↓tA_149, ↓tN_149, ↓wLd_of h5, k1, a, c, ↓wF_eq pt, ↓wLd_of E62, ↓wLd_of E5, ↓wo, hG, ↓wF_eq e1]
    rfl
  · have rf := rc_refuse (f := 1) hT
    refine ⟨false, mUp (mUp C 2 7 (iz 1)) 2 8 (iz (st b L j)), ?_, ⟨fun a a1 a2 a3 => by rw [up_k a1, up_k a1], fun i i1 i2 => by rw [up_k (by omega), up_k (by omega)], fun i i1 => by rw [up_j (by omega), up_j (by omega)]⟩, rfl, by rw [up_j (by omega), up_at], up_at⟩
    clear kr
    apply wF_to
    unfold f_Ru_readUnit
    simp only [↓w_rcv, ↓w_bodyI, ↓w_bodyZ, ↓w_bodyV, true_and, List.length_cons, List.length_nil, Nat.reduceAdd, Nat.reduceSub, Nat.reduceLeDiff, List.replicate_succ, List.replicate_zero, List.cons_append, List.nil_append, List.append_nil, ↓tO_0, ↓tO_2, ↓tO_6, ↓tO_11, ↓tO_18, ↓tO_19, ↓tO_27, ↓tO_32, ↓tO_37, ↓tO_43, ↓tO_44, ↓tO_52, ↓tO_62, ↓tO_63, ↓tO_71, ↓tO_76, ↓tO_81, ↓tO_87, ↓tO_88, ↓tO_96, ↓tO_106, ↓tO_107, ↓tO_115, ↓tO_127, ↓tO_127c, ↓tO_133, ↓tO_133c, ↓tO_139]
    unfold S_Ru_readUnit
    by_cases g : 262 ≤ kj b L j
    · have g2 : ¬ kj b L j ≤ 271 := by omega
      simp (disch := omega) only [↓w_eBin, ↓w_eUn, ↓w_eDiv, ↓w_eRem, ↓w_eFld, ↓w_rFld, ↓w_eALd, ↓w_rALd, ↓w_eALen, ↓w_rStr, ↓w_aNil, ↓w_aI, ↓w_aR, ↓w_N, ↓w_eCall, ↓w_X, ↓w_bCmp, ↓w_bAnd, ↓w_bOr, ↓w_bNot, ↓w_eB, ↓w_eIte, ↓w_sSkip, ↓w_sRet, ↓w_sRetZ, ↓w_sRetV, ↓w_sBrk, ↓w_sCont, ↓w_sIf, ↓w_sSeq, ↓w_sCaC, ↓w_sCaB, ↓w_sSw, ↓w_sCall, ↓w_sPut, ↓w_sPutOp, ↓w_sASt, ↓w_sAOp, ↓w_sADiv, ↓w_eLoc0, ↓w_rLoc0, ↓w_sSet0, ↓w_sSetR0, ↓w_sIncP0, ↓w_sIncM0, ↓w_eLoc1, ↓w_rLoc1, ↓w_sSet1, ↓w_sSetR1, ↓w_sIncP1, ↓w_sIncM1, ↓w_eLoc2, ↓w_rLoc2, ↓w_sSet2, ↓w_sSetR2, ↓w_sIncP2, ↓w_sIncM2, ↓w_eLoc3, ↓w_rLoc3, ↓w_sSet3, ↓w_sSetR3, ↓w_sIncP3, ↓w_sIncM3, ↓w_eLoc4, ↓w_rLoc4, ↓w_sSet4, ↓w_sSetR4, ↓w_sIncP4, ↓w_sIncM4, ↓w_eLoc5, ↓w_rLoc5, ↓w_sSet5, ↓w_sSetR5, ↓w_sIncP5, ↓w_sIncM5, ↓w_eLoc6, ↓w_rLoc6, ↓w_sSet6, ↓w_sSetR6, ↓w_sIncP6, ↓w_sIncM6, ↓w_eLoc7, ↓w_rLoc7, ↓w_sSet7, ↓w_sSetR7, ↓w_sIncP7, ↓w_sIncM7, ↓w_eLoc8, ↓w_rLoc8, ↓w_sSet8, ↓w_sSetR8, ↓w_sIncP8, ↓w_sIncM8, ↓w_eLoc9, ↓w_rLoc9, ↓w_sSet9, ↓w_sSetR9, ↓w_sIncP9, ↓w_sIncM9, ↓w_eLoc10, ↓w_rLoc10, ↓w_sSet10, ↓w_sSetR10, ↓w_sIncP10, ↓w_sIncM10, ↓w_eLoc11, ↓w_rLoc11, ↓w_sSet11, ↓w_sSetR11, ↓w_sIncP11, ↓w_sIncM11, ↓w_eLoc12, ↓w_rLoc12, ↓w_sSet12, ↓w_sSetR12, ↓w_sIncP12, ↓w_sIncM12, ↓w_eLoc13, ↓w_rLoc13, ↓w_sSet13, ↓w_sSetR13, ↓w_sIncP13, ↓w_sIncM13, ↓w_eIntN, ↓w_eIntM, ↓w_bZi, ↓w_add, ↓w_sub, ↓w_mul, ↓w_neg, ↓w_nar, ↓w_div, ↓w_ldne, ↓w_ldat, ↓w_ldj, List.length_cons, List.length_nil, Nat.reduceAdd, Nat.reduceSub, Nat.reduceLeDiff, List.replicate_succ, List.replicate_zero, List.cons_append, List.nil_append, List.append_nil, iz_nI, iz_ofNat, iz_add, iz_sub, iz_mul, cz_lt, cz_le, cz_gt, cz_ge, cz_eq, cz_ne, mIn_iz, iz_nat, decide_eq_true_eq, Bool.not_eq_true', decide_eq_false_iff_not, true_and, and_true, ↓reduceIte, not_true_eq_false, not_false_eq_true, w01_bI, w01_i0, w01_i1, bI_ne', bI_eq', bI_t, bI_f, Bool.false_eq_true, false_implies, forall_const, implies_true, true_implies, imp_self, eq_self, cz10, cz00, w01_0, w01_1, Bool.true_eq_false, Bool.not_true, Bool.not_false, decide_true, decide_false, ↓tO_0, ↓tR_0_0, ↓tI_0_1, ↓tR_0_2, ↓tR_0_3, ↓tR_0_4, ↓tR_0_5, ↓tR_0_6, ↓tI_0_7, ↓tR_0_8, ↓tR_0_9, ↓tR_0_10, ↓tR_0_11, ↓tR_0_12, ↓tA_1, ↓tN_1, ↓tO_2, ↓tR_2_0, ↓tR_2_1, ↓tR_2_2, ↓tI_2_3, ↓tI_2_4, ↓tI_2_5, ↓tI_2_6, ↓tI_2_7, ↓tI_2_8, ↓tA_3, ↓tN_3, ↓tA_4, ↓tN_4, ↓tA_5, ↓tN_5, ↓tO_6, ↓tI_6_0, ↓tI_6_1, ↓tI_6_2, ↓tI_6_3, ↓tR_6_4, ↓tR_6_5, ↓tR_6_6, ↓tR_6_7, ↓tA_7, ↓tN_7, ↓tA_8, ↓tN_8, ↓tA_9, ↓tN_9, ↓tO_139, ↓tR_139_0, ↓tR_139_1, ↓tR_139_2, ↓tI_139_3, ↓tR_139_4, ↓tR_139_5, ↓tR_139_6, ↓tR_139_7, ↓tR_139_8, ↓tR_139_9, ↓tR_139_10, ↓tI_139_11, ↓tI_139_12, ↓tI_139_13, ↓tI_139_14, ↓tI_139_15, ↓tI_139_16, ↓tI_139_17, ↓tI_139_18, ↓tI_139_19, ↓tI_139_20, ↓tI_139_21, ↓tI_139_22, ↓tI_139_23, ↓tI_139_24, ↓tI_139_25, ↓tI_139_26, ↓tR_139_27, ↓tI_139_28, ↓tI_139_29, ↓tI_139_30, ↓tI_139_31, ↓tR_139_32, ↓tI_139_33, ↓tR_139_34, ↓tR_139_35, ↓tR_139_36, ↓tR_139_37, ↓tI_139_38, ↓tA_140, ↓tN_140, ↓tA_143, ↓tN_143, ↓tA_144, ↓tN_144, ↓tA_145, ↓tN_145, ↓tA_146, ↓tN_146, ↓tA_149, ↓tN_149, ↓wLd_of h5, a, g, g2, ↓wF_eq rf, and_self]
    · simp (disch := omega) only [↓w_eBin, ↓w_eUn, ↓w_eDiv, ↓w_eRem, ↓w_eFld, ↓w_rFld, ↓w_eALd, ↓w_rALd, ↓w_eALen, ↓w_rStr, ↓w_aNil, ↓w_aI, ↓w_aR, ↓w_N, ↓w_eCall, ↓w_X, ↓w_bCmp, ↓w_bAnd, ↓w_bOr, ↓w_bNot, ↓w_eB, ↓w_eIte, ↓w_sSkip, ↓w_sRet, ↓w_sRetZ, ↓w_sRetV, ↓w_sBrk, ↓w_sCont, ↓w_sIf, ↓w_sSeq, ↓w_sCaC, ↓w_sCaB, ↓w_sSw, ↓w_sCall, ↓w_sPut, ↓w_sPutOp, ↓w_sASt, ↓w_sAOp, ↓w_sADiv, ↓w_eLoc0, ↓w_rLoc0, ↓w_sSet0, ↓w_sSetR0, ↓w_sIncP0, ↓w_sIncM0, ↓w_eLoc1, ↓w_rLoc1, ↓w_sSet1, ↓w_sSetR1, ↓w_sIncP1, ↓w_sIncM1, ↓w_eLoc2, ↓w_rLoc2, ↓w_sSet2, ↓w_sSetR2, ↓w_sIncP2, ↓w_sIncM2, ↓w_eLoc3, ↓w_rLoc3, ↓w_sSet3, ↓w_sSetR3, ↓w_sIncP3, ↓w_sIncM3, ↓w_eLoc4, ↓w_rLoc4, ↓w_sSet4, ↓w_sSetR4, ↓w_sIncP4, ↓w_sIncM4, ↓w_eLoc5, ↓w_rLoc5, ↓w_sSet5, ↓w_sSetR5, ↓w_sIncP5, ↓w_sIncM5, ↓w_eLoc6, ↓w_rLoc6, ↓w_sSet6, ↓w_sSetR6, ↓w_sIncP6, ↓w_sIncM6, ↓w_eLoc7, ↓w_rLoc7, ↓w_sSet7, ↓w_sSetR7, ↓w_sIncP7, ↓w_sIncM7, ↓w_eLoc8, ↓w_rLoc8, ↓w_sSet8, ↓w_sSetR8, ↓w_sIncP8, ↓w_sIncM8, ↓w_eLoc9, ↓w_rLoc9, ↓w_sSet9, ↓w_sSetR9, ↓w_sIncP9, ↓w_sIncM9, ↓w_eLoc10, ↓w_rLoc10, ↓w_sSet10, ↓w_sSetR10, ↓w_sIncP10, ↓w_sIncM10, ↓w_eLoc11, ↓w_rLoc11, ↓w_sSet11, ↓w_sSetR11, ↓w_sIncP11, ↓w_sIncM11, ↓w_eLoc12, ↓w_rLoc12, ↓w_sSet12, ↓w_sSetR12, ↓w_sIncP12, ↓w_sIncM12, ↓w_eLoc13, ↓w_rLoc13, ↓w_sSet13, ↓w_sSetR13, ↓w_sIncP13, ↓w_sIncM13, ↓w_eIntN, ↓w_eIntM, ↓w_bZi, ↓w_add, ↓w_sub, ↓w_mul, ↓w_neg, ↓w_nar, ↓w_div, ↓w_ldne, ↓w_ldat, ↓w_ldj, List.length_cons, List.length_nil, Nat.reduceAdd, Nat.reduceSub, Nat.reduceLeDiff, List.replicate_succ, List.replicate_zero, List.cons_append, List.nil_append, List.append_nil, iz_nI, iz_ofNat, iz_add, iz_sub, iz_mul, cz_lt, cz_le, cz_gt, cz_ge, cz_eq, cz_ne, mIn_iz, iz_nat, decide_eq_true_eq, Bool.not_eq_true', decide_eq_false_iff_not, true_and, and_true, ↓reduceIte, not_true_eq_false, not_false_eq_true, w01_bI, w01_i0, w01_i1, bI_ne', bI_eq', bI_t, bI_f, Bool.false_eq_true, false_implies, forall_const, implies_true, true_implies, imp_self, eq_self, cz10, cz00, w01_0, w01_1, Bool.true_eq_false, Bool.not_true, Bool.not_false, decide_true, decide_false, ↓tO_0, ↓tR_0_0, ↓tI_0_1, ↓tR_0_2, ↓tR_0_3, ↓tR_0_4, ↓tR_0_5, ↓tR_0_6, ↓tI_0_7, ↓tR_0_8, ↓tR_0_9, ↓tR_0_10, ↓tR_0_11, ↓tR_0_12, ↓tA_1, ↓tN_1, ↓tO_2, ↓tR_2_0, ↓tR_2_1, ↓tR_2_2, ↓tI_2_3, ↓tI_2_4, ↓tI_2_5, ↓tI_2_6, ↓tI_2_7, ↓tI_2_8, ↓tA_3, ↓tN_3, ↓tA_4, ↓tN_4, ↓tA_5, ↓tN_5, ↓tO_6, ↓tI_6_0, ↓tI_6_1, ↓tI_6_2, ↓tI_6_3, ↓tR_6_4, ↓tR_6_5, ↓tR_6_6, ↓tR_6_7, ↓tA_7, ↓tN_7, ↓tA_8, ↓tN_8, ↓tA_9, ↓tN_9, ↓tO_139, ↓tR_139_0, ↓tR_139_1, ↓tR_139_2, ↓tI_139_3, ↓tR_139_4, ↓tR_139_5, ↓tR_139_6, ↓tR_139_7, ↓tR_139_8, ↓tR_139_9, ↓tR_139_10, ↓tI_139_11, ↓tI_139_12, ↓tI_139_13, ↓tI_139_14, ↓tI_139_15, ↓tI_139_16, ↓tI_139_17, ↓tI_139_18, ↓tI_139_19, ↓tI_139_20, ↓tI_139_21, ↓tI_139_22, ↓tI_139_23, ↓tI_139_24, ↓tI_139_25, ↓tI_139_26, ↓tR_139_27, ↓tI_139_28, ↓tI_139_29, ↓tI_139_30, ↓tI_139_31, ↓tR_139_32, ↓tI_139_33, ↓tR_139_34, ↓tR_139_35, ↓tR_139_36, ↓tR_139_37, ↓tI_139_38, ↓tA_140, ↓tN_140, ↓tA_143, ↓tN_143, ↓tA_144, ↓tN_144, ↓tA_145, ↓tN_145, ↓tA_146, ↓tN_146, ↓tA_149, ↓tN_149, ↓wLd_of h5, a, g, ↓wF_eq rf, and_self]
theorem tokM_N {D : mMem} (hF : FrN C D) : FrR C D := ⟨fun a a1 _ => hF.1 a a1, fun i hi => hF.2 i (by omega) (by omega) (by omega) (by omega)⟩
/-- the reference's numbers of the kinds in a rule -/
theorem ph_d {K : Int} (hw : wh ≠ 3) (h0 : 0 ≤ K) (h1 : K ≤ 273) : (K = 0 ∧ ph wh K = 0) ∨ (K = 1 ∧ ph wh K = 2) ∨ (K = 2 ∧ ph wh K = 1) ∨ (3 ≤ K ∧ K < 256 ∧ ph wh K = 100 + K) ∨ (K = 256 ∧ ph wh K = 20) ∨ (K = 257 ∧ ph wh K = 21) ∨ (K = 258 ∧ ph wh K = 3) ∨ (K = 259 ∧ ph wh K = 4) ∨ (K = 260 ∧ ph wh K = 5) ∨ (K = 261 ∧ ph wh K = 6) ∨ (262 ≤ K ∧ K ≤ 271 ∧ ph wh K = K - 221) ∨ (272 ≤ K ∧ ph wh K = 1) := by
  unfold ph
  rw [if_neg hw]
  by_cases a0 : K = 0
  · rw [if_pos a0]; omega
  rw [if_neg a0]
  by_cases a1 : K = 1
  · rw [if_pos a1]; omega
  rw [if_neg a1]
  by_cases a2 : K = 2
  · rw [if_pos a2]; omega
  rw [if_neg a2]
  by_cases a3 : K < 256
  · rw [if_pos a3]; omega
  rw [if_neg a3]
  by_cases b1 : K = 258
  · rw [if_pos b1]; omega
  rw [if_neg b1]
  by_cases b2 : K = 259
  · rw [if_pos b2]; omega
  rw [if_neg b2]
  by_cases b3 : K = 260
  · rw [if_pos b3]; omega
  rw [if_neg b3]
  by_cases b4 : K = 261
  · rw [if_pos b4]; omega
  rw [if_neg b4]
  by_cases b5 : K = 256
  · rw [if_pos b5]; omega
  rw [if_neg b5]
  by_cases b6 : K = 257
  · rw [if_pos b6]; omega
  rw [if_neg b6]
  by_cases b7 : K ≤ 271
  · rw [if_pos b7]; omega
  rw [if_neg b7]; omega
theorem ph_r {K : Int} (hw : wh ≠ 3) (h0 : 0 ≤ K) (h1 : K ≤ 273) : (ph wh K = 2 ↔ K = 1) ∧ (41 ≤ ph wh K ∧ ph wh K ≤ 50 ↔ 262 ≤ K ∧ K ≤ 271) ∧ (262 ≤ K ∧ K ≤ 271 → ph wh K = K - 221) ∧ (∀ c : Int, 33 ≤ c → c < 127 → (ph wh K = 100 + c ↔ K = c)) ∧ (ph wh K = 3 ↔ K = 258) ∧ (ph wh K = 4 ↔ K = 259) ∧ (ph wh K = 5 ↔ K = 260) ∧ (ph wh K = 6 ↔ K = 261) ∧ (ph wh K = 20 ↔ K = 256) ∧ (ph wh K = 21 ↔ K = 257) ∧ (ph wh K = 0 ↔ K = 0) ∧ 0 ≤ ph wh K ∧ ph wh K ≤ 400 := by
  have d := ph_d hw h0 h1
  generalize ph wh K = p at *
  rcases d with d | d | d | d | d | d | d | d | d | d | d | d <;> exact ⟨by omega, by omega, by omega, fun c c0 c1 => by omega, by omega, by omega, by omega, by omega, by omega, by omega, by omega, by omega, by omega⟩
theorem rf_unit (hT : TokM C b L wh j) (hw : wh ≠ 3) (hO : OutM C l) (hl : l.length < 400) (hk : 0 ≤ kj b L j ∧ kj b L j ≤ 273) : ∃ t D, f_M_unit [.ref 139] C = some (some (bI t), D) ∧ PoM b L wh C l t D (unF (kj b L) (vj b L) j) := by
  have h18 := hT.2.2.1
  obtain ⟨p1, p2, p3, -, -, -, -, -, -, -, -, p0, p4⟩ := ph_r hw hk.1 hk.2
  rcases unF_c (kj b L) (vj b L) j with ⟨a, hr⟩ | ⟨a, c, hr⟩ | ⟨a, c, hr⟩ <;> rw [hr]
  · have h20 := hT.2.2.2.2 a
    have e2 : ph wh (kj b L j) = 2 := p1.mpr a
    rw [e2] at h18
    have ly := rf_lay (s := 0) (x := iz (vj b L j)) hO hl
    have o2 := outM_lay (s := 0) (v := vj b L j) (x := iz (vj b L j)) hO (fun _ => rfl)
    generalize hE : mUp (mUp (mUp C 144 (2 * l.length) (iz 0)) 144 (2 * l.length + 1) (iz (vj b L j))) 139 13 (iz ((l.length : Int) + 1)) = E at *
    have f1 : ∀ a, a ≠ 139 → a ≠ 144 → E a = C a := fun a a1 a2 => by rw [← hE, up_k a1, up_k a2, up_k a2]
    have f2 : ∀ i, i ≠ 13 → E 139 i = C 139 i := fun i i1 => by rw [← hE, up_j i1, up_k (by omega), up_k (by omega)]
    have tE' : TokM E b L wh j := tokM_fr hT (fun i hi => f2 i (by omega)) (f1 146 (by omega) (by omega))
    obtain ⟨D, e1, d1, d2⟩ := rf_tnext tE'
    refine ⟨true, D, ?_, frR_t ⟨f1, fun i hi => f2 i (by omega)⟩ (tokM_N d2), rfl, d1, outM_fr o2 (d2.2 13 (by omega) (by omega) (by omega) (by omega)) (d2.1 144 (by omega)), by rw [d2.2 21 (by omega) (by omega) (by omega) (by omega), f2 21 (by omega)], by rw [d2.2 24 (by omega) (by omega) (by omega) (by omega), f2 24 (by omega)]⟩
    clear p1 p2 p3
    apply wF_to
    unfold f_M_unit
    simp only [↓w_rcv, ↓w_bodyI, ↓w_bodyZ, ↓w_bodyV, true_and, List.length_cons, List.length_nil, Nat.reduceAdd, Nat.reduceSub, Nat.reduceLeDiff, List.replicate_succ, List.replicate_zero, List.cons_append, List.nil_append, List.append_nil, ↓tO_0, ↓tO_2, ↓tO_6, ↓tO_11, ↓tO_18, ↓tO_19, ↓tO_27, ↓tO_32, ↓tO_37, ↓tO_43, ↓tO_44, ↓tO_52, ↓tO_62, ↓tO_63, ↓tO_71, ↓tO_76, ↓tO_81, ↓tO_87, ↓tO_88, ↓tO_96, ↓tO_106, ↓tO_107, ↓tO_115, ↓tO_127, ↓tO_127c, ↓tO_133, ↓tO_133c, ↓tO_139]
    unfold S_M_unit
    simp (disch := omega) only [↓w_eBin, ↓w_eUn, ↓w_eDiv, ↓w_eRem, ↓w_eFld, ↓w_rFld, ↓w_eALd, ↓w_rALd, ↓w_eALen, ↓w_rStr, ↓w_aNil, ↓w_aI, ↓w_aR, ↓w_N, ↓w_eCall, ↓w_X, ↓w_bCmp, ↓w_bAnd, ↓w_bOr, ↓w_bNot, ↓w_eB, ↓w_eIte, ↓w_sSkip, ↓w_sRet, ↓w_sRetZ, ↓w_sRetV, ↓w_sBrk, ↓w_sCont, ↓w_sIf, ↓w_sSeq, ↓w_sCaC, ↓w_sCaB, ↓w_sSw, ↓w_sCall, ↓w_sPut, ↓w_sPutOp, ↓w_sASt, ↓w_sAOp, ↓w_sADiv, ↓w_eLoc0, ↓w_rLoc0, ↓w_sSet0, ↓w_sSetR0, ↓w_sIncP0, ↓w_sIncM0, ↓w_eLoc1, ↓w_rLoc1, ↓w_sSet1, ↓w_sSetR1, ↓w_sIncP1, ↓w_sIncM1, ↓w_eLoc2, ↓w_rLoc2, ↓w_sSet2, ↓w_sSetR2, ↓w_sIncP2, ↓w_sIncM2, ↓w_eLoc3, ↓w_rLoc3, ↓w_sSet3, ↓w_sSetR3, ↓w_sIncP3, ↓w_sIncM3, ↓w_eLoc4, ↓w_rLoc4, ↓w_sSet4, ↓w_sSetR4, ↓w_sIncP4, ↓w_sIncM4, ↓w_eLoc5, ↓w_rLoc5, ↓w_sSet5, ↓w_sSetR5, ↓w_sIncP5, ↓w_sIncM5, ↓w_eLoc6, ↓w_rLoc6, ↓w_sSet6, ↓w_sSetR6, ↓w_sIncP6, ↓w_sIncM6, ↓w_eLoc7, ↓w_rLoc7, ↓w_sSet7, ↓w_sSetR7, ↓w_sIncP7, ↓w_sIncM7, ↓w_eLoc8, ↓w_rLoc8, ↓w_sSet8, ↓w_sSetR8, ↓w_sIncP8, ↓w_sIncM8, ↓w_eLoc9, ↓w_rLoc9, ↓w_sSet9, ↓w_sSetR9, ↓w_sIncP9, ↓w_sIncM9, ↓w_eLoc10, ↓w_rLoc10, ↓w_sSet10, ↓w_sSetR10, ↓w_sIncP10, ↓w_sIncM10, ↓w_eLoc11, ↓w_rLoc11, ↓w_sSet11, ↓w_sSetR11, ↓w_sIncP11, ↓w_sIncM11, ↓w_eLoc12, ↓w_rLoc12, ↓w_sSet12, ↓w_sSetR12, ↓w_sIncP12, ↓w_sIncM12, ↓w_eLoc13, ↓w_rLoc13, ↓w_sSet13, ↓w_sSetR13, ↓w_sIncP13, ↓w_sIncM13, ↓w_eIntN, ↓w_eIntM, ↓w_bZi, ↓w_add, ↓w_sub, ↓w_mul, ↓w_neg, ↓w_nar, ↓w_div, ↓w_ldne, ↓w_ldat, ↓w_ldj, List.length_cons, List.length_nil, Nat.reduceAdd, Nat.reduceSub, Nat.reduceLeDiff, List.replicate_succ, List.replicate_zero, List.cons_append, List.nil_append, List.append_nil, iz_nI, iz_ofNat, iz_add, iz_sub, iz_mul, cz_lt, cz_le, cz_gt, cz_ge, cz_eq, cz_ne, mIn_iz, iz_nat, decide_eq_true_eq, Bool.not_eq_true', decide_eq_false_iff_not, true_and, and_true, ↓reduceIte, not_true_eq_false, not_false_eq_true, w01_bI, w01_i0, w01_i1, bI_ne', bI_eq', bI_t, bI_f, Bool.false_eq_true, false_implies, forall_const, implies_true, true_implies, imp_self, eq_self, cz10, cz00, w01_0, w01_1, Bool.true_eq_false, Bool.not_true, Bool.not_false, decide_true, decide_false, ↓tO_0, ↓tR_0_0, ↓tI_0_1, ↓tR_0_2, ↓tR_0_3, ↓tR_0_4, ↓tR_0_5, ↓tR_0_6, ↓tI_0_7, ↓tR_0_8, ↓tR_0_9, ↓tR_0_10, ↓tR_0_11, ↓tR_0_12, ↓tA_1, ↓tN_1, ↓tO_2, ↓tR_2_0, ↓tR_2_1, ↓tR_2_2, ↓tI_2_3, ↓tI_2_4, ↓tI_2_5, ↓tI_2_6, ↓tI_2_7, ↓tI_2_8, ↓tA_3, ↓tN_3, ↓tA_4, ↓tN_4, ↓tA_5, ↓tN_5, ↓tO_6, ↓tI_6_0, ↓tI_6_1, ↓tI_6_2, ↓tI_6_3, ↓tR_6_4, ↓tR_6_5, ↓tR_6_6, ↓tR_6_7, ↓tA_7, ↓tN_7, ↓tA_8, ↓tN_8, ↓tA_9, ↓tN_9, ↓tO_139, ↓tR_139_0, ↓tR_139_1, ↓tR_139_2, ↓tI_139_3, ↓tR_139_4, ↓tR_139_5, ↓tR_139_6, ↓tR_139_7, ↓tR_139_8, ↓tR_139_9, ↓tR_139_10, ↓tI_139_11, ↓tI_139_12, ↓tI_139_13, ↓tI_139_14, ↓tI_139_15, ↓tI_139_16, ↓tI_139_17, ↓tI_139_18, ↓tI_139_19, ↓tI_139_20, ↓tI_139_21, ↓tI_139_22, ↓tI_139_23, ↓tI_139_24, ↓tI_139_25, ↓tI_139_26, ↓tR_139_27, ↓tI_139_28, ↓tI_139_29, ↓tI_139_30, ↓tI_139_31, ↓tR_139_32, ↓tI_139_33, ↓tR_139_34, ↓tR_139_35, ↓tR_139_36, ↓tR_139_37, ↓tI_139_38, ↓tA_140, ↓tN_140, ↓tA_143, ↓tN_143, ↓tA_144, ↓tN_144, ↓tA_145, ↓tN_145, ↓tA_146, ↓tN_146, ↓tA_149, ↓tN_149, ↓wLd_of h18, ↓wLd_of h20, ↓wf_isIn, Int.reduceLE, false_and, ↓wF_eq ly, ↓wF_eq e1]
    rfl
  · have e3 := p3 ⟨a, c⟩
    rw [e3] at h18
    have r1 : 41 ≤ kj b L j - 221 ∧ kj b L j - 221 ≤ 50 := by omega
    have r2 : ¬ kj b L j - 221 = 2 := by omega
    have r3 : kj b L j - 221 - 40 = kj b L j - 261 := by omega
    have ly := rf_lay (s := kj b L j - 261) (x := C 139 20) hO hl
    have o2 := outM_lay (s := kj b L j - 261) (v := 0) (x := C 139 20) hO (fun z => by omega)
    generalize hE : mUp (mUp (mUp C 144 (2 * l.length) (iz (kj b L j - 261))) 144 (2 * l.length + 1) (C 139 20)) 139 13 (iz ((l.length : Int) + 1)) = E at *
    have f1 : ∀ a, a ≠ 139 → a ≠ 144 → E a = C a := fun a a1 a2 => by rw [← hE, up_k a1, up_k a2, up_k a2]
    have f2 : ∀ i, i ≠ 13 → E 139 i = C 139 i := fun i i1 => by rw [← hE, up_j i1, up_k (by omega), up_k (by omega)]
    have tE' : TokM E b L wh j := tokM_fr hT (fun i hi => f2 i (by omega)) (f1 146 (by omega) (by omega))
    obtain ⟨D, e1, d1, d2⟩ := rf_tnext tE'
    refine ⟨true, D, ?_, frR_t ⟨f1, fun i hi => f2 i (by omega)⟩ (tokM_N d2), rfl, d1, outM_fr o2 (d2.2 13 (by omega) (by omega) (by omega) (by omega)) (d2.1 144 (by omega)), by rw [d2.2 21 (by omega) (by omega) (by omega) (by omega), f2 21 (by omega)], by rw [d2.2 24 (by omega) (by omega) (by omega) (by omega), f2 24 (by omega)]⟩
    clear p1 p2 p3
    apply wF_to
    unfold f_M_unit
    simp only [↓w_rcv, ↓w_bodyI, ↓w_bodyZ, ↓w_bodyV, true_and, List.length_cons, List.length_nil, Nat.reduceAdd, Nat.reduceSub, Nat.reduceLeDiff, List.replicate_succ, List.replicate_zero, List.cons_append, List.nil_append, List.append_nil, ↓tO_0, ↓tO_2, ↓tO_6, ↓tO_11, ↓tO_18, ↓tO_19, ↓tO_27, ↓tO_32, ↓tO_37, ↓tO_43, ↓tO_44, ↓tO_52, ↓tO_62, ↓tO_63, ↓tO_71, ↓tO_76, ↓tO_81, ↓tO_87, ↓tO_88, ↓tO_96, ↓tO_106, ↓tO_107, ↓tO_115, ↓tO_127, ↓tO_127c, ↓tO_133, ↓tO_133c, ↓tO_139]
    unfold S_M_unit
    simp (disch := omega) only [↓w_eBin, ↓w_eUn, ↓w_eDiv, ↓w_eRem, ↓w_eFld, ↓w_rFld, ↓w_eALd, ↓w_rALd, ↓w_eALen, ↓w_rStr, ↓w_aNil, ↓w_aI, ↓w_aR, ↓w_N, ↓w_eCall, ↓w_X, ↓w_bCmp, ↓w_bAnd, ↓w_bOr, ↓w_bNot, ↓w_eB, ↓w_eIte, ↓w_sSkip, ↓w_sRet, ↓w_sRetZ, ↓w_sRetV, ↓w_sBrk, ↓w_sCont, ↓w_sIf, ↓w_sSeq, ↓w_sCaC, ↓w_sCaB, ↓w_sSw, ↓w_sCall, ↓w_sPut, ↓w_sPutOp, ↓w_sASt, ↓w_sAOp, ↓w_sADiv, ↓w_eLoc0, ↓w_rLoc0, ↓w_sSet0, ↓w_sSetR0, ↓w_sIncP0, ↓w_sIncM0, ↓w_eLoc1, ↓w_rLoc1, ↓w_sSet1, ↓w_sSetR1, ↓w_sIncP1, ↓w_sIncM1, ↓w_eLoc2, ↓w_rLoc2, ↓w_sSet2, ↓w_sSetR2, ↓w_sIncP2, ↓w_sIncM2, ↓w_eLoc3, ↓w_rLoc3, ↓w_sSet3, ↓w_sSetR3, ↓w_sIncP3, ↓w_sIncM3, ↓w_eLoc4, ↓w_rLoc4, ↓w_sSet4, ↓w_sSetR4, ↓w_sIncP4, ↓w_sIncM4, ↓w_eLoc5, ↓w_rLoc5, ↓w_sSet5, ↓w_sSetR5, ↓w_sIncP5, ↓w_sIncM5, ↓w_eLoc6, ↓w_rLoc6, ↓w_sSet6, ↓w_sSetR6, ↓w_sIncP6, ↓w_sIncM6, ↓w_eLoc7, ↓w_rLoc7, ↓w_sSet7, ↓w_sSetR7, ↓w_sIncP7, ↓w_sIncM7, ↓w_eLoc8, ↓w_rLoc8, ↓w_sSet8, ↓w_sSetR8, ↓w_sIncP8, ↓w_sIncM8, ↓w_eLoc9, ↓w_rLoc9, ↓w_sSet9, ↓w_sSetR9, ↓w_sIncP9, ↓w_sIncM9, ↓w_eLoc10, ↓w_rLoc10, ↓w_sSet10, ↓w_sSetR10, ↓w_sIncP10, ↓w_sIncM10, ↓w_eLoc11, ↓w_rLoc11, ↓w_sSet11, ↓w_sSetR11, ↓w_sIncP11, ↓w_sIncM11, ↓w_eLoc12, ↓w_rLoc12, ↓w_sSet12, ↓w_sSetR12, ↓w_sIncP12, ↓w_sIncM12, ↓w_eLoc13, ↓w_rLoc13, ↓w_sSet13, ↓w_sSetR13, ↓w_sIncP13, ↓w_sIncM13, ↓w_eIntN, ↓w_eIntM, ↓w_bZi, ↓w_add, ↓w_sub, ↓w_mul, ↓w_neg, ↓w_nar, ↓w_div, ↓w_ldne, ↓w_ldat, ↓w_ldj, List.length_cons, List.length_nil, Nat.reduceAdd, Nat.reduceSub, Nat.reduceLeDiff, List.replicate_succ, List.replicate_zero, List.cons_append, List.nil_append, List.append_nil, iz_nI, iz_ofNat, iz_add, iz_sub, iz_mul, cz_lt, cz_le, cz_gt, cz_ge, cz_eq, cz_ne, mIn_iz, iz_nat, decide_eq_true_eq, Bool.not_eq_true', decide_eq_false_iff_not, true_and, and_true, ↓reduceIte, not_true_eq_false, not_false_eq_true, w01_bI, w01_i0, w01_i1, bI_ne', bI_eq', bI_t, bI_f, Bool.false_eq_true, false_implies, forall_const, implies_true, true_implies, imp_self, eq_self, cz10, cz00, w01_0, w01_1, Bool.true_eq_false, Bool.not_true, Bool.not_false, decide_true, decide_false, ↓tO_0, ↓tR_0_0, ↓tI_0_1, ↓tR_0_2, ↓tR_0_3, ↓tR_0_4, ↓tR_0_5, ↓tR_0_6, ↓tI_0_7, ↓tR_0_8, ↓tR_0_9, ↓tR_0_10, ↓tR_0_11, ↓tR_0_12, ↓tA_1, ↓tN_1, ↓tO_2, ↓tR_2_0, ↓tR_2_1, ↓tR_2_2, ↓tI_2_3, ↓tI_2_4, ↓tI_2_5, ↓tI_2_6, ↓tI_2_7, ↓tI_2_8, ↓tA_3, ↓tN_3, ↓tA_4, ↓tN_4, ↓tA_5, ↓tN_5, ↓tO_6, ↓tI_6_0, ↓tI_6_1, ↓tI_6_2, ↓tI_6_3, ↓tR_6_4, ↓tR_6_5, ↓tR_6_6, ↓tR_6_7, ↓tA_7, ↓tN_7, ↓tA_8, ↓tN_8, ↓tA_9, ↓tN_9, ↓tO_139, ↓tR_139_0, ↓tR_139_1, ↓tR_139_2, ↓tI_139_3, ↓tR_139_4, ↓tR_139_5, ↓tR_139_6, ↓tR_139_7, ↓tR_139_8, ↓tR_139_9, ↓tR_139_10, ↓tI_139_11, ↓tI_139_12, ↓tI_139_13, ↓tI_139_14, ↓tI_139_15, ↓tI_139_16, ↓tI_139_17, ↓tI_139_18, ↓tI_139_19, ↓tI_139_20, ↓tI_139_21, ↓tI_139_22, ↓tI_139_23, ↓tI_139_24, ↓tI_139_25, ↓tI_139_26, ↓tR_139_27, ↓tI_139_28, ↓tI_139_29, ↓tI_139_30, ↓tI_139_31, ↓tR_139_32, ↓tI_139_33, ↓tR_139_34, ↓tR_139_35, ↓tR_139_36, ↓tR_139_37, ↓tI_139_38, ↓tA_140, ↓tN_140, ↓tA_143, ↓tN_143, ↓tA_144, ↓tN_144, ↓tA_145, ↓tN_145, ↓tA_146, ↓tN_146, ↓tA_149, ↓tN_149, ↓wLd_of h18, ↓w_ld, ↓wf_isIn, r1, r2, r3, ↓wF_eq ly, ↓wF_eq e1]
    rfl
  · have rf := rf_bad (k := 1) hT
    have n1 : ¬ ph wh (kj b L j) = 2 := fun z => a (p1.mp z)
    have n2 : ¬ (41 ≤ ph wh (kj b L j) ∧ ph wh (kj b L j) ≤ 50) := fun z => c (p2.mp z)
    refine ⟨false, mUp (mUp C 139 21 (iz 1)) 139 22 (iz (st b L j)), ?_, ⟨fun a a1 _ => by rw [up_k a1, up_k a1], fun i hi => by rw [up_j (by omega), up_j (by omega)]⟩, rfl, by rw [up_j (by omega), up_at], up_at⟩
    clear p1 p2 p3
    generalize ph wh (kj b L j) = w at *
    apply wF_to
    unfold f_M_unit
    simp only [↓w_rcv, ↓w_bodyI, ↓w_bodyZ, ↓w_bodyV, true_and, List.length_cons, List.length_nil, Nat.reduceAdd, Nat.reduceSub, Nat.reduceLeDiff, List.replicate_succ, List.replicate_zero, List.cons_append, List.nil_append, List.append_nil, ↓tO_0, ↓tO_2, ↓tO_6, ↓tO_11, ↓tO_18, ↓tO_19, ↓tO_27, ↓tO_32, ↓tO_37, ↓tO_43, ↓tO_44, ↓tO_52, ↓tO_62, ↓tO_63, ↓tO_71, ↓tO_76, ↓tO_81, ↓tO_87, ↓tO_88, ↓tO_96, ↓tO_106, ↓tO_107, ↓tO_115, ↓tO_127, ↓tO_127c, ↓tO_133, ↓tO_133c, ↓tO_139]
    unfold S_M_unit
    simp (disch := omega) only [↓w_eBin, ↓w_eUn, ↓w_eDiv, ↓w_eRem, ↓w_eFld, ↓w_rFld, ↓w_eALd, ↓w_rALd, ↓w_eALen, ↓w_rStr, ↓w_aNil, ↓w_aI, ↓w_aR, ↓w_N, ↓w_eCall, ↓w_X, ↓w_bCmp, ↓w_bAnd, ↓w_bOr, ↓w_bNot, ↓w_eB, ↓w_eIte, ↓w_sSkip, ↓w_sRet, ↓w_sRetZ, ↓w_sRetV, ↓w_sBrk, ↓w_sCont, ↓w_sIf, ↓w_sSeq, ↓w_sCaC, ↓w_sCaB, ↓w_sSw, ↓w_sCall, ↓w_sPut, ↓w_sPutOp, ↓w_sASt, ↓w_sAOp, ↓w_sADiv, ↓w_eLoc0, ↓w_rLoc0, ↓w_sSet0, ↓w_sSetR0, ↓w_sIncP0, ↓w_sIncM0, ↓w_eLoc1, ↓w_rLoc1, ↓w_sSet1, ↓w_sSetR1, ↓w_sIncP1, ↓w_sIncM1, ↓w_eLoc2, ↓w_rLoc2, ↓w_sSet2, ↓w_sSetR2, ↓w_sIncP2, ↓w_sIncM2, ↓w_eLoc3, ↓w_rLoc3, ↓w_sSet3, ↓w_sSetR3, ↓w_sIncP3, ↓w_sIncM3, ↓w_eLoc4, ↓w_rLoc4, ↓w_sSet4, ↓w_sSetR4, ↓w_sIncP4, ↓w_sIncM4, ↓w_eLoc5, ↓w_rLoc5, ↓w_sSet5, ↓w_sSetR5, ↓w_sIncP5, ↓w_sIncM5, ↓w_eLoc6, ↓w_rLoc6, ↓w_sSet6, ↓w_sSetR6, ↓w_sIncP6, ↓w_sIncM6, ↓w_eLoc7, ↓w_rLoc7, ↓w_sSet7, ↓w_sSetR7, ↓w_sIncP7, ↓w_sIncM7, ↓w_eLoc8, ↓w_rLoc8, ↓w_sSet8, ↓w_sSetR8, ↓w_sIncP8, ↓w_sIncM8, ↓w_eLoc9, ↓w_rLoc9, ↓w_sSet9, ↓w_sSetR9, ↓w_sIncP9, ↓w_sIncM9, ↓w_eLoc10, ↓w_rLoc10, ↓w_sSet10, ↓w_sSetR10, ↓w_sIncP10, ↓w_sIncM10, ↓w_eLoc11, ↓w_rLoc11, ↓w_sSet11, ↓w_sSetR11, ↓w_sIncP11, ↓w_sIncM11, ↓w_eLoc12, ↓w_rLoc12, ↓w_sSet12, ↓w_sSetR12, ↓w_sIncP12, ↓w_sIncM12, ↓w_eLoc13, ↓w_rLoc13, ↓w_sSet13, ↓w_sSetR13, ↓w_sIncP13, ↓w_sIncM13, ↓w_eIntN, ↓w_eIntM, ↓w_bZi, ↓w_add, ↓w_sub, ↓w_mul, ↓w_neg, ↓w_nar, ↓w_div, ↓w_ldne, ↓w_ldat, ↓w_ldj, List.length_cons, List.length_nil, Nat.reduceAdd, Nat.reduceSub, Nat.reduceLeDiff, List.replicate_succ, List.replicate_zero, List.cons_append, List.nil_append, List.append_nil, iz_nI, iz_ofNat, iz_add, iz_sub, iz_mul, cz_lt, cz_le, cz_gt, cz_ge, cz_eq, cz_ne, mIn_iz, iz_nat, decide_eq_true_eq, Bool.not_eq_true', decide_eq_false_iff_not, true_and, and_true, ↓reduceIte, not_true_eq_false, not_false_eq_true, w01_bI, w01_i0, w01_i1, bI_ne', bI_eq', bI_t, bI_f, Bool.false_eq_true, false_implies, forall_const, implies_true, true_implies, imp_self, eq_self, cz10, cz00, w01_0, w01_1, Bool.true_eq_false, Bool.not_true, Bool.not_false, decide_true, decide_false, ↓tO_0, ↓tR_0_0, ↓tI_0_1, ↓tR_0_2, ↓tR_0_3, ↓tR_0_4, ↓tR_0_5, ↓tR_0_6, ↓tI_0_7, ↓tR_0_8, ↓tR_0_9, ↓tR_0_10, ↓tR_0_11, ↓tR_0_12, ↓tA_1, ↓tN_1, ↓tO_2, ↓tR_2_0, ↓tR_2_1, ↓tR_2_2, ↓tI_2_3, ↓tI_2_4, ↓tI_2_5, ↓tI_2_6, ↓tI_2_7, ↓tI_2_8, ↓tA_3, ↓tN_3, ↓tA_4, ↓tN_4, ↓tA_5, ↓tN_5, ↓tO_6, ↓tI_6_0, ↓tI_6_1, ↓tI_6_2, ↓tI_6_3, ↓tR_6_4, ↓tR_6_5, ↓tR_6_6, ↓tR_6_7, ↓tA_7, ↓tN_7, ↓tA_8, ↓tN_8, ↓tA_9, ↓tN_9, ↓tO_139, ↓tR_139_0, ↓tR_139_1, ↓tR_139_2, ↓tI_139_3, ↓tR_139_4, ↓tR_139_5, ↓tR_139_6, ↓tR_139_7, ↓tR_139_8, ↓tR_139_9, ↓tR_139_10, ↓tI_139_11, ↓tI_139_12, ↓tI_139_13, ↓tI_139_14, ↓tI_139_15, ↓tI_139_16, ↓tI_139_17, ↓tI_139_18, ↓tI_139_19, ↓tI_139_20, ↓tI_139_21, ↓tI_139_22, ↓tI_139_23, ↓tI_139_24, ↓tI_139_25, ↓tI_139_26, ↓tR_139_27, ↓tI_139_28, ↓tI_139_29, ↓tI_139_30, ↓tI_139_31, ↓tR_139_32, ↓tI_139_33, ↓tR_139_34, ↓tR_139_35, ↓tR_139_36, ↓tR_139_37, ↓tI_139_38, ↓tA_140, ↓tN_140, ↓tA_143, ↓tN_143, ↓tA_144, ↓tN_144, ↓tA_145, ↓tN_145, ↓tA_146, ↓tN_146, ↓tA_149, ↓tN_149, ↓wLd_of h18, ↓wf_isIn, n1, n2, ↓wF_eq rf, and_self]
end
end

/-! texts: the small steps of both readers, and units -/
noncomputable section
section
variable {b : Nat → Int} {L n j q : Nat} {C D E G : mMem} {l o : List (Int × Int)} {wh dp : Int}
/-- what holds of the tokens -/
def NK (b : Nat → Int) (L n : Nat) : Prop := (∀ j, n ≤ j → kj b L j = 0) ∧ n ≤ 400 ∧ (∀ j, 0 ≤ kj b L j ∧ kj b L j ≤ 273) ∧ ∀ j, 0 ≤ vj b L j ∧ vj b L j ≤ 9999
theorem nk_of (h : TokA C b L n) : NK b L n := by
  have h3 := h.2.2.1
  have h4 := h.2.2.2.1
  refine ⟨fun j hj => (kj_rg h).1 hj, by omega, fun j => ?_, fun j => vj_rg h⟩
  have kr := kj_rg (j := j) h
  by_cases z : j < n
  · have := kr.2 z; omega
  · have := kr.1 (by omega); omega
def FrC (C D : mMem) : Prop := (∀ a, a ≠ 2 → a ≠ 6 → a ≠ 9 → D a = C a) ∧ (∀ i, i ≠ 2 → i ≠ 3 → D 6 i = C 6 i) ∧ (∀ i, i < 4 ∨ 8 < i → D 2 i = C 2 i)
theorem frC_r (C : mMem) : FrC C C := ⟨fun _ _ _ _ => rfl, fun _ _ _ => rfl, fun _ _ => rfl⟩
theorem frC_t {C D E : mMem} (h : FrC C D) (g : FrC D E) : FrC C E := ⟨fun a x y z => (g.1 a x y z).trans (h.1 a x y z), fun i x y => (g.2.1 i x y).trans (h.2.1 i x y), fun i x => (g.2.2 i x).trans (h.2.2 i x)⟩
def PoC (b : Nat → Int) (L n : Nat) (C : mMem) (l : List (Int × Int)) (t : Bool) (D : mMem) : Rz → Prop
  | .inl (j, o) => FrC C D ∧ t = true ∧ TokC D b L n j ∧ OutC D (l ++ o) ∧ (l ++ o).length ≤ j ∧ j ≤ n ∧ D 2 7 = C 2 7 ∧ D 2 8 = C 2 8
  | .inr (j, f) => FrC C D ∧ t = false ∧ D 2 7 = iz f ∧ D 2 8 = iz (st b L j) ∧ ∃ m : Nat, m ≤ 400 ∧ D 6 3 = iz m
theorem poC_0 (hT : TokC C b L n j) (hO : OutC C l) (hl : l.length ≤ j) (hj : j ≤ n) : PoC b L n C l true C (.inl (j, [])) := ⟨frC_r C, rfl, hT, by rw [List.append_nil]; exact hO, by rw [List.append_nil]; exact hl, hj, rfl, rfl⟩
theorem poC_t {t : Bool} {r : Rz} (P : PoC b L n C l true D (.inl (q, o))) (Q : PoC b L n D (l ++ o) t E r) : PoC b L n C l t E (pre o r) := by
  obtain ⟨p1, -, p3, p4, p5, p6, p7, p8⟩ := P
  rcases r with ⟨j, p⟩ | ⟨j, f⟩
  · obtain ⟨q1, q2, q3, q4, q5, q6, q7, q8⟩ := Q
    rw [List.append_assoc] at q4 q5
    exact ⟨frC_t p1 q1, q2, q3, q4, q5, q6, q7.trans p7, q8.trans p8⟩
  · obtain ⟨q1, q2, q3⟩ := Q
    exact ⟨frC_t p1 q1, q2, q3⟩
theorem poC_k (P : PoC b L n C l true D (.inl (q, o))) : D 2 5 = iz (kj b L q) ∧ D 2 6 = iz (vj b L q) ∧ NK b L n ∧ q ≤ n := ⟨P.2.2.1.2.2.1, P.2.2.1.2.2.2, nk_of P.2.2.1.1, P.2.2.2.2.2.1⟩
theorem nk_lt (h : NK b L n) (g : kj b L q ≠ 0) : q < n := Nat.lt_of_not_le (fun z => g (h.1 q z))
theorem rc_nextG (P : PoC b L n C l true D (.inl (q, o))) (h : kj b L q ≠ 0) : ∃ E, f_Tk_next [.ref 2] D = some (none, E) ∧ PoC b L n C l true E (.inl (q + 1, o)) := by
  have hq := nk_lt (poC_k P).2.2.1 h
  obtain ⟨p1, -, p3, p4, p5, p6, p7, p8⟩ := P
  obtain ⟨E, e1, d1, d2, d3⟩ := rc_tnext p3
  have fr : FrC D E := ⟨fun a a1 a2 a3 => d2 a a1, fun i _ _ => by rw [d2 6 (by omega)], fun i hi => d3 i (by omega) (by omega) (by omega)⟩
  exact ⟨E, e1, frC_t p1 fr, rfl, d1, outC_fr p4 (by rw [d2 6 (by omega)]) (by rw [d2 6 (by omega)]) (d2 9 (by omega)), by omega, by omega, by rw [d3 7 (by omega) (by omega) (by omega)]; exact p7, by rw [d3 8 (by omega) (by omega) (by omega)]; exact p8⟩
theorem rc_refG {f : Int} (P : PoC b L n C l true D (.inl (q, o))) : ∃ E, f_Tk_refuse [.ref 2, .int (iz f)] D = some (some (bI false), E) ∧ PoC b L n C l false E (.inr (q, f)) ∧ TokC E b L n q := by
  obtain ⟨p1, -, p3, p4, p5, p6, p7, p8⟩ := P
  have hn := nk_of p3.1
  have l4 : (l ++ o).length ≤ 400 := by have := hn.2.1; omega
  refine ⟨_, rc_refuse p3, ⟨frC_t p1 ⟨fun a a1 _ _ => by rw [up_k a1, up_k a1], fun i _ _ => by rw [up_k (by omega), up_k (by omega)], fun i hi => by rw [up_j (by omega), up_j (by omega)]⟩, rfl, by rw [up_j (by omega), up_at], up_at, (l ++ o).length, l4, by rw [up_k (by omega), up_k (by omega)]; exact p4.1⟩, tokC_fr p3 (fun a i z => ?_)⟩
  by_cases a2 : a = 2
  · subst a2
    rw [up_j (by omega), up_j (by omega)]
  · rw [up_k a2, up_k a2]
theorem rc_putG {s v k a : Int} (P : PoC b L n C l true D (.inl (q, o))) (hlt : (l ++ o).length < q) (hs : s ≠ 9) (hk : k + 16 * a = rEn s v) (ho : 0 ≤ k ∧ k < 16) (ha : 0 ≤ a ∧ a ≤ 9999) : ∃ E, f_Ru_put [.ref 6, .int (iz k), .int (iz a)] D = some (none, E) ∧ PoC b L n C l true E (.inl (q, o ++ [(s, v)])) := by
  have hn := (poC_k P).2.2.1.2.1
  obtain ⟨p1, -, p3, p4, p5, p6, p7, p8⟩ := P
  have o2 := outC_put (k := k + 16 * a) p4 hk hs
  rw [List.append_assoc] at o2
  refine ⟨_, rc_rput p4 (by omega) ho ha, frC_t p1 ⟨fun a _ a1 a2 => by rw [up_k a1, up_k a2], fun i _ i1 => by rw [up_j i1, up_k (by omega)], fun i _ => by rw [up_k (by omega), up_k (by omega)]⟩, rfl, tokC_fr p3 (fun a i z => by rw [up_k (by omega), up_k (by omega)]), o2, ?_, p6, by rw [up_k (by omega), up_k (by omega)]; exact p7, by rw [up_k (by omega), up_k (by omega)]; exact p8⟩
  rw [← List.append_assoc, List.length_append, List.length_singleton]; omega
theorem rc_rputB {m : Nat} {x y : Int32} (h3 : D 6 3 = iz m) (hm : m ≤ 400) : ∃ E, f_Ru_put [.ref 6, .int x, .int y] D = some (none, E) ∧ (∀ a, a ≠ 6 → a ≠ 9 → E a = D a) ∧ (∀ i, i ≠ 3 → E 6 i = D 6 i) ∧ ∃ m' : Nat, m' ≤ 400 ∧ E 6 3 = iz m' := by
  by_cases lt : (m : Int) < 400
  · have e1 : ∀ z, mUp D 9 (m : Int).toNat z 6 3 = iz (m : Int) := fun z => by rw [up_k (by omega)]; exact h3
    refine ⟨mUp (mUp D 9 (m : Int).toNat (x ||| y <<< (iz 4 &&& 31))) 6 3 (iz ((m : Int) + 1)), ?_, fun a a1 a2 => by rw [up_k a1, up_k a2], fun i i1 => by rw [up_j i1, up_k (by omega)], m + 1, by omega, by rw [up_at]; rfl⟩
    apply wF_to
    unfold f_Ru_put
    simp only [↓w_rcv, ↓w_bodyI, ↓w_bodyZ, ↓w_bodyV, true_and, List.length_cons, List.length_nil, Nat.reduceAdd, Nat.reduceSub, Nat.reduceLeDiff, List.replicate_succ, List.replicate_zero, List.cons_append, List.nil_append, List.append_nil, ↓tO_0, ↓tO_2, ↓tO_6, ↓tO_11, ↓tO_18, ↓tO_19, ↓tO_27, ↓tO_32, ↓tO_37, ↓tO_43, ↓tO_44, ↓tO_52, ↓tO_62, ↓tO_63, ↓tO_71, ↓tO_76, ↓tO_81, ↓tO_87, ↓tO_88, ↓tO_96, ↓tO_106, ↓tO_107, ↓tO_115, ↓tO_127, ↓tO_127c, ↓tO_133, ↓tO_133c, ↓tO_139]
    unfold S_Ru_put
    simp (disch := omega) only [↓w_eBin, ↓w_eUn, ↓w_eDiv, ↓w_eRem, ↓w_eFld, ↓w_rFld, ↓w_eALd, ↓w_rALd, ↓w_eALen, ↓w_rStr, ↓w_aNil, ↓w_aI, ↓w_aR, ↓w_N, ↓w_eCall, ↓w_X, ↓w_bCmp, ↓w_bAnd, ↓w_bOr, ↓w_bNot, ↓w_eB, ↓w_eIte, ↓w_sSkip, ↓w_sRet, ↓w_sRetZ, ↓w_sRetV, ↓w_sBrk, ↓w_sCont, ↓w_sIf, ↓w_sSeq, ↓w_sCaC, ↓w_sCaB, ↓w_sSw, ↓w_sCall, ↓w_sPut, ↓w_sPutOp, ↓w_sASt, ↓w_sAOp, ↓w_sADiv, ↓w_eLoc0, ↓w_rLoc0, ↓w_sSet0, ↓w_sSetR0, ↓w_sIncP0, ↓w_sIncM0, ↓w_eLoc1, ↓w_rLoc1, ↓w_sSet1, ↓w_sSetR1, ↓w_sIncP1, ↓w_sIncM1, ↓w_eLoc2, ↓w_rLoc2, ↓w_sSet2, ↓w_sSetR2, ↓w_sIncP2, ↓w_sIncM2, ↓w_eLoc3, ↓w_rLoc3, ↓w_sSet3, ↓w_sSetR3, ↓w_sIncP3, ↓w_sIncM3, ↓w_eLoc4, ↓w_rLoc4, ↓w_sSet4, ↓w_sSetR4, ↓w_sIncP4, ↓w_sIncM4, ↓w_eLoc5, ↓w_rLoc5, ↓w_sSet5, ↓w_sSetR5, ↓w_sIncP5, ↓w_sIncM5, ↓w_eLoc6, ↓w_rLoc6, ↓w_sSet6, ↓w_sSetR6, ↓w_sIncP6, ↓w_sIncM6, ↓w_eLoc7, ↓w_rLoc7, ↓w_sSet7, ↓w_sSetR7, ↓w_sIncP7, ↓w_sIncM7, ↓w_eLoc8, ↓w_rLoc8, ↓w_sSet8, ↓w_sSetR8, ↓w_sIncP8, ↓w_sIncM8, ↓w_eLoc9, ↓w_rLoc9, ↓w_sSet9, ↓w_sSetR9, ↓w_sIncP9, ↓w_sIncM9, ↓w_eLoc10, ↓w_rLoc10, ↓w_sSet10, ↓w_sSetR10, ↓w_sIncP10, ↓w_sIncM10, ↓w_eLoc11, ↓w_rLoc11, ↓w_sSet11, ↓w_sSetR11, ↓w_sIncP11, ↓w_sIncM11, ↓w_eLoc12, ↓w_rLoc12, ↓w_sSet12, ↓w_sSetR12, ↓w_sIncP12, ↓w_sIncM12, ↓w_eLoc13, ↓w_rLoc13, ↓w_sSet13, ↓w_sSetR13, ↓w_sIncP13, ↓w_sIncM13, ↓w_eIntN, ↓w_eIntM, ↓w_bZi, ↓w_add, ↓w_sub, ↓w_mul, ↓w_neg, ↓w_nar, ↓w_div, ↓w_ldne, ↓w_ldat, ↓w_ldj, List.length_cons, List.length_nil, Nat.reduceAdd, Nat.reduceSub, Nat.reduceLeDiff, List.replicate_succ, List.replicate_zero, List.cons_append, List.nil_append, List.append_nil, iz_ofNat, iz_nI, cz_lt, cz_le, cz_gt, cz_ge, cz_eq, cz_ne, mIn_iz, iz_nat, decide_eq_true_eq, Bool.not_eq_true', decide_eq_false_iff_not, true_and, and_true, ↓reduceIte, not_true_eq_false, not_false_eq_true, w01_bI, w01_i0, w01_i1, bI_ne', bI_eq', bI_t, bI_f, Bool.false_eq_true, false_implies, forall_const, implies_true, true_implies, imp_self, eq_self, ↓tO_6, ↓tI_6_0, ↓tI_6_1, ↓tI_6_2, ↓tI_6_3, ↓tR_6_4, ↓tR_6_5, ↓tR_6_6, ↓tR_6_7, ↓tA_9, ↓tN_9, ↓wLd_of h3, ↓wLd_of (e1 _), lt, ↓w_o2, Int.cast_ofNat_Int, iz_add]
  · refine ⟨D, ?_, fun _ _ _ => rfl, fun _ _ => rfl, m, hm, h3⟩
    apply wF_to
    unfold f_Ru_put
    simp only [↓w_rcv, ↓w_bodyI, ↓w_bodyZ, ↓w_bodyV, true_and, List.length_cons, List.length_nil, Nat.reduceAdd, Nat.reduceSub, Nat.reduceLeDiff, List.replicate_succ, List.replicate_zero, List.cons_append, List.nil_append, List.append_nil, ↓tO_0, ↓tO_2, ↓tO_6, ↓tO_11, ↓tO_18, ↓tO_19, ↓tO_27, ↓tO_32, ↓tO_37, ↓tO_43, ↓tO_44, ↓tO_52, ↓tO_62, ↓tO_63, ↓tO_71, ↓tO_76, ↓tO_81, ↓tO_87, ↓tO_88, ↓tO_96, ↓tO_106, ↓tO_107, ↓tO_115, ↓tO_127, ↓tO_127c, ↓tO_133, ↓tO_133c, ↓tO_139]
    unfold S_Ru_put
    simp (disch := omega) only [↓w_eBin, ↓w_eUn, ↓w_eDiv, ↓w_eRem, ↓w_eFld, ↓w_rFld, ↓w_eALd, ↓w_rALd, ↓w_eALen, ↓w_rStr, ↓w_aNil, ↓w_aI, ↓w_aR, ↓w_N, ↓w_eCall, ↓w_X, ↓w_bCmp, ↓w_bAnd, ↓w_bOr, ↓w_bNot, ↓w_eB, ↓w_eIte, ↓w_sSkip, ↓w_sRet, ↓w_sRetZ, ↓w_sRetV, ↓w_sBrk, ↓w_sCont, ↓w_sIf, ↓w_sSeq, ↓w_sCaC, ↓w_sCaB, ↓w_sSw, ↓w_sCall, ↓w_sPut, ↓w_sPutOp, ↓w_sASt, ↓w_sAOp, ↓w_sADiv, ↓w_eLoc0, ↓w_rLoc0, ↓w_sSet0, ↓w_sSetR0, ↓w_sIncP0, ↓w_sIncM0, ↓w_eLoc1, ↓w_rLoc1, ↓w_sSet1, ↓w_sSetR1, ↓w_sIncP1, ↓w_sIncM1, ↓w_eLoc2, ↓w_rLoc2, ↓w_sSet2, ↓w_sSetR2, ↓w_sIncP2, ↓w_sIncM2, ↓w_eLoc3, ↓w_rLoc3, ↓w_sSet3, ↓w_sSetR3, ↓w_sIncP3, ↓w_sIncM3, ↓w_eLoc4, ↓w_rLoc4, ↓w_sSet4, ↓w_sSetR4, ↓w_sIncP4, ↓w_sIncM4, ↓w_eLoc5, ↓w_rLoc5, ↓w_sSet5, ↓w_sSetR5, ↓w_sIncP5, ↓w_sIncM5, ↓w_eLoc6, ↓w_rLoc6, ↓w_sSet6, ↓w_sSetR6, ↓w_sIncP6, ↓w_sIncM6, ↓w_eLoc7, ↓w_rLoc7, ↓w_sSet7, ↓w_sSetR7, ↓w_sIncP7, ↓w_sIncM7, ↓w_eLoc8, ↓w_rLoc8, ↓w_sSet8, ↓w_sSetR8, ↓w_sIncP8, ↓w_sIncM8, ↓w_eLoc9, ↓w_rLoc9, ↓w_sSet9, ↓w_sSetR9, ↓w_sIncP9, ↓w_sIncM9, ↓w_eLoc10, ↓w_rLoc10, ↓w_sSet10, ↓w_sSetR10, ↓w_sIncP10, ↓w_sIncM10, ↓w_eLoc11, ↓w_rLoc11, ↓w_sSet11, ↓w_sSetR11, ↓w_sIncP11, ↓w_sIncM11, ↓w_eLoc12, ↓w_rLoc12, ↓w_sSet12, ↓w_sSetR12, ↓w_sIncP12, ↓w_sIncM12, ↓w_eLoc13, ↓w_rLoc13, ↓w_sSet13, ↓w_sSetR13, ↓w_sIncP13, ↓w_sIncM13, ↓w_eIntN, ↓w_eIntM, ↓w_bZi, ↓w_add, ↓w_sub, ↓w_mul, ↓w_neg, ↓w_nar, ↓w_div, ↓w_ldne, ↓w_ldat, ↓w_ldj, List.length_cons, List.length_nil, Nat.reduceAdd, Nat.reduceSub, Nat.reduceLeDiff, List.replicate_succ, List.replicate_zero, List.cons_append, List.nil_append, List.append_nil, iz_nI, iz_ofNat, iz_add, iz_sub, iz_mul, cz_lt, cz_le, cz_gt, cz_ge, cz_eq, cz_ne, mIn_iz, iz_nat, decide_eq_true_eq, Bool.not_eq_true', decide_eq_false_iff_not, true_and, and_true, ↓reduceIte, not_true_eq_false, not_false_eq_true, w01_bI, w01_i0, w01_i1, bI_ne', bI_eq', bI_t, bI_f, Bool.false_eq_true, false_implies, forall_const, implies_true, true_implies, imp_self, eq_self, cz10, cz00, w01_0, w01_1, Bool.true_eq_false, Bool.not_true, Bool.not_false, decide_true, decide_false, ↓tO_0, ↓tR_0_0, ↓tI_0_1, ↓tR_0_2, ↓tR_0_3, ↓tR_0_4, ↓tR_0_5, ↓tR_0_6, ↓tI_0_7, ↓tR_0_8, ↓tR_0_9, ↓tR_0_10, ↓tR_0_11, ↓tR_0_12, ↓tA_1, ↓tN_1, ↓tO_2, ↓tR_2_0, ↓tR_2_1, ↓tR_2_2, ↓tI_2_3, ↓tI_2_4, ↓tI_2_5, ↓tI_2_6, ↓tI_2_7, ↓tI_2_8, ↓tA_3, ↓tN_3, ↓tA_4, ↓tN_4, ↓tA_5, ↓tN_5, ↓tO_6, ↓tI_6_0, ↓tI_6_1, ↓tI_6_2, ↓tI_6_3, ↓tR_6_4, ↓tR_6_5, ↓tR_6_6, ↓tR_6_7, ↓tA_7, ↓tN_7, ↓tA_8, ↓tN_8, ↓tA_9, ↓tN_9, ↓tO_139, ↓tR_139_0, ↓tR_139_1, ↓tR_139_2, ↓tI_139_3, ↓tR_139_4, ↓tR_139_5, ↓tR_139_6, ↓tR_139_7, ↓tR_139_8, ↓tR_139_9, ↓tR_139_10, ↓tI_139_11, ↓tI_139_12, ↓tI_139_13, ↓tI_139_14, ↓tI_139_15, ↓tI_139_16, ↓tI_139_17, ↓tI_139_18, ↓tI_139_19, ↓tI_139_20, ↓tI_139_21, ↓tI_139_22, ↓tI_139_23, ↓tI_139_24, ↓tI_139_25, ↓tI_139_26, ↓tR_139_27, ↓tI_139_28, ↓tI_139_29, ↓tI_139_30, ↓tI_139_31, ↓tR_139_32, ↓tI_139_33, ↓tR_139_34, ↓tR_139_35, ↓tR_139_36, ↓tR_139_37, ↓tI_139_38, ↓tA_140, ↓tN_140, ↓tA_143, ↓tN_143, ↓tA_144, ↓tN_144, ↓tA_145, ↓tN_145, ↓tA_146, ↓tN_146, ↓tA_149, ↓tN_149, ↓wLd_of h3, lt, Int.cast_ofNat_Int, and_self]
theorem rc_putB {x y : Int32} {f : Int} (P : PoC b L n C l false D (.inr (q, f))) : ∃ E, f_Ru_put [.ref 6, .int x, .int y] D = some (none, E) ∧ PoC b L n C l false E (.inr (q, f)) ∧ (∀ a, a ≠ 6 → a ≠ 9 → E a = D a) := by
  obtain ⟨p1, p2, p3, p4, m, m1, m2⟩ := P
  obtain ⟨E, e1, f1, f2, f3⟩ := rc_rputB (x := x) (y := y) m2 m1
  exact ⟨E, e1, ⟨frC_t p1 ⟨fun a _ a1 a2 => f1 a a1 a2, fun i _ i1 => f2 i i1, fun i _ => by rw [f1 2 (by omega) (by omega)]⟩, p2, by rw [f1 2 (by omega) (by omega)]; exact p3, by rw [f1 2 (by omega) (by omega)]; exact p4, f3⟩, f1⟩
theorem pu_num {v : Int} (h5 : C 2 5 = iz 1) (h6 : C 2 6 = iz v) (pt : f_Ru_put [.ref 6, .int (iz 0), .int (iz v)] C = some (none, E)) (e1 : f_Tk_next [.ref 2] E = some (none, D)) : f_Ru_readUnit [.ref 6, .ref 2] C = some (some (bI true), D) := by
  apply wF_to
  unfold f_Ru_readUnit
  simp only [↓w_rcv, ↓w_bodyI, ↓w_bodyZ, ↓w_bodyV, true_and, List.length_cons, List.length_nil, Nat.reduceAdd, Nat.reduceSub, Nat.reduceLeDiff, List.replicate_succ, List.replicate_zero, List.cons_append, List.nil_append, List.append_nil, ↓tO_0, ↓tO_2, ↓tO_6, ↓tO_11, ↓tO_18, ↓tO_19, ↓tO_27, ↓tO_32, ↓tO_37, ↓tO_43, ↓tO_44, ↓tO_52, ↓tO_62, ↓tO_63, ↓tO_71, ↓tO_76, ↓tO_81, ↓tO_87, ↓tO_88, ↓tO_96, ↓tO_106, ↓tO_107, ↓tO_115, ↓tO_127, ↓tO_127c, ↓tO_133, ↓tO_133c, ↓tO_139]
  unfold S_Ru_readUnit
  simp (disch := omega) only [↓w_eBin, ↓w_eUn, ↓w_eDiv, ↓w_eRem, ↓w_eFld, ↓w_rFld, ↓w_eALd, ↓w_rALd, ↓w_eALen, ↓w_rStr, ↓w_aNil, ↓w_aI, ↓w_aR, ↓w_N, ↓w_eCall, ↓w_X, ↓w_bCmp, ↓w_bAnd, ↓w_bOr, ↓w_bNot, ↓w_eB, ↓w_eIte, ↓w_sSkip, ↓w_sRet, ↓w_sRetZ, ↓w_sRetV, ↓w_sBrk, ↓w_sCont, ↓w_sIf, ↓w_sSeq, ↓w_sCaC, ↓w_sCaB, ↓w_sSw, ↓w_sCall, ↓w_sPut, ↓w_sPutOp, ↓w_sASt, ↓w_sAOp, ↓w_sADiv, ↓w_eLoc0, ↓w_rLoc0, ↓w_sSet0, ↓w_sSetR0, ↓w_sIncP0, ↓w_sIncM0, ↓w_eLoc1, ↓w_rLoc1, ↓w_sSet1, ↓w_sSetR1, ↓w_sIncP1, ↓w_sIncM1, ↓w_eLoc2, ↓w_rLoc2, ↓w_sSet2, ↓w_sSetR2, ↓w_sIncP2, ↓w_sIncM2, ↓w_eLoc3, ↓w_rLoc3, ↓w_sSet3, ↓w_sSetR3, ↓w_sIncP3, ↓w_sIncM3, ↓w_eLoc4, ↓w_rLoc4, ↓w_sSet4, ↓w_sSetR4, ↓w_sIncP4, ↓w_sIncM4, ↓w_eLoc5, ↓w_rLoc5, ↓w_sSet5, ↓w_sSetR5, ↓w_sIncP5, ↓w_sIncM5, ↓w_eLoc6, ↓w_rLoc6, ↓w_sSet6, ↓w_sSetR6, ↓w_sIncP6, ↓w_sIncM6, ↓w_eLoc7, ↓w_rLoc7, ↓w_sSet7, ↓w_sSetR7, ↓w_sIncP7, ↓w_sIncM7, ↓w_eLoc8, ↓w_rLoc8, ↓w_sSet8, ↓w_sSetR8, ↓w_sIncP8, ↓w_sIncM8, ↓w_eLoc9, ↓w_rLoc9, ↓w_sSet9, ↓w_sSetR9, ↓w_sIncP9, ↓w_sIncM9, ↓w_eLoc10, ↓w_rLoc10, ↓w_sSet10, ↓w_sSetR10, ↓w_sIncP10, ↓w_sIncM10, ↓w_eLoc11, ↓w_rLoc11, ↓w_sSet11, ↓w_sSetR11, ↓w_sIncP11, ↓w_sIncM11, ↓w_eLoc12, ↓w_rLoc12, ↓w_sSet12, ↓w_sSetR12, ↓w_sIncP12, ↓w_sIncM12, ↓w_eLoc13, ↓w_rLoc13, ↓w_sSet13, ↓w_sSetR13, ↓w_sIncP13, ↓w_sIncM13, ↓w_eIntN, ↓w_eIntM, ↓w_bZi, ↓w_add, ↓w_sub, ↓w_mul, ↓w_neg, ↓w_nar, ↓w_div, ↓w_ldne, ↓w_ldat, ↓w_ldj, List.length_cons, List.length_nil, Nat.reduceAdd, Nat.reduceSub, Nat.reduceLeDiff, List.replicate_succ, List.replicate_zero, List.cons_append, List.nil_append, List.append_nil, iz_nI, iz_ofNat, iz_add, iz_sub, iz_mul, cz_lt, cz_le, cz_gt, cz_ge, cz_eq, cz_ne, mIn_iz, iz_nat, decide_eq_true_eq, Bool.not_eq_true', decide_eq_false_iff_not, true_and, and_true, ↓reduceIte, not_true_eq_false, not_false_eq_true, w01_bI, w01_i0, w01_i1, bI_ne', bI_eq', bI_t, bI_f, Bool.false_eq_true, false_implies, forall_const, implies_true, true_implies, imp_self, eq_self, cz10, cz00, w01_0, w01_1, Bool.true_eq_false, Bool.not_true, Bool.not_false, decide_true, decide_false, ↓tO_0, ↓tR_0_0, ↓tI_0_1, ↓tR_0_2, ↓tR_0_3, ↓tR_0_4, ↓tR_0_5, ↓tR_0_6, ↓tI_0_7, ↓tR_0_8, ↓tR_0_9, ↓tR_0_10, ↓tR_0_11, ↓tR_0_12, ↓tA_1, ↓tN_1, ↓tO_2, ↓tR_2_0, ↓tR_2_1, ↓tR_2_2, ↓tI_2_3, ↓tI_2_4, ↓tI_2_5, ↓tI_2_6, ↓tI_2_7, ↓tI_2_8, ↓tA_3, ↓tN_3, ↓tA_4, ↓tN_4, ↓tA_5, ↓tN_5, ↓tO_6, ↓tI_6_0, ↓tI_6_1, ↓tI_6_2, ↓tI_6_3, ↓tR_6_4, ↓tR_6_5, ↓tR_6_6, ↓tR_6_7, ↓tA_7, ↓tN_7, ↓tA_8, ↓tN_8, ↓tA_9, ↓tN_9, ↓tO_139, ↓tR_139_0, ↓tR_139_1, ↓tR_139_2, ↓tI_139_3, ↓tR_139_4, ↓tR_139_5, ↓tR_139_6, ↓tR_139_7, ↓tR_139_8, ↓tR_139_9, ↓tR_139_10, ↓tI_139_11, ↓tI_139_12, ↓tI_139_13, ↓tI_139_14, ↓tI_139_15, ↓tI_139_16, ↓tI_139_17, ↓tI_139_18, ↓tI_139_19, ↓tI_139_20, ↓tI_139_21, ↓tI_139_22, ↓tI_139_23, ↓tI_139_24, ↓tI_139_25, ↓tI_139_26, ↓tR_139_27, ↓tI_139_28, ↓tI_139_29, ↓tI_139_30, ↓tI_139_31, ↓tR_139_32, ↓tI_139_33, ↓tR_139_34, ↓tR_139_35, ↓tR_139_36, ↓tR_139_37, ↓tI_139_38, ↓tA_140, ↓tN_140, ↓tA_143, ↓tN_143, ↓tA_144, ↓tN_144, ↓tA_145, ↓tN_145, ↓tA_146, ↓tN_146, ↓tA_149, ↓tN_149, ↓wLd_of h5, ↓wLd_of h6, ↓wF_eq pt, ↓wF_eq e1]
  rfl
theorem pu_ask {k : Int} {s : Bool} (k1 : 262 ≤ k) (k2 : k ≤ 271) (h5 : C 2 5 = iz k) (pt : f_Ru_put [.ref 6, .int (iz 1), .int (iz (k - 262))] C = some (none, E)) (E5 : E 2 5 = iz k) (E62 : E 6 2 = bI s) (e1 : f_Tk_next [.ref 2] (mUp E 6 2 (bI (s || decide (k = 270)))) = some (none, D)) : f_Ru_readUnit [.ref 6, .ref 2] C = some (some (bI true), D) := by
  have wo : ∀ (s t : Bool) (P : Int32 → Prop), wO2 (fun x y => x ||| y) (bI s) (bI t) P ↔ P (bI (s || t)) := fun s t P => by
    have : bI s ||| bI t = bI (s || t) := by cases s <;> cases t <;> decide
    show P (bI s ||| bI t) ↔ _
    rw [this]
  have n1 : ¬ k = 1 := by omega
  apply wF_to
  unfold f_Ru_readUnit
  simp only [↓w_rcv, ↓w_bodyI, ↓w_bodyZ, ↓w_bodyV, true_and, List.length_cons, List.length_nil, Nat.reduceAdd, Nat.reduceSub, Nat.reduceLeDiff, List.replicate_succ, List.replicate_zero, List.cons_append, List.nil_append, List.append_nil, ↓tO_0, ↓tO_2, ↓tO_6, ↓tO_11, ↓tO_18, ↓tO_19, ↓tO_27, ↓tO_32, ↓tO_37, ↓tO_43, ↓tO_44, ↓tO_52, ↓tO_62, ↓tO_63, ↓tO_71, ↓tO_76, ↓tO_81, ↓tO_87, ↓tO_88, ↓tO_96, ↓tO_106, ↓tO_107, ↓tO_115, ↓tO_127, ↓tO_127c, ↓tO_133, ↓tO_133c, ↓tO_139]
  unfold S_Ru_readUnit
  simp (disch := omega) only [↓w_eBin, ↓w_eUn, ↓w_eDiv, ↓w_eRem, ↓w_eFld, ↓w_rFld, ↓w_eALd, ↓w_rALd, ↓w_eALen, ↓w_rStr, ↓w_aNil, ↓w_aI, ↓w_aR, ↓w_N, ↓w_eCall, ↓w_X, ↓w_bCmp, ↓w_bAnd, ↓w_bOr, ↓w_bNot, ↓w_eB, ↓w_eIte, ↓w_sSkip, ↓w_sRet, ↓w_sRetZ, ↓w_sRetV, ↓w_sBrk, ↓w_sCont, ↓w_sIf, ↓w_sSeq, ↓w_sCaC, ↓w_sCaB, ↓w_sSw, ↓w_sCall, ↓w_sPut, ↓w_sPutOp, ↓w_sASt, ↓w_sAOp, ↓w_sADiv, ↓w_eLoc0, ↓w_rLoc0, ↓w_sSet0, ↓w_sSetR0, ↓w_sIncP0, ↓w_sIncM0, ↓w_eLoc1, ↓w_rLoc1, ↓w_sSet1, ↓w_sSetR1, ↓w_sIncP1, ↓w_sIncM1, ↓w_eLoc2, ↓w_rLoc2, ↓w_sSet2, ↓w_sSetR2, ↓w_sIncP2, ↓w_sIncM2, ↓w_eLoc3, ↓w_rLoc3, ↓w_sSet3, ↓w_sSetR3, ↓w_sIncP3, ↓w_sIncM3, ↓w_eLoc4, ↓w_rLoc4, ↓w_sSet4, ↓w_sSetR4, ↓w_sIncP4, ↓w_sIncM4, ↓w_eLoc5, ↓w_rLoc5, ↓w_sSet5, ↓w_sSetR5, ↓w_sIncP5, ↓w_sIncM5, ↓w_eLoc6, ↓w_rLoc6, ↓w_sSet6, ↓w_sSetR6, ↓w_sIncP6, ↓w_sIncM6, ↓w_eLoc7, ↓w_rLoc7, ↓w_sSet7, ↓w_sSetR7, ↓w_sIncP7, ↓w_sIncM7, ↓w_eLoc8, ↓w_rLoc8, ↓w_sSet8, ↓w_sSetR8, ↓w_sIncP8, ↓w_sIncM8, ↓w_eLoc9, ↓w_rLoc9, ↓w_sSet9, ↓w_sSetR9, ↓w_sIncP9, ↓w_sIncM9, ↓w_eLoc10, ↓w_rLoc10, ↓w_sSet10, ↓w_sSetR10, ↓w_sIncP10, ↓w_sIncM10, ↓w_eLoc11, ↓w_rLoc11, ↓w_sSet11, ↓w_sSetR11, ↓w_sIncP11, ↓w_sIncM11, ↓w_eLoc12, ↓w_rLoc12, ↓w_sSet12, ↓w_sSetR12, ↓w_sIncP12, ↓w_sIncM12, ↓w_eLoc13, ↓w_rLoc13, ↓w_sSet13, ↓w_sSetR13, ↓w_sIncP13, ↓w_sIncM13, ↓w_eIntN, ↓w_eIntM, ↓w_bZi, ↓w_add, ↓w_sub, ↓w_mul, ↓w_neg, ↓w_nar, ↓w_div, ↓w_ldne, ↓w_ldat, ↓w_ldj, List.length_cons, List.length_nil, Nat.reduceAdd, Nat.reduceSub, Nat.reduceLeDiff, List.replicate_succ, List.replicate_zero, List.cons_append, List.nil_append, List.append_nil, iz_nI, iz_ofNat, iz_add, iz_sub, iz_mul, cz_lt, cz_le, cz_gt, cz_ge, cz_eq, cz_ne, mIn_iz, iz_nat, decide_eq_true_eq, Bool.not_eq_true', decide_eq_false_iff_not, true_and, and_true, ↓reduceIte, not_true_eq_false, not_false_eq_true, w01_bI, w01_i0, w01_i1, bI_ne', bI_eq', bI_t, bI_f, Bool.false_eq_true, false_implies, forall_const, implies_true, true_implies, imp_self, eq_self, cz10, cz00, w01_0, w01_1, Bool.true_eq_false, Bool.not_true, Bool.not_false, decide_true, decide_false, ↓tO_0, ↓tR_0_0, ↓tI_0_1, ↓tR_0_2, ↓tR_0_3, ↓tR_0_4, ↓tR_0_5, ↓tR_0_6, ↓tI_0_7, ↓tR_0_8, ↓tR_0_9, ↓tR_0_10, ↓tR_0_11, ↓tR_0_12, ↓tA_1, ↓tN_1, ↓tO_2, ↓tR_2_0, ↓tR_2_1, ↓tR_2_2, ↓tI_2_3, ↓tI_2_4, ↓tI_2_5, ↓tI_2_6, ↓tI_2_7, ↓tI_2_8, ↓tA_3, ↓tN_3, ↓tA_4, ↓tN_4, ↓tA_5, ↓tN_5, ↓tO_6, ↓tI_6_0, ↓tI_6_1, ↓tI_6_2, ↓tI_6_3, ↓tR_6_4, ↓tR_6_5, ↓tR_6_6, ↓tR_6_7, ↓tA_7, ↓tN_7, ↓tA_8, ↓tN_8, ↓tA_9, ↓tN_9, ↓tO_139, ↓tR_139_0, ↓tR_139_1, ↓tR_139_2, ↓tI_139_3, ↓tR_139_4, ↓tR_139_5, ↓tR_139_6, ↓tR_139_7, ↓tR_139_8, ↓tR_139_9, ↓tR_139_10, ↓tI_139_11, ↓tI_139_12, ↓tI_139_13, ↓tI_139_14, ↓tI_139_15, ↓tI_139_16, ↓tI_139_17, ↓tI_139_18, ↓tI_139_19, ↓tI_139_20, ↓tI_139_21, ↓tI_139_22, ↓tI_139_23, ↓tI_139_24, ↓tI_139_25, ↓tI_139_26, ↓tR_139_27, ↓tI_139_28, ↓tI_139_29, ↓tI_139_30, ↓tI_139_31, ↓tR_139_32, ↓tI_139_33, ↓tR_139_34, ↓tR_139_35, ↓tR_139_36, ↓tR_139_37, ↓tI_139_38, ↓tA_140, ↓tN_140, ↓tA_143, ↓tN_143, ↓tA_144, ↓tN_144, ↓tA_145, ↓tN_145, ↓tA_146, ↓tN_146, ↓tA_149, ↓tN_149, ↓wLd_of h5, n1, k1, k2, ↓wF_eq pt, ↓wLd_of E62, ↓wLd_of E5, ↓wo, ↓wF_eq e1]
  rfl
theorem pu_no {k : Int} (kr : 0 ≤ k ∧ k ≤ 273) (n1 : ¬ k = 1) (n2 : ¬ (262 ≤ k ∧ k ≤ 271)) (h5 : C 2 5 = iz k) (rf : f_Tk_refuse [.ref 2, .int (iz 1)] C = some (some (bI false), D)) : f_Ru_readUnit [.ref 6, .ref 2] C = some (some (bI false), D) := by
  apply wF_to
  unfold f_Ru_readUnit
  simp only [↓w_rcv, ↓w_bodyI, ↓w_bodyZ, ↓w_bodyV, true_and, List.length_cons, List.length_nil, Nat.reduceAdd, Nat.reduceSub, Nat.reduceLeDiff, List.replicate_succ, List.replicate_zero, List.cons_append, List.nil_append, List.append_nil, ↓tO_0, ↓tO_2, ↓tO_6, ↓tO_11, ↓tO_18, ↓tO_19, ↓tO_27, ↓tO_32, ↓tO_37, ↓tO_43, ↓tO_44, ↓tO_52, ↓tO_62, ↓tO_63, ↓tO_71, ↓tO_76, ↓tO_81, ↓tO_87, ↓tO_88, ↓tO_96, ↓tO_106, ↓tO_107, ↓tO_115, ↓tO_127, ↓tO_127c, ↓tO_133, ↓tO_133c, ↓tO_139]
  unfold S_Ru_readUnit
  by_cases g : 262 ≤ k
  · have g2 : ¬ k ≤ 271 := by omega
    clear n2
    simp (disch := omega) only [↓w_eBin, ↓w_eUn, ↓w_eDiv, ↓w_eRem, ↓w_eFld, ↓w_rFld, ↓w_eALd, ↓w_rALd, ↓w_eALen, ↓w_rStr, ↓w_aNil, ↓w_aI, ↓w_aR, ↓w_N, ↓w_eCall, ↓w_X, ↓w_bCmp, ↓w_bAnd, ↓w_bOr, ↓w_bNot, ↓w_eB, ↓w_eIte, ↓w_sSkip, ↓w_sRet, ↓w_sRetZ, ↓w_sRetV, ↓w_sBrk, ↓w_sCont, ↓w_sIf, ↓w_sSeq, ↓w_sCaC, ↓w_sCaB, ↓w_sSw, ↓w_sCall, ↓w_sPut, ↓w_sPutOp, ↓w_sASt, ↓w_sAOp, ↓w_sADiv, ↓w_eLoc0, ↓w_rLoc0, ↓w_sSet0, ↓w_sSetR0, ↓w_sIncP0, ↓w_sIncM0, ↓w_eLoc1, ↓w_rLoc1, ↓w_sSet1, ↓w_sSetR1, ↓w_sIncP1, ↓w_sIncM1, ↓w_eLoc2, ↓w_rLoc2, ↓w_sSet2, ↓w_sSetR2, ↓w_sIncP2, ↓w_sIncM2, ↓w_eLoc3, ↓w_rLoc3, ↓w_sSet3, ↓w_sSetR3, ↓w_sIncP3, ↓w_sIncM3, ↓w_eLoc4, ↓w_rLoc4, ↓w_sSet4, ↓w_sSetR4, ↓w_sIncP4, ↓w_sIncM4, ↓w_eLoc5, ↓w_rLoc5, ↓w_sSet5, ↓w_sSetR5, ↓w_sIncP5, ↓w_sIncM5, ↓w_eLoc6, ↓w_rLoc6, ↓w_sSet6, ↓w_sSetR6, ↓w_sIncP6, ↓w_sIncM6, ↓w_eLoc7, ↓w_rLoc7, ↓w_sSet7, ↓w_sSetR7, ↓w_sIncP7, ↓w_sIncM7, ↓w_eLoc8, ↓w_rLoc8, ↓w_sSet8, ↓w_sSetR8, ↓w_sIncP8, ↓w_sIncM8, ↓w_eLoc9, ↓w_rLoc9, ↓w_sSet9, ↓w_sSetR9, ↓w_sIncP9, ↓w_sIncM9, ↓w_eLoc10, ↓w_rLoc10, ↓w_sSet10, ↓w_sSetR10, ↓w_sIncP10, ↓w_sIncM10, ↓w_eLoc11, ↓w_rLoc11, ↓w_sSet11, ↓w_sSetR11, ↓w_sIncP11, ↓w_sIncM11, ↓w_eLoc12, ↓w_rLoc12, ↓w_sSet12, ↓w_sSetR12, ↓w_sIncP12, ↓w_sIncM12, ↓w_eLoc13, ↓w_rLoc13, ↓w_sSet13, ↓w_sSetR13, ↓w_sIncP13, ↓w_sIncM13, ↓w_eIntN, ↓w_eIntM, ↓w_bZi, ↓w_add, ↓w_sub, ↓w_mul, ↓w_neg, ↓w_nar, ↓w_div, ↓w_ldne, ↓w_ldat, ↓w_ldj, List.length_cons, List.length_nil, Nat.reduceAdd, Nat.reduceSub, Nat.reduceLeDiff, List.replicate_succ, List.replicate_zero, List.cons_append, List.nil_append, List.append_nil, iz_nI, iz_ofNat, iz_add, iz_sub, iz_mul, cz_lt, cz_le, cz_gt, cz_ge, cz_eq, cz_ne, mIn_iz, iz_nat, decide_eq_true_eq, Bool.not_eq_true', decide_eq_false_iff_not, true_and, and_true, ↓reduceIte, not_true_eq_false, not_false_eq_true, w01_bI, w01_i0, w01_i1, bI_ne', bI_eq', bI_t, bI_f, Bool.false_eq_true, false_implies, forall_const, implies_true, true_implies, imp_self, eq_self, cz10, cz00, w01_0, w01_1, Bool.true_eq_false, Bool.not_true, Bool.not_false, decide_true, decide_false, ↓tO_0, ↓tR_0_0, ↓tI_0_1, ↓tR_0_2, ↓tR_0_3, ↓tR_0_4, ↓tR_0_5, ↓tR_0_6, ↓tI_0_7, ↓tR_0_8, ↓tR_0_9, ↓tR_0_10, ↓tR_0_11, ↓tR_0_12, ↓tA_1, ↓tN_1, ↓tO_2, ↓tR_2_0, ↓tR_2_1, ↓tR_2_2, ↓tI_2_3, ↓tI_2_4, ↓tI_2_5, ↓tI_2_6, ↓tI_2_7, ↓tI_2_8, ↓tA_3, ↓tN_3, ↓tA_4, ↓tN_4, ↓tA_5, ↓tN_5, ↓tO_6, ↓tI_6_0, ↓tI_6_1, ↓tI_6_2, ↓tI_6_3, ↓tR_6_4, ↓tR_6_5, ↓tR_6_6, ↓tR_6_7, ↓tA_7, ↓tN_7, ↓tA_8, ↓tN_8, ↓tA_9, ↓tN_9, ↓tO_139, ↓tR_139_0, ↓tR_139_1, ↓tR_139_2, ↓tI_139_3, ↓tR_139_4, ↓tR_139_5, ↓tR_139_6, ↓tR_139_7, ↓tR_139_8, ↓tR_139_9, ↓tR_139_10, ↓tI_139_11, ↓tI_139_12, ↓tI_139_13, ↓tI_139_14, ↓tI_139_15, ↓tI_139_16, ↓tI_139_17, ↓tI_139_18, ↓tI_139_19, ↓tI_139_20, ↓tI_139_21, ↓tI_139_22, ↓tI_139_23, ↓tI_139_24, ↓tI_139_25, ↓tI_139_26, ↓tR_139_27, ↓tI_139_28, ↓tI_139_29, ↓tI_139_30, ↓tI_139_31, ↓tR_139_32, ↓tI_139_33, ↓tR_139_34, ↓tR_139_35, ↓tR_139_36, ↓tR_139_37, ↓tI_139_38, ↓tA_140, ↓tN_140, ↓tA_143, ↓tN_143, ↓tA_144, ↓tN_144, ↓tA_145, ↓tN_145, ↓tA_146, ↓tN_146, ↓tA_149, ↓tN_149, ↓wLd_of h5, n1, g, g2, ↓wF_eq rf, and_self]
  · clear n2
    simp (disch := omega) only [↓w_eBin, ↓w_eUn, ↓w_eDiv, ↓w_eRem, ↓w_eFld, ↓w_rFld, ↓w_eALd, ↓w_rALd, ↓w_eALen, ↓w_rStr, ↓w_aNil, ↓w_aI, ↓w_aR, ↓w_N, ↓w_eCall, ↓w_X, ↓w_bCmp, ↓w_bAnd, ↓w_bOr, ↓w_bNot, ↓w_eB, ↓w_eIte, ↓w_sSkip, ↓w_sRet, ↓w_sRetZ, ↓w_sRetV, ↓w_sBrk, ↓w_sCont, ↓w_sIf, ↓w_sSeq, ↓w_sCaC, ↓w_sCaB, ↓w_sSw, ↓w_sCall, ↓w_sPut, ↓w_sPutOp, ↓w_sASt, ↓w_sAOp, ↓w_sADiv, ↓w_eLoc0, ↓w_rLoc0, ↓w_sSet0, ↓w_sSetR0, ↓w_sIncP0, ↓w_sIncM0, ↓w_eLoc1, ↓w_rLoc1, ↓w_sSet1, ↓w_sSetR1, ↓w_sIncP1, ↓w_sIncM1, ↓w_eLoc2, ↓w_rLoc2, ↓w_sSet2, ↓w_sSetR2, ↓w_sIncP2, ↓w_sIncM2, ↓w_eLoc3, ↓w_rLoc3, ↓w_sSet3, ↓w_sSetR3, ↓w_sIncP3, ↓w_sIncM3, ↓w_eLoc4, ↓w_rLoc4, ↓w_sSet4, ↓w_sSetR4, ↓w_sIncP4, ↓w_sIncM4, ↓w_eLoc5, ↓w_rLoc5, ↓w_sSet5, ↓w_sSetR5, ↓w_sIncP5, ↓w_sIncM5, ↓w_eLoc6, ↓w_rLoc6, ↓w_sSet6, ↓w_sSetR6, ↓w_sIncP6, ↓w_sIncM6, ↓w_eLoc7, ↓w_rLoc7, ↓w_sSet7, ↓w_sSetR7, ↓w_sIncP7, ↓w_sIncM7, ↓w_eLoc8, ↓w_rLoc8, ↓w_sSet8, ↓w_sSetR8, ↓w_sIncP8, ↓w_sIncM8, ↓w_eLoc9, ↓w_rLoc9, ↓w_sSet9, ↓w_sSetR9, ↓w_sIncP9, ↓w_sIncM9, ↓w_eLoc10, ↓w_rLoc10, ↓w_sSet10, ↓w_sSetR10, ↓w_sIncP10, ↓w_sIncM10, ↓w_eLoc11, ↓w_rLoc11, ↓w_sSet11, ↓w_sSetR11, ↓w_sIncP11, ↓w_sIncM11, ↓w_eLoc12, ↓w_rLoc12, ↓w_sSet12, ↓w_sSetR12, ↓w_sIncP12, ↓w_sIncM12, ↓w_eLoc13, ↓w_rLoc13, ↓w_sSet13, ↓w_sSetR13, ↓w_sIncP13, ↓w_sIncM13, ↓w_eIntN, ↓w_eIntM, ↓w_bZi, ↓w_add, ↓w_sub, ↓w_mul, ↓w_neg, ↓w_nar, ↓w_div, ↓w_ldne, ↓w_ldat, ↓w_ldj, List.length_cons, List.length_nil, Nat.reduceAdd, Nat.reduceSub, Nat.reduceLeDiff, List.replicate_succ, List.replicate_zero, List.cons_append, List.nil_append, List.append_nil, iz_nI, iz_ofNat, iz_add, iz_sub, iz_mul, cz_lt, cz_le, cz_gt, cz_ge, cz_eq, cz_ne, mIn_iz, iz_nat, decide_eq_true_eq, Bool.not_eq_true', decide_eq_false_iff_not, true_and, and_true, ↓reduceIte, not_true_eq_false, not_false_eq_true, w01_bI, w01_i0, w01_i1, bI_ne', bI_eq', bI_t, bI_f, Bool.false_eq_true, false_implies, forall_const, implies_true, true_implies, imp_self, eq_self, cz10, cz00, w01_0, w01_1, Bool.true_eq_false, Bool.not_true, Bool.not_false, decide_true, decide_false, ↓tO_0, ↓tR_0_0, ↓tI_0_1, ↓tR_0_2, ↓tR_0_3, ↓tR_0_4, ↓tR_0_5, ↓tR_0_6, ↓tI_0_7, ↓tR_0_8, ↓tR_0_9, ↓tR_0_10, ↓tR_0_11, ↓tR_0_12, ↓tA_1, ↓tN_1, ↓tO_2, ↓tR_2_0, ↓tR_2_1, ↓tR_2_2, ↓tI_2_3, ↓tI_2_4, ↓tI_2_5, ↓tI_2_6, ↓tI_2_7, ↓tI_2_8, ↓tA_3, ↓tN_3, ↓tA_4, ↓tN_4, ↓tA_5, ↓tN_5, ↓tO_6, ↓tI_6_0, ↓tI_6_1, ↓tI_6_2, ↓tI_6_3, ↓tR_6_4, ↓tR_6_5, ↓tR_6_6, ↓tR_6_7, ↓tA_7, ↓tN_7, ↓tA_8, ↓tN_8, ↓tA_9, ↓tN_9, ↓tO_139, ↓tR_139_0, ↓tR_139_1, ↓tR_139_2, ↓tI_139_3, ↓tR_139_4, ↓tR_139_5, ↓tR_139_6, ↓tR_139_7, ↓tR_139_8, ↓tR_139_9, ↓tR_139_10, ↓tI_139_11, ↓tI_139_12, ↓tI_139_13, ↓tI_139_14, ↓tI_139_15, ↓tI_139_16, ↓tI_139_17, ↓tI_139_18, ↓tI_139_19, ↓tI_139_20, ↓tI_139_21, ↓tI_139_22, ↓tI_139_23, ↓tI_139_24, ↓tI_139_25, ↓tI_139_26, ↓tR_139_27, ↓tI_139_28, ↓tI_139_29, ↓tI_139_30, ↓tI_139_31, ↓tR_139_32, ↓tI_139_33, ↓tR_139_34, ↓tR_139_35, ↓tR_139_36, ↓tR_139_37, ↓tI_139_38, ↓tA_140, ↓tN_140, ↓tA_143, ↓tN_143, ↓tA_144, ↓tN_144, ↓tA_145, ↓tN_145, ↓tA_146, ↓tN_146, ↓tA_149, ↓tN_149, ↓wLd_of h5, n1, g, ↓wF_eq rf, and_self]
theorem rc_unit0 (hT : TokC C b L n j) (hO : OutC C l) (hl : l.length ≤ j) (hjn : j ≤ n) : ∃ t D, f_Ru_readUnit [.ref 6, .ref 2] C = some (some (bI t), D) ∧ PoC b L n C l t D (unF (kj b L) (vj b L) j) := by
  have h5 := hT.2.2.1
  have h6 := hT.2.2.2
  obtain ⟨k0, n4, kb, vr⟩ := nk_of hT.1
  have kb := kb j
  have vr := vr j
  rcases unF_c (kj b L) (vj b L) j with ⟨a, hr⟩ | ⟨a, c, hr⟩ | ⟨a, c, hr⟩ <;> rw [hr]
  · have jn : j < n := Nat.lt_of_not_le (fun z => by have := k0 j z; omega)
    have pt := rc_rput (o := 0) (a := vj b L j) hO (by omega) (by omega) vr
    have o2 := outC_put (s := 0) (v := vj b L j) (k := 0 + 16 * vj b L j) hO (by unfold rEn; rw [if_pos rfl]; omega) (by omega)
    generalize hE : mUp (mUp C 9 l.length (iz (0 + 16 * vj b L j))) 6 3 (iz ((l.length : Int) + 1)) = E at *
    have fE : ∀ a, a ≠ 6 → a ≠ 9 → E a = C a := fun a a1 a2 => by rw [← hE, up_k a1, up_k a2]
    have f6 : ∀ i, i ≠ 3 → E 6 i = C 6 i := fun i i1 => by rw [← hE, up_j i1, up_k (by omega)]
    have tE' : TokC E b L n j := tokC_fr hT (fun a i z => by rw [fE a (by omega) (by omega)])
    obtain ⟨D, e1, d1, d2, d3⟩ := rc_tnext tE'
    rw [a] at h5
    exact ⟨true, D, pu_num h5 h6 pt e1, ⟨fun a a1 a2 a3 => by rw [d2 a a1, fE a a2 a3], fun i i1 i2 => by rw [d2 6 (by omega), f6 i i2], fun i i1 => by rw [d3 i (by omega) (by omega) (by omega), fE 2 (by omega) (by omega)]⟩, rfl, d1, outC_fr o2 (by rw [d2 6 (by omega)]) (by rw [d2 6 (by omega)]) (d2 9 (by omega)), by rw [List.length_append, List.length_singleton]; omega, by omega, by rw [d3 7 (by omega) (by omega) (by omega), fE 2 (by omega) (by omega)], by rw [d3 8 (by omega) (by omega) (by omega), fE 2 (by omega) (by omega)]⟩
  · have jn : j < n := Nat.lt_of_not_le (fun z => by have := k0 j z; omega)
    have pt := rc_rput (o := 1) (a := kj b L j - 262) hO (by omega) (by omega) (by omega)
    generalize hE : mUp (mUp C 9 l.length (iz (1 + 16 * (kj b L j - 262)))) 6 3 (iz ((l.length : Int) + 1)) = E at *
    have fE : ∀ a, a ≠ 6 → a ≠ 9 → E a = C a := fun a a1 a2 => by rw [← hE, up_k a1, up_k a2]
    have f6 : ∀ i, i ≠ 3 → E 6 i = C 6 i := fun i i1 => by rw [← hE, up_j i1, up_k (by omega)]
    have E5 : E 2 5 = iz (kj b L j) := by rw [fE 2 (by omega) (by omega)]; exact h5
    have E62 : E 6 2 = bI (l.any (fun x => decide (x.1 = 9))) := by rw [f6 2 (by omega)]; exact hO.2.1
    generalize hG : mUp E 6 2 (bI (l.any (fun x => decide (x.1 = 9)) || decide (kj b L j = 270))) = G
    have fG : ∀ a, a ≠ 6 → G a = E a := fun a a1 => by rw [← hG, up_k a1]
    have tG : TokC G b L n j := tokC_fr hT (fun a i z => by rw [fG a (by omega), fE a (by omega) (by omega)])
    have o2 : OutC G (l ++ [(kj b L j - 261, 0)]) := by
      refine ⟨by rw [← hG, up_j (by omega), ← hE, up_at, List.length_append]; rfl, ?_, fun q y hq => ?_⟩
      · rw [← hG, up_at, List.any_append]
        congr 2
        simp only [List.any_cons, List.any_nil, Bool.or_false]
        congr 1
        apply propext; omega
      · rw [fG 9 (by omega), ← hE, up_k (by omega)]
        by_cases e : q < l.length
        · rw [List.getElem?_append_left e] at hq
          rw [up_j (by omega)]
          exact hO.2.2 q y hq
        · have hlt : q < (l ++ [(kj b L j - 261, (0 : Int))]).length := (List.getElem?_eq_some_iff.mp hq).1
          rw [List.length_append, List.length_singleton] at hlt
          have hq' : q = l.length := by omega
          subst hq'
          rw [List.getElem?_append_right (Nat.le_refl _), Nat.sub_self] at hq
          have hy : (kj b L j - 261, (0 : Int)) = y := Option.some.inj hq
          subst hy
          rw [up_at]
          unfold rEn
          rw [if_neg (by show ¬ kj b L j - 261 = 0; omega), if_pos (by show kj b L j - 261 < 13; omega)]
          congr 1
          show 1 + 16 * (kj b L j - 262) = 1 + 16 * (kj b L j - 261 - 1)
          omega
    obtain ⟨D, e1, d1, d2, d3⟩ := rc_tnext tG
    rw [← hG] at e1
    exact ⟨true, D, pu_ask a c h5 pt E5 E62 e1, ⟨fun a a1 a2 a3 => by rw [d2 a a1, fG a a2, fE a a2 a3], fun i i1 i2 => by rw [d2 6 (by omega), ← hG, up_j i1, f6 i i2], fun i i1 => by rw [d3 i (by omega) (by omega) (by omega), fG 2 (by omega), fE 2 (by omega) (by omega)]⟩, rfl, d1, outC_fr o2 (by rw [d2 6 (by omega)]) (by rw [d2 6 (by omega)]) (d2 9 (by omega)), by rw [List.length_append, List.length_singleton]; omega, by omega, by rw [d3 7 (by omega) (by omega) (by omega), fG 2 (by omega), fE 2 (by omega) (by omega)], by rw [d3 8 (by omega) (by omega) (by omega), fG 2 (by omega), fE 2 (by omega) (by omega)]⟩
  · obtain ⟨E, e1, P, -⟩ := rc_refG (f := 1) (poC_0 hT hO hl hjn)
    exact ⟨false, E, pu_no kb a c h5 e1, P⟩
theorem rc_unit (P : PoC b L n C l true D (.inl (q, o))) : ∃ t E, f_Ru_readUnit [.ref 6, .ref 2] D = some (some (bI t), E) ∧ PoC b L n C l t E (pre o (unF (kj b L) (vj b L) q)) := by
  obtain ⟨t, E, e, Q⟩ := rc_unit0 P.2.2.1 P.2.2.2.1 P.2.2.2.2.1 P.2.2.2.2.2.1
  exact ⟨t, E, e, poC_t P Q⟩
/-- what the reference leaves alone while it reads -/
def FrR (C D : mMem) : Prop := (∀ a, a ≠ 139 → a ≠ 144 → D a = C a) ∧ (∀ i, i < 13 ∨ (13 < i ∧ i < 17) ∨ 24 < i ∨ i = 23 → D 139 i = C 139 i)
theorem frR_r (C : mMem) : FrR C C := ⟨fun _ _ _ => rfl, fun _ _ => rfl⟩
theorem frR_t {C D E : mMem} (h : FrR C D) (g : FrR D E) : FrR C E := ⟨fun a x y => (g.1 a x y).trans (h.1 a x y), fun i x => (g.2 i x).trans (h.2 i x)⟩
def PoM (b : Nat → Int) (L n : Nat) (wh : Int) (C : mMem) (l : List (Int × Int)) (dp : Int) (t : Bool) (D : mMem) : Rz → Prop
  | .inl (j, o) => FrR C D ∧ t = true ∧ TokM D b L wh j ∧ OutM D (l ++ o) ∧ (l ++ o).length ≤ j ∧ j ≤ n ∧ D 139 21 = C 139 21 ∧ D 139 24 = iz dp
  | .inr (j, f) => FrR C D ∧ t = false ∧ D 139 21 = iz f ∧ D 139 22 = iz (st b L j)
theorem poM_0 (hT : TokM C b L wh j) (hO : OutM C l) (hl : l.length ≤ j) (hj : j ≤ n) (hd : C 139 24 = iz dp) : PoM b L n wh C l dp true C (.inl (j, [])) := ⟨frR_r C, rfl, hT, by rw [List.append_nil]; exact hO, by rw [List.append_nil]; exact hl, hj, rfl, hd⟩
theorem tokM_N (hF : FrN C D) : FrR C D := ⟨fun a a1 _ => hF.1 a a1, fun i hi => hF.2 i (by omega) (by omega) (by omega) (by omega)⟩
theorem rf_nextG (hN : NK b L n) (P : PoM b L n wh C l dp true D (.inl (q, o))) (h : kj b L q ≠ 0) : ∃ E, f_M_next0 [.ref 139] D = some (none, E) ∧ PoM b L n wh C l dp true E (.inl (q + 1, o)) := by
  have hq := nk_lt hN h
  obtain ⟨p1, -, p3, p4, p5, p6, p7, p8⟩ := P
  obtain ⟨E, e1, d1, d2⟩ := rf_tnext p3
  exact ⟨E, e1, frR_t p1 (tokM_N d2), rfl, d1, outM_fr p4 (d2.2 13 (by omega) (by omega) (by omega) (by omega)) (d2.1 144 (by omega)), by omega, by omega, by rw [d2.2 21 (by omega) (by omega) (by omega) (by omega)]; exact p7, by rw [d2.2 24 (by omega) (by omega) (by omega) (by omega)]; exact p8⟩
theorem rf_badG {f : Int} (P : PoM b L n wh C l dp true D (.inl (q, o))) : ∃ E, f_M_bad [.ref 139, .int (iz f)] D = some (some (bI false), E) ∧ PoM b L n wh C l dp false E (.inr (q, f)) := by
  obtain ⟨p1, -, p3, p4, p5, p6, p7, p8⟩ := P
  exact ⟨_, rf_bad p3, frR_t p1 ⟨fun a a1 _ => by rw [up_k a1, up_k a1], fun i hi => by rw [up_j (by omega), up_j (by omega)]⟩, rfl, by rw [up_j (by omega), up_at], up_at⟩
theorem rf_layR {s v : Int} {x : Int32} (P : PoM b L n wh C l dp true D (.inl (q, o))) (hl : (l ++ o).length < 400) (hx : s = 0 ∨ s = 16 → x = iz v) : ∃ E, f_M_lay [.ref 139, .int (iz s), .int x] D = some (none, E) ∧ FrR D E ∧ TokM E b L wh q ∧ OutM E (l ++ (o ++ [(s, v)])) ∧ E 139 21 = D 139 21 ∧ E 139 24 = D 139 24 := by
  obtain ⟨p1, -, p3, p4, p5, p6, p7, p8⟩ := P
  have o2 := outM_lay (s := s) (v := v) (x := x) p4 hx
  rw [List.append_assoc] at o2
  exact ⟨_, rf_lay p4 hl, ⟨fun a a1 a2 => by rw [up_k a1, up_k a2, up_k a2], fun i hi => by rw [up_j (by omega), up_k (by omega), up_k (by omega)]⟩, tokM_fr p3 (fun i hi => by rw [up_j (by omega), up_k (by omega), up_k (by omega)]) (by rw [up_k (by omega), up_k (by omega), up_k (by omega)]), o2, by rw [up_j (by omega), up_k (by omega), up_k (by omega)], by rw [up_j (by omega), up_k (by omega), up_k (by omega)]⟩
theorem rf_layG {s v : Int} {x : Int32} (hN : NK b L n) (P : PoM b L n wh C l dp true D (.inl (q, o))) (hlt : (l ++ o).length < q) (hx : s = 0 ∨ s = 16 → x = iz v) : ∃ E, f_M_lay [.ref 139, .int (iz s), .int x] D = some (none, E) ∧ PoM b L n wh C l dp true E (.inl (q, o ++ [(s, v)])) := by
  have hn := hN.2.1
  have hq := P.2.2.2.2.2.1
  obtain ⟨E, e1, f1, t1, o1, a1, a2⟩ := rf_layR P (by omega) hx
  obtain ⟨p1, -, p3, p4, p5, p6, p7, p8⟩ := P
  refine ⟨E, e1, frR_t p1 f1, rfl, t1, o1, ?_, p6, a1.trans p7, a2.trans p8⟩
  rw [← List.append_assoc, List.length_append, List.length_singleton]; omega
/-- the reference's numbers of the kinds in a rule -/
theorem ph_d {K : Int} (hw : wh ≠ 3) (h0 : 0 ≤ K) (h1 : K ≤ 273) : (K = 0 ∧ ph wh K = 0) ∨ (K = 1 ∧ ph wh K = 2) ∨ (K = 2 ∧ ph wh K = 1) ∨ (3 ≤ K ∧ K < 256 ∧ ph wh K = 100 + K) ∨ (K = 256 ∧ ph wh K = 20) ∨ (K = 257 ∧ ph wh K = 21) ∨ (K = 258 ∧ ph wh K = 3) ∨ (K = 259 ∧ ph wh K = 4) ∨ (K = 260 ∧ ph wh K = 5) ∨ (K = 261 ∧ ph wh K = 6) ∨ (262 ≤ K ∧ K ≤ 271 ∧ ph wh K = K - 221) ∨ (272 ≤ K ∧ ph wh K = 1) := by
  unfold ph
  rw [if_neg hw]
  by_cases a0 : K = 0
  · rw [if_pos a0]; omega
  rw [if_neg a0]
  by_cases a1 : K = 1
  · rw [if_pos a1]; omega
  rw [if_neg a1]
  by_cases a2 : K = 2
  · rw [if_pos a2]; omega
  rw [if_neg a2]
  by_cases a3 : K < 256
  · rw [if_pos a3]; omega
  rw [if_neg a3]
  by_cases b1 : K = 258
  · rw [if_pos b1]; omega
  rw [if_neg b1]
  by_cases b2 : K = 259
  · rw [if_pos b2]; omega
  rw [if_neg b2]
  by_cases b3 : K = 260
  · rw [if_pos b3]; omega
  rw [if_neg b3]
  by_cases b4 : K = 261
  · rw [if_pos b4]; omega
  rw [if_neg b4]
  by_cases b5 : K = 256
  · rw [if_pos b5]; omega
  rw [if_neg b5]
  by_cases b6 : K = 257
  · rw [if_pos b6]; omega
  rw [if_neg b6]
  by_cases b7 : K ≤ 271
  · rw [if_pos b7]; omega
  rw [if_neg b7]; omega
theorem ph_r {K : Int} (hw : wh ≠ 3) (h0 : 0 ≤ K) (h1 : K ≤ 273) : (ph wh K = 2 ↔ K = 1) ∧ (41 ≤ ph wh K ∧ ph wh K ≤ 50 ↔ 262 ≤ K ∧ K ≤ 271) ∧ (262 ≤ K ∧ K ≤ 271 → ph wh K = K - 221) ∧ (∀ c : Int, 33 ≤ c → c < 127 → (ph wh K = 100 + c ↔ K = c)) ∧ (ph wh K = 3 ↔ K = 258) ∧ (ph wh K = 4 ↔ K = 259) ∧ (ph wh K = 5 ↔ K = 260) ∧ (ph wh K = 6 ↔ K = 261) ∧ (ph wh K = 20 ↔ K = 256) ∧ (ph wh K = 21 ↔ K = 257) ∧ (ph wh K = 0 ↔ K = 0) ∧ 0 ≤ ph wh K ∧ ph wh K ≤ 400 := by
  have d := ph_d hw h0 h1
  generalize ph wh K = p at *
  rcases d with d | d | d | d | d | d | d | d | d | d | d | d <;> exact ⟨by omega, by omega, by omega, fun c c0 c1 => by omega, by omega, by omega, by omega, by omega, by omega, by omega, by omega, by omega, by omega⟩
theorem pm_num {v : Int} (h18 : C 139 18 = iz 2) (h20 : C 139 20 = iz v) (ly : f_M_lay [.ref 139, .int (iz 0), .int (iz v)] C = some (none, E)) (e1 : f_M_next0 [.ref 139] E = some (none, D)) : f_M_unit [.ref 139] C = some (some (bI true), D) := by
  apply wF_to
  unfold f_M_unit
  simp only [↓w_rcv, ↓w_bodyI, ↓w_bodyZ, ↓w_bodyV, true_and, List.length_cons, List.length_nil, Nat.reduceAdd, Nat.reduceSub, Nat.reduceLeDiff, List.replicate_succ, List.replicate_zero, List.cons_append, List.nil_append, List.append_nil, ↓tO_0, ↓tO_2, ↓tO_6, ↓tO_11, ↓tO_18, ↓tO_19, ↓tO_27, ↓tO_32, ↓tO_37, ↓tO_43, ↓tO_44, ↓tO_52, ↓tO_62, ↓tO_63, ↓tO_71, ↓tO_76, ↓tO_81, ↓tO_87, ↓tO_88, ↓tO_96, ↓tO_106, ↓tO_107, ↓tO_115, ↓tO_127, ↓tO_127c, ↓tO_133, ↓tO_133c, ↓tO_139]
  unfold S_M_unit
  simp (disch := omega) only [↓w_eBin, ↓w_eUn, ↓w_eDiv, ↓w_eRem, ↓w_eFld, ↓w_rFld, ↓w_eALd, ↓w_rALd, ↓w_eALen, ↓w_rStr, ↓w_aNil, ↓w_aI, ↓w_aR, ↓w_N, ↓w_eCall, ↓w_X, ↓w_bCmp, ↓w_bAnd, ↓w_bOr, ↓w_bNot, ↓w_eB, ↓w_eIte, ↓w_sSkip, ↓w_sRet, ↓w_sRetZ, ↓w_sRetV, ↓w_sBrk, ↓w_sCont, ↓w_sIf, ↓w_sSeq, ↓w_sCaC, ↓w_sCaB, ↓w_sSw, ↓w_sCall, ↓w_sPut, ↓w_sPutOp, ↓w_sASt, ↓w_sAOp, ↓w_sADiv, ↓w_eLoc0, ↓w_rLoc0, ↓w_sSet0, ↓w_sSetR0, ↓w_sIncP0, ↓w_sIncM0, ↓w_eLoc1, ↓w_rLoc1, ↓w_sSet1, ↓w_sSetR1, ↓w_sIncP1, ↓w_sIncM1, ↓w_eLoc2, ↓w_rLoc2, ↓w_sSet2, ↓w_sSetR2, ↓w_sIncP2, ↓w_sIncM2, ↓w_eLoc3, ↓w_rLoc3, ↓w_sSet3, ↓w_sSetR3, ↓w_sIncP3, ↓w_sIncM3, ↓w_eLoc4, ↓w_rLoc4, ↓w_sSet4, ↓w_sSetR4, ↓w_sIncP4, ↓w_sIncM4, ↓w_eLoc5, ↓w_rLoc5, ↓w_sSet5, ↓w_sSetR5, ↓w_sIncP5, ↓w_sIncM5, ↓w_eLoc6, ↓w_rLoc6, ↓w_sSet6, ↓w_sSetR6, ↓w_sIncP6, ↓w_sIncM6, ↓w_eLoc7, ↓w_rLoc7, ↓w_sSet7, ↓w_sSetR7, ↓w_sIncP7, ↓w_sIncM7, ↓w_eLoc8, ↓w_rLoc8, ↓w_sSet8, ↓w_sSetR8, ↓w_sIncP8, ↓w_sIncM8, ↓w_eLoc9, ↓w_rLoc9, ↓w_sSet9, ↓w_sSetR9, ↓w_sIncP9, ↓w_sIncM9, ↓w_eLoc10, ↓w_rLoc10, ↓w_sSet10, ↓w_sSetR10, ↓w_sIncP10, ↓w_sIncM10, ↓w_eLoc11, ↓w_rLoc11, ↓w_sSet11, ↓w_sSetR11, ↓w_sIncP11, ↓w_sIncM11, ↓w_eLoc12, ↓w_rLoc12, ↓w_sSet12, ↓w_sSetR12, ↓w_sIncP12, ↓w_sIncM12, ↓w_eLoc13, ↓w_rLoc13, ↓w_sSet13, ↓w_sSetR13, ↓w_sIncP13, ↓w_sIncM13, ↓w_eIntN, ↓w_eIntM, ↓w_bZi, ↓w_add, ↓w_sub, ↓w_mul, ↓w_neg, ↓w_nar, ↓w_div, ↓w_ldne, ↓w_ldat, ↓w_ldj, List.length_cons, List.length_nil, Nat.reduceAdd, Nat.reduceSub, Nat.reduceLeDiff, List.replicate_succ, List.replicate_zero, List.cons_append, List.nil_append, List.append_nil, iz_nI, iz_ofNat, iz_add, iz_sub, iz_mul, cz_lt, cz_le, cz_gt, cz_ge, cz_eq, cz_ne, mIn_iz, iz_nat, decide_eq_true_eq, Bool.not_eq_true', decide_eq_false_iff_not, true_and, and_true, ↓reduceIte, not_true_eq_false, not_false_eq_true, w01_bI, w01_i0, w01_i1, bI_ne', bI_eq', bI_t, bI_f, Bool.false_eq_true, false_implies, forall_const, implies_true, true_implies, imp_self, eq_self, cz10, cz00, w01_0, w01_1, Bool.true_eq_false, Bool.not_true, Bool.not_false, decide_true, decide_false, ↓tO_0, ↓tR_0_0, ↓tI_0_1, ↓tR_0_2, ↓tR_0_3, ↓tR_0_4, ↓tR_0_5, ↓tR_0_6, ↓tI_0_7, ↓tR_0_8, ↓tR_0_9, ↓tR_0_10, ↓tR_0_11, ↓tR_0_12, ↓tA_1, ↓tN_1, ↓tO_2, ↓tR_2_0, ↓tR_2_1, ↓tR_2_2, ↓tI_2_3, ↓tI_2_4, ↓tI_2_5, ↓tI_2_6, ↓tI_2_7, ↓tI_2_8, ↓tA_3, ↓tN_3, ↓tA_4, ↓tN_4, ↓tA_5, ↓tN_5, ↓tO_6, ↓tI_6_0, ↓tI_6_1, ↓tI_6_2, ↓tI_6_3, ↓tR_6_4, ↓tR_6_5, ↓tR_6_6, ↓tR_6_7, ↓tA_7, ↓tN_7, ↓tA_8, ↓tN_8, ↓tA_9, ↓tN_9, ↓tO_139, ↓tR_139_0, ↓tR_139_1, ↓tR_139_2, ↓tI_139_3, ↓tR_139_4, ↓tR_139_5, ↓tR_139_6, ↓tR_139_7, ↓tR_139_8, ↓tR_139_9, ↓tR_139_10, ↓tI_139_11, ↓tI_139_12, ↓tI_139_13, ↓tI_139_14, ↓tI_139_15, ↓tI_139_16, ↓tI_139_17, ↓tI_139_18, ↓tI_139_19, ↓tI_139_20, ↓tI_139_21, ↓tI_139_22, ↓tI_139_23, ↓tI_139_24, ↓tI_139_25, ↓tI_139_26, ↓tR_139_27, ↓tI_139_28, ↓tI_139_29, ↓tI_139_30, ↓tI_139_31, ↓tR_139_32, ↓tI_139_33, ↓tR_139_34, ↓tR_139_35, ↓tR_139_36, ↓tR_139_37, ↓tI_139_38, ↓tA_140, ↓tN_140, ↓tA_143, ↓tN_143, ↓tA_144, ↓tN_144, ↓tA_145, ↓tN_145, ↓tA_146, ↓tN_146, ↓tA_149, ↓tN_149, ↓wLd_of h18, ↓wLd_of h20, ↓wf_isIn, Int.reduceLE, false_and, ↓wF_eq ly, ↓wF_eq e1]
  rfl
theorem pm_ask {k : Int} (r1 : 41 ≤ k ∧ k ≤ 50) (h18 : C 139 18 = iz k) (ly : f_M_lay [.ref 139, .int (iz (k - 40)), .int (C 139 20)] C = some (none, E)) (e1 : f_M_next0 [.ref 139] E = some (none, D)) : f_M_unit [.ref 139] C = some (some (bI true), D) := by
  have r2 : ¬ k = 2 := by omega
  apply wF_to
  unfold f_M_unit
  simp only [↓w_rcv, ↓w_bodyI, ↓w_bodyZ, ↓w_bodyV, true_and, List.length_cons, List.length_nil, Nat.reduceAdd, Nat.reduceSub, Nat.reduceLeDiff, List.replicate_succ, List.replicate_zero, List.cons_append, List.nil_append, List.append_nil, ↓tO_0, ↓tO_2, ↓tO_6, ↓tO_11, ↓tO_18, ↓tO_19, ↓tO_27, ↓tO_32, ↓tO_37, ↓tO_43, ↓tO_44, ↓tO_52, ↓tO_62, ↓tO_63, ↓tO_71, ↓tO_76, ↓tO_81, ↓tO_87, ↓tO_88, ↓tO_96, ↓tO_106, ↓tO_107, ↓tO_115, ↓tO_127, ↓tO_127c, ↓tO_133, ↓tO_133c, ↓tO_139]
  unfold S_M_unit
  simp (disch := omega) only [↓w_eBin, ↓w_eUn, ↓w_eDiv, ↓w_eRem, ↓w_eFld, ↓w_rFld, ↓w_eALd, ↓w_rALd, ↓w_eALen, ↓w_rStr, ↓w_aNil, ↓w_aI, ↓w_aR, ↓w_N, ↓w_eCall, ↓w_X, ↓w_bCmp, ↓w_bAnd, ↓w_bOr, ↓w_bNot, ↓w_eB, ↓w_eIte, ↓w_sSkip, ↓w_sRet, ↓w_sRetZ, ↓w_sRetV, ↓w_sBrk, ↓w_sCont, ↓w_sIf, ↓w_sSeq, ↓w_sCaC, ↓w_sCaB, ↓w_sSw, ↓w_sCall, ↓w_sPut, ↓w_sPutOp, ↓w_sASt, ↓w_sAOp, ↓w_sADiv, ↓w_eLoc0, ↓w_rLoc0, ↓w_sSet0, ↓w_sSetR0, ↓w_sIncP0, ↓w_sIncM0, ↓w_eLoc1, ↓w_rLoc1, ↓w_sSet1, ↓w_sSetR1, ↓w_sIncP1, ↓w_sIncM1, ↓w_eLoc2, ↓w_rLoc2, ↓w_sSet2, ↓w_sSetR2, ↓w_sIncP2, ↓w_sIncM2, ↓w_eLoc3, ↓w_rLoc3, ↓w_sSet3, ↓w_sSetR3, ↓w_sIncP3, ↓w_sIncM3, ↓w_eLoc4, ↓w_rLoc4, ↓w_sSet4, ↓w_sSetR4, ↓w_sIncP4, ↓w_sIncM4, ↓w_eLoc5, ↓w_rLoc5, ↓w_sSet5, ↓w_sSetR5, ↓w_sIncP5, ↓w_sIncM5, ↓w_eLoc6, ↓w_rLoc6, ↓w_sSet6, ↓w_sSetR6, ↓w_sIncP6, ↓w_sIncM6, ↓w_eLoc7, ↓w_rLoc7, ↓w_sSet7, ↓w_sSetR7, ↓w_sIncP7, ↓w_sIncM7, ↓w_eLoc8, ↓w_rLoc8, ↓w_sSet8, ↓w_sSetR8, ↓w_sIncP8, ↓w_sIncM8, ↓w_eLoc9, ↓w_rLoc9, ↓w_sSet9, ↓w_sSetR9, ↓w_sIncP9, ↓w_sIncM9, ↓w_eLoc10, ↓w_rLoc10, ↓w_sSet10, ↓w_sSetR10, ↓w_sIncP10, ↓w_sIncM10, ↓w_eLoc11, ↓w_rLoc11, ↓w_sSet11, ↓w_sSetR11, ↓w_sIncP11, ↓w_sIncM11, ↓w_eLoc12, ↓w_rLoc12, ↓w_sSet12, ↓w_sSetR12, ↓w_sIncP12, ↓w_sIncM12, ↓w_eLoc13, ↓w_rLoc13, ↓w_sSet13, ↓w_sSetR13, ↓w_sIncP13, ↓w_sIncM13, ↓w_eIntN, ↓w_eIntM, ↓w_bZi, ↓w_add, ↓w_sub, ↓w_mul, ↓w_neg, ↓w_nar, ↓w_div, ↓w_ldne, ↓w_ldat, ↓w_ldj, List.length_cons, List.length_nil, Nat.reduceAdd, Nat.reduceSub, Nat.reduceLeDiff, List.replicate_succ, List.replicate_zero, List.cons_append, List.nil_append, List.append_nil, iz_nI, iz_ofNat, iz_add, iz_sub, iz_mul, cz_lt, cz_le, cz_gt, cz_ge, cz_eq, cz_ne, mIn_iz, iz_nat, decide_eq_true_eq, Bool.not_eq_true', decide_eq_false_iff_not, true_and, and_true, ↓reduceIte, not_true_eq_false, not_false_eq_true, w01_bI, w01_i0, w01_i1, bI_ne', bI_eq', bI_t, bI_f, Bool.false_eq_true, false_implies, forall_const, implies_true, true_implies, imp_self, eq_self, cz10, cz00, w01_0, w01_1, Bool.true_eq_false, Bool.not_true, Bool.not_false, decide_true, decide_false, ↓tO_0, ↓tR_0_0, ↓tI_0_1, ↓tR_0_2, ↓tR_0_3, ↓tR_0_4, ↓tR_0_5, ↓tR_0_6, ↓tI_0_7, ↓tR_0_8, ↓tR_0_9, ↓tR_0_10, ↓tR_0_11, ↓tR_0_12, ↓tA_1, ↓tN_1, ↓tO_2, ↓tR_2_0, ↓tR_2_1, ↓tR_2_2, ↓tI_2_3, ↓tI_2_4, ↓tI_2_5, ↓tI_2_6, ↓tI_2_7, ↓tI_2_8, ↓tA_3, ↓tN_3, ↓tA_4, ↓tN_4, ↓tA_5, ↓tN_5, ↓tO_6, ↓tI_6_0, ↓tI_6_1, ↓tI_6_2, ↓tI_6_3, ↓tR_6_4, ↓tR_6_5, ↓tR_6_6, ↓tR_6_7, ↓tA_7, ↓tN_7, ↓tA_8, ↓tN_8, ↓tA_9, ↓tN_9, ↓tO_139, ↓tR_139_0, ↓tR_139_1, ↓tR_139_2, ↓tI_139_3, ↓tR_139_4, ↓tR_139_5, ↓tR_139_6, ↓tR_139_7, ↓tR_139_8, ↓tR_139_9, ↓tR_139_10, ↓tI_139_11, ↓tI_139_12, ↓tI_139_13, ↓tI_139_14, ↓tI_139_15, ↓tI_139_16, ↓tI_139_17, ↓tI_139_18, ↓tI_139_19, ↓tI_139_20, ↓tI_139_21, ↓tI_139_22, ↓tI_139_23, ↓tI_139_24, ↓tI_139_25, ↓tI_139_26, ↓tR_139_27, ↓tI_139_28, ↓tI_139_29, ↓tI_139_30, ↓tI_139_31, ↓tR_139_32, ↓tI_139_33, ↓tR_139_34, ↓tR_139_35, ↓tR_139_36, ↓tR_139_37, ↓tI_139_38, ↓tA_140, ↓tN_140, ↓tA_143, ↓tN_143, ↓tA_144, ↓tN_144, ↓tA_145, ↓tN_145, ↓tA_146, ↓tN_146, ↓tA_149, ↓tN_149, ↓wLd_of h18, ↓w_ld, ↓wf_isIn, r1, r2, ↓wF_eq ly, ↓wF_eq e1]
  rfl
theorem pm_no {k : Int} (kr : 0 ≤ k ∧ k ≤ 400) (n1 : ¬ k = 2) (n2 : ¬ (41 ≤ k ∧ k ≤ 50)) (h18 : C 139 18 = iz k) (rf : f_M_bad [.ref 139, .int (iz 1)] C = some (some (bI false), D)) : f_M_unit [.ref 139] C = some (some (bI false), D) := by
  apply wF_to
  unfold f_M_unit
  simp only [↓w_rcv, ↓w_bodyI, ↓w_bodyZ, ↓w_bodyV, true_and, List.length_cons, List.length_nil, Nat.reduceAdd, Nat.reduceSub, Nat.reduceLeDiff, List.replicate_succ, List.replicate_zero, List.cons_append, List.nil_append, List.append_nil, ↓tO_0, ↓tO_2, ↓tO_6, ↓tO_11, ↓tO_18, ↓tO_19, ↓tO_27, ↓tO_32, ↓tO_37, ↓tO_43, ↓tO_44, ↓tO_52, ↓tO_62, ↓tO_63, ↓tO_71, ↓tO_76, ↓tO_81, ↓tO_87, ↓tO_88, ↓tO_96, ↓tO_106, ↓tO_107, ↓tO_115, ↓tO_127, ↓tO_127c, ↓tO_133, ↓tO_133c, ↓tO_139]
  unfold S_M_unit
  simp (disch := omega) only [↓w_eBin, ↓w_eUn, ↓w_eDiv, ↓w_eRem, ↓w_eFld, ↓w_rFld, ↓w_eALd, ↓w_rALd, ↓w_eALen, ↓w_rStr, ↓w_aNil, ↓w_aI, ↓w_aR, ↓w_N, ↓w_eCall, ↓w_X, ↓w_bCmp, ↓w_bAnd, ↓w_bOr, ↓w_bNot, ↓w_eB, ↓w_eIte, ↓w_sSkip, ↓w_sRet, ↓w_sRetZ, ↓w_sRetV, ↓w_sBrk, ↓w_sCont, ↓w_sIf, ↓w_sSeq, ↓w_sCaC, ↓w_sCaB, ↓w_sSw, ↓w_sCall, ↓w_sPut, ↓w_sPutOp, ↓w_sASt, ↓w_sAOp, ↓w_sADiv, ↓w_eLoc0, ↓w_rLoc0, ↓w_sSet0, ↓w_sSetR0, ↓w_sIncP0, ↓w_sIncM0, ↓w_eLoc1, ↓w_rLoc1, ↓w_sSet1, ↓w_sSetR1, ↓w_sIncP1, ↓w_sIncM1, ↓w_eLoc2, ↓w_rLoc2, ↓w_sSet2, ↓w_sSetR2, ↓w_sIncP2, ↓w_sIncM2, ↓w_eLoc3, ↓w_rLoc3, ↓w_sSet3, ↓w_sSetR3, ↓w_sIncP3, ↓w_sIncM3, ↓w_eLoc4, ↓w_rLoc4, ↓w_sSet4, ↓w_sSetR4, ↓w_sIncP4, ↓w_sIncM4, ↓w_eLoc5, ↓w_rLoc5, ↓w_sSet5, ↓w_sSetR5, ↓w_sIncP5, ↓w_sIncM5, ↓w_eLoc6, ↓w_rLoc6, ↓w_sSet6, ↓w_sSetR6, ↓w_sIncP6, ↓w_sIncM6, ↓w_eLoc7, ↓w_rLoc7, ↓w_sSet7, ↓w_sSetR7, ↓w_sIncP7, ↓w_sIncM7, ↓w_eLoc8, ↓w_rLoc8, ↓w_sSet8, ↓w_sSetR8, ↓w_sIncP8, ↓w_sIncM8, ↓w_eLoc9, ↓w_rLoc9, ↓w_sSet9, ↓w_sSetR9, ↓w_sIncP9, ↓w_sIncM9, ↓w_eLoc10, ↓w_rLoc10, ↓w_sSet10, ↓w_sSetR10, ↓w_sIncP10, ↓w_sIncM10, ↓w_eLoc11, ↓w_rLoc11, ↓w_sSet11, ↓w_sSetR11, ↓w_sIncP11, ↓w_sIncM11, ↓w_eLoc12, ↓w_rLoc12, ↓w_sSet12, ↓w_sSetR12, ↓w_sIncP12, ↓w_sIncM12, ↓w_eLoc13, ↓w_rLoc13, ↓w_sSet13, ↓w_sSetR13, ↓w_sIncP13, ↓w_sIncM13, ↓w_eIntN, ↓w_eIntM, ↓w_bZi, ↓w_add, ↓w_sub, ↓w_mul, ↓w_neg, ↓w_nar, ↓w_div, ↓w_ldne, ↓w_ldat, ↓w_ldj, List.length_cons, List.length_nil, Nat.reduceAdd, Nat.reduceSub, Nat.reduceLeDiff, List.replicate_succ, List.replicate_zero, List.cons_append, List.nil_append, List.append_nil, iz_nI, iz_ofNat, iz_add, iz_sub, iz_mul, cz_lt, cz_le, cz_gt, cz_ge, cz_eq, cz_ne, mIn_iz, iz_nat, decide_eq_true_eq, Bool.not_eq_true', decide_eq_false_iff_not, true_and, and_true, ↓reduceIte, not_true_eq_false, not_false_eq_true, w01_bI, w01_i0, w01_i1, bI_ne', bI_eq', bI_t, bI_f, Bool.false_eq_true, false_implies, forall_const, implies_true, true_implies, imp_self, eq_self, cz10, cz00, w01_0, w01_1, Bool.true_eq_false, Bool.not_true, Bool.not_false, decide_true, decide_false, ↓tO_0, ↓tR_0_0, ↓tI_0_1, ↓tR_0_2, ↓tR_0_3, ↓tR_0_4, ↓tR_0_5, ↓tR_0_6, ↓tI_0_7, ↓tR_0_8, ↓tR_0_9, ↓tR_0_10, ↓tR_0_11, ↓tR_0_12, ↓tA_1, ↓tN_1, ↓tO_2, ↓tR_2_0, ↓tR_2_1, ↓tR_2_2, ↓tI_2_3, ↓tI_2_4, ↓tI_2_5, ↓tI_2_6, ↓tI_2_7, ↓tI_2_8, ↓tA_3, ↓tN_3, ↓tA_4, ↓tN_4, ↓tA_5, ↓tN_5, ↓tO_6, ↓tI_6_0, ↓tI_6_1, ↓tI_6_2, ↓tI_6_3, ↓tR_6_4, ↓tR_6_5, ↓tR_6_6, ↓tR_6_7, ↓tA_7, ↓tN_7, ↓tA_8, ↓tN_8, ↓tA_9, ↓tN_9, ↓tO_139, ↓tR_139_0, ↓tR_139_1, ↓tR_139_2, ↓tI_139_3, ↓tR_139_4, ↓tR_139_5, ↓tR_139_6, ↓tR_139_7, ↓tR_139_8, ↓tR_139_9, ↓tR_139_10, ↓tI_139_11, ↓tI_139_12, ↓tI_139_13, ↓tI_139_14, ↓tI_139_15, ↓tI_139_16, ↓tI_139_17, ↓tI_139_18, ↓tI_139_19, ↓tI_139_20, ↓tI_139_21, ↓tI_139_22, ↓tI_139_23, ↓tI_139_24, ↓tI_139_25, ↓tI_139_26, ↓tR_139_27, ↓tI_139_28, ↓tI_139_29, ↓tI_139_30, ↓tI_139_31, ↓tR_139_32, ↓tI_139_33, ↓tR_139_34, ↓tR_139_35, ↓tR_139_36, ↓tR_139_37, ↓tI_139_38, ↓tA_140, ↓tN_140, ↓tA_143, ↓tN_143, ↓tA_144, ↓tN_144, ↓tA_145, ↓tN_145, ↓tA_146, ↓tN_146, ↓tA_149, ↓tN_149, ↓wLd_of h18, ↓wf_isIn, n1, n2, ↓wF_eq rf, and_self]
theorem rf_unit (hN : NK b L n) (hw : wh ≠ 3) (P : PoM b L n wh C l dp true D (.inl (q, o))) : ∃ t E, f_M_unit [.ref 139] D = some (some (bI t), E) ∧ PoM b L n wh C l dp t E (pre o (unF (kj b L) (vj b L) q)) := by
  have hT := P.2.2.1
  have h18 := hT.2.2.1
  have hlen := P.2.2.2.2.1
  have hn := hN.2.1
  have hk := hN.2.2.1 q
  obtain ⟨p1, p2, p3, -, -, -, -, -, -, -, -, p0, p4⟩ := ph_r hw hk.1 hk.2
  have fin : ∀ (s v : Int) (x : Int32), (s = 0 ∨ s = 16 → x = iz v) → kj b L q ≠ 0 → ∃ E F, f_M_lay [.ref 139, .int (iz s), .int x] D = some (none, E) ∧ f_M_next0 [.ref 139] E = some (none, F) ∧ PoM b L n wh C l dp true F (.inl (q + 1, o ++ [(s, v)])) := by
    intro s v x hx hz
    have hq := nk_lt hN hz
    obtain ⟨E, e1, f1, t1, o1, a1, a2⟩ := rf_layR P (by omega) hx
    obtain ⟨F, e2, d1, d2⟩ := rf_tnext t1
    refine ⟨E, F, e1, e2, frR_t P.1 (frR_t f1 (tokM_N d2)), rfl, d1, outM_fr o1 (d2.2 13 (by omega) (by omega) (by omega) (by omega)) (d2.1 144 (by omega)), ?_, by omega, ?_, ?_⟩
    · rw [← List.append_assoc, List.length_append, List.length_singleton]; omega
    · rw [d2.2 21 (by omega) (by omega) (by omega) (by omega), a1]; exact P.2.2.2.2.2.2.1
    · rw [d2.2 24 (by omega) (by omega) (by omega) (by omega), a2]; exact P.2.2.2.2.2.2.2
  rcases unF_c (kj b L) (vj b L) q with ⟨a, hr⟩ | ⟨a, c, hr⟩ | ⟨a, c, hr⟩ <;> rw [hr]
  · have h20 := hT.2.2.2.2 a
    rw [p1.mpr a] at h18
    obtain ⟨E, F, e1, e2, PF⟩ := fin 0 (vj b L q) (iz (vj b L q)) (fun _ => rfl) (by omega)
    exact ⟨true, F, pm_num h18 h20 e1 e2, PF⟩
  · have e3 := p3 ⟨a, c⟩
    rw [e3] at h18
    obtain ⟨E, F, e1, e2, PF⟩ := fin (kj b L q - 261) 0 (D 139 20) (fun z => by omega) (by omega)
    rw [show kj b L q - 261 = kj b L q - 221 - 40 by omega] at e1
    exact ⟨true, F, pm_ask (by omega) h18 e1 e2, PF⟩
  · obtain ⟨E, e1, PE⟩ := rf_badG (f := 1) P
    exact ⟨false, E, pm_no ⟨p0, p4⟩ (fun z => a (p1.mp z)) (fun z => c (p2.mp z)) h18 e1, PE⟩
end
end

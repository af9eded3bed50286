/-! mornings: one morning in the reference -/
theorem q_rg {N : Int} (h : 2 ≤ N ∧ N ≤ 8) : 2 ≤ N * (N - 1) ∧ N * (N - 1) ≤ 56 := by
  rcases (by omega : N = 2 ∨ N = 3 ∨ N = 4 ∨ N = 5 ∨ N = 6 ∨ N = 7 ∨ N = 8) with rfl | rfl | rfl | rfl | rfl | rfl | rfl <;> decide
theorem qq_rg {q : Int} (h : 2 ≤ q ∧ q ≤ 56) : 4 ≤ q * q ∧ q * q ≤ 3136 := by
  have h1 := Int.mul_le_mul (a := q) (b := q) (c := 56) (d := 56) h.2 h.2 (by omega) (by omega)
  have h2 := Int.mul_le_mul (a := 2) (b := 2) (c := q) (d := q) h.1 h.1 (by omega) (by omega)
  omega
section
variable {A : aS} {C : mMem}
def MIn (A : aS) (m n : Int) : Prop := (2 ≤ A 30 0 ∧ A 30 0 ≤ 8) ∧ (m = 1 ∨ m = 2) ∧ 0 ≤ n ∧ n < 4000 ∧ (m = 2 → n < A 30 0 * (A 30 0 - 1) * (A 30 0 * (A 30 0 - 1)))
def nQ (A : aS) (n : Int) : Int := n.tdiv (A 30 0 * (A 30 0 - 1))
def nR (A : aS) (n : Int) : Int := n - n.tdiv (A 30 0 * (A 30 0 - 1)) * (A 30 0 * (A 30 0 - 1))
theorem nR_rg {m n : Int} (h : MIn A m n) : 0 ≤ nR A n ∧ nR A n < A 30 0 * (A 30 0 - 1) := by
  have q := q_rg h.1
  have := td_rg (x := n) (d := A 30 0 * (A 30 0 - 1)) (e := n + 1) (by omega) h.2.2.1 (by
    have h1 := h.2.2.1
    have := Int.mul_le_mul_of_nonneg_left (a := 1) (b := A 30 0 * (A 30 0 - 1)) (c := n + 1) (by omega) (by omega)
    omega)
  unfold nR
  omega
theorem nQ_rg {n : Int} (h : MIn A 2 n) : 0 ≤ nQ A n ∧ nQ A n < A 30 0 * (A 30 0 - 1) := by
  have q := q_rg h.1
  have := td_rg (x := n) (d := A 30 0 * (A 30 0 - 1)) (e := A 30 0 * (A 30 0 - 1)) (by omega) h.2.2.1 (h.2.2.2.2 rfl)
  unfold nQ
  omega
def aMor (A : aS) (m n k : Int) : aS := if m = 2 then aCl (aCl (aEmp A k) (nQ A n)) (nR A n) else aCl (aEmp A k) (nR A n)
theorem aEmp_0 {k : Int} : aEmp A k 30 0 = A 30 0 := aEmp_r (by omega)
theorem aMor_r {m n k r p : Int} (h : (r < 0 ∨ 6 < r) ∧ (r ≠ 30 ∨ p ≠ 2)) : aMor A m n k r p = aEmp A k r p := by
  unfold aMor aCl
  split
  · rw [aOne_r (by omega), aOne_r (by omega)]
  · rw [aOne_r (by omega)]
theorem aMor_n {m n k : Int} (h : m = 1 ∨ m = 2) : aMor A m n k 30 2 = m := by
  unfold aMor aCl
  rcases h with rfl | rfl
  · rw [if_neg (by omega), aOne_n, aEmp_2]; rfl
  · rw [if_pos rfl, aOne_n, aOne_n, aEmp_2]; rfl
theorem aMor_p {m n k p : Int} (h : m = 1 ∨ m = 2) (hp : 0 ≤ p ∧ p < m) : aMor A m n k 0 p = 0 ∧ aMor A m n k 3 p = 0 ∧ aMor A m n k 4 p = -1 := by
  unfold aMor aCl
  rcases h with rfl | rfl
  · rw [if_neg (by omega)]
    have e : p = aEmp A k 30 2 := by rw [aEmp_2]; omega
    rw [e]
    obtain ⟨p0, p1, p2, p3, p4, p5, p6⟩ := aOne_p (A := aEmp A k) (t := 0) (f := dF (aEmp A k 30 0) (nR A n)) (g := dT (aEmp A k 30 0) (nR A n))
    exact ⟨p0, p3, p4⟩
  · rw [if_pos rfl]
    generalize hB : aOne (aEmp A k) 0 (dF (aEmp A k 30 0) (nQ A n)) (dT (aEmp A k 30 0) (nQ A n)) = B
    have hB2 : B 30 2 = 1 := by rw [← hB, aOne_n, aEmp_2]; rfl
    by_cases e1 : p = 1
    · have e : p = B 30 2 := by rw [hB2]; exact e1
      rw [e]
      obtain ⟨p0, p1, p2, p3, p4, p5, p6⟩ := aOne_p (A := B) (t := 0) (f := dF (B 30 0) (nR A n)) (g := dT (B 30 0) (nR A n))
      exact ⟨p0, p3, p4⟩
    · rw [aOne_r (by omega), aOne_r (by omega), aOne_r (by omega), ← hB]
      have e : p = aEmp A k 30 2 := by rw [aEmp_2]; omega
      rw [e]
      obtain ⟨p0, p1, p2, p3, p4, p5, p6⟩ := aOne_p (A := aEmp A k) (t := 0) (f := dF (aEmp A k 30 0) (nQ A n)) (g := dT (aEmp A k 30 0) (nQ A n))
      exact ⟨p0, p3, p4⟩
theorem WfA_mor {m n k : Int} (hw : WfA A) (hk : 0 ≤ k ∧ k ≤ 2) (h0 : A 32 0 = -1) (h1 : A 32 1 = -1) (h : MIn A m n) : WfA (aMor A m n k) := by
  have r := nR_rg h
  have e := WfA_emp hw hk h0 h1
  have e1 : aEmp A k 32 1 = -1 := by rw [aEmp_r (by omega)]; exact h1
  have hN := h.1
  unfold aMor
  rcases h.2.1 with rfl | rfl
  · rw [if_neg (by omega)]
    exact WfA_cl e e1 (by rw [aEmp_2]; omega) aEmp_3 (by rw [aEmp_0]; omega) r.1 (by rw [aEmp_0]; exact r.2)
  · rw [if_pos rfl]
    have q := nQ_rg h
    have e2 : WfA (aCl (aEmp A k) (nQ A n)) := WfA_cl e e1 (by rw [aEmp_2]; omega) aEmp_3 (by rw [aEmp_0]; omega) q.1 (by rw [aEmp_0]; exact q.2)
    refine WfA_cl e2 (by unfold aCl; rw [aOne_r (by omega)]; exact e1) (by unfold aCl; rw [aOne_n, aEmp_2]; omega) (by unfold aCl; rw [aOne_r (by omega)]; exact aEmp_3) (by rw [aCl_0, aEmp_0]; omega) r.1 (by rw [aCl_0, aEmp_0]; exact r.2)
theorem rf_overM {ev : aEv} {m n k : Int} (hM : RelM C A) (hw : WfA A) (h0 : A 32 0 = -1) (h1 : A 32 1 = -1) (h : MIn A m n) (hk : 0 ≤ k ∧ k ≤ 2) (h28 : C 139 28 = iz 0) (hev : EvM C k ev) :
    ∃ (g : Nat) (D : mMem), f_M_overOf [.ref 139, .int (iz n), .int (iz (A 30 0 * (A 30 0 - 1))), .int (iz m), .int (iz k)] C = some (some (iz (aOver (aIt (aCh1 ev) (aMor A m n k) g) m 999999)), D) ∧ aEnd (aCh1 ev) (aMor A m n k) 1000 g ∧ RelM D (aIt (aCh1 ev) (aMor A m n k) g) ∧ FrE C D := by
  have hg := hw.1.1
  unfold WfG at hg
  have hg1 : 0 ≤ A 30 1 ∧ A 30 1 ≤ 4 := by omega
  clear hg
  have hq := q_rg h.1
  have r := nR_rg h
  have hnb : 0 ≤ n ∧ n < 4000 := ⟨h.2.2.1, h.2.2.2.1⟩
  have wM := WfA_mor hw hk h0 h1 h
  have m0 := rm_w (i := 2) (v := 0) hM (by omega)
  have m1 := rm_w (i := 3) (v := 0) m0 (by omega)
  have m2 := rm_w (i := 4) (v := k) m1 (by omega)
  have fr2 : FrM C (mUp (mUp (mUp C 140 (2 : Int).toNat (iz 0)) 140 (3 : Int).toNat (iz 0)) 140 (4 : Int).toNat (iz k)) := frM_u (frM_u (frM_u (frM_r C) (by omega)) (by omega)) (by omega)
  -- all but what happens behind the laying of the calls
  have fin : ∀ E, RelM E (aMor A m n k) → FrM C E → ∃ (g : Nat) (D : mMem), f_M_ends [.ref 139, .int (iz 1000)] E = some (some (bI (decide (¬ aThr (aIt (aCh1 ev) (aMor A m n k) g) < m))), D) ∧ aEnd (aCh1 ev) (aMor A m n k) 1000 g ∧ RelM D (aIt (aCh1 ev) (aMor A m n k) g) ∧ FrE C D := by
    intro E hE hF
    have e28 : E 139 28 = iz 0 := by rw [hF.2.2.2 28 (by omega)]; exact h28
    have e4 : aMor A m n k 30 4 = k := by rw [aMor_r (by omega)]; exact aEmp_4
    obtain ⟨g, D, e1, a, b, _, c⟩ := rf_ends (m := 1000) (aCh1_rg ev) (chE_rule (A := aMor A m n k) e28 (by rw [e4]; exact evm_fr hev (fun i hi => hF.2.1 i hi))) hE wM (by rw [aMor_r (by omega), aEmp_3]; omega)
    rw [aMor_n h.2.1] at e1
    exact ⟨g, D, e1, a, b, frE_t (frE_of hF) c⟩
  -- the picture without people
  have beg : ∀ E, RelM E (aEmp A k) → FrM C E → ∃ F, RelM F (aMor A m n k) ∧ FrM C F ∧ (m = 1 → f_M_laysCall [.ref 139, .int (iz (nR A n))] E = some (none, F)) ∧ (m = 2 → ∃ G, f_M_laysCall [.ref 139, .int (iz (nQ A n))] E = some (none, G) ∧ f_M_laysCall [.ref 139, .int (iz (nR A n))] G = some (none, F)) := by
    intro E hE hF
    unfold aMor
    rcases h.2.1 with rfl | rfl
    · rw [if_neg (by omega)]
      obtain ⟨F, e1, e2, e3⟩ := rf_lays (x := nR A n) hE (by rw [aEmp_2]; omega) (by rw [aEmp_0]; exact h.1) r.1 (by rw [aEmp_0]; exact r.2)
      exact ⟨F, e2, frM_t hF e3, fun _ => e1, fun z => by omega⟩
    · rw [if_pos rfl]
      have q := nQ_rg h
      obtain ⟨F, e1, e2, e3⟩ := rf_lays (x := nQ A n) hE (by rw [aEmp_2]; omega) (by rw [aEmp_0]; exact h.1) q.1 (by rw [aEmp_0]; exact q.2)
      obtain ⟨G, f1, f2, f3⟩ := rf_lays (x := nR A n) e2 (by unfold aCl; rw [aOne_n, aEmp_2]; omega) (by rw [aCl_0, aEmp_0]; exact h.1) r.1 (by rw [aCl_0, aEmp_0]; exact r.2)
      exact ⟨G, f2, frM_t (frM_t hF e3) f3, fun z => by omega, fun _ => ⟨F, e1, f1⟩⟩
  have key : wF f_M_overOf [.ref 139, .int (iz n), .int (iz (A 30 0 * (A 30 0 - 1))), .int (iz m), .int (iz k)] C (fun o D => ∃ g : Nat, o = some (iz (aOver (aIt (aCh1 ev) (aMor A m n k) g) m 999999)) ∧ aEnd (aCh1 ev) (aMor A m n k) 1000 g ∧ RelM D (aIt (aCh1 ev) (aMor A m n k) g) ∧ FrE C D) := by
    unfold f_M_overOf
    simp only [↓w_rcv, ↓w_bodyI, ↓w_bodyZ, ↓w_bodyV, true_and, List.length_cons, List.length_nil, Nat.reduceAdd, Nat.reduceSub, Nat.reduceLeDiff, List.replicate_succ, List.replicate_zero, List.cons_append, List.nil_append, List.append_nil, ↓tO_0, ↓tO_2, ↓tO_6, ↓tO_11, ↓tO_18, ↓tO_19, ↓tO_27, ↓tO_32, ↓tO_37, ↓tO_43, ↓tO_44, ↓tO_52, ↓tO_62, ↓tO_63, ↓tO_71, ↓tO_76, ↓tO_81, ↓tO_87, ↓tO_88, ↓tO_96, ↓tO_106, ↓tO_107, ↓tO_115, ↓tO_127, ↓tO_127c, ↓tO_133, ↓tO_133c, ↓tO_139]
    unfold S_M_overOf
    simp (disch := omega) only [↓w_eBin, ↓w_eUn, ↓w_eDiv, ↓w_eRem, ↓w_eFld, ↓w_rFld, ↓w_eALd, ↓w_rALd, ↓w_eALen, ↓w_rStr, ↓w_aNil, ↓w_aI, ↓w_aR, ↓w_N, ↓w_eCall, ↓w_X, ↓w_bCmp, ↓w_bAnd, ↓w_bOr, ↓w_bNot, ↓w_eB, ↓w_eIte, ↓w_sSkip, ↓w_sRet, ↓w_sRetZ, ↓w_sRetV, ↓w_sBrk, ↓w_sCont, ↓w_sIf, ↓w_sSeq, ↓w_sCaC, ↓w_sCaB, ↓w_sSw, ↓w_sCall, ↓w_sPut, ↓w_sPutOp, ↓w_sASt, ↓w_sAOp, ↓w_sADiv, ↓w_eLoc0, ↓w_rLoc0, ↓w_sSet0, ↓w_sSetR0, ↓w_sIncP0, ↓w_sIncM0, ↓w_eLoc1, ↓w_rLoc1, ↓w_sSet1, ↓w_sSetR1, ↓w_sIncP1, ↓w_sIncM1, ↓w_eLoc2, ↓w_rLoc2, ↓w_sSet2, ↓w_sSetR2, ↓w_sIncP2, ↓w_sIncM2, ↓w_eLoc3, ↓w_rLoc3, ↓w_sSet3, ↓w_sSetR3, ↓w_sIncP3, ↓w_sIncM3, ↓w_eLoc4, ↓w_rLoc4, ↓w_sSet4, ↓w_sSetR4, ↓w_sIncP4, ↓w_sIncM4, ↓w_eLoc5, ↓w_rLoc5, ↓w_sSet5, ↓w_sSetR5, ↓w_sIncP5, ↓w_sIncM5, ↓w_eLoc6, ↓w_rLoc6, ↓w_sSet6, ↓w_sSetR6, ↓w_sIncP6, ↓w_sIncM6, ↓w_eLoc7, ↓w_rLoc7, ↓w_sSet7, ↓w_sSetR7, ↓w_sIncP7, ↓w_sIncM7, ↓w_eLoc8, ↓w_rLoc8, ↓w_sSet8, ↓w_sSetR8, ↓w_sIncP8, ↓w_sIncM8, ↓w_eLoc9, ↓w_rLoc9, ↓w_sSet9, ↓w_sSetR9, ↓w_sIncP9, ↓w_sIncM9, ↓w_eLoc10, ↓w_rLoc10, ↓w_sSet10, ↓w_sSetR10, ↓w_sIncP10, ↓w_sIncM10, ↓w_eLoc11, ↓w_rLoc11, ↓w_sSet11, ↓w_sSetR11, ↓w_sIncP11, ↓w_sIncM11, ↓w_eLoc12, ↓w_rLoc12, ↓w_sSet12, ↓w_sSetR12, ↓w_sIncP12, ↓w_sIncM12, ↓w_eLoc13, ↓w_rLoc13, ↓w_sSet13, ↓w_sSetR13, ↓w_sIncP13, ↓w_sIncM13, ↓w_eIntN, ↓w_eIntM, ↓w_bZi, ↓w_add, ↓w_sub, ↓w_mul, ↓w_neg, ↓w_nar, ↓w_div, ↓w_ldne, ↓w_ldat, ↓w_ldj, List.length_cons, List.length_nil, Nat.reduceAdd, Nat.reduceSub, Nat.reduceLeDiff, List.replicate_succ, List.replicate_zero, List.cons_append, List.nil_append, List.append_nil, iz_nI, iz_ofNat, iz_add, iz_sub, iz_mul, cz_lt, cz_le, cz_gt, cz_ge, cz_eq, cz_ne, mIn_iz, iz_nat, decide_eq_true_eq, Bool.not_eq_true', decide_eq_false_iff_not, true_and, and_true, ↓reduceIte, not_true_eq_false, not_false_eq_true, w01_bI, w01_i0, w01_i1, bI_ne', bI_eq', bI_t, bI_f, Bool.false_eq_true, false_implies, forall_const, implies_true, true_implies, imp_self, eq_self, cz10, cz00, Bool.true_eq_false, Bool.not_true, Bool.not_false, decide_true, decide_false, ↓tO_139, ↓tR_139_0, ↓tR_139_1, ↓tR_139_2, ↓tI_139_3, ↓tR_139_4, ↓tR_139_5, ↓tR_139_6, ↓tR_139_7, ↓tR_139_8, ↓tR_139_9, ↓tR_139_10, ↓tI_139_11, ↓tI_139_12, ↓tI_139_13, ↓tI_139_14, ↓tI_139_15, ↓tI_139_16, ↓tI_139_17, ↓tI_139_18, ↓tI_139_19, ↓tI_139_20, ↓tI_139_21, ↓tI_139_22, ↓tI_139_23, ↓tI_139_24, ↓tI_139_25, ↓tI_139_26, ↓tR_139_27, ↓tI_139_28, ↓tI_139_29, ↓tI_139_30, ↓tI_139_31, ↓tR_139_32, ↓tI_139_33, ↓tR_139_34, ↓tR_139_35, ↓tR_139_36, ↓tR_139_37, ↓tI_139_38, ↓tA_140, ↓tN_140]
    refine wS_up (A 30 1).toNat (fun i l D => RelM D (aHo (aUp (aUp (aUp A 30 2 0) 30 3 0) 30 4 k) i) ∧ FrM C D ∧ l = [.ref 139, .int (iz n), .int (iz (A 30 0 * (A 30 0 - 1))), .int (iz m), .int (iz k), .int (iz i)]) ?_ (Nat.zero_le _) ⟨by rw [aHo_0]; exact m2, fr2, rfl⟩
    rintro i l D hi ⟨d1, d2, rfl⟩
    have c1 : D 140 (1 : Int).toNat = iz (A 30 1) := by rw [rm_s d1 1 (by decide) (by decide), aHo_r (by omega), aUp_i (by omega), aUp_i (by omega), aUp_i (by omega)]
    by_cases hlt : (i : Int) < A 30 1
    · have n0 := rm_sets (v := 0) (r := 14) (k := 4) (c := i) d1 (by omega) (by omega)
      have n1 := rm_sets (v := -1) (r := 15) (k := 5) (c := i) n0 (by omega) (by omega)
      simp (disch := omega) only [↓w_eBin, ↓w_eUn, ↓w_eDiv, ↓w_eRem, ↓w_eFld, ↓w_rFld, ↓w_eALd, ↓w_rALd, ↓w_eALen, ↓w_rStr, ↓w_aNil, ↓w_aI, ↓w_aR, ↓w_N, ↓w_eCall, ↓w_X, ↓w_bCmp, ↓w_bAnd, ↓w_bOr, ↓w_bNot, ↓w_eB, ↓w_eIte, ↓w_sSkip, ↓w_sRet, ↓w_sRetZ, ↓w_sRetV, ↓w_sBrk, ↓w_sCont, ↓w_sIf, ↓w_sSeq, ↓w_sCaC, ↓w_sCaB, ↓w_sSw, ↓w_sCall, ↓w_sPut, ↓w_sPutOp, ↓w_sASt, ↓w_sAOp, ↓w_sADiv, ↓w_eLoc0, ↓w_rLoc0, ↓w_sSet0, ↓w_sSetR0, ↓w_sIncP0, ↓w_sIncM0, ↓w_eLoc1, ↓w_rLoc1, ↓w_sSet1, ↓w_sSetR1, ↓w_sIncP1, ↓w_sIncM1, ↓w_eLoc2, ↓w_rLoc2, ↓w_sSet2, ↓w_sSetR2, ↓w_sIncP2, ↓w_sIncM2, ↓w_eLoc3, ↓w_rLoc3, ↓w_sSet3, ↓w_sSetR3, ↓w_sIncP3, ↓w_sIncM3, ↓w_eLoc4, ↓w_rLoc4, ↓w_sSet4, ↓w_sSetR4, ↓w_sIncP4, ↓w_sIncM4, ↓w_eLoc5, ↓w_rLoc5, ↓w_sSet5, ↓w_sSetR5, ↓w_sIncP5, ↓w_sIncM5, ↓w_eLoc6, ↓w_rLoc6, ↓w_sSet6, ↓w_sSetR6, ↓w_sIncP6, ↓w_sIncM6, ↓w_eLoc7, ↓w_rLoc7, ↓w_sSet7, ↓w_sSetR7, ↓w_sIncP7, ↓w_sIncM7, ↓w_eLoc8, ↓w_rLoc8, ↓w_sSet8, ↓w_sSetR8, ↓w_sIncP8, ↓w_sIncM8, ↓w_eLoc9, ↓w_rLoc9, ↓w_sSet9, ↓w_sSetR9, ↓w_sIncP9, ↓w_sIncM9, ↓w_eLoc10, ↓w_rLoc10, ↓w_sSet10, ↓w_sSetR10, ↓w_sIncP10, ↓w_sIncM10, ↓w_eLoc11, ↓w_rLoc11, ↓w_sSet11, ↓w_sSetR11, ↓w_sIncP11, ↓w_sIncM11, ↓w_eLoc12, ↓w_rLoc12, ↓w_sSet12, ↓w_sSetR12, ↓w_sIncP12, ↓w_sIncM12, ↓w_eLoc13, ↓w_rLoc13, ↓w_sSet13, ↓w_sSetR13, ↓w_sIncP13, ↓w_sIncM13, ↓w_eIntN, ↓w_eIntM, ↓w_bZi, ↓w_add, ↓w_sub, ↓w_mul, ↓w_neg, ↓w_nar, ↓w_div, ↓w_ldne, ↓w_ldat, ↓w_ldj, List.length_cons, List.length_nil, Nat.reduceAdd, Nat.reduceSub, Nat.reduceLeDiff, List.replicate_succ, List.replicate_zero, List.cons_append, List.nil_append, List.append_nil, iz_nI, iz_ofNat, iz_add, iz_sub, iz_mul, cz_lt, cz_le, cz_gt, cz_ge, cz_eq, cz_ne, mIn_iz, iz_nat, decide_eq_true_eq, Bool.not_eq_true', decide_eq_false_iff_not, true_and, and_true, ↓reduceIte, not_true_eq_false, not_false_eq_true, w01_bI, w01_i0, w01_i1, bI_ne', bI_eq', bI_t, bI_f, Bool.false_eq_true, false_implies, forall_const, implies_true, true_implies, imp_self, eq_self, cz10, cz00, Bool.true_eq_false, Bool.not_true, Bool.not_false, decide_true, decide_false, ↓tO_139, ↓tR_139_0, ↓tR_139_1, ↓tR_139_2, ↓tI_139_3, ↓tR_139_4, ↓tR_139_5, ↓tR_139_6, ↓tR_139_7, ↓tR_139_8, ↓tR_139_9, ↓tR_139_10, ↓tI_139_11, ↓tI_139_12, ↓tI_139_13, ↓tI_139_14, ↓tI_139_15, ↓tI_139_16, ↓tI_139_17, ↓tI_139_18, ↓tI_139_19, ↓tI_139_20, ↓tI_139_21, ↓tI_139_22, ↓tI_139_23, ↓tI_139_24, ↓tI_139_25, ↓tI_139_26, ↓tR_139_27, ↓tI_139_28, ↓tI_139_29, ↓tI_139_30, ↓tI_139_31, ↓tR_139_32, ↓tI_139_33, ↓tR_139_34, ↓tR_139_35, ↓tR_139_36, ↓tR_139_37, ↓tI_139_38, ↓tA_140, ↓tN_140, ↓wLd_of c1, ↓wf_sets, hlt]
      refine ⟨by omega, ?_, frM_u (frM_u d2 (by omega)) (by omega), rfl⟩
      rw [aHo_s]; exact n1
    · have hi1 : i = (A 30 1).toNat := by omega
      subst hi1
      simp (disch := omega) only [↓w_eBin, ↓w_eUn, ↓w_eDiv, ↓w_eRem, ↓w_eFld, ↓w_rFld, ↓w_eALd, ↓w_rALd, ↓w_eALen, ↓w_rStr, ↓w_aNil, ↓w_aI, ↓w_aR, ↓w_N, ↓w_eCall, ↓w_X, ↓w_bCmp, ↓w_bAnd, ↓w_bOr, ↓w_bNot, ↓w_eB, ↓w_eIte, ↓w_sSkip, ↓w_sRet, ↓w_sRetZ, ↓w_sRetV, ↓w_sBrk, ↓w_sCont, ↓w_sIf, ↓w_sSeq, ↓w_sCaC, ↓w_sCaB, ↓w_sSw, ↓w_sCall, ↓w_sPut, ↓w_sPutOp, ↓w_sASt, ↓w_sAOp, ↓w_sADiv, ↓w_eLoc0, ↓w_rLoc0, ↓w_sSet0, ↓w_sSetR0, ↓w_sIncP0, ↓w_sIncM0, ↓w_eLoc1, ↓w_rLoc1, ↓w_sSet1, ↓w_sSetR1, ↓w_sIncP1, ↓w_sIncM1, ↓w_eLoc2, ↓w_rLoc2, ↓w_sSet2, ↓w_sSetR2, ↓w_sIncP2, ↓w_sIncM2, ↓w_eLoc3, ↓w_rLoc3, ↓w_sSet3, ↓w_sSetR3, ↓w_sIncP3, ↓w_sIncM3, ↓w_eLoc4, ↓w_rLoc4, ↓w_sSet4, ↓w_sSetR4, ↓w_sIncP4, ↓w_sIncM4, ↓w_eLoc5, ↓w_rLoc5, ↓w_sSet5, ↓w_sSetR5, ↓w_sIncP5, ↓w_sIncM5, ↓w_eLoc6, ↓w_rLoc6, ↓w_sSet6, ↓w_sSetR6, ↓w_sIncP6, ↓w_sIncM6, ↓w_eLoc7, ↓w_rLoc7, ↓w_sSet7, ↓w_sSetR7, ↓w_sIncP7, ↓w_sIncM7, ↓w_eLoc8, ↓w_rLoc8, ↓w_sSet8, ↓w_sSetR8, ↓w_sIncP8, ↓w_sIncM8, ↓w_eLoc9, ↓w_rLoc9, ↓w_sSet9, ↓w_sSetR9, ↓w_sIncP9, ↓w_sIncM9, ↓w_eLoc10, ↓w_rLoc10, ↓w_sSet10, ↓w_sSetR10, ↓w_sIncP10, ↓w_sIncM10, ↓w_eLoc11, ↓w_rLoc11, ↓w_sSet11, ↓w_sSetR11, ↓w_sIncP11, ↓w_sIncM11, ↓w_eLoc12, ↓w_rLoc12, ↓w_sSet12, ↓w_sSetR12, ↓w_sIncP12, ↓w_sIncM12, ↓w_eLoc13, ↓w_rLoc13, ↓w_sSet13, ↓w_sSetR13, ↓w_sIncP13, ↓w_sIncM13, ↓w_eIntN, ↓w_eIntM, ↓w_bZi, ↓w_add, ↓w_sub, ↓w_mul, ↓w_neg, ↓w_nar, ↓w_div, ↓w_ldne, ↓w_ldat, ↓w_ldj, List.length_cons, List.length_nil, Nat.reduceAdd, Nat.reduceSub, Nat.reduceLeDiff, List.replicate_succ, List.replicate_zero, List.cons_append, List.nil_append, List.append_nil, iz_nI, iz_ofNat, iz_add, iz_sub, iz_mul, cz_lt, cz_le, cz_gt, cz_ge, cz_eq, cz_ne, mIn_iz, iz_nat, decide_eq_true_eq, Bool.not_eq_true', decide_eq_false_iff_not, true_and, and_true, ↓reduceIte, not_true_eq_false, not_false_eq_true, w01_bI, w01_i0, w01_i1, bI_ne', bI_eq', bI_t, bI_f, Bool.false_eq_true, false_implies, forall_const, implies_true, true_implies, imp_self, eq_self, cz10, cz00, Bool.true_eq_false, Bool.not_true, Bool.not_false, decide_true, decide_false, ↓tO_139, ↓tR_139_0, ↓tR_139_1, ↓tR_139_2, ↓tI_139_3, ↓tR_139_4, ↓tR_139_5, ↓tR_139_6, ↓tR_139_7, ↓tR_139_8, ↓tR_139_9, ↓tR_139_10, ↓tI_139_11, ↓tI_139_12, ↓tI_139_13, ↓tI_139_14, ↓tI_139_15, ↓tI_139_16, ↓tI_139_17, ↓tI_139_18, ↓tI_139_19, ↓tI_139_20, ↓tI_139_21, ↓tI_139_22, ↓tI_139_23, ↓tI_139_24, ↓tI_139_25, ↓tI_139_26, ↓tR_139_27, ↓tI_139_28, ↓tI_139_29, ↓tI_139_30, ↓tI_139_31, ↓tR_139_32, ↓tI_139_33, ↓tR_139_34, ↓tR_139_35, ↓tR_139_36, ↓tR_139_37, ↓tI_139_38, ↓tA_140, ↓tN_140, ↓wLd_of c1, hlt]
      refine wS_up 320 (fun j l E => RelM E (aHo (aUp (aUp (aUp A 30 2 0) 30 3 0) 30 4 k) (A 30 1).toNat) ∧ FrM C E ∧ l = [.ref 139, .int (iz n), .int (iz (A 30 0 * (A 30 0 - 1))), .int (iz m), .int (iz k), .int (iz (420 + j))]) ?_ (Nat.zero_le _) ⟨d1, d2, rfl⟩
      rintro j l E hj ⟨g1, g2, rfl⟩
      by_cases hlj : 420 + (j : Int) < 740
      · simp (disch := omega) only [↓w_eBin, ↓w_eUn, ↓w_eDiv, ↓w_eRem, ↓w_eFld, ↓w_rFld, ↓w_eALd, ↓w_rALd, ↓w_eALen, ↓w_rStr, ↓w_aNil, ↓w_aI, ↓w_aR, ↓w_N, ↓w_eCall, ↓w_X, ↓w_bCmp, ↓w_bAnd, ↓w_bOr, ↓w_bNot, ↓w_eB, ↓w_eIte, ↓w_sSkip, ↓w_sRet, ↓w_sRetZ, ↓w_sRetV, ↓w_sBrk, ↓w_sCont, ↓w_sIf, ↓w_sSeq, ↓w_sCaC, ↓w_sCaB, ↓w_sSw, ↓w_sCall, ↓w_sPut, ↓w_sPutOp, ↓w_sASt, ↓w_sAOp, ↓w_sADiv, ↓w_eLoc0, ↓w_rLoc0, ↓w_sSet0, ↓w_sSetR0, ↓w_sIncP0, ↓w_sIncM0, ↓w_eLoc1, ↓w_rLoc1, ↓w_sSet1, ↓w_sSetR1, ↓w_sIncP1, ↓w_sIncM1, ↓w_eLoc2, ↓w_rLoc2, ↓w_sSet2, ↓w_sSetR2, ↓w_sIncP2, ↓w_sIncM2, ↓w_eLoc3, ↓w_rLoc3, ↓w_sSet3, ↓w_sSetR3, ↓w_sIncP3, ↓w_sIncM3, ↓w_eLoc4, ↓w_rLoc4, ↓w_sSet4, ↓w_sSetR4, ↓w_sIncP4, ↓w_sIncM4, ↓w_eLoc5, ↓w_rLoc5, ↓w_sSet5, ↓w_sSetR5, ↓w_sIncP5, ↓w_sIncM5, ↓w_eLoc6, ↓w_rLoc6, ↓w_sSet6, ↓w_sSetR6, ↓w_sIncP6, ↓w_sIncM6, ↓w_eLoc7, ↓w_rLoc7, ↓w_sSet7, ↓w_sSetR7, ↓w_sIncP7, ↓w_sIncM7, ↓w_eLoc8, ↓w_rLoc8, ↓w_sSet8, ↓w_sSetR8, ↓w_sIncP8, ↓w_sIncM8, ↓w_eLoc9, ↓w_rLoc9, ↓w_sSet9, ↓w_sSetR9, ↓w_sIncP9, ↓w_sIncM9, ↓w_eLoc10, ↓w_rLoc10, ↓w_sSet10, ↓w_sSetR10, ↓w_sIncP10, ↓w_sIncM10, ↓w_eLoc11, ↓w_rLoc11, ↓w_sSet11, ↓w_sSetR11, ↓w_sIncP11, ↓w_sIncM11, ↓w_eLoc12, ↓w_rLoc12, ↓w_sSet12, ↓w_sSetR12, ↓w_sIncP12, ↓w_sIncM12, ↓w_eLoc13, ↓w_rLoc13, ↓w_sSet13, ↓w_sSetR13, ↓w_sIncP13, ↓w_sIncM13, ↓w_eIntN, ↓w_eIntM, ↓w_bZi, ↓w_add, ↓w_sub, ↓w_mul, ↓w_neg, ↓w_nar, ↓w_div, ↓w_ldne, ↓w_ldat, ↓w_ldj, List.length_cons, List.length_nil, Nat.reduceAdd, Nat.reduceSub, Nat.reduceLeDiff, List.replicate_succ, List.replicate_zero, List.cons_append, List.nil_append, List.append_nil, iz_nI, iz_ofNat, iz_add, iz_sub, iz_mul, cz_lt, cz_le, cz_gt, cz_ge, cz_eq, cz_ne, mIn_iz, iz_nat, decide_eq_true_eq, Bool.not_eq_true', decide_eq_false_iff_not, true_and, and_true, ↓reduceIte, not_true_eq_false, not_false_eq_true, w01_bI, w01_i0, w01_i1, bI_ne', bI_eq', bI_t, bI_f, Bool.false_eq_true, false_implies, forall_const, implies_true, true_implies, imp_self, eq_self, cz10, cz00, Bool.true_eq_false, Bool.not_true, Bool.not_false, decide_true, decide_false, ↓tO_139, ↓tR_139_0, ↓tR_139_1, ↓tR_139_2, ↓tI_139_3, ↓tR_139_4, ↓tR_139_5, ↓tR_139_6, ↓tR_139_7, ↓tR_139_8, ↓tR_139_9, ↓tR_139_10, ↓tI_139_11, ↓tI_139_12, ↓tI_139_13, ↓tI_139_14, ↓tI_139_15, ↓tI_139_16, ↓tI_139_17, ↓tI_139_18, ↓tI_139_19, ↓tI_139_20, ↓tI_139_21, ↓tI_139_22, ↓tI_139_23, ↓tI_139_24, ↓tI_139_25, ↓tI_139_26, ↓tR_139_27, ↓tI_139_28, ↓tI_139_29, ↓tI_139_30, ↓tI_139_31, ↓tR_139_32, ↓tI_139_33, ↓tR_139_34, ↓tR_139_35, ↓tR_139_36, ↓tR_139_37, ↓tI_139_38, ↓tA_140, ↓tN_140, hlj]
        refine ⟨by omega, rm_fun9 g1 (by rw [aHo_r (by omega), aUp_k (by omega), aUp_k (by omega), aUp_k (by omega)]; exact h0) (by omega), frM_u g2 (by omega), by rw [show 420 + ((j + 1 : Nat) : Int) = 420 + j + 1 by omega]⟩
      · have e1 : aHo (aUp (aUp (aUp A 30 2 0) 30 3 0) 30 4 k) (A 30 1).toNat 30 1 = A 30 1 := by rw [aHo_r (by omega), aUp_i (by omega), aUp_i (by omega), aUp_i (by omega)]
        obtain ⟨F, p1, p2, p3⟩ := rf_parks g1 (by rw [e1]; exact hg1)
        rw [e1, aEmp_eq (by omega)] at p2
        obtain ⟨G, b1, b2, b3, b4⟩ := beg F p2 (frM_t g2 p3)
        obtain ⟨g, H, x1, x2, x3, x4⟩ := fin G b1 b2
        have hov : ¬ aThr (aIt (aCh1 ev) (aMor A m n k) g) < m → ∀ Q, wF f_M_overAll [.ref 139, .int (iz (-1))] H Q ↔ Q (some (iz (aOv (aIt (aCh1 ev) (aMor A m n k) g) (-1) m.toNat))) H := fun _ Q => by
          have hN : aIt (aCh1 ev) (aMor A m n k) g 30 2 = m := by rw [aIt_r (by omega)]; exact aMor_n h.2.1
          have := wf_overAll (b := -1) (Q := Q) x3 (WfA_it (aCh1_rg ev) wM g (by rw [aMor_r (by omega), aEmp_3]; have := x2.1; omega)).1 (by omega)
          rw [hN] at this
          exact this
        clear beg fin
        rcases h.2.1 with rfl | rfl
        · have b3 := b3 rfl
          unfold nR at b3
          clear b4
          by_cases ht : aThr (aIt (aCh1 ev) (aMor A 1 n k) g) < 1
          · rw [show decide (¬ aThr (aIt (aCh1 ev) (aMor A 1 n k) g) < 1) = false by simp [ht]] at x1
            clear hov
            simp (disch := omega) only [↓w_eBin, ↓w_eUn, ↓w_eDiv, ↓w_eRem, ↓w_eFld, ↓w_rFld, ↓w_eALd, ↓w_rALd, ↓w_eALen, ↓w_rStr, ↓w_aNil, ↓w_aI, ↓w_aR, ↓w_N, ↓w_eCall, ↓w_X, ↓w_bCmp, ↓w_bAnd, ↓w_bOr, ↓w_bNot, ↓w_eB, ↓w_eIte, ↓w_sSkip, ↓w_sRet, ↓w_sRetZ, ↓w_sRetV, ↓w_sBrk, ↓w_sCont, ↓w_sIf, ↓w_sSeq, ↓w_sCaC, ↓w_sCaB, ↓w_sSw, ↓w_sCall, ↓w_sPut, ↓w_sPutOp, ↓w_sASt, ↓w_sAOp, ↓w_sADiv, ↓w_eLoc0, ↓w_rLoc0, ↓w_sSet0, ↓w_sSetR0, ↓w_sIncP0, ↓w_sIncM0, ↓w_eLoc1, ↓w_rLoc1, ↓w_sSet1, ↓w_sSetR1, ↓w_sIncP1, ↓w_sIncM1, ↓w_eLoc2, ↓w_rLoc2, ↓w_sSet2, ↓w_sSetR2, ↓w_sIncP2, ↓w_sIncM2, ↓w_eLoc3, ↓w_rLoc3, ↓w_sSet3, ↓w_sSetR3, ↓w_sIncP3, ↓w_sIncM3, ↓w_eLoc4, ↓w_rLoc4, ↓w_sSet4, ↓w_sSetR4, ↓w_sIncP4, ↓w_sIncM4, ↓w_eLoc5, ↓w_rLoc5, ↓w_sSet5, ↓w_sSetR5, ↓w_sIncP5, ↓w_sIncM5, ↓w_eLoc6, ↓w_rLoc6, ↓w_sSet6, ↓w_sSetR6, ↓w_sIncP6, ↓w_sIncM6, ↓w_eLoc7, ↓w_rLoc7, ↓w_sSet7, ↓w_sSetR7, ↓w_sIncP7, ↓w_sIncM7, ↓w_eLoc8, ↓w_rLoc8, ↓w_sSet8, ↓w_sSetR8, ↓w_sIncP8, ↓w_sIncM8, ↓w_eLoc9, ↓w_rLoc9, ↓w_sSet9, ↓w_sSetR9, ↓w_sIncP9, ↓w_sIncM9, ↓w_eLoc10, ↓w_rLoc10, ↓w_sSet10, ↓w_sSetR10, ↓w_sIncP10, ↓w_sIncM10, ↓w_eLoc11, ↓w_rLoc11, ↓w_sSet11, ↓w_sSetR11, ↓w_sIncP11, ↓w_sIncM11, ↓w_eLoc12, ↓w_rLoc12, ↓w_sSet12, ↓w_sSetR12, ↓w_sIncP12, ↓w_sIncM12, ↓w_eLoc13, ↓w_rLoc13, ↓w_sSet13, ↓w_sSetR13, ↓w_sIncP13, ↓w_sIncM13, ↓w_eIntN, ↓w_eIntM, ↓w_bZi, ↓w_add, ↓w_sub, ↓w_mul, ↓w_neg, ↓w_nar, ↓w_div, ↓w_ldne, ↓w_ldat, ↓w_ldj, List.length_cons, List.length_nil, Nat.reduceAdd, Nat.reduceSub, Nat.reduceLeDiff, List.replicate_succ, List.replicate_zero, List.cons_append, List.nil_append, List.append_nil, iz_nI, iz_ofNat, iz_add, iz_sub, iz_mul, cz_lt, cz_le, cz_gt, cz_ge, cz_eq, cz_ne, mIn_iz, iz_nat, decide_eq_true_eq, Bool.not_eq_true', decide_eq_false_iff_not, true_and, and_true, ↓reduceIte, not_true_eq_false, not_false_eq_true, w01_bI, w01_i0, w01_i1, bI_ne', bI_eq', bI_t, bI_f, Bool.false_eq_true, false_implies, forall_const, implies_true, true_implies, imp_self, eq_self, cz10, cz00, Bool.true_eq_false, Bool.not_true, Bool.not_false, decide_true, decide_false, ↓tO_139, ↓tR_139_0, ↓tR_139_1, ↓tR_139_2, ↓tI_139_3, ↓tR_139_4, ↓tR_139_5, ↓tR_139_6, ↓tR_139_7, ↓tR_139_8, ↓tR_139_9, ↓tR_139_10, ↓tI_139_11, ↓tI_139_12, ↓tI_139_13, ↓tI_139_14, ↓tI_139_15, ↓tI_139_16, ↓tI_139_17, ↓tI_139_18, ↓tI_139_19, ↓tI_139_20, ↓tI_139_21, ↓tI_139_22, ↓tI_139_23, ↓tI_139_24, ↓tI_139_25, ↓tI_139_26, ↓tR_139_27, ↓tI_139_28, ↓tI_139_29, ↓tI_139_30, ↓tI_139_31, ↓tR_139_32, ↓tI_139_33, ↓tR_139_34, ↓tR_139_35, ↓tR_139_36, ↓tR_139_37, ↓tI_139_38, ↓tA_140, ↓tN_140, hlj, ↓w_rem, ↓wF_eq p1, ↓wF_eq b3, ↓wF_eq x1, Int.reduceEq]
            refine ⟨g, ?_, x2, x3, x4⟩
            unfold aOver; rw [if_pos ht]
          · have hov := hov ht
            rw [show decide (¬ aThr (aIt (aCh1 ev) (aMor A 1 n k) g) < 1) = true by simp [ht]] at x1
            simp (disch := omega) only [↓w_eBin, ↓w_eUn, ↓w_eDiv, ↓w_eRem, ↓w_eFld, ↓w_rFld, ↓w_eALd, ↓w_rALd, ↓w_eALen, ↓w_rStr, ↓w_aNil, ↓w_aI, ↓w_aR, ↓w_N, ↓w_eCall, ↓w_X, ↓w_bCmp, ↓w_bAnd, ↓w_bOr, ↓w_bNot, ↓w_eB, ↓w_eIte, ↓w_sSkip, ↓w_sRet, ↓w_sRetZ, ↓w_sRetV, ↓w_sBrk, ↓w_sCont, ↓w_sIf, ↓w_sSeq, ↓w_sCaC, ↓w_sCaB, ↓w_sSw, ↓w_sCall, ↓w_sPut, ↓w_sPutOp, ↓w_sASt, ↓w_sAOp, ↓w_sADiv, ↓w_eLoc0, ↓w_rLoc0, ↓w_sSet0, ↓w_sSetR0, ↓w_sIncP0, ↓w_sIncM0, ↓w_eLoc1, ↓w_rLoc1, ↓w_sSet1, ↓w_sSetR1, ↓w_sIncP1, ↓w_sIncM1, ↓w_eLoc2, ↓w_rLoc2, ↓w_sSet2, ↓w_sSetR2, ↓w_sIncP2, ↓w_sIncM2, ↓w_eLoc3, ↓w_rLoc3, ↓w_sSet3, ↓w_sSetR3, ↓w_sIncP3, ↓w_sIncM3, ↓w_eLoc4, ↓w_rLoc4, ↓w_sSet4, ↓w_sSetR4, ↓w_sIncP4, ↓w_sIncM4, ↓w_eLoc5, ↓w_rLoc5, ↓w_sSet5, ↓w_sSetR5, ↓w_sIncP5, ↓w_sIncM5, ↓w_eLoc6, ↓w_rLoc6, ↓w_sSet6, ↓w_sSetR6, ↓w_sIncP6, ↓w_sIncM6, ↓w_eLoc7, ↓w_rLoc7, ↓w_sSet7, ↓w_sSetR7, ↓w_sIncP7, ↓w_sIncM7, ↓w_eLoc8, ↓w_rLoc8, ↓w_sSet8, ↓w_sSetR8, ↓w_sIncP8, ↓w_sIncM8, ↓w_eLoc9, ↓w_rLoc9, ↓w_sSet9, ↓w_sSetR9, ↓w_sIncP9, ↓w_sIncM9, ↓w_eLoc10, ↓w_rLoc10, ↓w_sSet10, ↓w_sSetR10, ↓w_sIncP10, ↓w_sIncM10, ↓w_eLoc11, ↓w_rLoc11, ↓w_sSet11, ↓w_sSetR11, ↓w_sIncP11, ↓w_sIncM11, ↓w_eLoc12, ↓w_rLoc12, ↓w_sSet12, ↓w_sSetR12, ↓w_sIncP12, ↓w_sIncM12, ↓w_eLoc13, ↓w_rLoc13, ↓w_sSet13, ↓w_sSetR13, ↓w_sIncP13, ↓w_sIncM13, ↓w_eIntN, ↓w_eIntM, ↓w_bZi, ↓w_add, ↓w_sub, ↓w_mul, ↓w_neg, ↓w_nar, ↓w_div, ↓w_ldne, ↓w_ldat, ↓w_ldj, List.length_cons, List.length_nil, Nat.reduceAdd, Nat.reduceSub, Nat.reduceLeDiff, List.replicate_succ, List.replicate_zero, List.cons_append, List.nil_append, List.append_nil, iz_nI, iz_ofNat, iz_add, iz_sub, iz_mul, cz_lt, cz_le, cz_gt, cz_ge, cz_eq, cz_ne, mIn_iz, iz_nat, decide_eq_true_eq, Bool.not_eq_true', decide_eq_false_iff_not, true_and, and_true, ↓reduceIte, not_true_eq_false, not_false_eq_true, w01_bI, w01_i0, w01_i1, bI_ne', bI_eq', bI_t, bI_f, Bool.false_eq_true, false_implies, forall_const, implies_true, true_implies, imp_self, eq_self, cz10, cz00, Bool.true_eq_false, Bool.not_true, Bool.not_false, decide_true, decide_false, ↓tO_139, ↓tR_139_0, ↓tR_139_1, ↓tR_139_2, ↓tI_139_3, ↓tR_139_4, ↓tR_139_5, ↓tR_139_6, ↓tR_139_7, ↓tR_139_8, ↓tR_139_9, ↓tR_139_10, ↓tI_139_11, ↓tI_139_12, ↓tI_139_13, ↓tI_139_14, ↓tI_139_15, ↓tI_139_16, ↓tI_139_17, ↓tI_139_18, ↓tI_139_19, ↓tI_139_20, ↓tI_139_21, ↓tI_139_22, ↓tI_139_23, ↓tI_139_24, ↓tI_139_25, ↓tI_139_26, ↓tR_139_27, ↓tI_139_28, ↓tI_139_29, ↓tI_139_30, ↓tI_139_31, ↓tR_139_32, ↓tI_139_33, ↓tR_139_34, ↓tR_139_35, ↓tR_139_36, ↓tR_139_37, ↓tI_139_38, ↓tA_140, ↓tN_140, hlj, ↓w_rem, ↓wF_eq p1, ↓wF_eq b3, ↓wF_eq x1, ↓hov, Int.reduceEq]
            refine ⟨g, ?_, x2, x3, x4⟩
            unfold aOver; rw [if_neg ht]
        · obtain ⟨G', b4, b5⟩ := b4 rfl
          unfold nR at b5
          unfold nQ at b4
          clear b3
          by_cases ht : aThr (aIt (aCh1 ev) (aMor A 2 n k) g) < 2
          · rw [show decide (¬ aThr (aIt (aCh1 ev) (aMor A 2 n k) g) < 2) = false by simp [ht]] at x1
            clear hov
            simp (disch := omega) only [↓w_eBin, ↓w_eUn, ↓w_eDiv, ↓w_eRem, ↓w_eFld, ↓w_rFld, ↓w_eALd, ↓w_rALd, ↓w_eALen, ↓w_rStr, ↓w_aNil, ↓w_aI, ↓w_aR, ↓w_N, ↓w_eCall, ↓w_X, ↓w_bCmp, ↓w_bAnd, ↓w_bOr, ↓w_bNot, ↓w_eB, ↓w_eIte, ↓w_sSkip, ↓w_sRet, ↓w_sRetZ, ↓w_sRetV, ↓w_sBrk, ↓w_sCont, ↓w_sIf, ↓w_sSeq, ↓w_sCaC, ↓w_sCaB, ↓w_sSw, ↓w_sCall, ↓w_sPut, ↓w_sPutOp, ↓w_sASt, ↓w_sAOp, ↓w_sADiv, ↓w_eLoc0, ↓w_rLoc0, ↓w_sSet0, ↓w_sSetR0, ↓w_sIncP0, ↓w_sIncM0, ↓w_eLoc1, ↓w_rLoc1, ↓w_sSet1, ↓w_sSetR1, ↓w_sIncP1, ↓w_sIncM1, ↓w_eLoc2, ↓w_rLoc2, ↓w_sSet2, ↓w_sSetR2, ↓w_sIncP2, ↓w_sIncM2, ↓w_eLoc3, ↓w_rLoc3, ↓w_sSet3, ↓w_sSetR3, ↓w_sIncP3, ↓w_sIncM3, ↓w_eLoc4, ↓w_rLoc4, ↓w_sSet4, ↓w_sSetR4, ↓w_sIncP4, ↓w_sIncM4, ↓w_eLoc5, ↓w_rLoc5, ↓w_sSet5, ↓w_sSetR5, ↓w_sIncP5, ↓w_sIncM5, ↓w_eLoc6, ↓w_rLoc6, ↓w_sSet6, ↓w_sSetR6, ↓w_sIncP6, ↓w_sIncM6, ↓w_eLoc7, ↓w_rLoc7, ↓w_sSet7, ↓w_sSetR7, ↓w_sIncP7, ↓w_sIncM7, ↓w_eLoc8, ↓w_rLoc8, ↓w_sSet8, ↓w_sSetR8, ↓w_sIncP8, ↓w_sIncM8, ↓w_eLoc9, ↓w_rLoc9, ↓w_sSet9, ↓w_sSetR9, ↓w_sIncP9, ↓w_sIncM9, ↓w_eLoc10, ↓w_rLoc10, ↓w_sSet10, ↓w_sSetR10, ↓w_sIncP10, ↓w_sIncM10, ↓w_eLoc11, ↓w_rLoc11, ↓w_sSet11, ↓w_sSetR11, ↓w_sIncP11, ↓w_sIncM11, ↓w_eLoc12, ↓w_rLoc12, ↓w_sSet12, ↓w_sSetR12, ↓w_sIncP12, ↓w_sIncM12, ↓w_eLoc13, ↓w_rLoc13, ↓w_sSet13, ↓w_sSetR13, ↓w_sIncP13, ↓w_sIncM13, ↓w_eIntN, ↓w_eIntM, ↓w_bZi, ↓w_add, ↓w_sub, ↓w_mul, ↓w_neg, ↓w_nar, ↓w_div, ↓w_ldne, ↓w_ldat, ↓w_ldj, List.length_cons, List.length_nil, Nat.reduceAdd, Nat.reduceSub, Nat.reduceLeDiff, List.replicate_succ, List.replicate_zero, List.cons_append, List.nil_append, List.append_nil, iz_nI, iz_ofNat, iz_add, iz_sub, iz_mul, cz_lt, cz_le, cz_gt, cz_ge, cz_eq, cz_ne, mIn_iz, iz_nat, decide_eq_true_eq, Bool.not_eq_true', decide_eq_false_iff_not, true_and, and_true, ↓reduceIte, not_true_eq_false, not_false_eq_true, w01_bI, w01_i0, w01_i1, bI_ne', bI_eq', bI_t, bI_f, Bool.false_eq_true, false_implies, forall_const, implies_true, true_implies, imp_self, eq_self, cz10, cz00, Bool.true_eq_false, Bool.not_true, Bool.not_false, decide_true, decide_false, ↓tO_139, ↓tR_139_0, ↓tR_139_1, ↓tR_139_2, ↓tI_139_3, ↓tR_139_4, ↓tR_139_5, ↓tR_139_6, ↓tR_139_7, ↓tR_139_8, ↓tR_139_9, ↓tR_139_10, ↓tI_139_11, ↓tI_139_12, ↓tI_139_13, ↓tI_139_14, ↓tI_139_15, ↓tI_139_16, ↓tI_139_17, ↓tI_139_18, ↓tI_139_19, ↓tI_139_20, ↓tI_139_21, ↓tI_139_22, ↓tI_139_23, ↓tI_139_24, ↓tI_139_25, ↓tI_139_26, ↓tR_139_27, ↓tI_139_28, ↓tI_139_29, ↓tI_139_30, ↓tI_139_31, ↓tR_139_32, ↓tI_139_33, ↓tR_139_34, ↓tR_139_35, ↓tR_139_36, ↓tR_139_37, ↓tI_139_38, ↓tA_140, ↓tN_140, hlj, ↓w_rem, ↓wF_eq p1, ↓wF_eq b4, ↓wF_eq b5, ↓wF_eq x1, Int.reduceEq]
            refine ⟨g, ?_, x2, x3, x4⟩
            unfold aOver; rw [if_pos ht]
          · have hov := hov ht
            rw [show decide (¬ aThr (aIt (aCh1 ev) (aMor A 2 n k) g) < 2) = true by simp [ht]] at x1
            simp (disch := omega) only [↓w_eBin, ↓w_eUn, ↓w_eDiv, ↓w_eRem, ↓w_eFld, ↓w_rFld, ↓w_eALd, ↓w_rALd, ↓w_eALen, ↓w_rStr, ↓w_aNil, ↓w_aI, ↓w_aR, ↓w_N, ↓w_eCall, ↓w_X, ↓w_bCmp, ↓w_bAnd, ↓w_bOr, ↓w_bNot, ↓w_eB, ↓w_eIte, ↓w_sSkip, ↓w_sRet, ↓w_sRetZ, ↓w_sRetV, ↓w_sBrk, ↓w_sCont, ↓w_sIf, ↓w_sSeq, ↓w_sCaC, ↓w_sCaB, ↓w_sSw, ↓w_sCall, ↓w_sPut, ↓w_sPutOp, ↓w_sASt, ↓w_sAOp, ↓w_sADiv, ↓w_eLoc0, ↓w_rLoc0, ↓w_sSet0, ↓w_sSetR0, ↓w_sIncP0, ↓w_sIncM0, ↓w_eLoc1, ↓w_rLoc1, ↓w_sSet1, ↓w_sSetR1, ↓w_sIncP1, ↓w_sIncM1, ↓w_eLoc2, ↓w_rLoc2, ↓w_sSet2, ↓w_sSetR2, ↓w_sIncP2, ↓w_sIncM2, ↓w_eLoc3, ↓w_rLoc3, ↓w_sSet3, ↓w_sSetR3, ↓w_sIncP3, ↓w_sIncM3, ↓w_eLoc4, ↓w_rLoc4, ↓w_sSet4, ↓w_sSetR4, ↓w_sIncP4, ↓w_sIncM4, ↓w_eLoc5, ↓w_rLoc5, ↓w_sSet5, ↓w_sSetR5, ↓w_sIncP5, ↓w_sIncM5, ↓w_eLoc6, ↓w_rLoc6, ↓w_sSet6, ↓w_sSetR6, ↓w_sIncP6, ↓w_sIncM6, ↓w_eLoc7, ↓w_rLoc7, ↓w_sSet7, ↓w_sSetR7, ↓w_sIncP7, ↓w_sIncM7, ↓w_eLoc8, ↓w_rLoc8, ↓w_sSet8, ↓w_sSetR8, ↓w_sIncP8, ↓w_sIncM8, ↓w_eLoc9, ↓w_rLoc9, ↓w_sSet9, ↓w_sSetR9, ↓w_sIncP9, ↓w_sIncM9, ↓w_eLoc10, ↓w_rLoc10, ↓w_sSet10, ↓w_sSetR10, ↓w_sIncP10, ↓w_sIncM10, ↓w_eLoc11, ↓w_rLoc11, ↓w_sSet11, ↓w_sSetR11, ↓w_sIncP11, ↓w_sIncM11, ↓w_eLoc12, ↓w_rLoc12, ↓w_sSet12, ↓w_sSetR12, ↓w_sIncP12, ↓w_sIncM12, ↓w_eLoc13, ↓w_rLoc13, ↓w_sSet13, ↓w_sSetR13, ↓w_sIncP13, ↓w_sIncM13, ↓w_eIntN, ↓w_eIntM, ↓w_bZi, ↓w_add, ↓w_sub, ↓w_mul, ↓w_neg, ↓w_nar, ↓w_div, ↓w_ldne, ↓w_ldat, ↓w_ldj, List.length_cons, List.length_nil, Nat.reduceAdd, Nat.reduceSub, Nat.reduceLeDiff, List.replicate_succ, List.replicate_zero, List.cons_append, List.nil_append, List.append_nil, iz_nI, iz_ofNat, iz_add, iz_sub, iz_mul, cz_lt, cz_le, cz_gt, cz_ge, cz_eq, cz_ne, mIn_iz, iz_nat, decide_eq_true_eq, Bool.not_eq_true', decide_eq_false_iff_not, true_and, and_true, ↓reduceIte, not_true_eq_false, not_false_eq_true, w01_bI, w01_i0, w01_i1, bI_ne', bI_eq', bI_t, bI_f, Bool.false_eq_true, false_implies, forall_const, implies_true, true_implies, imp_self, eq_self, cz10, cz00, Bool.true_eq_false, Bool.not_true, Bool.not_false, decide_true, decide_false, ↓tO_139, ↓tR_139_0, ↓tR_139_1, ↓tR_139_2, ↓tI_139_3, ↓tR_139_4, ↓tR_139_5, ↓tR_139_6, ↓tR_139_7, ↓tR_139_8, ↓tR_139_9, ↓tR_139_10, ↓tI_139_11, ↓tI_139_12, ↓tI_139_13, ↓tI_139_14, ↓tI_139_15, ↓tI_139_16, ↓tI_139_17, ↓tI_139_18, ↓tI_139_19, ↓tI_139_20, ↓tI_139_21, ↓tI_139_22, ↓tI_139_23, ↓tI_139_24, ↓tI_139_25, ↓tI_139_26, ↓tR_139_27, ↓tI_139_28, ↓tI_139_29, ↓tI_139_30, ↓tI_139_31, ↓tR_139_32, ↓tI_139_33, ↓tR_139_34, ↓tR_139_35, ↓tR_139_36, ↓tR_139_37, ↓tI_139_38, ↓tA_140, ↓tN_140, hlj, ↓w_rem, ↓wF_eq p1, ↓wF_eq b4, ↓wF_eq b5, ↓wF_eq x1, ↓hov, Int.reduceEq]
            refine ⟨g, ?_, x2, x3, x4⟩
            unfold aOver; rw [if_neg ht]
  obtain ⟨o, D, e, g, rfl, x⟩ := wF_of key
  exact ⟨g, D, e, x⟩
end

/-! mornings: the pictures, and the reference -/
theorem w_rem {a b : Int} {P : Int32 → Prop} (h : (-2147483648 ≤ a ∧ a < 2147483648) ∧ 0 < b ∧ b < 2147483648) : wRm (iz a) (iz b) P ↔ P (iz (a - a.tdiv b * b)) := by
  have e : ¬ iz b = 0 := fun e => by
    have := (iz_inj (a := b) (b := 0) (by omega)).mp e
    omega
  simp only [wRm, e, iz_div h, iz_mul, iz_sub, not_false_eq_true, true_and]
theorem td_rg {x d e : Int} (hd : 0 < d) (hx : 0 ≤ x) (hx1 : x < e * d) : 0 ≤ x.tdiv d ∧ x.tdiv d < e ∧ 0 ≤ x - x.tdiv d * d ∧ x - x.tdiv d * d < d := by
  rw [Int.tdiv_eq_ediv_of_nonneg hx]
  have h1 := Int.mul_ediv_add_emod x d
  have h2 := Int.emod_nonneg x (by omega : d ≠ 0)
  have h3 := Int.emod_lt_of_pos x hd
  have h4 := Int.ediv_nonneg hx (by omega : 0 ≤ d)
  have h5 := Int.ediv_lt_of_lt_mul hd hx1
  rw [Int.mul_comm] at h1
  omega
def dF (N x : Int) : Int := x.tdiv (N - 1)
def dT (N x : Int) : Int := if x - x.tdiv (N - 1) * (N - 1) < x.tdiv (N - 1) then x - x.tdiv (N - 1) * (N - 1) else x - x.tdiv (N - 1) * (N - 1) + 1
theorem d_rg {N x : Int} (hN : 2 ≤ N) (hx : 0 ≤ x) (hx1 : x < N * (N - 1)) : 0 ≤ dF N x ∧ dF N x < N ∧ 0 ≤ dT N x ∧ dT N x < N ∧ dF N x ≠ dT N x := by
  have h := td_rg (by omega : 0 < N - 1) hx hx1
  unfold dF dT
  split <;> omega
section
variable {A : aS} {C : mMem}
def aEmp (A : aS) (k : Int) : aS := fun r p => if 10 ≤ r ∧ r ≤ 15 ∧ 0 ≤ p ∧ p < A 30 1 then (if r = 10 then A 20 p else if r = 15 then -1 else 0) else if r = 30 ∧ (p = 2 ∨ p = 3) then 0 else if r = 30 ∧ p = 4 then k else A r p
theorem aEmp_r {k r p : Int} (h : (r < 10 ∨ 15 < r ∨ p < 0 ∨ A 30 1 ≤ p) ∧ (r ≠ 30 ∨ (p ≠ 2 ∧ p ≠ 3 ∧ p ≠ 4))) : aEmp A k r p = A r p := by
  unfold aEmp
  rw [if_neg (by omega), if_neg (by omega), if_neg (by omega)]
theorem aEmp_2 {k : Int} : aEmp A k 30 2 = 0 := by unfold aEmp; rw [if_neg (by omega), if_pos (by omega)]
theorem aEmp_3 {k : Int} : aEmp A k 30 3 = 0 := by unfold aEmp; rw [if_neg (by omega), if_pos (by omega)]
theorem aEmp_4 {k : Int} : aEmp A k 30 4 = k := by unfold aEmp; rw [if_neg (by omega), if_neg (by omega), if_pos (by omega)]
theorem aEmp_c {k c : Int} (h : 0 ≤ c ∧ c < A 30 1) : aEmp A k 10 c = A 20 c ∧ aEmp A k 11 c = 0 ∧ aEmp A k 12 c = 0 ∧ aEmp A k 13 c = 0 ∧ aEmp A k 14 c = 0 ∧ aEmp A k 15 c = -1 := by
  unfold aEmp
  refine ⟨?_, ?_, ?_, ?_, ?_, ?_⟩
  · rw [if_pos (by omega), if_pos rfl]
  all_goals rw [if_pos (by omega), if_neg (by omega)]
  all_goals first | rw [if_pos rfl] | rw [if_neg (by omega)]
theorem aEmp_fresh {k : Int} (h0 : A 32 0 = -1) (h1 : A 32 1 = -1) : Fresh (aEmp A k) := by
  refine ⟨aEmp_2, aEmp_3, by rw [aEmp_r (by omega)]; exact h0, by rw [aEmp_r (by omega)]; exact h1, fun c c0 c1 => ?_⟩
  rw [aEmp_r (by omega)] at c1
  have := aEmp_c (k := k) ⟨c0, c1⟩
  rw [aEmp_r (r := 20) (by omega)]
  exact this
theorem WfA_emp {k : Int} (hw : WfA A) (hk : 0 ≤ k ∧ k ≤ 2) (h0 : A 32 0 = -1) (h1 : A 32 1 = -1) : WfA (aEmp A k) := by
  obtain ⟨⟨hG, hP, hC, hS, hF⟩, hD⟩ := hw
  refine ⟨⟨?_, fun q q0 q1 => ?_, fun d d0 d1 => ?_, fun d f => ?_, fun q q0 q1 => ?_⟩, fun c c0 c1 => ?_⟩
  · unfold WfG at hG ⊢
    rw [aEmp_2, aEmp_3, aEmp_4]
    simp (disch := omega) only [aEmp_r]
    omega
  · rw [aEmp_2] at q1; omega
  · rw [aEmp_r (by omega)] at d1
    have hq := hC d d0 d1
    obtain ⟨e0, e1, e2, e3, e4, e5⟩ := aEmp_c (k := k) ⟨d0, d1⟩
    unfold WfC at hq ⊢
    rw [e0, e1, e2, e3, e4, e5]
    simp (disch := omega) only [aEmp_r]
    omega
  · intro a b e g
    rw [aEmp_r (by omega)]
    exact hS d f a b e g
  · rw [aEmp_2] at q1; omega
  · rw [aEmp_r (by omega)] at c1
    obtain ⟨e0, e1, e2, e3, e4, e5⟩ := aEmp_c (k := k) ⟨c0, c1⟩
    unfold WfD
    rw [e1, e2, e3]
    omega
def aPk (A : aS) (n : Nat) : aS := fun r p => if 10 ≤ r ∧ r ≤ 13 ∧ 0 ≤ p ∧ p < n then (if r = 10 then A 20 p else 0) else A r p
theorem aPk_r {n : Nat} {r p : Int} (h : r < 10 ∨ 13 < r ∨ p < 0 ∨ n ≤ p) : aPk A n r p = A r p := by unfold aPk; rw [if_neg (by omega)]
theorem aPk_0 : aPk A 0 = A := by funext r p; exact aPk_r (by omega)
theorem aPk_s {n : Nat} : aPk A (n + 1) = aUp (aUp (aUp (aUp (aPk A n) 10 n (aPk A n 20 n)) 11 n 0) 12 n 0) 13 n 0 := by
  funext r p
  by_cases e : p = n
  · subst e
    rw [aPk_r (r := 20) (by omega)]
    by_cases e0 : r = 10
    · subst e0
      rw [aUp_k (by omega), aUp_k (by omega), aUp_k (by omega), aUp_at]
      unfold aPk; rw [if_pos (by omega), if_pos rfl]
    · by_cases e1 : r = 11 ∨ r = 12 ∨ r = 13
      · have : aPk A (n + 1) r n = 0 := by unfold aPk; rw [if_pos (by omega), if_neg e0]
        rw [this]
        rcases e1 with rfl | rfl | rfl
        · rw [aUp_k (by omega), aUp_k (by omega), aUp_at]
        · rw [aUp_k (by omega), aUp_at]
        · rw [aUp_at]
      · rw [aUp_k (by omega), aUp_k (by omega), aUp_k (by omega), aUp_k (by omega), aPk_r (by omega), aPk_r (by omega)]
  · rw [aUp_i e, aUp_i e, aUp_i e, aUp_i e]
    unfold aPk
    by_cases h : 10 ≤ r ∧ r ≤ 13 ∧ 0 ≤ p ∧ p < n
    · rw [if_pos h, if_pos (by omega)]
    · rw [if_neg h, if_neg (by omega)]
theorem rf_parks (hM : RelM C A) (hn : 0 ≤ A 30 1 ∧ A 30 1 ≤ 4) : ∃ D, f_M_parks [.ref 139] C = some (none, D) ∧ RelM D (aPk A (A 30 1).toNat) ∧ FrM C D := by
  have key : wF f_M_parks [.ref 139] C (fun o D => o = none ∧ RelM D (aPk A (A 30 1).toNat) ∧ FrM C D) := by
    unfold f_M_parks
    simp only [↓w_rcv, ↓w_bodyI, ↓w_bodyZ, ↓w_bodyV, true_and, List.length_cons, List.length_nil, Nat.reduceAdd, Nat.reduceSub, Nat.reduceLeDiff, List.replicate_succ, List.replicate_zero, List.cons_append, List.nil_append, List.append_nil, ↓tO_0, ↓tO_2, ↓tO_6, ↓tO_11, ↓tO_18, ↓tO_19, ↓tO_27, ↓tO_32, ↓tO_37, ↓tO_43, ↓tO_44, ↓tO_52, ↓tO_62, ↓tO_63, ↓tO_71, ↓tO_76, ↓tO_81, ↓tO_87, ↓tO_88, ↓tO_96, ↓tO_106, ↓tO_107, ↓tO_115, ↓tO_127, ↓tO_127c, ↓tO_133, ↓tO_133c, ↓tO_139]
    unfold S_M_parks
    simp (disch := omega) only [↓w_eBin, ↓w_eUn, ↓w_eDiv, ↓w_eRem, ↓w_eFld, ↓w_rFld, ↓w_eALd, ↓w_rALd, ↓w_eALen, ↓w_rStr, ↓w_aNil, ↓w_aI, ↓w_aR, ↓w_N, ↓w_eCall, ↓w_X, ↓w_bCmp, ↓w_bAnd, ↓w_bOr, ↓w_bNot, ↓w_eB, ↓w_eIte, ↓w_sSkip, ↓w_sRet, ↓w_sRetZ, ↓w_sRetV, ↓w_sBrk, ↓w_sCont, ↓w_sIf, ↓w_sSeq, ↓w_sCaC, ↓w_sCaB, ↓w_sSw, ↓w_sCall, ↓w_sPut, ↓w_sPutOp, ↓w_sASt, ↓w_sAOp, ↓w_sADiv, ↓w_eLoc0, ↓w_rLoc0, ↓w_sSet0, ↓w_sSetR0, ↓w_sIncP0, ↓w_sIncM0, ↓w_eLoc1, ↓w_rLoc1, ↓w_sSet1, ↓w_sSetR1, ↓w_sIncP1, ↓w_sIncM1, ↓w_eLoc2, ↓w_rLoc2, ↓w_sSet2, ↓w_sSetR2, ↓w_sIncP2, ↓w_sIncM2, ↓w_eLoc3, ↓w_rLoc3, ↓w_sSet3, ↓w_sSetR3, ↓w_sIncP3, ↓w_sIncM3, ↓w_eLoc4, ↓w_rLoc4, ↓w_sSet4, ↓w_sSetR4, ↓w_sIncP4, ↓w_sIncM4, ↓w_eLoc5, ↓w_rLoc5, ↓w_sSet5, ↓w_sSetR5, ↓w_sIncP5, ↓w_sIncM5, ↓w_eLoc6, ↓w_rLoc6, ↓w_sSet6, ↓w_sSetR6, ↓w_sIncP6, ↓w_sIncM6, ↓w_eLoc7, ↓w_rLoc7, ↓w_sSet7, ↓w_sSetR7, ↓w_sIncP7, ↓w_sIncM7, ↓w_eLoc8, ↓w_rLoc8, ↓w_sSet8, ↓w_sSetR8, ↓w_sIncP8, ↓w_sIncM8, ↓w_eLoc9, ↓w_rLoc9, ↓w_sSet9, ↓w_sSetR9, ↓w_sIncP9, ↓w_sIncM9, ↓w_eLoc10, ↓w_rLoc10, ↓w_sSet10, ↓w_sSetR10, ↓w_sIncP10, ↓w_sIncM10, ↓w_eLoc11, ↓w_rLoc11, ↓w_sSet11, ↓w_sSetR11, ↓w_sIncP11, ↓w_sIncM11, ↓w_eLoc12, ↓w_rLoc12, ↓w_sSet12, ↓w_sSetR12, ↓w_sIncP12, ↓w_sIncM12, ↓w_eLoc13, ↓w_rLoc13, ↓w_sSet13, ↓w_sSetR13, ↓w_sIncP13, ↓w_sIncM13, ↓w_eIntN, ↓w_eIntM, ↓w_bZi, ↓w_add, ↓w_sub, ↓w_mul, ↓w_neg, ↓w_nar, ↓w_div, ↓w_ldne, ↓w_ldat, ↓w_ldj, List.length_cons, List.length_nil, Nat.reduceAdd, Nat.reduceSub, Nat.reduceLeDiff, List.replicate_succ, List.replicate_zero, List.cons_append, List.nil_append, List.append_nil, iz_nI, iz_ofNat, iz_add, iz_sub, iz_mul, cz_lt, cz_le, cz_gt, cz_ge, cz_eq, cz_ne, mIn_iz, iz_nat, decide_eq_true_eq, Bool.not_eq_true', decide_eq_false_iff_not, true_and, and_true, ↓reduceIte, not_true_eq_false, not_false_eq_true, w01_bI, w01_i0, w01_i1, bI_ne', bI_eq', bI_t, bI_f, Bool.false_eq_true, false_implies, forall_const, implies_true, true_implies, imp_self, eq_self, cz10, cz00, Bool.true_eq_false, Bool.not_true, Bool.not_false, decide_true, decide_false, ↓tO_139, ↓tR_139_0, ↓tR_139_1, ↓tR_139_2, ↓tI_139_3, ↓tR_139_4, ↓tR_139_5, ↓tR_139_6, ↓tR_139_7, ↓tR_139_8, ↓tR_139_9, ↓tR_139_10, ↓tI_139_11, ↓tI_139_12, ↓tI_139_13, ↓tI_139_14, ↓tI_139_15, ↓tI_139_16, ↓tI_139_17, ↓tI_139_18, ↓tI_139_19, ↓tI_139_20, ↓tI_139_21, ↓tI_139_22, ↓tI_139_23, ↓tI_139_24, ↓tI_139_25, ↓tI_139_26, ↓tR_139_27, ↓tI_139_28, ↓tI_139_29, ↓tI_139_30, ↓tI_139_31, ↓tR_139_32, ↓tI_139_33, ↓tR_139_34, ↓tR_139_35, ↓tR_139_36, ↓tR_139_37, ↓tI_139_38, ↓tA_140, ↓tN_140]
    refine wS_up (A 30 1).toNat (fun n l D => RelM D (aPk A n) ∧ FrM C D ∧ l = [.ref 139, .int (iz n)]) ?_ (Nat.zero_le _) ⟨by rw [aPk_0]; exact hM, frM_r C, rfl⟩
    rintro n l D hn ⟨d1, d2, rfl⟩
    have h1 : D 140 (1 : Int).toNat = iz (A 30 1) := by rw [rm_s d1 1 (by decide) (by decide), aPk_r (by omega)]
    by_cases hlt : (n : Int) < A 30 1
    · have m0 := rm_sets (v := aPk A n 20 n) (r := 10) (k := 0) (c := n) d1 (by omega) (by omega)
      have m1 := rm_sets (v := 0) (r := 11) (k := 1) (c := n) m0 (by omega) (by omega)
      have m2 := rm_sets (v := 0) (r := 12) (k := 2) (c := n) m1 (by omega) (by omega)
      have m3 := rm_sets (v := 0) (r := 13) (k := 3) (c := n) m2 (by omega) (by omega)
      have h20 : ∀ Q, wF f_M_ofCar [.ref 139, .int (iz n), .int (iz 10)] D Q ↔ Q (some (iz (aPk A n 20 n))) D := fun Q => wf_ofCar (k := 10) d1 (by omega)
      simp (disch := omega) only [↓w_eBin, ↓w_eUn, ↓w_eDiv, ↓w_eRem, ↓w_eFld, ↓w_rFld, ↓w_eALd, ↓w_rALd, ↓w_eALen, ↓w_rStr, ↓w_aNil, ↓w_aI, ↓w_aR, ↓w_N, ↓w_eCall, ↓w_X, ↓w_bCmp, ↓w_bAnd, ↓w_bOr, ↓w_bNot, ↓w_eB, ↓w_eIte, ↓w_sSkip, ↓w_sRet, ↓w_sRetZ, ↓w_sRetV, ↓w_sBrk, ↓w_sCont, ↓w_sIf, ↓w_sSeq, ↓w_sCaC, ↓w_sCaB, ↓w_sSw, ↓w_sCall, ↓w_sPut, ↓w_sPutOp, ↓w_sASt, ↓w_sAOp, ↓w_sADiv, ↓w_eLoc0, ↓w_rLoc0, ↓w_sSet0, ↓w_sSetR0, ↓w_sIncP0, ↓w_sIncM0, ↓w_eLoc1, ↓w_rLoc1, ↓w_sSet1, ↓w_sSetR1, ↓w_sIncP1, ↓w_sIncM1, ↓w_eLoc2, ↓w_rLoc2, ↓w_sSet2, ↓w_sSetR2, ↓w_sIncP2, ↓w_sIncM2, ↓w_eLoc3, ↓w_rLoc3, ↓w_sSet3, ↓w_sSetR3, ↓w_sIncP3, ↓w_sIncM3, ↓w_eLoc4, ↓w_rLoc4, ↓w_sSet4, ↓w_sSetR4, ↓w_sIncP4, ↓w_sIncM4, ↓w_eLoc5, ↓w_rLoc5, ↓w_sSet5, ↓w_sSetR5, ↓w_sIncP5, ↓w_sIncM5, ↓w_eLoc6, ↓w_rLoc6, ↓w_sSet6, ↓w_sSetR6, ↓w_sIncP6, ↓w_sIncM6, ↓w_eLoc7, ↓w_rLoc7, ↓w_sSet7, ↓w_sSetR7, ↓w_sIncP7, ↓w_sIncM7, ↓w_eLoc8, ↓w_rLoc8, ↓w_sSet8, ↓w_sSetR8, ↓w_sIncP8, ↓w_sIncM8, ↓w_eLoc9, ↓w_rLoc9, ↓w_sSet9, ↓w_sSetR9, ↓w_sIncP9, ↓w_sIncM9, ↓w_eLoc10, ↓w_rLoc10, ↓w_sSet10, ↓w_sSetR10, ↓w_sIncP10, ↓w_sIncM10, ↓w_eLoc11, ↓w_rLoc11, ↓w_sSet11, ↓w_sSetR11, ↓w_sIncP11, ↓w_sIncM11, ↓w_eLoc12, ↓w_rLoc12, ↓w_sSet12, ↓w_sSetR12, ↓w_sIncP12, ↓w_sIncM12, ↓w_eLoc13, ↓w_rLoc13, ↓w_sSet13, ↓w_sSetR13, ↓w_sIncP13, ↓w_sIncM13, ↓w_eIntN, ↓w_eIntM, ↓w_bZi, ↓w_add, ↓w_sub, ↓w_mul, ↓w_neg, ↓w_nar, ↓w_div, ↓w_ldne, ↓w_ldat, ↓w_ldj, List.length_cons, List.length_nil, Nat.reduceAdd, Nat.reduceSub, Nat.reduceLeDiff, List.replicate_succ, List.replicate_zero, List.cons_append, List.nil_append, List.append_nil, iz_nI, iz_ofNat, iz_add, iz_sub, iz_mul, cz_lt, cz_le, cz_gt, cz_ge, cz_eq, cz_ne, mIn_iz, iz_nat, decide_eq_true_eq, Bool.not_eq_true', decide_eq_false_iff_not, true_and, and_true, ↓reduceIte, not_true_eq_false, not_false_eq_true, w01_bI, w01_i0, w01_i1, bI_ne', bI_eq', bI_t, bI_f, Bool.false_eq_true, false_implies, forall_const, implies_true, true_implies, imp_self, eq_self, cz10, cz00, Bool.true_eq_false, Bool.not_true, Bool.not_false, decide_true, decide_false, ↓tO_139, ↓tR_139_0, ↓tR_139_1, ↓tR_139_2, ↓tI_139_3, ↓tR_139_4, ↓tR_139_5, ↓tR_139_6, ↓tR_139_7, ↓tR_139_8, ↓tR_139_9, ↓tR_139_10, ↓tI_139_11, ↓tI_139_12, ↓tI_139_13, ↓tI_139_14, ↓tI_139_15, ↓tI_139_16, ↓tI_139_17, ↓tI_139_18, ↓tI_139_19, ↓tI_139_20, ↓tI_139_21, ↓tI_139_22, ↓tI_139_23, ↓tI_139_24, ↓tI_139_25, ↓tI_139_26, ↓tR_139_27, ↓tI_139_28, ↓tI_139_29, ↓tI_139_30, ↓tI_139_31, ↓tR_139_32, ↓tI_139_33, ↓tR_139_34, ↓tR_139_35, ↓tR_139_36, ↓tR_139_37, ↓tI_139_38, ↓tA_140, ↓tN_140, ↓wLd_of h1, ↓h20, ↓wf_sets, hlt]
      refine ⟨by omega, ?_, ?_, rfl⟩
      · rw [aPk_s]; exact m3
      · exact frM_u (frM_u (frM_u (frM_u d2 (by omega)) (by omega)) (by omega)) (by omega)
    · simp (disch := omega) only [↓w_eBin, ↓w_eUn, ↓w_eDiv, ↓w_eRem, ↓w_eFld, ↓w_rFld, ↓w_eALd, ↓w_rALd, ↓w_eALen, ↓w_rStr, ↓w_aNil, ↓w_aI, ↓w_aR, ↓w_N, ↓w_eCall, ↓w_X, ↓w_bCmp, ↓w_bAnd, ↓w_bOr, ↓w_bNot, ↓w_eB, ↓w_eIte, ↓w_sSkip, ↓w_sRet, ↓w_sRetZ, ↓w_sRetV, ↓w_sBrk, ↓w_sCont, ↓w_sIf, ↓w_sSeq, ↓w_sCaC, ↓w_sCaB, ↓w_sSw, ↓w_sCall, ↓w_sPut, ↓w_sPutOp, ↓w_sASt, ↓w_sAOp, ↓w_sADiv, ↓w_eLoc0, ↓w_rLoc0, ↓w_sSet0, ↓w_sSetR0, ↓w_sIncP0, ↓w_sIncM0, ↓w_eLoc1, ↓w_rLoc1, ↓w_sSet1, ↓w_sSetR1, ↓w_sIncP1, ↓w_sIncM1, ↓w_eLoc2, ↓w_rLoc2, ↓w_sSet2, ↓w_sSetR2, ↓w_sIncP2, ↓w_sIncM2, ↓w_eLoc3, ↓w_rLoc3, ↓w_sSet3, ↓w_sSetR3, ↓w_sIncP3, ↓w_sIncM3, ↓w_eLoc4, ↓w_rLoc4, ↓w_sSet4, ↓w_sSetR4, ↓w_sIncP4, ↓w_sIncM4, ↓w_eLoc5, ↓w_rLoc5, ↓w_sSet5, ↓w_sSetR5, ↓w_sIncP5, ↓w_sIncM5, ↓w_eLoc6, ↓w_rLoc6, ↓w_sSet6, ↓w_sSetR6, ↓w_sIncP6, ↓w_sIncM6, ↓w_eLoc7, ↓w_rLoc7, ↓w_sSet7, ↓w_sSetR7, ↓w_sIncP7, ↓w_sIncM7, ↓w_eLoc8, ↓w_rLoc8, ↓w_sSet8, ↓w_sSetR8, ↓w_sIncP8, ↓w_sIncM8, ↓w_eLoc9, ↓w_rLoc9, ↓w_sSet9, ↓w_sSetR9, ↓w_sIncP9, ↓w_sIncM9, ↓w_eLoc10, ↓w_rLoc10, ↓w_sSet10, ↓w_sSetR10, ↓w_sIncP10, ↓w_sIncM10, ↓w_eLoc11, ↓w_rLoc11, ↓w_sSet11, ↓w_sSetR11, ↓w_sIncP11, ↓w_sIncM11, ↓w_eLoc12, ↓w_rLoc12, ↓w_sSet12, ↓w_sSetR12, ↓w_sIncP12, ↓w_sIncM12, ↓w_eLoc13, ↓w_rLoc13, ↓w_sSet13, ↓w_sSetR13, ↓w_sIncP13, ↓w_sIncM13, ↓w_eIntN, ↓w_eIntM, ↓w_bZi, ↓w_add, ↓w_sub, ↓w_mul, ↓w_neg, ↓w_nar, ↓w_div, ↓w_ldne, ↓w_ldat, ↓w_ldj, List.length_cons, List.length_nil, Nat.reduceAdd, Nat.reduceSub, Nat.reduceLeDiff, List.replicate_succ, List.replicate_zero, List.cons_append, List.nil_append, List.append_nil, iz_nI, iz_ofNat, iz_add, iz_sub, iz_mul, cz_lt, cz_le, cz_gt, cz_ge, cz_eq, cz_ne, mIn_iz, iz_nat, decide_eq_true_eq, Bool.not_eq_true', decide_eq_false_iff_not, true_and, and_true, ↓reduceIte, not_true_eq_false, not_false_eq_true, w01_bI, w01_i0, w01_i1, bI_ne', bI_eq', bI_t, bI_f, Bool.false_eq_true, false_implies, forall_const, implies_true, true_implies, imp_self, eq_self, cz10, cz00, Bool.true_eq_false, Bool.not_true, Bool.not_false, decide_true, decide_false, ↓tO_139, ↓tR_139_0, ↓tR_139_1, ↓tR_139_2, ↓tI_139_3, ↓tR_139_4, ↓tR_139_5, ↓tR_139_6, ↓tR_139_7, ↓tR_139_8, ↓tR_139_9, ↓tR_139_10, ↓tI_139_11, ↓tI_139_12, ↓tI_139_13, ↓tI_139_14, ↓tI_139_15, ↓tI_139_16, ↓tI_139_17, ↓tI_139_18, ↓tI_139_19, ↓tI_139_20, ↓tI_139_21, ↓tI_139_22, ↓tI_139_23, ↓tI_139_24, ↓tI_139_25, ↓tI_139_26, ↓tR_139_27, ↓tI_139_28, ↓tI_139_29, ↓tI_139_30, ↓tI_139_31, ↓tR_139_32, ↓tI_139_33, ↓tR_139_34, ↓tR_139_35, ↓tR_139_36, ↓tR_139_37, ↓tI_139_38, ↓tA_140, ↓tN_140, ↓wLd_of h1, hlt]
      have : n = (A 30 1).toNat := by omega
      subst this
      exact ⟨d1, d2⟩
  obtain ⟨o, D, e, rfl, r⟩ := wF_of key
  exact ⟨D, e, r⟩
theorem rm_fun9 {i : Int} (hM : RelM C A) (h0 : A 32 0 = -1) (hi : 420 ≤ i ∧ i < 740) : RelM (mUp C 140 i.toNat (iz 0)) A := by
  obtain ⟨h1, h2, h3, h4, h5, h6, h7, h8⟩ := hM
  refine ⟨fun k' p' a1 a2 a3 a4 => ?_, fun k' c' a1 a2 a3 a4 => ?_, fun i a1 a2 => ?_, fun c f a1 a2 a3 a4 => ?_, fun c f a1 a2 a3 a4 => ?_, fun f a1 a2 => ?_, ?_, ?_⟩
  · rw [up_j (by omega)]; exact h1 k' p' a1 a2 a3 a4
  · rw [up_j (by omega)]; exact h2 k' c' a1 a2 a3 a4
  · rw [up_j (by omega)]; exact h3 i a1 a2
  · rw [up_j (by omega)]; exact h4 c f a1 a2 a3 a4
  · by_cases e : (420 + 80 * c + f).toNat = i.toNat
    · rw [e, up_at, if_neg (by omega)]
    · rw [up_j e]; exact h5 c f a1 a2 a3 a4
  · rw [up_j (by omega)]; exact h6 f a1 a2
  · rw [up_k (by omega)]; exact h7
  · rw [up_k (by omega)]; exact h8
def aHo (A : aS) (n : Nat) : aS := fun r p => if (r = 14 ∨ r = 15) ∧ 0 ≤ p ∧ p < n then (if r = 14 then 0 else -1) else A r p
theorem aHo_r {n : Nat} {r p : Int} (h : (r ≠ 14 ∧ r ≠ 15) ∨ p < 0 ∨ n ≤ p) : aHo A n r p = A r p := by unfold aHo; rw [if_neg (by omega)]
theorem aHo_0 : aHo A 0 = A := by funext r p; exact aHo_r (by omega)
theorem aHo_s {n : Nat} : aHo A (n + 1) = aUp (aUp (aHo A n) 14 n 0) 15 n (-1) := by
  funext r p
  by_cases e : p = n
  · subst e
    by_cases e0 : r = 14
    · subst e0
      rw [aUp_k (by omega), aUp_at]
      unfold aHo; rw [if_pos (by omega), if_pos rfl]
    · by_cases e1 : r = 15
      · subst e1
        rw [aUp_at]
        unfold aHo; rw [if_pos (by omega), if_neg (by omega)]
      · rw [aUp_k e1, aUp_k e0, aHo_r (by omega), aHo_r (by omega)]
  · rw [aUp_i e, aUp_i e]
    unfold aHo
    by_cases h : (r = 14 ∨ r = 15) ∧ 0 ≤ p ∧ p < n
    · rw [if_pos h, if_pos (by omega)]
    · rw [if_neg h, if_neg (by omega)]
theorem aEmp_eq {k : Int} {n : Nat} (hn : (n : Int) = A 30 1) : aPk (aHo (aUp (aUp (aUp A 30 2 0) 30 3 0) 30 4 k) n) n = aEmp A k := by
  funext r p
  by_cases g : (0 ≤ p ∧ p < A 30 1) ∧ 10 ≤ r ∧ r ≤ 13
  · have e := aEmp_c (k := k) g.1
    have l : aPk (aHo (aUp (aUp (aUp A 30 2 0) 30 3 0) 30 4 k) n) n r p = if r = 10 then A 20 p else 0 := by
      unfold aPk
      rw [if_pos (by omega), aHo_r (by omega), aUp_k (by omega), aUp_k (by omega), aUp_k (by omega)]
    rw [l]
    rcases (by omega : r = 10 ∨ r = 11 ∨ r = 12 ∨ r = 13) with rfl | rfl | rfl | rfl
    · rw [if_pos rfl, e.1]
    · rw [if_neg (by omega), e.2.1]
    · rw [if_neg (by omega), e.2.2.1]
    · rw [if_neg (by omega), e.2.2.2.1]
  · rw [aPk_r (by omega)]
    by_cases g2 : (0 ≤ p ∧ p < A 30 1) ∧ (r = 14 ∨ r = 15)
    · have e := aEmp_c (k := k) g2.1
      have l : aHo (aUp (aUp (aUp A 30 2 0) 30 3 0) 30 4 k) n r p = if r = 14 then 0 else -1 := by
        unfold aHo
        rw [if_pos (by omega)]
      rw [l]
      rcases g2.2 with rfl | rfl
      · rw [if_pos rfl, e.2.2.2.2.1]
      · rw [if_neg (by omega), e.2.2.2.2.2]
    · rw [aHo_r (by omega)]
      by_cases e4 : r = 30 ∧ p = 4
      · obtain ⟨rfl, rfl⟩ := e4
        rw [aUp_at, aEmp_4]
      · by_cases e3 : r = 30 ∧ p = 3
        · obtain ⟨rfl, rfl⟩ := e3
          rw [aUp_i (by omega), aUp_at, aEmp_3]
        · by_cases e2 : r = 30 ∧ p = 2
          · obtain ⟨rfl, rfl⟩ := e2
            rw [aUp_i (by omega), aUp_i (by omega), aUp_at, aEmp_2]
          · rw [aEmp_r (by omega)]
            unfold aUp
            rw [if_neg e4, if_neg e3, if_neg e2]
/-- one call of a morning -/
def aCl (A : aS) (x : Int) : aS := aOne A 0 (dF (A 30 0) x) (dT (A 30 0) x)
theorem aCl_0 {x : Int} : aCl A x 30 0 = A 30 0 := aOne_r (by omega)
theorem WfA_cl {x : Int} (hw : WfA A) (h32 : A 32 1 = -1) (hn : A 30 2 < 60) (h3 : A 30 3 = 0) (hN : 2 ≤ A 30 0) (hx : 0 ≤ x) (hx1 : x < A 30 0 * (A 30 0 - 1)) : WfA (aCl A x) := by
  obtain ⟨a, b, c, d, e⟩ := d_rg hN hx hx1
  exact WfA_one hw h32 hn (by omega) ⟨a, b⟩ ⟨c, d⟩ e
theorem rf_lays {x : Int} (hM : RelM C A) (hn : 0 ≤ A 30 2 ∧ A 30 2 < 60) (hN : 2 ≤ A 30 0 ∧ A 30 0 ≤ 8) (hx : 0 ≤ x) (hx1 : x < A 30 0 * (A 30 0 - 1)) : ∃ D, f_M_laysCall [.ref 139, .int (iz x)] C = some (none, D) ∧ RelM D (aCl A x) ∧ FrM C D := by
  have h0 : C 140 (0 : Int).toNat = iz (A 30 0) := rm_s hM 0 (by decide) (by decide)
  obtain ⟨t0, t1, t2, t3⟩ := td_rg (by omega : 0 < A 30 0 - 1) hx hx1
  obtain ⟨E, e1, e2, e3⟩ := rf_comes (t := 0) (f := dF (A 30 0) x) (g := dT (A 30 0) x) hM hn
  have hxb : x ≤ 1000 := by
    have : x = x.tdiv (A 30 0 - 1) * (A 30 0 - 1) + (x - x.tdiv (A 30 0 - 1) * (A 30 0 - 1)) := by omega
    have := Int.mul_le_mul (a := x.tdiv (A 30 0 - 1)) (b := A 30 0 - 1) (c := 8) (d := 8) (by omega) (by omega) (by omega) (by omega)
    omega
  refine ⟨E, ?_, e2, e3⟩
  unfold dF dT at e1
  apply wF_to
  unfold f_M_laysCall
  simp only [↓w_rcv, ↓w_bodyI, ↓w_bodyZ, ↓w_bodyV, true_and, List.length_cons, List.length_nil, Nat.reduceAdd, Nat.reduceSub, Nat.reduceLeDiff, List.replicate_succ, List.replicate_zero, List.cons_append, List.nil_append, List.append_nil, ↓tO_0, ↓tO_2, ↓tO_6, ↓tO_11, ↓tO_18, ↓tO_19, ↓tO_27, ↓tO_32, ↓tO_37, ↓tO_43, ↓tO_44, ↓tO_52, ↓tO_62, ↓tO_63, ↓tO_71, ↓tO_76, ↓tO_81, ↓tO_87, ↓tO_88, ↓tO_96, ↓tO_106, ↓tO_107, ↓tO_115, ↓tO_127, ↓tO_127c, ↓tO_133, ↓tO_133c, ↓tO_139]
  unfold S_M_laysCall
  by_cases g : x - x.tdiv (A 30 0 - 1) * (A 30 0 - 1) < x.tdiv (A 30 0 - 1)
  · rw [if_pos g] at e1
    simp (disch := omega) only [↓w_eBin, ↓w_eUn, ↓w_eDiv, ↓w_eRem, ↓w_eFld, ↓w_rFld, ↓w_eALd, ↓w_rALd, ↓w_eALen, ↓w_rStr, ↓w_aNil, ↓w_aI, ↓w_aR, ↓w_N, ↓w_eCall, ↓w_X, ↓w_bCmp, ↓w_bAnd, ↓w_bOr, ↓w_bNot, ↓w_eB, ↓w_eIte, ↓w_sSkip, ↓w_sRet, ↓w_sRetZ, ↓w_sRetV, ↓w_sBrk, ↓w_sCont, ↓w_sIf, ↓w_sSeq, ↓w_sCaC, ↓w_sCaB, ↓w_sSw, ↓w_sCall, ↓w_sPut, ↓w_sPutOp, ↓w_sASt, ↓w_sAOp, ↓w_sADiv, ↓w_eLoc0, ↓w_rLoc0, ↓w_sSet0, ↓w_sSetR0, ↓w_sIncP0, ↓w_sIncM0, ↓w_eLoc1, ↓w_rLoc1, ↓w_sSet1, ↓w_sSetR1, ↓w_sIncP1, ↓w_sIncM1, ↓w_eLoc2, ↓w_rLoc2, ↓w_sSet2, ↓w_sSetR2, ↓w_sIncP2, ↓w_sIncM2, ↓w_eLoc3, ↓w_rLoc3, ↓w_sSet3, ↓w_sSetR3, ↓w_sIncP3, ↓w_sIncM3, ↓w_eLoc4, ↓w_rLoc4, ↓w_sSet4, ↓w_sSetR4, ↓w_sIncP4, ↓w_sIncM4, ↓w_eLoc5, ↓w_rLoc5, ↓w_sSet5, ↓w_sSetR5, ↓w_sIncP5, ↓w_sIncM5, ↓w_eLoc6, ↓w_rLoc6, ↓w_sSet6, ↓w_sSetR6, ↓w_sIncP6, ↓w_sIncM6, ↓w_eLoc7, ↓w_rLoc7, ↓w_sSet7, ↓w_sSetR7, ↓w_sIncP7, ↓w_sIncM7, ↓w_eLoc8, ↓w_rLoc8, ↓w_sSet8, ↓w_sSetR8, ↓w_sIncP8, ↓w_sIncM8, ↓w_eLoc9, ↓w_rLoc9, ↓w_sSet9, ↓w_sSetR9, ↓w_sIncP9, ↓w_sIncM9, ↓w_eLoc10, ↓w_rLoc10, ↓w_sSet10, ↓w_sSetR10, ↓w_sIncP10, ↓w_sIncM10, ↓w_eLoc11, ↓w_rLoc11, ↓w_sSet11, ↓w_sSetR11, ↓w_sIncP11, ↓w_sIncM11, ↓w_eLoc12, ↓w_rLoc12, ↓w_sSet12, ↓w_sSetR12, ↓w_sIncP12, ↓w_sIncM12, ↓w_eLoc13, ↓w_rLoc13, ↓w_sSet13, ↓w_sSetR13, ↓w_sIncP13, ↓w_sIncM13, ↓w_eIntN, ↓w_eIntM, ↓w_bZi, ↓w_add, ↓w_sub, ↓w_mul, ↓w_neg, ↓w_nar, ↓w_div, ↓w_ldne, ↓w_ldat, ↓w_ldj, List.length_cons, List.length_nil, Nat.reduceAdd, Nat.reduceSub, Nat.reduceLeDiff, List.replicate_succ, List.replicate_zero, List.cons_append, List.nil_append, List.append_nil, iz_nI, iz_ofNat, iz_add, iz_sub, iz_mul, cz_lt, cz_le, cz_gt, cz_ge, cz_eq, cz_ne, mIn_iz, iz_nat, decide_eq_true_eq, Bool.not_eq_true', decide_eq_false_iff_not, true_and, and_true, ↓reduceIte, not_true_eq_false, not_false_eq_true, w01_bI, w01_i0, w01_i1, bI_ne', bI_eq', bI_t, bI_f, Bool.false_eq_true, false_implies, forall_const, implies_true, true_implies, imp_self, eq_self, cz10, cz00, Bool.true_eq_false, Bool.not_true, Bool.not_false, decide_true, decide_false, ↓tO_139, ↓tR_139_0, ↓tR_139_1, ↓tR_139_2, ↓tI_139_3, ↓tR_139_4, ↓tR_139_5, ↓tR_139_6, ↓tR_139_7, ↓tR_139_8, ↓tR_139_9, ↓tR_139_10, ↓tI_139_11, ↓tI_139_12, ↓tI_139_13, ↓tI_139_14, ↓tI_139_15, ↓tI_139_16, ↓tI_139_17, ↓tI_139_18, ↓tI_139_19, ↓tI_139_20, ↓tI_139_21, ↓tI_139_22, ↓tI_139_23, ↓tI_139_24, ↓tI_139_25, ↓tI_139_26, ↓tR_139_27, ↓tI_139_28, ↓tI_139_29, ↓tI_139_30, ↓tI_139_31, ↓tR_139_32, ↓tI_139_33, ↓tR_139_34, ↓tR_139_35, ↓tR_139_36, ↓tR_139_37, ↓tI_139_38, ↓tA_140, ↓tN_140, ↓wLd_of h0, ↓w_rem, g, ↓wF_eq e1, and_self]
  · rw [if_neg g] at e1
    simp (disch := omega) only [↓w_eBin, ↓w_eUn, ↓w_eDiv, ↓w_eRem, ↓w_eFld, ↓w_rFld, ↓w_eALd, ↓w_rALd, ↓w_eALen, ↓w_rStr, ↓w_aNil, ↓w_aI, ↓w_aR, ↓w_N, ↓w_eCall, ↓w_X, ↓w_bCmp, ↓w_bAnd, ↓w_bOr, ↓w_bNot, ↓w_eB, ↓w_eIte, ↓w_sSkip, ↓w_sRet, ↓w_sRetZ, ↓w_sRetV, ↓w_sBrk, ↓w_sCont, ↓w_sIf, ↓w_sSeq, ↓w_sCaC, ↓w_sCaB, ↓w_sSw, ↓w_sCall, ↓w_sPut, ↓w_sPutOp, ↓w_sASt, ↓w_sAOp, ↓w_sADiv, ↓w_eLoc0, ↓w_rLoc0, ↓w_sSet0, ↓w_sSetR0, ↓w_sIncP0, ↓w_sIncM0, ↓w_eLoc1, ↓w_rLoc1, ↓w_sSet1, ↓w_sSetR1, ↓w_sIncP1, ↓w_sIncM1, ↓w_eLoc2, ↓w_rLoc2, ↓w_sSet2, ↓w_sSetR2, ↓w_sIncP2, ↓w_sIncM2, ↓w_eLoc3, ↓w_rLoc3, ↓w_sSet3, ↓w_sSetR3, ↓w_sIncP3, ↓w_sIncM3, ↓w_eLoc4, ↓w_rLoc4, ↓w_sSet4, ↓w_sSetR4, ↓w_sIncP4, ↓w_sIncM4, ↓w_eLoc5, ↓w_rLoc5, ↓w_sSet5, ↓w_sSetR5, ↓w_sIncP5, ↓w_sIncM5, ↓w_eLoc6, ↓w_rLoc6, ↓w_sSet6, ↓w_sSetR6, ↓w_sIncP6, ↓w_sIncM6, ↓w_eLoc7, ↓w_rLoc7, ↓w_sSet7, ↓w_sSetR7, ↓w_sIncP7, ↓w_sIncM7, ↓w_eLoc8, ↓w_rLoc8, ↓w_sSet8, ↓w_sSetR8, ↓w_sIncP8, ↓w_sIncM8, ↓w_eLoc9, ↓w_rLoc9, ↓w_sSet9, ↓w_sSetR9, ↓w_sIncP9, ↓w_sIncM9, ↓w_eLoc10, ↓w_rLoc10, ↓w_sSet10, ↓w_sSetR10, ↓w_sIncP10, ↓w_sIncM10, ↓w_eLoc11, ↓w_rLoc11, ↓w_sSet11, ↓w_sSetR11, ↓w_sIncP11, ↓w_sIncM11, ↓w_eLoc12, ↓w_rLoc12, ↓w_sSet12, ↓w_sSetR12, ↓w_sIncP12, ↓w_sIncM12, ↓w_eLoc13, ↓w_rLoc13, ↓w_sSet13, ↓w_sSetR13, ↓w_sIncP13, ↓w_sIncM13, ↓w_eIntN, ↓w_eIntM, ↓w_bZi, ↓w_add, ↓w_sub, ↓w_mul, ↓w_neg, ↓w_nar, ↓w_div, ↓w_ldne, ↓w_ldat, ↓w_ldj, List.length_cons, List.length_nil, Nat.reduceAdd, Nat.reduceSub, Nat.reduceLeDiff, List.replicate_succ, List.replicate_zero, List.cons_append, List.nil_append, List.append_nil, iz_nI, iz_ofNat, iz_add, iz_sub, iz_mul, cz_lt, cz_le, cz_gt, cz_ge, cz_eq, cz_ne, mIn_iz, iz_nat, decide_eq_true_eq, Bool.not_eq_true', decide_eq_false_iff_not, true_and, and_true, ↓reduceIte, not_true_eq_false, not_false_eq_true, w01_bI, w01_i0, w01_i1, bI_ne', bI_eq', bI_t, bI_f, Bool.false_eq_true, false_implies, forall_const, implies_true, true_implies, imp_self, eq_self, cz10, cz00, Bool.true_eq_false, Bool.not_true, Bool.not_false, decide_true, decide_false, ↓tO_139, ↓tR_139_0, ↓tR_139_1, ↓tR_139_2, ↓tI_139_3, ↓tR_139_4, ↓tR_139_5, ↓tR_139_6, ↓tR_139_7, ↓tR_139_8, ↓tR_139_9, ↓tR_139_10, ↓tI_139_11, ↓tI_139_12, ↓tI_139_13, ↓tI_139_14, ↓tI_139_15, ↓tI_139_16, ↓tI_139_17, ↓tI_139_18, ↓tI_139_19, ↓tI_139_20, ↓tI_139_21, ↓tI_139_22, ↓tI_139_23, ↓tI_139_24, ↓tI_139_25, ↓tI_139_26, ↓tR_139_27, ↓tI_139_28, ↓tI_139_29, ↓tI_139_30, ↓tI_139_31, ↓tR_139_32, ↓tI_139_33, ↓tR_139_34, ↓tR_139_35, ↓tR_139_36, ↓tR_139_37, ↓tI_139_38, ↓tA_140, ↓tN_140, ↓wLd_of h0, ↓w_rem, g, ↓wF_eq e1, and_self]
end

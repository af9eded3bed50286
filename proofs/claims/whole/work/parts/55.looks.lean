/-! a car's second: the reference -/
def aRid (A : aS) (c : Int) : Int := cnt (fun p => decide (A 3 p = 2 ∧ A 4 p = c)) (A 30 2).toNat
def aGiv (A : aS) (c : Int) : Int := cnt (fun p => decide (A 3 p = 1 ∧ A 4 p = c)) (A 30 2).toNat
def aOutN (A : aS) (c : Int) : aS := aOut A c (A 30 2).toNat
def aLvN (A : aS) (c : Int) : Int := cnt (aLv A c) (A 30 2).toNat
def aWy (A : aS) (c : Int) : Int := if A 11 c = 0 ∨ aNear A c (A 11 c) = -1 then aNew A c else A 11 c
def aTurn (A : aS) (c : Int) : aS := aUp A 11 c (aWy A c)
def aInN (A : aS) (c : Int) : aS := aIn A c (aRid A c) (A 30 2).toNat
def aEnN (A : aS) (c : Int) : Int := aEn A c (aRid A c) (A 30 2).toNat
def aFn (A : aS) (c : Int) : aS := if A 32 0 = c ∧ A 32 2 = A 10 c then aUp A 32 0 (-1) else A
def aDo (A : aS) (c n : Int) : Int := if 0 < n ∨ (A 32 0 = c ∧ A 32 2 = A 10 c) then 2 else if A 11 c = 0 then 0 else 1
def aLf (A : aS) (c n : Int) : Int := if 0 < n ∨ (A 32 0 = c ∧ A 32 2 = A 10 c) then A 18 c + n * A 19 c else if A 11 c = 0 then 0 else A 17 c
def aDone (A : aS) (c n : Int) : aS := aUp (aUp (aFn A c) 12 c (aDo A c n)) 13 c (aLf A c n)
def aLook (A : aS) (c : Int) : aS := aDone (aInN (aTurn (aOutN A c) c) c) c (aLvN A c + aEnN (aTurn (aOutN A c) c) c)
def aMv (A : aS) (c : Int) : aS := if A 12 c = 1 then aUp (aUp A 13 c 0) 10 c (A 10 c + A 11 c) else aUp A 13 c 0
def aCar (A : aS) (c : Int) : aS :=
  if A 14 c = 1 then A else if A 12 c = 0 then aLook A c else if 1 < A 13 c then aUp A 13 c (A 13 c - 1) else aLook (aMv A c) c
/-! ranges -/
theorem aOut_3 {A : aS} {c p : Int} {n : Nat} (h : 0 ≤ p ∧ p < n) : aOut A c n 3 p = if aLv A c p = true then 3 else A 3 p := by
  unfold aOut
  by_cases e : aLv A c p = true <;> simp [e, h]
theorem aOut_6 {A : aS} {c p : Int} {n : Nat} (h : 0 ≤ p ∧ p < n) : aOut A c n 6 p = if aLv A c p = true then A 30 3 else A 6 p := by
  unfold aOut
  by_cases e : aLv A c p = true <;> simp [e, h]
theorem aIn_3 {A : aS} {c r p : Int} {n : Nat} (h : 0 ≤ p ∧ p < n) : aIn A c r n 3 p = if aEnt A c r p = true then 2 else A 3 p := by
  unfold aIn
  by_cases e : aEnt A c r p = true <;> simp [e, h]
theorem aIn_5 {A : aS} {c r p : Int} {n : Nat} (h : 0 ≤ p ∧ p < n) : aIn A c r n 5 p = if aEnt A c r p = true then A 30 3 else A 5 p := by
  unfold aIn
  by_cases e : aEnt A c r p = true <;> simp [e, h]
theorem aIn_320 {A : aS} {c r : Int} {n : Nat} : aIn A c r n 32 0 = if 0 ≤ A 32 1 ∧ A 32 1 < n ∧ aEnt A c r (A 32 1) = true then c else A 32 0 := by
  unfold aIn
  simp
theorem aEnt_brd {A : aS} {c r p : Int} (h : aEnt A c r p = true) : A 3 p = 1 ∧ A 4 p = c ∧ A 1 p = A 10 c ∧ aWay A p = A 11 c := by
  simp only [aEnt, aBrd, decide_eq_true_eq] at h
  exact h.1
theorem aLv_is {A : aS} {c p : Int} (h : aLv A c p = true) : A 3 p = 2 ∧ A 4 p = c ∧ A 2 p = A 10 c := by
  simpa only [aLv, decide_eq_true_eq] using h
theorem Wf_out {A : aS} {c : Int} (hw : Wf A) (hc : 0 ≤ c ∧ c < A 30 1) : Wf (aOutN A c) := by
  obtain ⟨hG, hP, hC, hS, hF⟩ := hw
  unfold aOutN
  refine ⟨?_, fun p h0 h1 => ?_, fun d h0 h1 => ?_, fun d f => ?_, fun p h0 h1 h2 h3 => ?_⟩
  · unfold WfG at hG ⊢
    simp (disch := omega) only [aOut_row]
    exact hG
  · rw [aOut_row (by omega)] at h1
    have hp := hP p h0 h1
    unfold WfP at hp ⊢
    simp (disch := omega) only [aOut_row, aOut_3, aOut_6]
    by_cases e : aLv A c p = true
    · have := aLv_is e
      simp only [e, if_true]
      omega
    · simp only [e, if_false]
      exact hp
  · rw [aOut_row (by omega)] at h1
    have hp := hC d h0 h1
    unfold WfC at hp ⊢
    simp (disch := omega) only [aOut_row]
    exact hp
  · intro a b e g
    rw [aOut_row (by omega)]
    exact hS d f a b e g
  · rw [aOut_row (by omega)] at h1
    rw [aOut_row (by omega)] at h2
    rw [aOut_row (by omega)]
    rw [aOut_3 (by omega)] at h3
    by_cases e : aLv A c p = true
    · rw [if_pos e] at h3; omega
    · rw [if_neg e] at h3; exact hF p h0 h1 h2 h3
theorem Wf_car {A : aS} {k c v : Int} (hw : Wf A) (hk : 10 ≤ k ∧ k < 21) (hc : WfC (aUp A k c v) c) : Wf (aUp A k c v) := by
  obtain ⟨hG, hP, hC, hS, hF⟩ := hw
  refine ⟨?_, fun p h0 h1 => ?_, fun d h0 h1 => ?_, fun d f => ?_, fun p h0 h1 h2 h3 => ?_⟩
  · unfold WfG at hG ⊢
    simp (disch := omega) only [aUp_k]
    exact hG
  · rw [aUp_k (by omega)] at h1
    have hp := hP p h0 h1
    unfold WfP at hp ⊢
    simp (disch := omega) only [aUp_k]
    exact hp
  · by_cases e : d = c
    · subst e; exact hc
    · rw [aUp_k (by omega)] at h1
      have hp := hC d h0 h1
      unfold WfC at hp ⊢
      simp (disch := omega) only [aUp_k, aUp_i]
      exact hp
  · intro a b e g
    rw [aUp_k (by omega)]
    exact hS d f a b e g
  · rw [aUp_k (by omega)] at h1
    rw [aUp_k (by omega)] at h2
    rw [aUp_k (by omega)]
    rw [aUp_k (by omega)] at h3
    exact hF p h0 h1 h2 h3
theorem Wf_in {A : aS} {c r : Int} (hw : Wf A) (hc : 0 ≤ c ∧ c < A 30 1) : Wf (aIn A c r (A 30 2).toNat) := by
  obtain ⟨hG, hP, hC, hS, hF⟩ := hw
  refine ⟨?_, fun p h0 h1 => ?_, fun d h0 h1 => ?_, fun d f => ?_, fun p h0 h1 h2 h3 => ?_⟩
  · unfold WfG at hG ⊢
    simp (disch := omega) only [aIn_row, aIn_320]
    split <;> omega
  · rw [aIn_row (by omega)] at h1
    have hp := hP p h0 h1
    unfold WfP at hp ⊢
    simp (disch := omega) only [aIn_row, aIn_3, aIn_5]
    by_cases e : aEnt A c r p = true
    · have := aEnt_brd e
      simp only [e, if_true]
      omega
    · simp only [e, if_false]
      exact hp
  · rw [aIn_row (by omega)] at h1
    have hp := hC d h0 h1
    unfold WfC at hp ⊢
    simp (disch := omega) only [aIn_row]
    exact hp
  · intro a b e g
    rw [aIn_row (by omega)]
    exact hS d f a b e g
  · rw [aIn_row (by omega)] at h1
    rw [aIn_row (by omega)] at h2
    rw [aIn_320]
    rw [aIn_3 (by omega)] at h3
    by_cases e : aEnt A c r p = true
    · rw [if_pos e] at h3; omega
    · rw [if_neg e] at h3
      rw [if_neg (by rw [← h2]; simp [e])]
      exact hF p h0 h1 h2 h3
theorem Wf_fn {A : aS} {c : Int} (hw : Wf A) : Wf (aFn A c) := by
  unfold aFn
  split
  · obtain ⟨hG, hP, hC, hS, hF⟩ := hw
    refine ⟨?_, fun p h0 h1 => ?_, fun d h0 h1 => ?_, fun d f => ?_, fun p h0 h1 h2 h3 => ?_⟩
    · unfold WfG at hG ⊢
      simp (disch := omega) only [aUp_k, aUp_i, aUp_at]
      omega
    · rw [aUp_k (by omega)] at h1
      have hp := hP p h0 h1
      unfold WfP at hp ⊢
      simp (disch := omega) only [aUp_k]
      exact hp
    · rw [aUp_k (by omega)] at h1
      have hp := hC d h0 h1
      unfold WfC at hp ⊢
      simp (disch := omega) only [aUp_k]
      exact hp
    · intro a b e g
      rw [aUp_k (by omega)]
      exact hS d f a b e g
    · rw [aUp_at]
  · exact hw
theorem aNr_in {A : aS} {c w : Int} (hw : Wf A) (hc : 0 ≤ c ∧ c < A 30 1) (hww : w = 1 ∨ w = -1) (n : Nat) (hn : n ≤ (A 30 2).toNat) : aNr A c w n = -1 ∨ (1 ≤ aNr A c w n ∧ 0 ≤ A 10 c + aNr A c w n * w ∧ A 10 c + aNr A c w n * w < A 30 0) := by
  have hcc := hw.2.2.1 c hc.1 hc.2
  unfold WfC at hcc
  have hg := hw.1
  unfold WfG at hg
  induction n with
  | zero => simp [aNr]
  | succ n ih =>
    have h1 := aTg_rg (c := c) hw (p := n) (by omega)
    have h2 := ih (by omega)
    rw [aNr]
    rcases hww with rfl | rfl <;> split <;> split <;> omega
theorem aNear_in {A : aS} {c w : Int} (hw : Wf A) (hc : 0 ≤ c ∧ c < A 30 1) (hww : w = 1 ∨ w = -1) : aNear A c w = -1 ∨ (0 ≤ A 10 c + w ∧ A 10 c + w < A 30 0) := by
  have hcc := hw.2.2.1 c hc.1 hc.2
  unfold WfC at hcc
  have hg := hw.1
  unfold WfG at hg
  have h1 := aNr_in hw hc hww _ (Nat.le_refl _)
  unfold aNear
  rcases hww with rfl | rfl <;> split <;> split <;> omega
theorem aFst_is {A : aS} {c : Int} {n : Nat} (h : aFst A c n ≠ -1) : A 3 (aFst A c n) = 1 ∧ A 4 (aFst A c n) = c ∧ A 1 (aFst A c n) = A 10 c := by
  induction n with
  | zero => simp [aFst] at h
  | succ n ih =>
    rw [aFst] at h ⊢
    by_cases e : aFst A c n = -1
    · rw [if_pos e] at h ⊢
      by_cases e2 : A 3 n = 1 ∧ A 4 n = c ∧ A 1 n = A 10 c
      · rw [if_pos e2]; exact e2
      · rw [if_neg e2] at h; omega
    · rw [if_neg e] at h ⊢
      exact ih h
theorem aNew_in {A : aS} {c : Int} (hw : Wf A) (hc : 0 ≤ c ∧ c < A 30 1) : (aNew A c = 0 ∨ aNew A c = 1 ∨ aNew A c = -1) ∧ (aNew A c ≠ 0 → 0 ≤ A 10 c + aNew A c ∧ A 10 c + aNew A c < A 30 0) := by
  have hcc := hw.2.2.1 c hc.1 hc.2
  unfold WfC at hcc
  have hg := hw.1
  unfold WfG at hg
  have h1 := aNear_in hw hc (Or.inl rfl)
  have h2 := aNear_in hw hc (Or.inr rfl)
  have h3 := aFst_rg A c (A 30 2).toNat
  unfold aNew
  by_cases e : aFst A c (A 30 2).toNat = -1
  · rw [if_pos e]
    repeat' split
    all_goals omega
  · rw [if_neg e]
    have h4 := aFst_is e
    have hp := hw.2.1 _ (by omega) (by omega : aFst A c (A 30 2).toNat < A 30 2)
    unfold WfP at hp
    unfold aWay
    split <;> omega
theorem aWy_in {A : aS} {c : Int} (hw : Wf A) (hc : 0 ≤ c ∧ c < A 30 1) : (aWy A c = 0 ∨ aWy A c = 1 ∨ aWy A c = -1) ∧ (aWy A c ≠ 0 → 0 ≤ A 10 c + aWy A c ∧ A 10 c + aWy A c < A 30 0) := by
  have hcc := hw.2.2.1 c hc.1 hc.2
  unfold WfC at hcc
  have h1 := aNew_in hw hc
  unfold aWy
  split
  · exact h1
  · rename_i h
    have hww : A 11 c = 1 ∨ A 11 c = -1 := by omega
    have := aNear_in hw hc hww
    omega
theorem Wf_turn {A : aS} {c : Int} (hw : Wf A) (hc : 0 ≤ c ∧ c < A 30 1) : Wf (aTurn A c) := by
  have hcc := hw.2.2.1 c hc.1 hc.2
  have h1 := aWy_in hw hc
  refine Wf_car hw (by omega) ?_
  unfold WfC at hcc ⊢
  simp (disch := omega) only [aUp_k, aUp_at]
  omega
theorem aDone_r {A : aS} {c n k p : Int} (h : (k ≠ 12 ∨ p ≠ c) ∧ (k ≠ 13 ∨ p ≠ c) ∧ (k ≠ 32 ∨ p ≠ 0)) : aDone A c n k p = A k p := by
  unfold aDone aFn
  simp only [aUp]
  rw [if_neg (by omega), if_neg (by omega)]
  split
  · show (if k = 32 ∧ p = 0 then -1 else A k p) = A k p
    rw [if_neg (by omega)]
  · rfl
theorem aFn_r {A : aS} {c k p : Int} (h : k ≠ 32) : aFn A c k p = A k p := by
  unfold aFn
  split
  · rw [aUp_k h]
  · rfl
theorem Wf_done {A : aS} {c n : Int} (hw : Wf A) (hc : 0 ≤ c ∧ c < A 30 1) (hn : 0 ≤ n ∧ n ≤ 120) : Wf (aDone A c n) := by
  have hw1 := Wf_fn (c := c) hw
  have hcc := hw.2.2.1 c hc.1 hc.2
  have hd := hw1.2.2.1 c hc.1 (by rw [aFn_r (by omega)]; exact hc.2)
  unfold WfC at hcc
  have hm : 0 ≤ n * A 19 c ∧ n * A 19 c ≤ 120 * 9 := ⟨Int.mul_nonneg (by omega) (by omega), Int.mul_le_mul (by omega) (by omega) (by omega) (by omega)⟩
  have hw2 : Wf (aUp (aFn A c) 12 c (aDo A c n)) := by
    refine Wf_car hw1 (by omega) ?_
    unfold WfC at hd ⊢
    simp (disch := omega) only [aUp_k, aUp_at, aFn_r] at hd ⊢
    unfold aDo
    repeat' split
    all_goals omega
  have hd := hw2.2.2.1 c hc.1 (by rw [aUp_k (by omega), aFn_r (by omega)]; exact hc.2)
  refine Wf_car hw2 (by omega) ?_
  unfold WfC at hd ⊢
  simp (disch := omega) only [aUp_k, aUp_at, aFn_r] at hd ⊢
  unfold aLf
  repeat' split
  all_goals omega
section
variable {A : aS} {C : mMem} {Q : Option Int32 → mMem → Prop}
theorem aIn_c {A : aS} {c r : Int} {n : Nat} {k d : Int} (h : 6 ≤ k ∧ k < 32) : aIn A c r n k d = A k d := aIn_row (by omega)
theorem wf_turn {c : Int} (hM : RelM C A) (hw : Wf A) (hc : 0 ≤ c ∧ c < A 30 1) {N : List Value → mMem → Prop} {R : Option Int32 → mMem → Prop} {K : Bool → List Value → mMem → Prop} {v2 v3 v4 v5 : Value} (hN : ∀ D, RelM D (aTurn A c) → FrM C D → N [.ref 139, .int (iz c), v2, v3, v4, v5] D) : wS (sIf (bOr (bZ .eq (eCall f_M_ofCar (aR (rLoc 0) (aI (eLoc 1) (aI (eInt 1) aNil))))) (bCmp .eq (eCall f_M_nearest (aR (rLoc 0) (aI (eLoc 1) (aI (eCall f_M_ofCar (aR (rLoc 0) (aI (eLoc 1) (aI (eInt 1) aNil)))) aNil)))) (eInt (-1)))) (sCall f_M_sets (aR (rLoc 0) (aI (eLoc 1) (aI (eInt 1) (aI (eCall f_M_newWay (aR (rLoc 0) (aI (eLoc 1) aNil))) aNil))))) sSkip) [.ref 139, .int (iz c), v2, v3, v4, v5] C N R K := by
  have hcc := hw.2.2.1 c hc.1 hc.2
  have hg := hw.1
  unfold WfC at hcc
  unfold WfG at hg
  have hs := rm_sets (v := aNew A c) (k := 1) (r := 11) hM (by omega) (c := c) (by omega)
  by_cases h0 : A 11 c = 0
  · have e : aWy A c = aNew A c := by unfold aWy; rw [if_pos (Or.inl h0)]
    simp (disch := omega) only [↓w_eBin, ↓w_eUn, ↓w_eDiv, ↓w_eRem, ↓w_eFld, ↓w_rFld, ↓w_eALd, ↓w_rALd, ↓w_eALen, ↓w_rStr, ↓w_aNil, ↓w_aI, ↓w_aR, ↓w_N, ↓w_eCall, ↓w_X, ↓w_bCmp, ↓w_bAnd, ↓w_bOr, ↓w_bNot, ↓w_eB, ↓w_eIte, ↓w_sSkip, ↓w_sRet, ↓w_sRetZ, ↓w_sRetV, ↓w_sBrk, ↓w_sCont, ↓w_sIf, ↓w_sSeq, ↓w_sCaC, ↓w_sCaB, ↓w_sSw, ↓w_sCall, ↓w_sPut, ↓w_sPutOp, ↓w_sASt, ↓w_sAOp, ↓w_sADiv, ↓w_eLoc0, ↓w_rLoc0, ↓w_sSet0, ↓w_sSetR0, ↓w_sIncP0, ↓w_sIncM0, ↓w_eLoc1, ↓w_rLoc1, ↓w_sSet1, ↓w_sSetR1, ↓w_sIncP1, ↓w_sIncM1, ↓w_eLoc2, ↓w_rLoc2, ↓w_sSet2, ↓w_sSetR2, ↓w_sIncP2, ↓w_sIncM2, ↓w_eLoc3, ↓w_rLoc3, ↓w_sSet3, ↓w_sSetR3, ↓w_sIncP3, ↓w_sIncM3, ↓w_eLoc4, ↓w_rLoc4, ↓w_sSet4, ↓w_sSetR4, ↓w_sIncP4, ↓w_sIncM4, ↓w_eLoc5, ↓w_rLoc5, ↓w_sSet5, ↓w_sSetR5, ↓w_sIncP5, ↓w_sIncM5, ↓w_eLoc6, ↓w_rLoc6, ↓w_sSet6, ↓w_sSetR6, ↓w_sIncP6, ↓w_sIncM6, ↓w_eLoc7, ↓w_rLoc7, ↓w_sSet7, ↓w_sSetR7, ↓w_sIncP7, ↓w_sIncM7, ↓w_eLoc8, ↓w_rLoc8, ↓w_sSet8, ↓w_sSetR8, ↓w_sIncP8, ↓w_sIncM8, ↓w_eLoc9, ↓w_rLoc9, ↓w_sSet9, ↓w_sSetR9, ↓w_sIncP9, ↓w_sIncM9, ↓w_eLoc10, ↓w_rLoc10, ↓w_sSet10, ↓w_sSetR10, ↓w_sIncP10, ↓w_sIncM10, ↓w_eLoc11, ↓w_rLoc11, ↓w_sSet11, ↓w_sSetR11, ↓w_sIncP11, ↓w_sIncM11, ↓w_eLoc12, ↓w_rLoc12, ↓w_sSet12, ↓w_sSetR12, ↓w_sIncP12, ↓w_sIncM12, ↓w_eLoc13, ↓w_rLoc13, ↓w_sSet13, ↓w_sSetR13, ↓w_sIncP13, ↓w_sIncM13, ↓w_eIntN, ↓w_eIntM, ↓w_bZi, ↓w_add, ↓w_sub, ↓w_mul, ↓w_neg, ↓w_nar, ↓w_div, ↓w_ldne, ↓w_ldat, ↓w_ldj, List.length_cons, List.length_nil, Nat.reduceAdd, Nat.reduceSub, Nat.reduceLeDiff, List.replicate_succ, List.replicate_zero, List.cons_append, List.nil_append, List.append_nil, iz_nI, iz_ofNat, iz_add, iz_sub, iz_mul, cz_lt, cz_le, cz_gt, cz_ge, cz_eq, cz_ne, mIn_iz, iz_nat, decide_eq_true_eq, Bool.not_eq_true', decide_eq_false_iff_not, true_and, and_true, ↓reduceIte, not_true_eq_false, not_false_eq_true, w01_bI, w01_i0, w01_i1, bI_ne', bI_eq', bI_t, bI_f, Bool.false_eq_true, false_implies, forall_const, implies_true, true_implies, imp_self, eq_self, ↓tO_139, ↓tR_139_0, ↓tR_139_1, ↓tR_139_2, ↓tI_139_3, ↓tR_139_4, ↓tR_139_5, ↓tR_139_6, ↓tR_139_7, ↓tR_139_8, ↓tR_139_9, ↓tR_139_10, ↓tI_139_11, ↓tI_139_12, ↓tI_139_13, ↓tI_139_14, ↓tI_139_15, ↓tI_139_16, ↓tI_139_17, ↓tI_139_18, ↓tI_139_19, ↓tI_139_20, ↓tI_139_21, ↓tI_139_22, ↓tI_139_23, ↓tI_139_24, ↓tI_139_25, ↓tI_139_26, ↓tR_139_27, ↓tI_139_28, ↓tI_139_29, ↓tI_139_30, ↓tI_139_31, ↓tR_139_32, ↓tI_139_33, ↓tR_139_34, ↓tR_139_35, ↓tR_139_36, ↓tR_139_37, ↓tI_139_38, ↓tA_140, ↓tN_140, ↓wf_ofCar hM, ↓wf_newWay hM hw hc, ↓wf_sets, Int.reduceAdd, h0]
    apply hN
    · unfold aTurn; rw [e]; exact hs
    · exact frM_u (frM_r C) (by omega)
  · have hww : A 11 c = 1 ∨ A 11 c = -1 := by omega
    have hr := aNear_rg hw hc hww
    by_cases h1 : aNear A c (A 11 c) = -1
    · have e : aWy A c = aNew A c := by unfold aWy; rw [if_pos (Or.inr h1)]
      simp (disch := omega) only [↓w_eBin, ↓w_eUn, ↓w_eDiv, ↓w_eRem, ↓w_eFld, ↓w_rFld, ↓w_eALd, ↓w_rALd, ↓w_eALen, ↓w_rStr, ↓w_aNil, ↓w_aI, ↓w_aR, ↓w_N, ↓w_eCall, ↓w_X, ↓w_bCmp, ↓w_bAnd, ↓w_bOr, ↓w_bNot, ↓w_eB, ↓w_eIte, ↓w_sSkip, ↓w_sRet, ↓w_sRetZ, ↓w_sRetV, ↓w_sBrk, ↓w_sCont, ↓w_sIf, ↓w_sSeq, ↓w_sCaC, ↓w_sCaB, ↓w_sSw, ↓w_sCall, ↓w_sPut, ↓w_sPutOp, ↓w_sASt, ↓w_sAOp, ↓w_sADiv, ↓w_eLoc0, ↓w_rLoc0, ↓w_sSet0, ↓w_sSetR0, ↓w_sIncP0, ↓w_sIncM0, ↓w_eLoc1, ↓w_rLoc1, ↓w_sSet1, ↓w_sSetR1, ↓w_sIncP1, ↓w_sIncM1, ↓w_eLoc2, ↓w_rLoc2, ↓w_sSet2, ↓w_sSetR2, ↓w_sIncP2, ↓w_sIncM2, ↓w_eLoc3, ↓w_rLoc3, ↓w_sSet3, ↓w_sSetR3, ↓w_sIncP3, ↓w_sIncM3, ↓w_eLoc4, ↓w_rLoc4, ↓w_sSet4, ↓w_sSetR4, ↓w_sIncP4, ↓w_sIncM4, ↓w_eLoc5, ↓w_rLoc5, ↓w_sSet5, ↓w_sSetR5, ↓w_sIncP5, ↓w_sIncM5, ↓w_eLoc6, ↓w_rLoc6, ↓w_sSet6, ↓w_sSetR6, ↓w_sIncP6, ↓w_sIncM6, ↓w_eLoc7, ↓w_rLoc7, ↓w_sSet7, ↓w_sSetR7, ↓w_sIncP7, ↓w_sIncM7, ↓w_eLoc8, ↓w_rLoc8, ↓w_sSet8, ↓w_sSetR8, ↓w_sIncP8, ↓w_sIncM8, ↓w_eLoc9, ↓w_rLoc9, ↓w_sSet9, ↓w_sSetR9, ↓w_sIncP9, ↓w_sIncM9, ↓w_eLoc10, ↓w_rLoc10, ↓w_sSet10, ↓w_sSetR10, ↓w_sIncP10, ↓w_sIncM10, ↓w_eLoc11, ↓w_rLoc11, ↓w_sSet11, ↓w_sSetR11, ↓w_sIncP11, ↓w_sIncM11, ↓w_eLoc12, ↓w_rLoc12, ↓w_sSet12, ↓w_sSetR12, ↓w_sIncP12, ↓w_sIncM12, ↓w_eLoc13, ↓w_rLoc13, ↓w_sSet13, ↓w_sSetR13, ↓w_sIncP13, ↓w_sIncM13, ↓w_eIntN, ↓w_eIntM, ↓w_bZi, ↓w_add, ↓w_sub, ↓w_mul, ↓w_neg, ↓w_nar, ↓w_div, ↓w_ldne, ↓w_ldat, ↓w_ldj, List.length_cons, List.length_nil, Nat.reduceAdd, Nat.reduceSub, Nat.reduceLeDiff, List.replicate_succ, List.replicate_zero, List.cons_append, List.nil_append, List.append_nil, iz_nI, iz_ofNat, iz_add, iz_sub, iz_mul, cz_lt, cz_le, cz_gt, cz_ge, cz_eq, cz_ne, mIn_iz, iz_nat, decide_eq_true_eq, Bool.not_eq_true', decide_eq_false_iff_not, true_and, and_true, ↓reduceIte, not_true_eq_false, not_false_eq_true, w01_bI, w01_i0, w01_i1, bI_ne', bI_eq', bI_t, bI_f, Bool.false_eq_true, false_implies, forall_const, implies_true, true_implies, imp_self, eq_self, ↓tO_139, ↓tR_139_0, ↓tR_139_1, ↓tR_139_2, ↓tI_139_3, ↓tR_139_4, ↓tR_139_5, ↓tR_139_6, ↓tR_139_7, ↓tR_139_8, ↓tR_139_9, ↓tR_139_10, ↓tI_139_11, ↓tI_139_12, ↓tI_139_13, ↓tI_139_14, ↓tI_139_15, ↓tI_139_16, ↓tI_139_17, ↓tI_139_18, ↓tI_139_19, ↓tI_139_20, ↓tI_139_21, ↓tI_139_22, ↓tI_139_23, ↓tI_139_24, ↓tI_139_25, ↓tI_139_26, ↓tR_139_27, ↓tI_139_28, ↓tI_139_29, ↓tI_139_30, ↓tI_139_31, ↓tR_139_32, ↓tI_139_33, ↓tR_139_34, ↓tR_139_35, ↓tR_139_36, ↓tR_139_37, ↓tI_139_38, ↓tA_140, ↓tN_140, ↓wf_ofCar hM, ↓wf_nearest hM hw hc hww, ↓wf_newWay hM hw hc, ↓wf_sets, Int.reduceAdd, h0, h1]
      apply hN
      · unfold aTurn; rw [e]; exact hs
      · exact frM_u (frM_r C) (by omega)
    · have e : aTurn A c = A := by
        unfold aTurn aWy; rw [if_neg (by omega)]
        funext k p
        unfold aUp
        split
        · rename_i h; rw [h.1, h.2]
        · rfl
      simp (disch := omega) only [↓w_eBin, ↓w_eUn, ↓w_eDiv, ↓w_eRem, ↓w_eFld, ↓w_rFld, ↓w_eALd, ↓w_rALd, ↓w_eALen, ↓w_rStr, ↓w_aNil, ↓w_aI, ↓w_aR, ↓w_N, ↓w_eCall, ↓w_X, ↓w_bCmp, ↓w_bAnd, ↓w_bOr, ↓w_bNot, ↓w_eB, ↓w_eIte, ↓w_sSkip, ↓w_sRet, ↓w_sRetZ, ↓w_sRetV, ↓w_sBrk, ↓w_sCont, ↓w_sIf, ↓w_sSeq, ↓w_sCaC, ↓w_sCaB, ↓w_sSw, ↓w_sCall, ↓w_sPut, ↓w_sPutOp, ↓w_sASt, ↓w_sAOp, ↓w_sADiv, ↓w_eLoc0, ↓w_rLoc0, ↓w_sSet0, ↓w_sSetR0, ↓w_sIncP0, ↓w_sIncM0, ↓w_eLoc1, ↓w_rLoc1, ↓w_sSet1, ↓w_sSetR1, ↓w_sIncP1, ↓w_sIncM1, ↓w_eLoc2, ↓w_rLoc2, ↓w_sSet2, ↓w_sSetR2, ↓w_sIncP2, ↓w_sIncM2, ↓w_eLoc3, ↓w_rLoc3, ↓w_sSet3, ↓w_sSetR3, ↓w_sIncP3, ↓w_sIncM3, ↓w_eLoc4, ↓w_rLoc4, ↓w_sSet4, ↓w_sSetR4, ↓w_sIncP4, ↓w_sIncM4, ↓w_eLoc5, ↓w_rLoc5, ↓w_sSet5, ↓w_sSetR5, ↓w_sIncP5, ↓w_sIncM5, ↓w_eLoc6, ↓w_rLoc6, ↓w_sSet6, ↓w_sSetR6, ↓w_sIncP6, ↓w_sIncM6, ↓w_eLoc7, ↓w_rLoc7, ↓w_sSet7, ↓w_sSetR7, ↓w_sIncP7, ↓w_sIncM7, ↓w_eLoc8, ↓w_rLoc8, ↓w_sSet8, ↓w_sSetR8, ↓w_sIncP8, ↓w_sIncM8, ↓w_eLoc9, ↓w_rLoc9, ↓w_sSet9, ↓w_sSetR9, ↓w_sIncP9, ↓w_sIncM9, ↓w_eLoc10, ↓w_rLoc10, ↓w_sSet10, ↓w_sSetR10, ↓w_sIncP10, ↓w_sIncM10, ↓w_eLoc11, ↓w_rLoc11, ↓w_sSet11, ↓w_sSetR11, ↓w_sIncP11, ↓w_sIncM11, ↓w_eLoc12, ↓w_rLoc12, ↓w_sSet12, ↓w_sSetR12, ↓w_sIncP12, ↓w_sIncM12, ↓w_eLoc13, ↓w_rLoc13, ↓w_sSet13, ↓w_sSetR13, ↓w_sIncP13, ↓w_sIncM13, ↓w_eIntN, ↓w_eIntM, ↓w_bZi, ↓w_add, ↓w_sub, ↓w_mul, ↓w_neg, ↓w_nar, ↓w_div, ↓w_ldne, ↓w_ldat, ↓w_ldj, List.length_cons, List.length_nil, Nat.reduceAdd, Nat.reduceSub, Nat.reduceLeDiff, List.replicate_succ, List.replicate_zero, List.cons_append, List.nil_append, List.append_nil, iz_nI, iz_ofNat, iz_add, iz_sub, iz_mul, cz_lt, cz_le, cz_gt, cz_ge, cz_eq, cz_ne, mIn_iz, iz_nat, decide_eq_true_eq, Bool.not_eq_true', decide_eq_false_iff_not, true_and, and_true, ↓reduceIte, not_true_eq_false, not_false_eq_true, w01_bI, w01_i0, w01_i1, bI_ne', bI_eq', bI_t, bI_f, Bool.false_eq_true, false_implies, forall_const, implies_true, true_implies, imp_self, eq_self, ↓tO_139, ↓tR_139_0, ↓tR_139_1, ↓tR_139_2, ↓tI_139_3, ↓tR_139_4, ↓tR_139_5, ↓tR_139_6, ↓tR_139_7, ↓tR_139_8, ↓tR_139_9, ↓tR_139_10, ↓tI_139_11, ↓tI_139_12, ↓tI_139_13, ↓tI_139_14, ↓tI_139_15, ↓tI_139_16, ↓tI_139_17, ↓tI_139_18, ↓tI_139_19, ↓tI_139_20, ↓tI_139_21, ↓tI_139_22, ↓tI_139_23, ↓tI_139_24, ↓tI_139_25, ↓tI_139_26, ↓tR_139_27, ↓tI_139_28, ↓tI_139_29, ↓tI_139_30, ↓tI_139_31, ↓tR_139_32, ↓tI_139_33, ↓tR_139_34, ↓tR_139_35, ↓tR_139_36, ↓tR_139_37, ↓tI_139_38, ↓tA_140, ↓tN_140, ↓wf_ofCar hM, ↓wf_nearest hM hw hc hww, Int.reduceAdd, h0, h1]
      apply hN
      · rw [e]; exact hM
      · exact frM_r C
end

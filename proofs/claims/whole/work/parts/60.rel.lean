/-! THE CLASS'S SCENES: cells s .. s + 18 hold the picture -/
def sIs (s : Nat) : Prop := s = 43 ∨ s = 106
theorem sO {s : Nat} {P : Prop} (hs : sIs s) : wOk [5] s P ↔ P := by
  rcases hs with rfl | rfl
  · exact tO_43
  · exact tO_106
theorem pO {s : Nat} {P : Prop} (hs : sIs s) : wOk [3] (s + 1) P ↔ P := by
  rcases hs with rfl | rfl
  · exact tO_44
  · exact tO_107
theorem cO {s : Nat} {P : Prop} (hs : sIs s) : wOk [0] (s + 9) P ↔ P := by
  rcases hs with rfl | rfl
  · exact tO_52
  · exact tO_115
theorem sR0 {s : Nat} {P : Nat → Prop} (hs : sIs s) : wRk [5] 0 s P ↔ P 19 := by
  rcases hs with rfl | rfl
  · exact tR_43_0
  · exact tR_106_0
theorem sR1 {s : Nat} {P : Nat → Prop} (hs : sIs s) : wRk [5] 1 s P ↔ P (s + 1) := by
  rcases hs with rfl | rfl
  · exact tR_43_1
  · exact tR_106_1
theorem sR2 {s : Nat} {P : Nat → Prop} (hs : sIs s) : wRk [5] 2 s P ↔ P (s + 9) := by
  rcases hs with rfl | rfl
  · exact tR_43_2
  · exact tR_106_2
theorem sR3 {s : Nat} {P : Nat → Prop} (hs : sIs s) : wRk [5] 3 s P ↔ P (s + 18) := by
  rcases hs with rfl | rfl
  · exact tR_43_3
  · exact tR_106_3
theorem sI4 {s : Nat} {P : Prop} (hs : sIs s) : wIk [5] 4 s P ↔ P := by
  rcases hs with rfl | rfl
  · exact tI_43_4
  · exact tI_106_4
theorem sI5 {s : Nat} {P : Prop} (hs : sIs s) : wIk [5] 5 s P ↔ P := by
  rcases hs with rfl | rfl
  · exact tI_43_5
  · exact tI_106_5
theorem sI6 {s : Nat} {P : Prop} (hs : sIs s) : wIk [5] 6 s P ↔ P := by
  rcases hs with rfl | rfl
  · exact tI_43_6
  · exact tI_106_6
theorem sI7 {s : Nat} {P : Prop} (hs : sIs s) : wIk [5] 7 s P ↔ P := by
  rcases hs with rfl | rfl
  · exact tI_43_7
  · exact tI_106_7
theorem sI8 {s : Nat} {P : Prop} (hs : sIs s) : wIk [5] 8 s P ↔ P := by
  rcases hs with rfl | rfl
  · exact tI_43_8
  · exact tI_106_8
theorem pI0 {s : Nat} {P : Prop} (hs : sIs s) : wIk [3] 0 (s + 1) P ↔ P := by
  rcases hs with rfl | rfl
  · exact tI_44_0
  · exact tI_107_0
theorem pI1 {s : Nat} {P : Prop} (hs : sIs s) : wIk [3] 1 (s + 1) P ↔ P := by
  rcases hs with rfl | rfl
  · exact tI_44_1
  · exact tI_107_1
theorem pI2 {s : Nat} {P : Prop} (hs : sIs s) : wIk [3] 2 (s + 1) P ↔ P := by
  rcases hs with rfl | rfl
  · exact tI_44_2
  · exact tI_107_2
theorem pI3 {s : Nat} {P : Prop} (hs : sIs s) : wIk [3] 3 (s + 1) P ↔ P := by
  rcases hs with rfl | rfl
  · exact tI_44_3
  · exact tI_107_3
theorem pR4 {s : Nat} {P : Nat → Prop} (hs : sIs s) : wRk [3] 4 (s + 1) P ↔ P (s + 2) := by
  rcases hs with rfl | rfl
  · exact tR_44_4
  · exact tR_107_4
theorem pR5 {s : Nat} {P : Nat → Prop} (hs : sIs s) : wRk [3] 5 (s + 1) P ↔ P (s + 3) := by
  rcases hs with rfl | rfl
  · exact tR_44_5
  · exact tR_107_5
theorem pR6 {s : Nat} {P : Nat → Prop} (hs : sIs s) : wRk [3] 6 (s + 1) P ↔ P (s + 4) := by
  rcases hs with rfl | rfl
  · exact tR_44_6
  · exact tR_107_6
theorem pR7 {s : Nat} {P : Nat → Prop} (hs : sIs s) : wRk [3] 7 (s + 1) P ↔ P (s + 5) := by
  rcases hs with rfl | rfl
  · exact tR_44_7
  · exact tR_107_7
theorem pR8 {s : Nat} {P : Nat → Prop} (hs : sIs s) : wRk [3] 8 (s + 1) P ↔ P (s + 6) := by
  rcases hs with rfl | rfl
  · exact tR_44_8
  · exact tR_107_8
theorem pR9 {s : Nat} {P : Nat → Prop} (hs : sIs s) : wRk [3] 9 (s + 1) P ↔ P (s + 7) := by
  rcases hs with rfl | rfl
  · exact tR_44_9
  · exact tR_107_9
theorem pR10 {s : Nat} {P : Nat → Prop} (hs : sIs s) : wRk [3] 10 (s + 1) P ↔ P (s + 8) := by
  rcases hs with rfl | rfl
  · exact tR_44_10
  · exact tR_107_10
theorem pA2 {s : Nat} {a : Int} {P : Nat → Prop} (hs : sIs s) (h : 0 ≤ a ∧ a < 60) : wAk .int (s + 2) (iz a) P ↔ P a.toNat := by
  rcases hs with rfl | rfl
  · exact tA_45 h
  · exact tA_108 h
theorem pA3 {s : Nat} {a : Int} {P : Nat → Prop} (hs : sIs s) (h : 0 ≤ a ∧ a < 60) : wAk .int (s + 3) (iz a) P ↔ P a.toNat := by
  rcases hs with rfl | rfl
  · exact tA_46 h
  · exact tA_109 h
theorem pA4 {s : Nat} {a : Int} {P : Nat → Prop} (hs : sIs s) (h : 0 ≤ a ∧ a < 60) : wAk .int (s + 4) (iz a) P ↔ P a.toNat := by
  rcases hs with rfl | rfl
  · exact tA_47 h
  · exact tA_110 h
theorem pA5 {s : Nat} {a : Int} {P : Nat → Prop} (hs : sIs s) (h : 0 ≤ a ∧ a < 60) : wAk .int (s + 5) (iz a) P ↔ P a.toNat := by
  rcases hs with rfl | rfl
  · exact tA_48 h
  · exact tA_111 h
theorem pA6 {s : Nat} {a : Int} {P : Nat → Prop} (hs : sIs s) (h : 0 ≤ a ∧ a < 60) : wAk .int (s + 6) (iz a) P ↔ P a.toNat := by
  rcases hs with rfl | rfl
  · exact tA_49 h
  · exact tA_112 h
theorem pA7 {s : Nat} {a : Int} {P : Nat → Prop} (hs : sIs s) (h : 0 ≤ a ∧ a < 60) : wAk .int (s + 7) (iz a) P ↔ P a.toNat := by
  rcases hs with rfl | rfl
  · exact tA_50 h
  · exact tA_113 h
theorem pA8 {s : Nat} {a : Int} {P : Nat → Prop} (hs : sIs s) (h : 0 ≤ a ∧ a < 60) : wAk .int (s + 8) (iz a) P ↔ P a.toNat := by
  rcases hs with rfl | rfl
  · exact tA_51 h
  · exact tA_114 h
theorem cR0 {s : Nat} {P : Nat → Prop} (hs : sIs s) : wRk [0] 0 (s + 9) P ↔ P (s + 10) := by
  rcases hs with rfl | rfl
  · exact tR_52_0
  · exact tR_115_0
theorem cR1 {s : Nat} {P : Nat → Prop} (hs : sIs s) : wRk [0] 1 (s + 9) P ↔ P (s + 11) := by
  rcases hs with rfl | rfl
  · exact tR_52_1
  · exact tR_115_1
theorem cR2 {s : Nat} {P : Nat → Prop} (hs : sIs s) : wRk [0] 2 (s + 9) P ↔ P (s + 12) := by
  rcases hs with rfl | rfl
  · exact tR_52_2
  · exact tR_115_2
theorem cR3 {s : Nat} {P : Nat → Prop} (hs : sIs s) : wRk [0] 3 (s + 9) P ↔ P (s + 13) := by
  rcases hs with rfl | rfl
  · exact tR_52_3
  · exact tR_115_3
theorem cR4 {s : Nat} {P : Nat → Prop} (hs : sIs s) : wRk [0] 4 (s + 9) P ↔ P (s + 14) := by
  rcases hs with rfl | rfl
  · exact tR_52_4
  · exact tR_115_4
theorem cR5 {s : Nat} {P : Nat → Prop} (hs : sIs s) : wRk [0] 5 (s + 9) P ↔ P (s + 15) := by
  rcases hs with rfl | rfl
  · exact tR_52_5
  · exact tR_115_5
theorem cR6 {s : Nat} {P : Nat → Prop} (hs : sIs s) : wRk [0] 6 (s + 9) P ↔ P (s + 16) := by
  rcases hs with rfl | rfl
  · exact tR_52_6
  · exact tR_115_6
theorem cR7 {s : Nat} {P : Nat → Prop} (hs : sIs s) : wRk [0] 7 (s + 9) P ↔ P (s + 17) := by
  rcases hs with rfl | rfl
  · exact tR_52_7
  · exact tR_115_7
theorem cA10 {s : Nat} {a : Int} {P : Nat → Prop} (hs : sIs s) (h : 0 ≤ a ∧ a < 4) : wAk .int (s + 10) (iz a) P ↔ P a.toNat := by
  rcases hs with rfl | rfl
  · exact tA_53 h
  · exact tA_116 h
theorem cA11 {s : Nat} {a : Int} {P : Nat → Prop} (hs : sIs s) (h : 0 ≤ a ∧ a < 4) : wAk .int (s + 11) (iz a) P ↔ P a.toNat := by
  rcases hs with rfl | rfl
  · exact tA_54 h
  · exact tA_117 h
theorem cA12 {s : Nat} {a : Int} {P : Nat → Prop} (hs : sIs s) (h : 0 ≤ a ∧ a < 4) : wAk .int (s + 12) (iz a) P ↔ P a.toNat := by
  rcases hs with rfl | rfl
  · exact tA_55 h
  · exact tA_118 h
theorem cA13 {s : Nat} {a : Int} {P : Nat → Prop} (hs : sIs s) (h : 0 ≤ a ∧ a < 4) : wAk .int (s + 13) (iz a) P ↔ P a.toNat := by
  rcases hs with rfl | rfl
  · exact tA_56 h
  · exact tA_119 h
theorem cA14 {s : Nat} {a : Int} {P : Nat → Prop} (hs : sIs s) (h : 0 ≤ a ∧ a < 4) : wAk .int (s + 14) (iz a) P ↔ P a.toNat := by
  rcases hs with rfl | rfl
  · exact tA_57 h
  · exact tA_120 h
theorem cA15 {s : Nat} {a : Int} {P : Nat → Prop} (hs : sIs s) (h : 0 ≤ a ∧ a < 4) : wAk .int (s + 15) (iz a) P ↔ P a.toNat := by
  rcases hs with rfl | rfl
  · exact tA_58 h
  · exact tA_121 h
theorem cA16 {s : Nat} {a : Int} {P : Nat → Prop} (hs : sIs s) (h : 0 ≤ a ∧ a < 4) : wAk .int (s + 16) (iz a) P ↔ P a.toNat := by
  rcases hs with rfl | rfl
  · exact tA_59 h
  · exact tA_122 h
theorem cA17 {s : Nat} {a : Int} {P : Nat → Prop} (hs : sIs s) (h : 0 ≤ a ∧ a < 4) : wAk .boolean (s + 17) (iz a) P ↔ P a.toNat := by
  rcases hs with rfl | rfl
  · exact tA_60 h
  · exact tA_123 h
theorem fA18 {s : Nat} {a : Int} {P : Nat → Prop} (hs : sIs s) (h : 0 ≤ a ∧ a < 10) : wAk .int (s + 18) (iz a) P ↔ P a.toNat := by
  rcases hs with rfl | rfl
  · exact tA_61 h
  · exact tA_124 h
theorem wf_min {a b : Int} {C : mMem} {Q : Option Int32 → mMem → Prop} (h : (-2147483648 ≤ a ∧ a < 2147483648) ∧ (-2147483648 ≤ b ∧ b < 2147483648)) : wF f_J_min [.int (iz a), .int (iz b)] C Q ↔ Q (some (iz (if b < a then b else a))) C := by
  apply wF_eq
  simp only [f_J_min, iz_lt ⟨h.2, h.1⟩]
  split <;> rfl
theorem wf_max {a b : Int} {C : mMem} {Q : Option Int32 → mMem → Prop} (h : (-2147483648 ≤ a ∧ a < 2147483648) ∧ (-2147483648 ≤ b ∧ b < 2147483648)) : wF f_J_max [.int (iz a), .int (iz b)] C Q ↔ Q (some (iz (if a < b then b else a))) C := by
  apply wF_eq
  simp only [f_J_max, iz_lt ⟨h.1, h.2⟩]
  split <;> rfl
theorem wf_abs {a : Int} {C : mMem} {Q : Option Int32 → mMem → Prop} (h : -2147483648 ≤ a ∧ a < 2147483648) : wF f_J_abs [.int (iz a)] C Q ↔ Q (some (iz (if 0 ≤ a then a else 0 - a))) C := by
  apply wF_eq
  simp only [f_J_abs, iz_lit, iz_le (a := 0) (b := a) (by omega), iz_sub]
  split <;> rfl
theorem wf_compare {a b : Int} {C : mMem} {Q : Option Int32 → mMem → Prop} (h : (-2147483648 ≤ a ∧ a < 2147483648) ∧ (-2147483648 ≤ b ∧ b < 2147483648)) : wF f_J_compare [.int (iz a), .int (iz b)] C Q ↔ Q (some (iz (if a < b then -1 else if a = b then 0 else 1))) C := by
  apply wF_eq
  apply wF_to
  unfold f_J_compare
  simp only [↓w_rcv, ↓w_bodyI, ↓w_bodyZ, ↓w_bodyV, true_and, List.length_cons, List.length_nil, Nat.reduceAdd, Nat.reduceSub, Nat.reduceLeDiff, List.replicate_succ, List.replicate_zero, List.cons_append, List.nil_append, List.append_nil, ↓tO_0, ↓tO_2, ↓tO_6, ↓tO_11, ↓tO_18, ↓tO_19, ↓tO_27, ↓tO_32, ↓tO_37, ↓tO_43, ↓tO_44, ↓tO_52, ↓tO_62, ↓tO_63, ↓tO_71, ↓tO_76, ↓tO_81, ↓tO_87, ↓tO_88, ↓tO_96, ↓tO_106, ↓tO_107, ↓tO_115, ↓tO_127, ↓tO_127c, ↓tO_133, ↓tO_133c, ↓tO_139]
  unfold S_J_compare
  simp (disch := omega) only [↓w_eBin, ↓w_eUn, ↓w_eDiv, ↓w_eRem, ↓w_eFld, ↓w_rFld, ↓w_eALd, ↓w_rALd, ↓w_eALen, ↓w_rStr, ↓w_aNil, ↓w_aI, ↓w_aR, ↓w_N, ↓w_eCall, ↓w_X, ↓w_bCmp, ↓w_bAnd, ↓w_bOr, ↓w_bNot, ↓w_eB, ↓w_eIte, ↓w_sSkip, ↓w_sRet, ↓w_sRetZ, ↓w_sRetV, ↓w_sBrk, ↓w_sCont, ↓w_sIf, ↓w_sSeq, ↓w_sCaC, ↓w_sCaB, ↓w_sSw, ↓w_sCall, ↓w_sPut, ↓w_sPutOp, ↓w_sASt, ↓w_sAOp, ↓w_sADiv, ↓w_eLoc0, ↓w_rLoc0, ↓w_sSet0, ↓w_sSetR0, ↓w_sIncP0, ↓w_sIncM0, ↓w_eLoc1, ↓w_rLoc1, ↓w_sSet1, ↓w_sSetR1, ↓w_sIncP1, ↓w_sIncM1, ↓w_eLoc2, ↓w_rLoc2, ↓w_sSet2, ↓w_sSetR2, ↓w_sIncP2, ↓w_sIncM2, ↓w_eLoc3, ↓w_rLoc3, ↓w_sSet3, ↓w_sSetR3, ↓w_sIncP3, ↓w_sIncM3, ↓w_eLoc4, ↓w_rLoc4, ↓w_sSet4, ↓w_sSetR4, ↓w_sIncP4, ↓w_sIncM4, ↓w_eLoc5, ↓w_rLoc5, ↓w_sSet5, ↓w_sSetR5, ↓w_sIncP5, ↓w_sIncM5, ↓w_eLoc6, ↓w_rLoc6, ↓w_sSet6, ↓w_sSetR6, ↓w_sIncP6, ↓w_sIncM6, ↓w_eLoc7, ↓w_rLoc7, ↓w_sSet7, ↓w_sSetR7, ↓w_sIncP7, ↓w_sIncM7, ↓w_eLoc8, ↓w_rLoc8, ↓w_sSet8, ↓w_sSetR8, ↓w_sIncP8, ↓w_sIncM8, ↓w_eLoc9, ↓w_rLoc9, ↓w_sSet9, ↓w_sSetR9, ↓w_sIncP9, ↓w_sIncM9, ↓w_eLoc10, ↓w_rLoc10, ↓w_sSet10, ↓w_sSetR10, ↓w_sIncP10, ↓w_sIncM10, ↓w_eLoc11, ↓w_rLoc11, ↓w_sSet11, ↓w_sSetR11, ↓w_sIncP11, ↓w_sIncM11, ↓w_eLoc12, ↓w_rLoc12, ↓w_sSet12, ↓w_sSetR12, ↓w_sIncP12, ↓w_sIncM12, ↓w_eLoc13, ↓w_rLoc13, ↓w_sSet13, ↓w_sSetR13, ↓w_sIncP13, ↓w_sIncM13, ↓w_eIntN, ↓w_eIntM, ↓w_bZi, ↓w_add, ↓w_sub, ↓w_mul, ↓w_neg, ↓w_nar, ↓w_div, ↓w_ldne, ↓w_ldat, ↓w_ldj, List.length_cons, List.length_nil, Nat.reduceAdd, Nat.reduceSub, Nat.reduceLeDiff, List.replicate_succ, List.replicate_zero, List.cons_append, List.nil_append, List.append_nil, cz_lt, cz_le, cz_gt, cz_ge, cz_eq, cz_ne, mIn_iz, iz_nat, decide_eq_true_eq, Bool.not_eq_true', decide_eq_false_iff_not, true_and, and_true, ↓reduceIte, not_true_eq_false, not_false_eq_true, w01_bI, w01_i0, w01_i1, bI_ne', bI_eq', bI_t, bI_f, Bool.false_eq_true, false_implies, forall_const, implies_true, true_implies, imp_self, eq_self]
  split
  · simp
  · split <;> simp
def aCmg (A : aS) : Int := cnt (fun p => decide (A 3 p = 0)) (A 30 2).toNat
def aLse (A : aS) : Int := cnt (fun p => decide (A 3 p = 1 ∧ A 4 p = -1)) (A 30 2).toNat
def aThr (A : aS) : Int := cnt (fun p => decide (A 3 p = 3)) (A 30 2).toNat
def aWt (A : aS) (p : Int) : Int := if A 5 p = -1 then -1 else A 5 p - A 0 p
def aRd (A : aS) (p : Int) : Int := if A 6 p = -1 then -1 else A 6 p - A 5 p
def RelT (C : mMem) (t : Nat) (A : aS) : Prop :=
  C t 1 = iz (A 30 0) ∧ C t 2 = iz (A 30 1) ∧
  (∀ c, 0 ≤ c → c < A 30 1 → C (t + 1) c.toNat = iz (A 16 c) ∧ C (t + 2) c.toNat = iz (A 17 c) ∧ C (t + 3) c.toNat = iz (A 18 c) ∧ C (t + 4) c.toNat = iz (A 19 c) ∧ C (t + 5) c.toNat = iz (A 20 c)) ∧
  (∀ c f, 0 ≤ c → c < A 30 1 → 0 ≤ f → f < A 30 0 → C (t + 6) (c * 80 + f).toNat = iz (1 - A (40 + c) f))
def RelP (C : mMem) (s : Nat) (A : aS) (p : Int) : Prop := C (s + 2) p.toNat = iz (A 0 p) ∧ C (s + 3) p.toNat = iz (A 1 p) ∧ C (s + 4) p.toNat = iz (A 2 p) ∧ C (s + 5) p.toNat = iz (A 3 p) ∧ C (s + 6) p.toNat = iz (A 4 p) ∧ C (s + 7) p.toNat = iz (aWt A p) ∧ C (s + 8) p.toNat = iz (aRd A p)
def RelK (C : mMem) (s : Nat) (A : aS) (c : Int) : Prop := C (s + 10) c.toNat = iz (A 10 c) ∧ C (s + 11) c.toNat = iz (A 11 c) ∧ C (s + 12) c.toNat = iz (A 12 c) ∧ C (s + 13) c.toNat = iz (A 13 c) ∧ C (s + 14) c.toNat = iz (aRid A c) ∧ C (s + 15) c.toNat = iz (aGiv A c) ∧ C (s + 16) c.toNat = iz (A 15 c) ∧ C (s + 17) c.toNat = iz (A 14 c)
def RelS (C : mMem) (s : Nat) (A : aS) : Prop :=
  C (s + 1) 0 = iz (A 30 2) ∧ C (s + 1) 1 = iz (aCmg A) ∧ C (s + 1) 2 = iz (aLse A) ∧ C (s + 1) 3 = iz (aThr A) ∧
  (∀ p, 0 ≤ p → p < A 30 2 → RelP C s A p) ∧ (∀ c, 0 ≤ c → c < A 30 1 → RelK C s A c) ∧
  C s 4 = iz (A 30 3) ∧ C s 5 = iz (A 32 1) ∧ C s 7 = iz (A 32 0) ∧ (0 ≤ A 32 0 ∨ 0 ≤ A 32 1 → C s 6 = iz (A 32 2))
def RelF (C : mMem) (s : Nat) (A : aS) : Prop := RelT C 19 A ∧ RelS C s A
def FrF (s : Nat) (C D : mMem) : Prop := ∀ a i, (a < s ∨ s + 18 < a) → (a ≠ 10 ∧ a ≠ 31 ∧ a ≠ 36 ∧ a ≠ 41) → ((a ≠ 6 ∧ a ≠ 27 ∧ a ≠ 32 ∧ a ≠ 37) ∨ i ≠ 1) → D a i = C a i
theorem frF_r {s : Nat} (C : mMem) : FrF s C C := fun _ _ _ _ _ => rfl
theorem frF_t {s : Nat} {C D E : mMem} (h : FrF s C D) (g : FrF s D E) : FrF s C E := fun a i x y z => (g a i x y z).trans (h a i x y z)
theorem frF_u {s k i : Nat} {C D : mMem} {x : Int32} (h : FrF s C D) (hk : s ≤ k ∧ k ≤ s + 18) : FrF s C (mUp D k i x) := fun a j y z w => by
  rw [up_k (by omega)]; exact h a j y z w
theorem RelT_fr {C D : mMem} {t : Nat} {A B : aS} (h : RelT C t A) (hD : ∀ a i, t ≤ a → a ≤ t + 6 → D a i = C a i) (h0 : B 30 0 = A 30 0) (h1 : B 30 1 = A 30 1) (hB : ∀ k c, 16 ≤ k → k < 21 → B k c = A k c) (hS : ∀ k c, 40 ≤ k → B k c = A k c) : RelT D t B := by
  obtain ⟨a1, a2, a3, a4⟩ := h
  refine ⟨?_, ?_, fun c c0 c1 => ?_, fun c f c0 c1 f0 f1 => ?_⟩
  · rw [hD _ _ (by omega) (by omega), h0]; exact a1
  · rw [hD _ _ (by omega) (by omega), h1]; exact a2
  · rw [h1] at c1
    rw [hD _ _ (by omega) (by omega), hD _ _ (by omega) (by omega), hD _ _ (by omega) (by omega), hD _ _ (by omega) (by omega), hD _ _ (by omega) (by omega), hB _ _ (by omega) (by omega), hB _ _ (by omega) (by omega), hB _ _ (by omega) (by omega), hB _ _ (by omega) (by omega), hB _ _ (by omega) (by omega)]
    exact a3 c c0 c1
  · rw [h1] at c1
    rw [h0] at f1
    rw [hD _ _ (by omega) (by omega), hS _ _ (by omega)]
    exact a4 c f c0 c1 f0 f1
/-! counts when one person changes -/
theorem cnt_ch {f g : Int → Bool} {n : Nat} (p : Int) (hp : 0 ≤ p ∧ p < n) (h : ∀ q : Int, q ≠ p → g q = f q) : cnt g n = cnt f n + (if g p = true then 1 else 0) - (if f p = true then 1 else 0) := by
  obtain ⟨p, rfl⟩ : ∃ m : Nat, p = m := ⟨p.toNat, by omega⟩
  have hp : p < n := by omega
  cases hg : g p <;> cases hf : f p
  · simp
    exact cnt_eq (fun i hi => by
      by_cases e : i = p
      · subst e; rw [hg, hf]
      · exact h i (by omega))
  · have := cnt_one (f := g) (g := f) p hp hf hg (fun i _ he => h i (by omega))
    simp; omega
  · have := cnt_one (f := f) (g := g) p hp hg hf (fun i _ he => (h i (by omega)).symm)
    simp; omega
  · simp
    rw [cnt_eq (f := g) (g := f) (fun i hi => by
      by_cases e : i = p
      · subst e; rw [hg, hf]
      · exact h i (by omega))]
def aSt (A : aS) (p v b : Int) : Int := if A 3 p = v ∧ A 4 p = b then 1 else 0
theorem aCnt_ch {A B : aS} {p : Int} (hp : 0 ≤ p ∧ p < A 30 2) (h2 : B 30 2 = A 30 2) (h : ∀ q, q ≠ p → B 3 q = A 3 q ∧ B 4 q = A 4 q) :
    (∀ c, aRid B c = aRid A c + (if B 3 p = 2 ∧ B 4 p = c then 1 else 0) - (if A 3 p = 2 ∧ A 4 p = c then 1 else 0)) ∧
    (∀ c, aGiv B c = aGiv A c + (if B 3 p = 1 ∧ B 4 p = c then 1 else 0) - (if A 3 p = 1 ∧ A 4 p = c then 1 else 0)) ∧
    aCmg B = aCmg A + (if B 3 p = 0 then 1 else 0) - (if A 3 p = 0 then 1 else 0) ∧
    aLse B = aLse A + (if B 3 p = 1 ∧ B 4 p = -1 then 1 else 0) - (if A 3 p = 1 ∧ A 4 p = -1 then 1 else 0) ∧
    aThr B = aThr A + (if B 3 p = 3 then 1 else 0) - (if A 3 p = 3 then 1 else 0) := by
  refine ⟨fun c => ?_, fun c => ?_, ?_, ?_, ?_⟩
  · unfold aRid; rw [h2, cnt_ch (f := fun p => decide (A 3 p = 2 ∧ A 4 p = c)) p (by omega) (fun q hq => by rw [(h q hq).1, (h q hq).2])]; simp only [decide_eq_true_eq]
  · unfold aGiv; rw [h2, cnt_ch (f := fun p => decide (A 3 p = 1 ∧ A 4 p = c)) p (by omega) (fun q hq => by rw [(h q hq).1, (h q hq).2])]; simp only [decide_eq_true_eq]
  · unfold aCmg; rw [h2, cnt_ch (f := fun p => decide (A 3 p = 0)) p (by omega) (fun q hq => by rw [(h q hq).1])]; simp only [decide_eq_true_eq]
  · unfold aLse; rw [h2, cnt_ch (f := fun p => decide (A 3 p = 1 ∧ A 4 p = -1)) p (by omega) (fun q hq => by rw [(h q hq).1, (h q hq).2])]; simp only [decide_eq_true_eq]
  · unfold aThr; rw [h2, cnt_ch (f := fun p => decide (A 3 p = 3)) p (by omega) (fun q hq => by rw [(h q hq).1])]; simp only [decide_eq_true_eq]
theorem aRid_rg (A : aS) (c : Int) : 0 ≤ aRid A c ∧ aRid A c ≤ (A 30 2).toNat := cnt_rg _ _
theorem aGiv_rg (A : aS) (c : Int) : 0 ≤ aGiv A c ∧ aGiv A c ≤ (A 30 2).toNat := cnt_rg _ _
theorem aCmg_rg (A : aS) : 0 ≤ aCmg A ∧ aCmg A ≤ (A 30 2).toNat := cnt_rg _ _
theorem aLse_rg (A : aS) : 0 ≤ aLse A ∧ aLse A ≤ (A 30 2).toNat := cnt_rg _ _
theorem aThr_rg (A : aS) : 0 ≤ aThr A ∧ aThr A ≤ (A 30 2).toNat := cnt_rg _ _
/-- one person's rows change -/
theorem rs_one {C D : mMem} {s : Nat} {A B : aS} {p : Int} (hs : sIs s) (h : RelS C s A) (hp : 0 ≤ p ∧ p < A 30 2)
    (hB : ∀ k q, (k < 3 ∨ 6 < k ∨ q ≠ p) → B k q = A k q)
    (hD : ∀ a i, s ≤ a → a ≤ s + 17 → ((a ≠ s + 5 ∧ a ≠ s + 6 ∧ a ≠ s + 7 ∧ a ≠ s + 8) ∨ i ≠ p.toNat) → (a ≠ s + 1 ∨ i = 0) → (a ≠ s + 14 ∧ a ≠ s + 15) → D a i = C a i)
    (h3 : D (s + 5) p.toNat = iz (B 3 p)) (h4 : D (s + 6) p.toNat = iz (B 4 p)) (h5 : D (s + 7) p.toNat = iz (aWt B p)) (h6 : D (s + 8) p.toNat = iz (aRd B p))
    (c1 : D (s + 1) 1 = iz (aCmg B)) (c2 : D (s + 1) 2 = iz (aLse B)) (c3 : D (s + 1) 3 = iz (aThr B))
    (c4 : ∀ c, 0 ≤ c → c < A 30 1 → D (s + 14) c.toNat = iz (aRid B c)) (c5 : ∀ c, 0 ≤ c → c < A 30 1 → D (s + 15) c.toNat = iz (aGiv B c)) : RelS D s B := by
  obtain ⟨a1, a2, a3, a4, aP, aK, a5, a6, a7, a8⟩ := h
  refine ⟨?_, c1, c2, c3, fun q q0 q1 => ?_, fun c d0 d1 => ?_, ?_, ?_, ?_, ?_⟩
  · rw [hD _ _ (by omega) (by omega) (by omega) (by omega) (by omega), hB _ _ (by omega)]; exact a1
  · rw [hB _ _ (by omega)] at q1
    obtain ⟨b0, b1, b2, b3, b4, b5, b6⟩ := aP q q0 q1
    by_cases e : q = p
    · subst e
      refine ⟨?_, ?_, ?_, h3, h4, h5, h6⟩
      · rw [hD _ _ (by omega) (by omega) (by omega) (by omega) (by omega), hB _ _ (by omega)]; exact b0
      · rw [hD _ _ (by omega) (by omega) (by omega) (by omega) (by omega), hB _ _ (by omega)]; exact b1
      · rw [hD _ _ (by omega) (by omega) (by omega) (by omega) (by omega), hB _ _ (by omega)]; exact b2
    · unfold RelP aWt aRd
      unfold aWt at b5
      unfold aRd at b6
      refine ⟨?_, ?_, ?_, ?_, ?_, ?_, ?_⟩
      · rw [hD _ _ (by omega) (by omega) (by omega) (by omega) (by omega), hB _ _ (by omega)]; exact b0
      · rw [hD _ _ (by omega) (by omega) (by omega) (by omega) (by omega), hB _ _ (by omega)]; exact b1
      · rw [hD _ _ (by omega) (by omega) (by omega) (by omega) (by omega), hB _ _ (by omega)]; exact b2
      · rw [hD _ _ (by omega) (by omega) (by omega) (by omega) (by omega), hB _ _ (by omega)]; exact b3
      · rw [hD _ _ (by omega) (by omega) (by omega) (by omega) (by omega), hB _ _ (by omega)]; exact b4
      · rw [hD _ _ (by omega) (by omega) (by omega) (by omega) (by omega), hB 5 _ (by omega), hB 0 _ (by omega)]; exact b5
      · rw [hD _ _ (by omega) (by omega) (by omega) (by omega) (by omega), hB 6 _ (by omega), hB 5 _ (by omega)]; exact b6
  · rw [hB _ _ (by omega)] at d1
    obtain ⟨b0, b1, b2, b3, b4, b5, b6, b7⟩ := aK c d0 d1
    refine ⟨?_, ?_, ?_, ?_, c4 c d0 d1, c5 c d0 d1, ?_, ?_⟩
    · rw [hD _ _ (by omega) (by omega) (by omega) (by omega) (by omega), hB _ _ (by omega)]; exact b0
    · rw [hD _ _ (by omega) (by omega) (by omega) (by omega) (by omega), hB _ _ (by omega)]; exact b1
    · rw [hD _ _ (by omega) (by omega) (by omega) (by omega) (by omega), hB _ _ (by omega)]; exact b2
    · rw [hD _ _ (by omega) (by omega) (by omega) (by omega) (by omega), hB _ _ (by omega)]; exact b3
    · rw [hD _ _ (by omega) (by omega) (by omega) (by omega) (by omega), hB _ _ (by omega)]; exact b6
    · rw [hD _ _ (by omega) (by omega) (by omega) (by omega) (by omega), hB _ _ (by omega)]; exact b7
  · rw [hD _ _ (by omega) (by omega) (by omega) (by omega) (by omega), hB _ _ (by omega)]; exact a5
  · rw [hD _ _ (by omega) (by omega) (by omega) (by omega) (by omega), hB _ _ (by omega)]; exact a6
  · rw [hD _ _ (by omega) (by omega) (by omega) (by omega) (by omega), hB _ _ (by omega)]; exact a7
  · rw [hD _ _ (by omega) (by omega) (by omega) (by omega) (by omega), hB _ _ (by omega), hB _ _ (by omega), hB _ _ (by omega)]; exact a8
/-- one field of a car changes -/
theorem rs_car {C : mMem} {s : Nat} {A : aS} {c k v : Int} {a : Nat} (h : RelS C s A) (hc : 0 ≤ c ∧ c < A 30 1) (hk : (k = 10 ∧ a = s + 10) ∨ (k = 11 ∧ a = s + 11) ∨ (k = 12 ∧ a = s + 12) ∨ (k = 13 ∧ a = s + 13) ∨ (k = 15 ∧ a = s + 16) ∨ (k = 14 ∧ a = s + 17)) : RelS (mUp C a c.toNat (iz v)) s (aUp A k c v) := by
  obtain ⟨a1, a2, a3, a4, aP, aK, a5, a6, a7, a8⟩ := h
  have e2 : aUp A k c v 30 2 = A 30 2 := aUp_k (by omega)
  have e3 : ∀ q, aUp A k c v 3 q = A 3 q := fun q => aUp_k (by omega)
  have e4 : ∀ q, aUp A k c v 4 q = A 4 q := fun q => aUp_k (by omega)
  have g1 : aCmg (aUp A k c v) = aCmg A := by unfold aCmg; simp only [e2, e3]
  have g2 : aLse (aUp A k c v) = aLse A := by unfold aLse; simp only [e2, e3, e4]
  have g3 : aThr (aUp A k c v) = aThr A := by unfold aThr; simp only [e2, e3]
  have g4 : ∀ d, aRid (aUp A k c v) d = aRid A d := fun d => by unfold aRid; simp only [e2, e3, e4]
  have g5 : ∀ d, aGiv (aUp A k c v) d = aGiv A d := fun d => by unfold aGiv; simp only [e2, e3, e4]
  refine ⟨?_, ?_, ?_, ?_, fun q q0 q1 => ?_, fun d d0 d1 => ?_, ?_, ?_, ?_, ?_⟩
  · rw [up_k (by omega), e2]; exact a1
  · rw [up_k (by omega), g1]; exact a2
  · rw [up_k (by omega), g2]; exact a3
  · rw [up_k (by omega), g3]; exact a4
  · rw [e2] at q1
    have := aP q q0 q1
    unfold RelP aWt aRd at this ⊢
    rw [up_k (by omega), up_k (by omega), up_k (by omega), up_k (by omega), up_k (by omega), up_k (by omega), up_k (by omega), aUp_k (by omega), aUp_k (by omega), aUp_k (by omega), aUp_k (by omega), aUp_k (by omega), aUp_k (by omega), aUp_k (by omega)]
    exact this
  · rw [aUp_k (by omega)] at d1
    have := aK d d0 d1
    unfold RelK at this ⊢
    rw [g4, g5]
    by_cases e : d = c
    · subst e
      rcases hk with ⟨rfl, rfl⟩ | ⟨rfl, rfl⟩ | ⟨rfl, rfl⟩ | ⟨rfl, rfl⟩ | ⟨rfl, rfl⟩ | ⟨rfl, rfl⟩
      all_goals simp (disch := omega) only [up_at, up_k, aUp_at, aUp_k, this, and_self]
    · have ej : ∀ b, mUp C a c.toNat (iz v) b d.toNat = C b d.toNat := fun b => by
        rw [up_ap]; split
        · rw [if_neg (by omega)]
        · rfl
      simp (disch := omega) only [ej, aUp_i]
      exact this
  · rw [up_k (by omega), aUp_k (by omega)]; exact a5
  · rw [up_k (by omega), aUp_k (by omega)]; exact a6
  · rw [up_k (by omega), aUp_k (by omega)]; exact a7
  · rw [up_k (by omega), aUp_k (by omega), aUp_k (by omega), aUp_k (by omega)]; exact a8
/-- a scene's other scalars -/
theorem rs_fr {C D : mMem} {s : Nat} {A B : aS} (h : RelS C s A) (hD : ∀ a i, s < a → a ≤ s + 17 → D a i = C a i) (hB : ∀ k q, k ≠ 30 → k ≠ 32 → B k q = A k q) (b1 : B 30 1 = A 30 1) (b2 : B 30 2 = A 30 2)
    (d4 : D s 4 = iz (B 30 3)) (d5 : D s 5 = iz (B 32 1)) (d7 : D s 7 = iz (B 32 0)) (d6 : 0 ≤ B 32 0 ∨ 0 ≤ B 32 1 → D s 6 = iz (B 32 2)) : RelS D s B := by
  obtain ⟨a1, a2, a3, a4, aP, aK, a5, a6, a7, a8⟩ := h
  have g1 : aCmg B = aCmg A := by unfold aCmg; simp (disch := omega) only [b2, hB]
  have g2 : aLse B = aLse A := by unfold aLse; simp (disch := omega) only [b2, hB]
  have g3 : aThr B = aThr A := by unfold aThr; simp (disch := omega) only [b2, hB]
  have g4 : ∀ d, aRid B d = aRid A d := fun d => by unfold aRid; simp (disch := omega) only [b2, hB]
  have g5 : ∀ d, aGiv B d = aGiv A d := fun d => by unfold aGiv; simp (disch := omega) only [b2, hB]
  refine ⟨?_, ?_, ?_, ?_, fun q q0 q1 => ?_, fun d d0 d1 => ?_, d4, d5, d7, d6⟩
  · rw [hD _ _ (by omega) (by omega), b2]; exact a1
  · rw [hD _ _ (by omega) (by omega), g1]; exact a2
  · rw [hD _ _ (by omega) (by omega), g2]; exact a3
  · rw [hD _ _ (by omega) (by omega), g3]; exact a4
  · rw [b2] at q1
    have := aP q q0 q1
    unfold RelP aWt aRd at this ⊢
    simp (disch := omega) only [hD, hB]
    exact this
  · rw [b1] at d1
    have := aK d d0 d1
    unfold RelK at this ⊢
    simp (disch := omega) only [hD, hB, g4, g5]
    exact this

/-! mornings: once all calls are given alike the rules say no more -/
def Settled (A : aS) : Prop := ∀ p, 0 ≤ p → p < A 30 2 → A 3 p ≠ 0 ∧ 0 ≤ A 4 p
section
variable {A A' B : aS} {C : mMem} {Rs : Int → aS} {m n k k' : Int}
theorem settled_sec {ch ch' : aS → Int → Int} (h : Settled A) : aSec ch A = aSec ch' A ∧ Settled (aSec ch A) := by
  have e1 : aCome A (A 30 2).toNat = A := aCome_id (fun i hi z => (h i (by omega) (by omega)).1 z.1)
  have e2 : ∀ ch, aGv ch A (A 30 2).toNat = A := fun ch => aGv_id (fun i hi z z' => by have := (h i (by omega) (by omega)).2; omega)
  have e3 : ∀ ch, aSec ch A = aUp (aCars A (A 30 1).toNat) 30 3 (A 30 3 + 1) := fun ch => by
    unfold aSec
    rw [e1, e2]
  refine ⟨by rw [e3 ch, e3 ch'], fun p p0 p1 => ?_⟩
  rw [aSec_r (by omega)] at p1
  have := h p p0 p1
  rw [e3, aUp_k (by omega), aUp_k (by omega)]
  refine ⟨fun z => this.1 (aCars_3 z), ?_⟩
  rw [aCars_r (by omega)]; exact this.2
theorem settled_it {ch ch' : aS → Int → Int} (h : Settled A) (j : Nat) : aIt ch A j = aIt ch' A j ∧ Settled (aIt ch A j) := by
  induction j with
  | zero => exact ⟨rfl, h⟩
  | succ j ih =>
    rw [aIt, aIt, ← ih.1]
    exact settled_sec ih.2
theorem aGv_neg {ch : aS → Int → Int} {j : Nat} {k p : Int} (h : p < 0) : aGv ch A j k p = A k p := by
  induction j with
  | zero => rfl
  | succ j ih =>
    rw [aGv]
    split
    · rw [aUp_i (by omega)]; exact ih
    · exact ih
theorem giv_rg {X : aS} (hw : WfA X) (hN : X 30 2 = m) (hm : m = 1 ∨ m = 2) : -5 ≤ giv X m ∧ giv X m ≤ 15 := by
  have hg := hw.1.1
  unfold WfG at hg
  have h0 := hw.1.2.1 0 (by omega) (by omega)
  unfold WfP at h0
  have z0 : -1 ≤ X 4 0 ∧ X 4 0 ≤ 3 := by omega
  clear h0
  unfold giv
  split
  · omega
  · rcases hm with rfl | rfl
    · show -5 ≤ gvN X 0 * 4 + X 4 (0 : Nat) ∧ gvN X 0 * 4 + X 4 (0 : Nat) ≤ 15
      rw [gvN]; simp only [Int.natCast_zero]; omega
    · have h1 := hw.1.2.1 1 (by omega) (by omega)
      unfold WfP at h1
      have z1 : -1 ≤ X 4 1 ∧ X 4 1 ≤ 3 := by omega
      show -5 ≤ (gvN X 0 * 4 + X 4 (0 : Nat)) * 4 + X 4 (1 : Nat) ∧ (gvN X 0 * 4 + X 4 (0 : Nat)) * 4 + X 4 (1 : Nat) ≤ 15
      rw [gvN]; simp only [Int.natCast_zero, Int.natCast_one]; omega
/-- nobody is loose: all have a car -/
theorem given_all {X : aS} (hw : WfA X) (h3 : ∀ p, 0 ≤ p → p < X 30 2 → X 3 p ≠ 0) (hl : ¬ 0 < aLse X) {p : Int} (p0 : 0 ≤ p) (p1 : p < X 30 2) : 0 ≤ X 4 p ∧ X 4 p ≤ 3 := by
  have hg := hw.1.1
  unfold WfG at hg
  have hp := hw.1.2.1 p p0 p1
  have n0 := h3 p p0 p1
  unfold WfP at hp
  have hz : ¬ (X 3 p = 1 ∧ X 4 p = -1) := by
    intro z
    have := cnt_pos (f := fun p => decide (X 3 p = 1 ∧ X 4 p = -1)) (n := (X 30 2).toNat) p.toNat (by omega) (by rw [show ((p.toNat : Nat) : Int) = p by omega]; exact decide_eq_true z)
    unfold aLse at hl
    omega
  omega
theorem giv_same {ca cb : aS → Int → Int} (ha : ChR ca) (hb : ChR cb) (hw : WfA B) (h3 : ∀ p, 0 ≤ p → p < m → B 3 p = 0 ∧ B 0 p = 0) (hnow : B 30 3 = 0) (hN : B 30 2 = m) (hm : m = 1 ∨ m = 2) (g1 : giv (aSec ca B) m ≠ -1) (g2 : giv (aSec ca B) m = giv (aSec cb B) m) (j : Nat) : aIt ca B j = aIt cb B j := by
  have key : ∀ ch, ChR ch → giv (aSec ch B) m ≠ -1 → (∀ p, 0 ≤ p → p < m → aSec ch B 3 p ≠ 0 ∧ 0 ≤ aSec ch B 4 p ∧ aSec ch B 4 p ≤ 3) ∧ giv (aSec ch B) m = gvN (aSec ch B) m.toNat := by
    intro ch hch g
    have hl : ¬ 0 < aLse (aSec ch B) := fun z => g (by unfold giv; rw [if_pos z])
    have hX := WfA_sec hch hw (by omega)
    have hXN : aSec ch B 30 2 = m := by rw [aSec_r (by omega)]; exact hN
    have hs3 : ∀ p, 0 ≤ p → p < aSec ch B 30 2 → aSec ch B 3 p ≠ 0 := by
      intro p p0 p1 z
      rw [hXN] at p1
      unfold aSec at z
      rw [aUp_k (by omega)] at z
      have z := aCars_3 z
      rw [aGv_r (by omega), aCome_3 (by omega), if_pos (by rw [hnow]; exact h3 p p0 p1)] at z
      omega
    refine ⟨fun p p0 p1 => ⟨hs3 p p0 (by omega), given_all hX hs3 hl p0 (by omega)⟩, ?_⟩
    unfold giv
    rw [if_neg hl]
  obtain ⟨ka, ga⟩ := key ca ha g1
  obtain ⟨kb, gb⟩ := key cb hb (by rw [← g2]; exact g1)
  have hrow : ∀ p, 0 ≤ p → p < m → aSec ca B 4 p = aSec cb B 4 p := by
    rw [ga, gb] at g2
    have a0 := (ka 0 (by omega) (by omega)).2
    have b0 := (kb 0 (by omega) (by omega)).2
    rcases hm with rfl | rfl
    · have g2 : gvN (aSec ca B) 0 * 4 + aSec ca B 4 (0 : Nat) = gvN (aSec cb B) 0 * 4 + aSec cb B 4 (0 : Nat) := g2
      rw [gvN, gvN] at g2
      simp only [Int.natCast_zero] at g2
      intro p p0 p1
      have : p = 0 := by omega
      subst this
      omega
    · have a1 := (ka 1 (by omega) (by omega)).2
      have b1 := (kb 1 (by omega) (by omega)).2
      have g2 : (gvN (aSec ca B) 0 * 4 + aSec ca B 4 (0 : Nat)) * 4 + aSec ca B 4 (1 : Nat) = (gvN (aSec cb B) 0 * 4 + aSec cb B 4 (0 : Nat)) * 4 + aSec cb B 4 (1 : Nat) := g2
      rw [gvN, gvN] at g2
      simp only [Int.natCast_zero, Int.natCast_one] at g2
      intro p p0 p1
      rcases (by omega : p = 0 ∨ p = 1) with rfl | rfl <;> omega
  have h4 : ∀ ch p, aSec ch B 4 p = aGv ch (aCome B (B 30 2).toNat) (B 30 2).toNat 4 p := fun ch p => by
    unfold aSec
    rw [aUp_k (by omega), aCars_r (by omega)]
  have hY : aGv ca (aCome B (B 30 2).toNat) (B 30 2).toNat = aGv cb (aCome B (B 30 2).toNat) (B 30 2).toNat := by
    funext r p
    by_cases e : r = 4
    · subst e
      by_cases p0 : p < 0
      · rw [aGv_neg p0, aGv_neg p0]
      · by_cases p1 : p < m
        · rw [← h4, ← h4]; exact hrow p (by omega) p1
        · rw [aGv_ge (by omega), aGv_ge (by omega)]
    · rw [aGv_r e, aGv_r e]
  have hX : aSec ca B = aSec cb B := by
    unfold aSec
    rw [hY]
  have hS : Settled (aSec ca B) := fun p p0 p1 => by
    rw [aSec_r (by omega), hN] at p1
    have := ka p p0 p1
    exact ⟨this.1, this.2.1⟩
  cases j with
  | zero => rfl
  | succ j =>
    rw [Nat.add_comm j 1, ← aIt_add, ← aIt_add]
    show aIt ca (aSec ca B) j = aIt cb (aSec cb B) j
    rw [← hX]
    exact (settled_it hS j).1
theorem mIn_t (hT : Tow A A') (h : MIn A m n) : MIn A' m n := by
  unfold MIn at h ⊢
  rw [hT.1]; exact h
/-- what a rule comes to on a morning -/
theorem val_ex (hW : InvW C A Rs) (h : MIn A m n) (hk : 0 ≤ k ∧ k ≤ 2) : ∃ v : Int, (0 ≤ v ∧ v ≤ 4000000) ∧ ∀ A' k' g, Tow A A' → 0 ≤ k' ∧ k' ≤ 2 → aEnd (aCh1 (evR (Rs k))) (aMor A' m n k') 1000 g → aOver (aIt (aCh1 (evR (Rs k))) (aMor A' m n k') g) m 999999 = v := by
  have hWW := hW.2.2.2.2
  have t0 : Tow A A := ⟨rfl, rfl, fun _ _ _ _ => rfl, fun _ _ _ => rfl, hWW.2.2.1, hWW.2.2.2.1, hWW.1⟩
  have all : ∀ A' k' g, Tow A A' → 0 ≤ k' ∧ k' ≤ 2 → aEnd (aCh1 (evR (Rs k))) (aMor A' m n k') 1000 g → ∃ D, f_F_overOfMorning [.ref 0, .int (iz k), .int (iz m), .int (iz n)] C = some (some (iz (aOver (aIt (aCh1 (evR (Rs k))) (aMor A' m n k') g) m 999999)), D) ∧ 0 ≤ aOver (aIt (aCh1 (evR (Rs k))) (aMor A' m n k') g) m 999999 ∧ aOver (aIt (aCh1 (evR (Rs k))) (aMor A' m n k') g) m 999999 ≤ 4000000 := by
    intro A' k' g hT hk' he
    obtain ⟨g', D, e1, e2, _, e4⟩ := rc_overMor hW hT (mIn_t hT h) hk' hk
    have := aEnd_1 he e2
    subst this
    refine ⟨D, e1, ?_⟩
    unfold aOver
    split
    · omega
    · exact e4 (by assumption)
  obtain ⟨g0, _, _, e0, _⟩ := rc_overMor hW t0 h hk hk
  obtain ⟨D0, x0, x1, x2⟩ := all A k g0 t0 hk e0
  refine ⟨_, ⟨x1, x2⟩, fun A' k' g hT hk' he => ?_⟩
  obtain ⟨D1, y0, y1, y2⟩ := all A' k' g hT hk' he
  have := x0.symm.trans y0
  simp only [Option.some.injEq, Prod.mk.injEq] at this
  exact ((iz_inj (by omega)).mp this.1).symm
theorem rc_isWorse {a b va vb : Int} (hW : InvW C A Rs) (h : MIn A m n) (ha : 0 ≤ a ∧ a ≤ 2) (hb : 0 ≤ b ∧ b ≤ 2) (ra : 0 ≤ va ∧ va ≤ 4000000) (rb : 0 ≤ vb ∧ vb ≤ 4000000)
    (hva : ∀ A' k' g, Tow A A' → 0 ≤ k' ∧ k' ≤ 2 → aEnd (aCh1 (evR (Rs a))) (aMor A' m n k') 1000 g → aOver (aIt (aCh1 (evR (Rs a))) (aMor A' m n k') g) m 999999 = va)
    (hvb : ∀ A' k' g, Tow A A' → 0 ≤ k' ∧ k' ≤ 2 → aEnd (aCh1 (evR (Rs b))) (aMor A' m n k') 1000 g → aOver (aIt (aCh1 (evR (Rs b))) (aMor A' m n k') g) m 999999 = vb) :
    ∃ D, f_F_isWorse [.ref 0, .int (iz a), .int (iz b), .int (iz m), .int (iz n)] C = some (some (bI (decide (vb < va))), D) ∧ FrF 106 C D := by
  have hWW := hW.2.2.2.2
  have t0 : Tow A A := ⟨rfl, rfl, fun _ _ _ _ => rfl, fun _ _ _ => rfl, hWW.2.2.1, hWW.2.2.2.1, hWW.1⟩
  have wM := WfA_mor hWW.1 ha hWW.2.2.1 hWW.2.2.2.1 h
  obtain ⟨D1, e1, f1⟩ := rc_first hW t0 h ha ha
  have hW1 := invW_F106 hW f1
  obtain ⟨D2, e2, f2⟩ := rc_first hW1 t0 h ha hb
  have hW2 := invW_F106 hW1 f2
  obtain ⟨ga, D3, e3, x3, f3, _⟩ := rc_overMor hW2 t0 h ha ha
  rw [hva A a ga t0 ha x3] at e3
  have hW3 := invW_F106 hW2 f3
  obtain ⟨gb, D4, e4, x4, f4, _⟩ := rc_overMor hW3 t0 h ha hb
  rw [hvb A a gb t0 ha x4] at e4
  have e30 : aMor A m n a 30 3 = 0 := by rw [aMor_r (by omega), aEmp_3]
  have rg : ∀ k, -5 ≤ giv (aSec (aCh1 (evR (Rs k))) (aMor A m n a)) m ∧ giv (aSec (aCh1 (evR (Rs k))) (aMor A m n a)) m ≤ 15 := fun k => giv_rg (WfA_sec (aCh1_rg _) wM (by omega)) (by rw [aSec_r (by omega)]; exact aMor_n h.2.1) h.2.1
  have rga := rg a
  have rgb := rg b
  by_cases g : giv (aSec (aCh1 (evR (Rs a))) (aMor A m n a)) m ≠ -1 ∧ giv (aSec (aCh1 (evR (Rs a))) (aMor A m n a)) m = giv (aSec (aCh1 (evR (Rs b))) (aMor A m n a)) m
  · refine ⟨D2, ?_, frF_t f1 f2⟩
    have same := giv_same (aCh1_rg (evR (Rs a))) (aCh1_rg (evR (Rs b))) wM (fun p p0 p1 => by have := aMor_p (A := A) (n := n) (k := a) h.2.1 ⟨p0, p1⟩; exact ⟨this.2.1, this.1⟩) e30 (aMor_n h.2.1) h.2.1 g.1 g.2
    have x3' : aEnd (aCh1 (evR (Rs b))) (aMor A m n a) 1000 ga := by
      obtain ⟨y1, y2, y3⟩ := x3
      refine ⟨y1, fun j hj => ?_, ?_⟩
      · rw [← same]; exact y2 j hj
      · rw [← same]; exact y3
    have q1 := hva A a ga t0 ha x3
    have q2 := hvb A a ga t0 ha x3'
    rw [same, q2] at q1
    have : ¬ vb < va := by omega
    rw [decide_eq_false this]
    have g1 := g.1
    have g2 := g.2
    generalize giv (aSec (aCh1 (evR (Rs a))) (aMor A m n a)) m = u at *
    generalize giv (aSec (aCh1 (evR (Rs b))) (aMor A m n a)) m = w at *
    clear hva hvb same rg
    subst g2
    apply wF_to
    unfold f_F_isWorse
    simp only [↓w_rcv, ↓w_bodyI, ↓w_bodyZ, ↓w_bodyV, true_and, List.length_cons, List.length_nil, Nat.reduceAdd, Nat.reduceSub, Nat.reduceLeDiff, List.replicate_succ, List.replicate_zero, List.cons_append, List.nil_append, List.append_nil, ↓tO_0, ↓tO_2, ↓tO_6, ↓tO_11, ↓tO_18, ↓tO_19, ↓tO_27, ↓tO_32, ↓tO_37, ↓tO_43, ↓tO_44, ↓tO_52, ↓tO_62, ↓tO_63, ↓tO_71, ↓tO_76, ↓tO_81, ↓tO_87, ↓tO_88, ↓tO_96, ↓tO_106, ↓tO_107, ↓tO_115, ↓tO_127, ↓tO_127c, ↓tO_133, ↓tO_133c, ↓tO_139]
    unfold S_F_isWorse
    simp (disch := omega) only [↓w_eBin, ↓w_eUn, ↓w_eDiv, ↓w_eRem, ↓w_eFld, ↓w_rFld, ↓w_eALd, ↓w_rALd, ↓w_eALen, ↓w_rStr, ↓w_aNil, ↓w_aI, ↓w_aR, ↓w_N, ↓w_eCall, ↓w_X, ↓w_bCmp, ↓w_bAnd, ↓w_bOr, ↓w_bNot, ↓w_eB, ↓w_eIte, ↓w_sSkip, ↓w_sRet, ↓w_sRetZ, ↓w_sRetV, ↓w_sBrk, ↓w_sCont, ↓w_sIf, ↓w_sSeq, ↓w_sCaC, ↓w_sCaB, ↓w_sSw, ↓w_sCall, ↓w_sPut, ↓w_sPutOp, ↓w_sASt, ↓w_sAOp, ↓w_sADiv, ↓w_eLoc0, ↓w_rLoc0, ↓w_sSet0, ↓w_sSetR0, ↓w_sIncP0, ↓w_sIncM0, ↓w_eLoc1, ↓w_rLoc1, ↓w_sSet1, ↓w_sSetR1, ↓w_sIncP1, ↓w_sIncM1, ↓w_eLoc2, ↓w_rLoc2, ↓w_sSet2, ↓w_sSetR2, ↓w_sIncP2, ↓w_sIncM2, ↓w_eLoc3, ↓w_rLoc3, ↓w_sSet3, ↓w_sSetR3, ↓w_sIncP3, ↓w_sIncM3, ↓w_eLoc4, ↓w_rLoc4, ↓w_sSet4, ↓w_sSetR4, ↓w_sIncP4, ↓w_sIncM4, ↓w_eLoc5, ↓w_rLoc5, ↓w_sSet5, ↓w_sSetR5, ↓w_sIncP5, ↓w_sIncM5, ↓w_eLoc6, ↓w_rLoc6, ↓w_sSet6, ↓w_sSetR6, ↓w_sIncP6, ↓w_sIncM6, ↓w_eLoc7, ↓w_rLoc7, ↓w_sSet7, ↓w_sSetR7, ↓w_sIncP7, ↓w_sIncM7, ↓w_eLoc8, ↓w_rLoc8, ↓w_sSet8, ↓w_sSetR8, ↓w_sIncP8, ↓w_sIncM8, ↓w_eLoc9, ↓w_rLoc9, ↓w_sSet9, ↓w_sSetR9, ↓w_sIncP9, ↓w_sIncM9, ↓w_eLoc10, ↓w_rLoc10, ↓w_sSet10, ↓w_sSetR10, ↓w_sIncP10, ↓w_sIncM10, ↓w_eLoc11, ↓w_rLoc11, ↓w_sSet11, ↓w_sSetR11, ↓w_sIncP11, ↓w_sIncM11, ↓w_eLoc12, ↓w_rLoc12, ↓w_sSet12, ↓w_sSetR12, ↓w_sIncP12, ↓w_sIncM12, ↓w_eLoc13, ↓w_rLoc13, ↓w_sSet13, ↓w_sSetR13, ↓w_sIncP13, ↓w_sIncM13, ↓w_eIntN, ↓w_eIntM, ↓w_bZi, ↓w_add, ↓w_sub, ↓w_mul, ↓w_neg, ↓w_nar, ↓w_div, ↓w_ldne, ↓w_ldat, ↓w_ldj, List.length_cons, List.length_nil, Nat.reduceAdd, Nat.reduceSub, Nat.reduceLeDiff, List.replicate_succ, List.replicate_zero, List.cons_append, List.nil_append, List.append_nil, iz_nI, iz_ofNat, iz_add, iz_sub, iz_mul, cz_lt, cz_le, cz_gt, cz_ge, cz_eq, cz_ne, mIn_iz, iz_nat, decide_eq_true_eq, Bool.not_eq_true', decide_eq_false_iff_not, true_and, and_true, ↓reduceIte, not_true_eq_false, not_false_eq_true, w01_bI, w01_i0, w01_i1, bI_ne', bI_eq', bI_t, bI_f, Bool.false_eq_true, false_implies, forall_const, implies_true, true_implies, imp_self, eq_self, cz10, cz00, Bool.true_eq_false, Bool.not_true, Bool.not_false, decide_true, decide_false, ↓tO_0, ↓tR_0_0, ↓tI_0_1, ↓tR_0_2, ↓tR_0_3, ↓tR_0_4, ↓tR_0_5, ↓tR_0_6, ↓tI_0_7, ↓tR_0_8, ↓tR_0_9, ↓tR_0_10, ↓tR_0_11, ↓tR_0_12, ↓tO_18, ↓tR_18_0, ↓tR_18_1, ↓tR_18_2, ↓tR_18_3, ↓tI_18_4, ↓tO_19, ↓tI_19_0, ↓tI_19_1, ↓tI_19_2, ↓tR_19_3, ↓tR_19_4, ↓tR_19_5, ↓tR_19_6, ↓tR_19_7, ↓tR_19_8, ↓tA_20, ↓tN_20, ↓tA_21, ↓tN_21, ↓tA_22, ↓tN_22, ↓tA_23, ↓tN_23, ↓tA_24, ↓tN_24, ↓tA_25, ↓tN_25, ↓tA_42, ↓tN_42, ↓tO_43, ↓tR_43_0, ↓tR_43_1, ↓tR_43_2, ↓tR_43_3, ↓tI_43_4, ↓tI_43_5, ↓tI_43_6, ↓tI_43_7, ↓tI_43_8, ↓tO_44, ↓tI_44_0, ↓tI_44_1, ↓tI_44_2, ↓tI_44_3, ↓tR_44_4, ↓tR_44_5, ↓tR_44_6, ↓tR_44_7, ↓tR_44_8, ↓tR_44_9, ↓tR_44_10, ↓tO_52, ↓tR_52_0, ↓tR_52_1, ↓tR_52_2, ↓tR_52_3, ↓tR_52_4, ↓tR_52_5, ↓tR_52_6, ↓tR_52_7, ↓tO_106, ↓tR_106_0, ↓tR_106_1, ↓tR_106_2, ↓tR_106_3, ↓tI_106_4, ↓tI_106_5, ↓tI_106_6, ↓tI_106_7, ↓tI_106_8, ↓tO_107, ↓tI_107_0, ↓tI_107_1, ↓tI_107_2, ↓tI_107_3, ↓tR_107_4, ↓tR_107_5, ↓tR_107_6, ↓tR_107_7, ↓tR_107_8, ↓tR_107_9, ↓tR_107_10, ↓tA_108, ↓tN_108, ↓tA_109, ↓tN_109, ↓tA_110, ↓tN_110, ↓tA_111, ↓tN_111, ↓tA_112, ↓tN_112, ↓tA_113, ↓tN_113, ↓tA_114, ↓tN_114, ↓tO_115, ↓tR_115_0, ↓tR_115_1, ↓tR_115_2, ↓tR_115_3, ↓tR_115_4, ↓tR_115_5, ↓tR_115_6, ↓tR_115_7, ↓tA_116, ↓tN_116, ↓tA_117, ↓tN_117, ↓tA_118, ↓tN_118, ↓tA_119, ↓tN_119, ↓tA_120, ↓tN_120, ↓tA_121, ↓tN_121, ↓tA_122, ↓tN_122, ↓tA_123, ↓tN_123, ↓tA_124, ↓tN_124, ↓wF_eq e1, ↓wF_eq e2, g1, and_self]
    rfl
  · refine ⟨D4, ?_, frF_t f1 (frF_t f2 (frF_t f3 f4))⟩
    generalize giv (aSec (aCh1 (evR (Rs a))) (aMor A m n a)) m = u at *
    generalize giv (aSec (aCh1 (evR (Rs b))) (aMor A m n a)) m = w at *
    clear hva hvb rg
    apply wF_to
    unfold f_F_isWorse
    simp only [↓w_rcv, ↓w_bodyI, ↓w_bodyZ, ↓w_bodyV, true_and, List.length_cons, List.length_nil, Nat.reduceAdd, Nat.reduceSub, Nat.reduceLeDiff, List.replicate_succ, List.replicate_zero, List.cons_append, List.nil_append, List.append_nil, ↓tO_0, ↓tO_2, ↓tO_6, ↓tO_11, ↓tO_18, ↓tO_19, ↓tO_27, ↓tO_32, ↓tO_37, ↓tO_43, ↓tO_44, ↓tO_52, ↓tO_62, ↓tO_63, ↓tO_71, ↓tO_76, ↓tO_81, ↓tO_87, ↓tO_88, ↓tO_96, ↓tO_106, ↓tO_107, ↓tO_115, ↓tO_127, ↓tO_127c, ↓tO_133, ↓tO_133c, ↓tO_139]
    unfold S_F_isWorse
    by_cases g1 : u = -1
    · simp (disch := omega) only [↓w_eBin, ↓w_eUn, ↓w_eDiv, ↓w_eRem, ↓w_eFld, ↓w_rFld, ↓w_eALd, ↓w_rALd, ↓w_eALen, ↓w_rStr, ↓w_aNil, ↓w_aI, ↓w_aR, ↓w_N, ↓w_eCall, ↓w_X, ↓w_bCmp, ↓w_bAnd, ↓w_bOr, ↓w_bNot, ↓w_eB, ↓w_eIte, ↓w_sSkip, ↓w_sRet, ↓w_sRetZ, ↓w_sRetV, ↓w_sBrk, ↓w_sCont, ↓w_sIf, ↓w_sSeq, ↓w_sCaC, ↓w_sCaB, ↓w_sSw, ↓w_sCall, ↓w_sPut, ↓w_sPutOp, ↓w_sASt, ↓w_sAOp, ↓w_sADiv, ↓w_eLoc0, ↓w_rLoc0, ↓w_sSet0, ↓w_sSetR0, ↓w_sIncP0, ↓w_sIncM0, ↓w_eLoc1, ↓w_rLoc1, ↓w_sSet1, ↓w_sSetR1, ↓w_sIncP1, ↓w_sIncM1, ↓w_eLoc2, ↓w_rLoc2, ↓w_sSet2, ↓w_sSetR2, ↓w_sIncP2, ↓w_sIncM2, ↓w_eLoc3, ↓w_rLoc3, ↓w_sSet3, ↓w_sSetR3, ↓w_sIncP3, ↓w_sIncM3, ↓w_eLoc4, ↓w_rLoc4, ↓w_sSet4, ↓w_sSetR4, ↓w_sIncP4, ↓w_sIncM4, ↓w_eLoc5, ↓w_rLoc5, ↓w_sSet5, ↓w_sSetR5, ↓w_sIncP5, ↓w_sIncM5, ↓w_eLoc6, ↓w_rLoc6, ↓w_sSet6, ↓w_sSetR6, ↓w_sIncP6, ↓w_sIncM6, ↓w_eLoc7, ↓w_rLoc7, ↓w_sSet7, ↓w_sSetR7, ↓w_sIncP7, ↓w_sIncM7, ↓w_eLoc8, ↓w_rLoc8, ↓w_sSet8, ↓w_sSetR8, ↓w_sIncP8, ↓w_sIncM8, ↓w_eLoc9, ↓w_rLoc9, ↓w_sSet9, ↓w_sSetR9, ↓w_sIncP9, ↓w_sIncM9, ↓w_eLoc10, ↓w_rLoc10, ↓w_sSet10, ↓w_sSetR10, ↓w_sIncP10, ↓w_sIncM10, ↓w_eLoc11, ↓w_rLoc11, ↓w_sSet11, ↓w_sSetR11, ↓w_sIncP11, ↓w_sIncM11, ↓w_eLoc12, ↓w_rLoc12, ↓w_sSet12, ↓w_sSetR12, ↓w_sIncP12, ↓w_sIncM12, ↓w_eLoc13, ↓w_rLoc13, ↓w_sSet13, ↓w_sSetR13, ↓w_sIncP13, ↓w_sIncM13, ↓w_eIntN, ↓w_eIntM, ↓w_bZi, ↓w_add, ↓w_sub, ↓w_mul, ↓w_neg, ↓w_nar, ↓w_div, ↓w_ldne, ↓w_ldat, ↓w_ldj, List.length_cons, List.length_nil, Nat.reduceAdd, Nat.reduceSub, Nat.reduceLeDiff, List.replicate_succ, List.replicate_zero, List.cons_append, List.nil_append, List.append_nil, iz_nI, iz_ofNat, iz_add, iz_sub, iz_mul, cz_lt, cz_le, cz_gt, cz_ge, cz_eq, cz_ne, mIn_iz, iz_nat, decide_eq_true_eq, Bool.not_eq_true', decide_eq_false_iff_not, true_and, and_true, ↓reduceIte, not_true_eq_false, not_false_eq_true, w01_bI, w01_i0, w01_i1, bI_ne', bI_eq', bI_t, bI_f, Bool.false_eq_true, false_implies, forall_const, implies_true, true_implies, imp_self, eq_self, cz10, cz00, Bool.true_eq_false, Bool.not_true, Bool.not_false, decide_true, decide_false, ↓tO_0, ↓tR_0_0, ↓tI_0_1, ↓tR_0_2, ↓tR_0_3, ↓tR_0_4, ↓tR_0_5, ↓tR_0_6, ↓tI_0_7, ↓tR_0_8, ↓tR_0_9, ↓tR_0_10, ↓tR_0_11, ↓tR_0_12, ↓tO_18, ↓tR_18_0, ↓tR_18_1, ↓tR_18_2, ↓tR_18_3, ↓tI_18_4, ↓tO_19, ↓tI_19_0, ↓tI_19_1, ↓tI_19_2, ↓tR_19_3, ↓tR_19_4, ↓tR_19_5, ↓tR_19_6, ↓tR_19_7, ↓tR_19_8, ↓tA_20, ↓tN_20, ↓tA_21, ↓tN_21, ↓tA_22, ↓tN_22, ↓tA_23, ↓tN_23, ↓tA_24, ↓tN_24, ↓tA_25, ↓tN_25, ↓tA_42, ↓tN_42, ↓tO_43, ↓tR_43_0, ↓tR_43_1, ↓tR_43_2, ↓tR_43_3, ↓tI_43_4, ↓tI_43_5, ↓tI_43_6, ↓tI_43_7, ↓tI_43_8, ↓tO_44, ↓tI_44_0, ↓tI_44_1, ↓tI_44_2, ↓tI_44_3, ↓tR_44_4, ↓tR_44_5, ↓tR_44_6, ↓tR_44_7, ↓tR_44_8, ↓tR_44_9, ↓tR_44_10, ↓tO_52, ↓tR_52_0, ↓tR_52_1, ↓tR_52_2, ↓tR_52_3, ↓tR_52_4, ↓tR_52_5, ↓tR_52_6, ↓tR_52_7, ↓tO_106, ↓tR_106_0, ↓tR_106_1, ↓tR_106_2, ↓tR_106_3, ↓tI_106_4, ↓tI_106_5, ↓tI_106_6, ↓tI_106_7, ↓tI_106_8, ↓tO_107, ↓tI_107_0, ↓tI_107_1, ↓tI_107_2, ↓tI_107_3, ↓tR_107_4, ↓tR_107_5, ↓tR_107_6, ↓tR_107_7, ↓tR_107_8, ↓tR_107_9, ↓tR_107_10, ↓tA_108, ↓tN_108, ↓tA_109, ↓tN_109, ↓tA_110, ↓tN_110, ↓tA_111, ↓tN_111, ↓tA_112, ↓tN_112, ↓tA_113, ↓tN_113, ↓tA_114, ↓tN_114, ↓tO_115, ↓tR_115_0, ↓tR_115_1, ↓tR_115_2, ↓tR_115_3, ↓tR_115_4, ↓tR_115_5, ↓tR_115_6, ↓tR_115_7, ↓tA_116, ↓tN_116, ↓tA_117, ↓tN_117, ↓tA_118, ↓tN_118, ↓tA_119, ↓tN_119, ↓tA_120, ↓tN_120, ↓tA_121, ↓tN_121, ↓tA_122, ↓tN_122, ↓tA_123, ↓tN_123, ↓tA_124, ↓tN_124, ↓wF_eq e1, ↓wF_eq e2, ↓wF_eq e3, ↓wF_eq e4, g1, and_self]
    · have g2 : ¬ u = w := fun z => g ⟨g1, z⟩
      simp (disch := omega) only [↓w_eBin, ↓w_eUn, ↓w_eDiv, ↓w_eRem, ↓w_eFld, ↓w_rFld, ↓w_eALd, ↓w_rALd, ↓w_eALen, ↓w_rStr, ↓w_aNil, ↓w_aI, ↓w_aR, ↓w_N, ↓w_eCall, ↓w_X, ↓w_bCmp, ↓w_bAnd, ↓w_bOr, ↓w_bNot, ↓w_eB, ↓w_eIte, ↓w_sSkip, ↓w_sRet, ↓w_sRetZ, ↓w_sRetV, ↓w_sBrk, ↓w_sCont, ↓w_sIf, ↓w_sSeq, ↓w_sCaC, ↓w_sCaB, ↓w_sSw, ↓w_sCall, ↓w_sPut, ↓w_sPutOp, ↓w_sASt, ↓w_sAOp, ↓w_sADiv, ↓w_eLoc0, ↓w_rLoc0, ↓w_sSet0, ↓w_sSetR0, ↓w_sIncP0, ↓w_sIncM0, ↓w_eLoc1, ↓w_rLoc1, ↓w_sSet1, ↓w_sSetR1, ↓w_sIncP1, ↓w_sIncM1, ↓w_eLoc2, ↓w_rLoc2, ↓w_sSet2, ↓w_sSetR2, ↓w_sIncP2, ↓w_sIncM2, ↓w_eLoc3, ↓w_rLoc3, ↓w_sSet3, ↓w_sSetR3, ↓w_sIncP3, ↓w_sIncM3, ↓w_eLoc4, ↓w_rLoc4, ↓w_sSet4, ↓w_sSetR4, ↓w_sIncP4, ↓w_sIncM4, ↓w_eLoc5, ↓w_rLoc5, ↓w_sSet5, ↓w_sSetR5, ↓w_sIncP5, ↓w_sIncM5, ↓w_eLoc6, ↓w_rLoc6, ↓w_sSet6, ↓w_sSetR6, ↓w_sIncP6, ↓w_sIncM6, ↓w_eLoc7, ↓w_rLoc7, ↓w_sSet7, ↓w_sSetR7, ↓w_sIncP7, ↓w_sIncM7, ↓w_eLoc8, ↓w_rLoc8, ↓w_sSet8, ↓w_sSetR8, ↓w_sIncP8, ↓w_sIncM8, ↓w_eLoc9, ↓w_rLoc9, ↓w_sSet9, ↓w_sSetR9, ↓w_sIncP9, ↓w_sIncM9, ↓w_eLoc10, ↓w_rLoc10, ↓w_sSet10, ↓w_sSetR10, ↓w_sIncP10, ↓w_sIncM10, ↓w_eLoc11, ↓w_rLoc11, ↓w_sSet11, ↓w_sSetR11, ↓w_sIncP11, ↓w_sIncM11, ↓w_eLoc12, ↓w_rLoc12, ↓w_sSet12, ↓w_sSetR12, ↓w_sIncP12, ↓w_sIncM12, ↓w_eLoc13, ↓w_rLoc13, ↓w_sSet13, ↓w_sSetR13, ↓w_sIncP13, ↓w_sIncM13, ↓w_eIntN, ↓w_eIntM, ↓w_bZi, ↓w_add, ↓w_sub, ↓w_mul, ↓w_neg, ↓w_nar, ↓w_div, ↓w_ldne, ↓w_ldat, ↓w_ldj, List.length_cons, List.length_nil, Nat.reduceAdd, Nat.reduceSub, Nat.reduceLeDiff, List.replicate_succ, List.replicate_zero, List.cons_append, List.nil_append, List.append_nil, iz_nI, iz_ofNat, iz_add, iz_sub, iz_mul, cz_lt, cz_le, cz_gt, cz_ge, cz_eq, cz_ne, mIn_iz, iz_nat, decide_eq_true_eq, Bool.not_eq_true', decide_eq_false_iff_not, true_and, and_true, ↓reduceIte, not_true_eq_false, not_false_eq_true, w01_bI, w01_i0, w01_i1, bI_ne', bI_eq', bI_t, bI_f, Bool.false_eq_true, false_implies, forall_const, implies_true, true_implies, imp_self, eq_self, cz10, cz00, Bool.true_eq_false, Bool.not_true, Bool.not_false, decide_true, decide_false, ↓tO_0, ↓tR_0_0, ↓tI_0_1, ↓tR_0_2, ↓tR_0_3, ↓tR_0_4, ↓tR_0_5, ↓tR_0_6, ↓tI_0_7, ↓tR_0_8, ↓tR_0_9, ↓tR_0_10, ↓tR_0_11, ↓tR_0_12, ↓tO_18, ↓tR_18_0, ↓tR_18_1, ↓tR_18_2, ↓tR_18_3, ↓tI_18_4, ↓tO_19, ↓tI_19_0, ↓tI_19_1, ↓tI_19_2, ↓tR_19_3, ↓tR_19_4, ↓tR_19_5, ↓tR_19_6, ↓tR_19_7, ↓tR_19_8, ↓tA_20, ↓tN_20, ↓tA_21, ↓tN_21, ↓tA_22, ↓tN_22, ↓tA_23, ↓tN_23, ↓tA_24, ↓tN_24, ↓tA_25, ↓tN_25, ↓tA_42, ↓tN_42, ↓tO_43, ↓tR_43_0, ↓tR_43_1, ↓tR_43_2, ↓tR_43_3, ↓tI_43_4, ↓tI_43_5, ↓tI_43_6, ↓tI_43_7, ↓tI_43_8, ↓tO_44, ↓tI_44_0, ↓tI_44_1, ↓tI_44_2, ↓tI_44_3, ↓tR_44_4, ↓tR_44_5, ↓tR_44_6, ↓tR_44_7, ↓tR_44_8, ↓tR_44_9, ↓tR_44_10, ↓tO_52, ↓tR_52_0, ↓tR_52_1, ↓tR_52_2, ↓tR_52_3, ↓tR_52_4, ↓tR_52_5, ↓tR_52_6, ↓tR_52_7, ↓tO_106, ↓tR_106_0, ↓tR_106_1, ↓tR_106_2, ↓tR_106_3, ↓tI_106_4, ↓tI_106_5, ↓tI_106_6, ↓tI_106_7, ↓tI_106_8, ↓tO_107, ↓tI_107_0, ↓tI_107_1, ↓tI_107_2, ↓tI_107_3, ↓tR_107_4, ↓tR_107_5, ↓tR_107_6, ↓tR_107_7, ↓tR_107_8, ↓tR_107_9, ↓tR_107_10, ↓tA_108, ↓tN_108, ↓tA_109, ↓tN_109, ↓tA_110, ↓tN_110, ↓tA_111, ↓tN_111, ↓tA_112, ↓tN_112, ↓tA_113, ↓tN_113, ↓tA_114, ↓tN_114, ↓tO_115, ↓tR_115_0, ↓tR_115_1, ↓tR_115_2, ↓tR_115_3, ↓tR_115_4, ↓tR_115_5, ↓tR_115_6, ↓tR_115_7, ↓tA_116, ↓tN_116, ↓tA_117, ↓tN_117, ↓tA_118, ↓tN_118, ↓tA_119, ↓tN_119, ↓tA_120, ↓tN_120, ↓tA_121, ↓tN_121, ↓tA_122, ↓tN_122, ↓tA_123, ↓tN_123, ↓tA_124, ↓tN_124, ↓wF_eq e1, ↓wF_eq e2, ↓wF_eq e3, ↓wF_eq e4, g1, g2, and_self]
end

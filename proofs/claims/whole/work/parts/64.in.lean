/-! who goes in: the class -/
section
variable {A : aS} {C : mMem} {s : Nat} {Q : Option Int32 → mMem → Prop}
/-- one enters -/
theorem rs_enter {p c : Int} (hs : sIs s) (h : RelS C s A) (h63 : A 6 p = -1 ∧ A 30 3 ≠ -1) (hp : 0 ≤ p ∧ p < A 30 2) (hc : 0 ≤ c ∧ c < A 30 1) (h3 : A 3 p = 1) (h4 : A 4 p = c) :
    RelS (mUp (mUp (mUp (mUp C (s + 5) p.toNat (iz 2)) (s + 7) p.toNat (iz (A 30 3 - A 0 p))) (s + 15) c.toNat (iz (aGiv A c - 1))) (s + 14) c.toNat (iz (aRid A c + 1))) s (aUp (aUp A 3 p 2) 5 p (A 30 3)) := by
  have hcn := aCnt_ch (A := A) (B := aUp (aUp A 3 p 2) 5 p (A 30 3)) hp (by rw [aUp_k (by omega), aUp_k (by omega)]) (fun q hq => ⟨by rw [aUp_k (by omega), aUp_i hq], by rw [aUp_k (by omega), aUp_k (by omega)]⟩)
  have e3 : aUp (aUp A 3 p 2) 5 p (A 30 3) 3 p = 2 := by rw [aUp_k (by omega), aUp_at]
  have e4 : aUp (aUp A 3 p 2) 5 p (A 30 3) 4 p = A 4 p := by rw [aUp_k (by omega), aUp_k (by omega)]
  have e5 : aUp (aUp A 3 p 2) 5 p (A 30 3) 5 p = A 30 3 := by rw [aUp_at]
  have e6 : aUp (aUp A 3 p 2) 5 p (A 30 3) 6 p = A 6 p := by rw [aUp_k (by omega), aUp_k (by omega)]
  have e0 : aUp (aUp A 3 p 2) 5 p (A 30 3) 0 p = A 0 p := by rw [aUp_k (by omega), aUp_k (by omega)]
  rw [e3, e4, h3, h4] at hcn
  obtain ⟨n1, n2, n3, n4, n5⟩ := hcn
  have hq := h.2.2.2.2.1 p hp.1 hp.2
  obtain ⟨b0, b1, b2, b3, b4, b5, b6⟩ := hq
  refine rs_one hs h hp (fun k q hk => ?_) (fun a i a1 a2 a3 a4 a5 => ?_) ?_ ?_ ?_ ?_ ?_ ?_ ?_ (fun d d0 d1 => ?_) (fun d d0 d1 => ?_)
  · simp only [aUp]; rw [if_neg (by omega), if_neg (by omega)]
  · simp only [up_ap]
    repeat' split
    all_goals first | rfl | (exfalso; omega)
  · rw [e3]; simp (disch := omega) only [up_k, up_at]
  · rw [e4]; simp (disch := omega) only [up_k]; exact b4
  · unfold aWt; rw [e5, e0, if_neg h63.2]; simp (disch := omega) only [up_k, up_at]
  · unfold aRd; rw [e6, if_pos h63.1]; simp (disch := omega) only [up_k]; rw [b6]; unfold aRd; rw [if_pos h63.1]
  · rw [n3]; simp (disch := omega) only [up_k, up_j]; rw [h.2.1]; simp
  · rw [n4]; simp (disch := omega) only [up_k, up_j]; rw [h.2.2.1, if_neg (by omega), if_neg (by omega)]; simp
  · rw [n5]; simp (disch := omega) only [up_k, up_at]; rw [h.2.2.2.1]; simp
  · rw [n1]
    by_cases e : d = c
    · subst e; rw [up_at]; simp
    · rw [up_j (by omega)]; simp (disch := omega) only [up_k]; rw [(h.2.2.2.2.2.1 d d0 d1).2.2.2.2.1, if_neg (by omega), if_neg (by omega)]; simp
  · rw [n2]
    by_cases e : d = c
    · subst e; rw [up_k (by omega), up_at]; simp
    · rw [up_k (by omega), up_j (by omega)]; simp (disch := omega) only [up_k]; rw [(h.2.2.2.2.2.1 d d0 d1).2.2.2.2.2.1, if_neg (by omega), if_neg (by omega)]; simp
theorem rs_fun {v : Int} (h : RelS C s A) (hv : v = -1 ∨ 0 ≤ A 32 0 ∨ 0 ≤ A 32 1) : RelS (mUp C s 7 (iz v)) s (aUp A 32 0 v) := by
  have h' := h
  obtain ⟨a1, a2, a3, a4, aP, aK, a5, a6, a7, a8⟩ := h'
  refine rs_fr h (fun a i g1 g2 => by rw [up_k (by omega)]) (fun k q k1 k2 => aUp_k k2) (aUp_k (by omega)) (aUp_k (by omega)) ?_ ?_ ?_ ?_
  · rw [up_j (by omega), aUp_k (by omega)]; exact a5
  · rw [up_j (by omega), aUp_i (by omega)]; exact a6
  · rw [up_at, aUp_at]
  · simp (disch := omega) only [up_j, aUp_at, aUp_i]; intro g; exact a8 (by omega)
theorem rs_stir {x : Int32} (h : RelS C s A) : RelS (mUp C s 8 x) s A := by
  have h' := h
  obtain ⟨a1, a2, a3, a4, aP, aK, a5, a6, a7, a8⟩ := h'
  refine rs_fr h (fun a i g1 g2 => by rw [up_k (by omega)]) (fun k q k1 k2 => rfl) rfl rfl ?_ ?_ ?_ ?_
  · rw [up_j (by omega)]; exact a5
  · rw [up_j (by omega)]; exact a6
  · rw [up_j (by omega)]; exact a7
  · rw [up_j (by omega)]; exact a8
theorem rs_now {v : Int} (h : RelS C s A) : RelS (mUp C s 4 (iz v)) s (aUp A 30 3 v) := by
  have h' := h
  obtain ⟨a1, a2, a3, a4, aP, aK, a5, a6, a7, a8⟩ := h'
  refine rs_fr h (fun a i g1 g2 => by rw [up_k (by omega)]) (fun k q k1 k2 => aUp_k k1) (aUp_i (by omega)) (aUp_i (by omega)) ?_ ?_ ?_ ?_
  · rw [up_at, aUp_at]
  · rw [up_j (by omega), aUp_k (by omega)]; exact a6
  · rw [up_j (by omega), aUp_k (by omega)]; exact a7
  · rw [up_j (by omega), aUp_k (by omega), aUp_k (by omega), aUp_k (by omega)]; exact a8
theorem aIn_rid {c : Int} {i : Nat} (hi : i ≤ (A 30 2).toNat) : aRid (aIn A c (aRid A c) i) c = aRid A c + aEn A c (aRid A c) i := by
  induction i with
  | zero => rw [aIn_zero, aEn, Int.add_zero]
  | succ i ih =>
    have ih := ih (by omega)
    cases e : aEnt A c (aRid A c) i
    · rw [aIn_no e, ih, aEn, if_neg, Int.add_zero]
      simpa [aEnt] using e
    · have hb := aEnt_brd e
      have hcn := aCnt_ch (A := aIn A c (aRid A c) i) (B := aIn A c (aRid A c) (i + 1)) (p := i) (by rw [aIn_row (by omega)]; omega) (by rw [aIn_row (by omega), aIn_row (by omega)]) (fun q hq => ⟨?_, by rw [aIn_row (by omega), aIn_row (by omega)]⟩)
      · have h1 := hcn.1 c
        rw [aIn_3 (n := i + 1) (p := i) (by omega), if_pos e, aIn_row (k := 4) (by omega), aIn_row (k := 4) (by omega), aIn_ge (n := i) (k := 3) (p := i) (by omega) (by omega), if_pos (by omega), if_neg (by omega), ih] at h1
        rw [h1, aEn, if_pos]
        · omega
        · simpa [aEnt] using e
      · rw [aIn_yes e]
        split
        · rw [aUp_k (by omega), aUp_k (by omega), aUp_i hq]
        · rw [aUp_k (by omega), aUp_i hq]
theorem aIn_stop {c r : Int} {i n : Nat} (h : aGiv (aIn A c r i) c ≤ 0) (hi : i ≤ n) (hn : n ≤ (A 30 2).toNat) : aIn A c r n = aIn A c r i ∧ aEn A c r n = aEn A c r i := by
  induction hi with
  | refl => exact ⟨rfl, rfl⟩
  | @step m hm ih =>
    have hm' : i ≤ m := hm
    obtain ⟨h1, h2⟩ := ih (by omega)
    have hf : aBrd A c m = false := by
      cases e : aBrd A c m
      · rfl
      · exfalso
        simp only [aBrd, decide_eq_true_eq] at e
        have := cnt_0 h m (by rw [aIn_row (by omega)]; omega)
        simp only [decide_eq_false_iff_not] at this
        rw [aIn_ge (by omega) (by omega), aIn_row (by omega)] at this
        exact this ⟨e.1, e.2.1⟩
    rw [aIn_no (by simp [aEnt, hf]), h1, aEn, h2, if_neg (by simp [hf])]
    exact ⟨rfl, by omega⟩
theorem RelT_s {D : mMem} (h : RelT C 19 A) (hs : sIs s) (hF : FrF s C D) {B : aS} (h0 : B 30 0 = A 30 0) (h1 : B 30 1 = A 30 1) (hB : ∀ k c, 16 ≤ k → k < 21 → B k c = A k c) (hS : ∀ k c, 40 ≤ k → B k c = A k c) : RelT D 19 B := by
  refine RelT_fr h (fun a i a1 a2 => hF a i ?_ (by omega) (Or.inl (by omega))) h0 h1 hB hS
  rcases hs with rfl | rfl <;> omega
theorem rc_letIn {c : Int} (hs : sIs s) (hM : RelF C s A) (hw : Wf A) (hc : 0 ≤ c ∧ c < A 30 1) : ∃ D, f_Sc_letIn [.ref s, .int (iz c), .int (iz (A 10 c))] C = some (some (iz (aEnN A c)), D) ∧ RelF D s (aInN A c) ∧ FrF s C D ∧ D s 8 = C s 8 := by
  have hg := hw.1
  have hcc := hw.2.2.1 c hc.1 hc.2
  unfold WfC at hcc
  unfold WfG at hg
  unfold aEnN aInN
  have hrid := fun i (hi : i ≤ (A 30 2).toNat) => aIn_rid (A := A) (c := c) hi
  have hr0 := aRid_rg A c
  generalize aRid A c = r at *
  have hT := hM.1
  have key : wF f_Sc_letIn [.ref s, .int (iz c), .int (iz (A 10 c))] C (fun o D => o = some (iz (aEn A c r (A 30 2).toNat)) ∧ RelS D s (aIn A c r (A 30 2).toNat) ∧ FrF s C D ∧ D s 8 = C s 8) := by
    unfold f_Sc_letIn
    simp only [↓w_rcv, ↓w_bodyI, ↓w_bodyZ, ↓w_bodyV, true_and, List.length_cons, List.length_nil, Nat.reduceAdd, Nat.reduceSub, Nat.reduceLeDiff, List.replicate_succ, List.replicate_zero, List.cons_append, List.nil_append, List.append_nil, ↓tO_0, ↓tO_2, ↓tO_6, ↓tO_11, ↓tO_18, ↓tO_19, ↓tO_27, ↓tO_32, ↓tO_37, ↓tO_43, ↓tO_44, ↓tO_52, ↓tO_62, ↓tO_63, ↓tO_71, ↓tO_76, ↓tO_81, ↓tO_87, ↓tO_88, ↓tO_96, ↓tO_106, ↓tO_107, ↓tO_115, ↓tO_127, ↓tO_127c, ↓tO_133, ↓tO_133c, ↓tO_139, ↓sO hs, ↓pO hs, ↓cO hs]
    unfold S_Sc_letIn
    simp (disch := omega) only [↓w_eBin, ↓w_eUn, ↓w_eDiv, ↓w_eRem, ↓w_eFld, ↓w_rFld, ↓w_eALd, ↓w_rALd, ↓w_eALen, ↓w_rStr, ↓w_aNil, ↓w_aI, ↓w_aR, ↓w_N, ↓w_eCall, ↓w_X, ↓w_bCmp, ↓w_bAnd, ↓w_bOr, ↓w_bNot, ↓w_eB, ↓w_eIte, ↓w_sSkip, ↓w_sRet, ↓w_sRetZ, ↓w_sRetV, ↓w_sBrk, ↓w_sCont, ↓w_sIf, ↓w_sSeq, ↓w_sCaC, ↓w_sCaB, ↓w_sSw, ↓w_sCall, ↓w_sPut, ↓w_sPutOp, ↓w_sASt, ↓w_sAOp, ↓w_sADiv, ↓w_eLoc0, ↓w_rLoc0, ↓w_sSet0, ↓w_sSetR0, ↓w_sIncP0, ↓w_sIncM0, ↓w_eLoc1, ↓w_rLoc1, ↓w_sSet1, ↓w_sSetR1, ↓w_sIncP1, ↓w_sIncM1, ↓w_eLoc2, ↓w_rLoc2, ↓w_sSet2, ↓w_sSetR2, ↓w_sIncP2, ↓w_sIncM2, ↓w_eLoc3, ↓w_rLoc3, ↓w_sSet3, ↓w_sSetR3, ↓w_sIncP3, ↓w_sIncM3, ↓w_eLoc4, ↓w_rLoc4, ↓w_sSet4, ↓w_sSetR4, ↓w_sIncP4, ↓w_sIncM4, ↓w_eLoc5, ↓w_rLoc5, ↓w_sSet5, ↓w_sSetR5, ↓w_sIncP5, ↓w_sIncM5, ↓w_eLoc6, ↓w_rLoc6, ↓w_sSet6, ↓w_sSetR6, ↓w_sIncP6, ↓w_sIncM6, ↓w_eLoc7, ↓w_rLoc7, ↓w_sSet7, ↓w_sSetR7, ↓w_sIncP7, ↓w_sIncM7, ↓w_eLoc8, ↓w_rLoc8, ↓w_sSet8, ↓w_sSetR8, ↓w_sIncP8, ↓w_sIncM8, ↓w_eLoc9, ↓w_rLoc9, ↓w_sSet9, ↓w_sSetR9, ↓w_sIncP9, ↓w_sIncM9, ↓w_eLoc10, ↓w_rLoc10, ↓w_sSet10, ↓w_sSetR10, ↓w_sIncP10, ↓w_sIncM10, ↓w_eLoc11, ↓w_rLoc11, ↓w_sSet11, ↓w_sSetR11, ↓w_sIncP11, ↓w_sIncM11, ↓w_eLoc12, ↓w_rLoc12, ↓w_sSet12, ↓w_sSetR12, ↓w_sIncP12, ↓w_sIncM12, ↓w_eLoc13, ↓w_rLoc13, ↓w_sSet13, ↓w_sSetR13, ↓w_sIncP13, ↓w_sIncM13, ↓w_eIntN, ↓w_eIntM, ↓w_bZi, ↓w_add, ↓w_sub, ↓w_mul, ↓w_neg, ↓w_nar, ↓w_div, ↓w_ldne, ↓w_ldat, ↓w_ldj, List.length_cons, List.length_nil, Nat.reduceAdd, Nat.reduceSub, Nat.reduceLeDiff, List.replicate_succ, List.replicate_zero, List.cons_append, List.nil_append, List.append_nil, iz_nI, iz_ofNat, iz_add, iz_sub, iz_mul, cz_lt, cz_le, cz_gt, cz_ge, cz_eq, cz_ne, mIn_iz, iz_nat, decide_eq_true_eq, Bool.not_eq_true', decide_eq_false_iff_not, true_and, and_true, ↓reduceIte, not_true_eq_false, not_false_eq_true, w01_bI, w01_i0, w01_i1, bI_ne', bI_eq', bI_t, bI_f, Bool.false_eq_true, false_implies, forall_const, implies_true, true_implies, imp_self, eq_self, ↓sR0 hs, ↓sR1 hs, ↓sR2 hs, ↓sR3 hs, ↓sI4 hs, ↓sI5 hs, ↓sI6 hs, ↓sI7 hs, ↓sI8 hs, ↓pI0 hs, ↓pI1 hs, ↓pI2 hs, ↓pI3 hs, ↓pR4 hs, ↓pR5 hs, ↓pR6 hs, ↓pR7 hs, ↓pR8 hs, ↓pR9 hs, ↓pR10 hs, ↓pA2 hs, ↓pA3 hs, ↓pA4 hs, ↓pA5 hs, ↓pA6 hs, ↓pA7 hs, ↓pA8 hs, ↓cR0 hs, ↓cR1 hs, ↓cR2 hs, ↓cR3 hs, ↓cR4 hs, ↓cR5 hs, ↓cR6 hs, ↓cR7 hs, ↓cA10 hs, ↓cA11 hs, ↓cA12 hs, ↓cA13 hs, ↓cA14 hs, ↓cA15 hs, ↓cA16 hs, ↓cA17 hs, ↓fA18 hs, ↓tO_19, ↓tI_19_0, ↓tI_19_1, ↓tI_19_2, ↓tR_19_3, ↓tR_19_4, ↓tR_19_5, ↓tR_19_6, ↓tR_19_7, ↓tR_19_8, ↓tA_20, ↓tN_20, ↓tA_21, ↓tN_21, ↓tA_22, ↓tN_22, ↓tA_23, ↓tN_23, ↓tA_24, ↓tN_24, ↓tA_25, ↓tN_25]
    refine wS_up (A 30 2).toNat (fun i l D => RelS D s (aIn A c r i) ∧ FrF s C D ∧ D s 8 = C s 8 ∧ l = [.ref s, .int (iz c), .int (iz (A 10 c)), .int (iz (aEn A c r i)), .int (iz i)]) ?_ (Nat.zero_le _) ⟨by rw [aIn_zero]; exact hM.2, frF_r C, rfl, rfl⟩
    rintro i l D hi ⟨hD, hF, h88, rfl⟩
    have hr := aEn_rg A c r i
    have h2 := hD.1
    rw [aIn_row (by omega)] at h2
    have hK := hD.2.2.2.2.2.1 c hc.1 (by rw [aIn_row (by omega)]; exact hc.2)
    obtain ⟨k0, k1, k2, k3, k4, k5, k6, k7⟩ := hK
    rw [aIn_row (by omega)] at k1
    have hk4 := k4
    rw [hrid i hi] at k4
    have hgr := aGiv_rg (aIn A c r i) c
    rw [aIn_row (by omega)] at hgr
    have hTD := RelT_s (B := A) hT hs hF rfl rfl (fun _ _ _ _ => rfl) (fun _ _ _ => rfl)
    have hroom := (hTD.2.2.1 c hc.1 hc.2).1
    simp only [Nat.reduceAdd] at hroom
    have h4 := hD.2.2.2.2.2.2.1
    rw [aIn_row (by omega)] at h4
    have h5 := hD.2.2.2.2.2.2.2.1
    rw [aIn_row (by omega)] at h5
    by_cases hgi : 0 < aGiv (aIn A c r i) c
    · by_cases hro : r + aEn A c r i < A 16 c
      · by_cases hlt : (i : Int) < A 30 2
        · have hp := hw.2.1 i (by omega) hlt
          have hP := hD.2.2.2.2.1 i (by omega) (by rw [aIn_row (by omega)]; exact hlt)
          have hP' := hP
          obtain ⟨b0, b1, b2, b3, b4, b5, b6⟩ := hP
          unfold WfP at hp
          have hwy : ∀ Q, wF f_Pe_way [.ref (s + 1), .int (iz i)] D Q ↔ Q (some (iz (aWay (aIn A c r i) i))) D := fun Q => wf_pway hs hP' (by omega) (by rw [aIn_row (by omega), aIn_row (by omega)]; omega)
          have hwa : aWay (aIn A c r i) i = aWay A i := by unfold aWay; rw [aIn_row (by omega), aIn_row (by omega)]
          have hwr : -1 ≤ aWay A i ∧ aWay A i ≤ 1 := by unfold aWay; split <;> omega
          rw [hwa] at hwy
          rw [aIn_ge (by omega) (by omega)] at b0 b1 b2 b3 b4
          by_cases hL : aBrd A c i = true
          · have hE : aEnt A c r i = true := by simp only [aEnt, hL, Int.toNat_natCast, true_and, hro, decide_true]
            have hL' := hL
            simp only [aBrd, decide_eq_true_eq] at hL'
            obtain ⟨l1, l2, l3, l4⟩ := hL'
            have hx := rs_enter hs hD (p := i) (c := c) (by rw [aIn_row (by omega), aIn_row (by omega)]; omega) (by rw [aIn_row (by omega)]; omega) (by rw [aIn_row (by omega)]; omega) (by rw [aIn_ge (by omega) (by omega)]; exact l1) (by rw [aIn_row (by omega)]; exact l2)
            rw [aIn_row (k := 30) (by omega), aIn_row (k := 0) (by omega), hrid i hi] at hx
            have hfr : FrF s C _ := frF_u (x := iz (r + aEn A c r i + 1)) (k := s + 14) (i := c.toNat) (frF_u (x := iz (aGiv (aIn A c r i) c - 1)) (k := s + 15) (i := c.toNat) (frF_u (x := iz (A 30 3 - A 0 i)) (k := s + 7) (i := (i : Int).toNat) (frF_u (x := iz 2) (k := s + 5) (i := (i : Int).toNat) hF (by omega)) (by omega)) (by omega)) (by omega)
            have e1 : aEn A c r (i + 1) = aEn A c r i + 1 := by rw [aEn, if_pos ⟨hL, hro⟩]
            rw [e1, aIn_yes hE]
            clear hrid hp
            by_cases hpr : (i : Int) = A 32 1
            · rw [if_pos hpr]
              have hx2 := rs_fun (v := c) hx (Or.inr (Or.inr (by rw [aUp_k (by omega), aUp_k (by omega), aIn_row (by omega)]; omega)))
              rw [← hpr] at h5
              simp (disch := omega) only [↓w_eBin, ↓w_eUn, ↓w_eDiv, ↓w_eRem, ↓w_eFld, ↓w_rFld, ↓w_eALd, ↓w_rALd, ↓w_eALen, ↓w_rStr, ↓w_aNil, ↓w_aI, ↓w_aR, ↓w_N, ↓w_eCall, ↓w_X, ↓w_bCmp, ↓w_bAnd, ↓w_bOr, ↓w_bNot, ↓w_eB, ↓w_eIte, ↓w_sSkip, ↓w_sRet, ↓w_sRetZ, ↓w_sRetV, ↓w_sBrk, ↓w_sCont, ↓w_sIf, ↓w_sSeq, ↓w_sCaC, ↓w_sCaB, ↓w_sSw, ↓w_sCall, ↓w_sPut, ↓w_sPutOp, ↓w_sASt, ↓w_sAOp, ↓w_sADiv, ↓w_eLoc0, ↓w_rLoc0, ↓w_sSet0, ↓w_sSetR0, ↓w_sIncP0, ↓w_sIncM0, ↓w_eLoc1, ↓w_rLoc1, ↓w_sSet1, ↓w_sSetR1, ↓w_sIncP1, ↓w_sIncM1, ↓w_eLoc2, ↓w_rLoc2, ↓w_sSet2, ↓w_sSetR2, ↓w_sIncP2, ↓w_sIncM2, ↓w_eLoc3, ↓w_rLoc3, ↓w_sSet3, ↓w_sSetR3, ↓w_sIncP3, ↓w_sIncM3, ↓w_eLoc4, ↓w_rLoc4, ↓w_sSet4, ↓w_sSetR4, ↓w_sIncP4, ↓w_sIncM4, ↓w_eLoc5, ↓w_rLoc5, ↓w_sSet5, ↓w_sSetR5, ↓w_sIncP5, ↓w_sIncM5, ↓w_eLoc6, ↓w_rLoc6, ↓w_sSet6, ↓w_sSetR6, ↓w_sIncP6, ↓w_sIncM6, ↓w_eLoc7, ↓w_rLoc7, ↓w_sSet7, ↓w_sSetR7, ↓w_sIncP7, ↓w_sIncM7, ↓w_eLoc8, ↓w_rLoc8, ↓w_sSet8, ↓w_sSetR8, ↓w_sIncP8, ↓w_sIncM8, ↓w_eLoc9, ↓w_rLoc9, ↓w_sSet9, ↓w_sSetR9, ↓w_sIncP9, ↓w_sIncM9, ↓w_eLoc10, ↓w_rLoc10, ↓w_sSet10, ↓w_sSetR10, ↓w_sIncP10, ↓w_sIncM10, ↓w_eLoc11, ↓w_rLoc11, ↓w_sSet11, ↓w_sSetR11, ↓w_sIncP11, ↓w_sIncM11, ↓w_eLoc12, ↓w_rLoc12, ↓w_sSet12, ↓w_sSetR12, ↓w_sIncP12, ↓w_sIncM12, ↓w_eLoc13, ↓w_rLoc13, ↓w_sSet13, ↓w_sSetR13, ↓w_sIncP13, ↓w_sIncM13, ↓w_eIntN, ↓w_eIntM, ↓w_bZi, ↓w_add, ↓w_sub, ↓w_mul, ↓w_neg, ↓w_nar, ↓w_div, ↓w_ldne, ↓w_ldat, ↓w_ldj, List.length_cons, List.length_nil, Nat.reduceAdd, Nat.reduceSub, Nat.reduceLeDiff, List.replicate_succ, List.replicate_zero, List.cons_append, List.nil_append, List.append_nil, iz_nI, iz_ofNat, iz_add, iz_sub, iz_mul, cz_lt, cz_le, cz_gt, cz_ge, cz_eq, cz_ne, mIn_iz, iz_nat, decide_eq_true_eq, Bool.not_eq_true', decide_eq_false_iff_not, true_and, and_true, ↓reduceIte, not_true_eq_false, not_false_eq_true, w01_bI, w01_i0, w01_i1, bI_ne', bI_eq', bI_t, bI_f, Bool.false_eq_true, false_implies, forall_const, implies_true, true_implies, imp_self, eq_self, ↓sR0 hs, ↓sR1 hs, ↓sR2 hs, ↓sR3 hs, ↓sI4 hs, ↓sI5 hs, ↓sI6 hs, ↓sI7 hs, ↓sI8 hs, ↓pI0 hs, ↓pI1 hs, ↓pI2 hs, ↓pI3 hs, ↓pR4 hs, ↓pR5 hs, ↓pR6 hs, ↓pR7 hs, ↓pR8 hs, ↓pR9 hs, ↓pR10 hs, ↓pA2 hs, ↓pA3 hs, ↓pA4 hs, ↓pA5 hs, ↓pA6 hs, ↓pA7 hs, ↓pA8 hs, ↓cR0 hs, ↓cR1 hs, ↓cR2 hs, ↓cR3 hs, ↓cR4 hs, ↓cR5 hs, ↓cR6 hs, ↓cR7 hs, ↓cA10 hs, ↓cA11 hs, ↓cA12 hs, ↓cA13 hs, ↓cA14 hs, ↓cA15 hs, ↓cA16 hs, ↓cA17 hs, ↓fA18 hs, ↓tO_19, ↓tI_19_0, ↓tI_19_1, ↓tI_19_2, ↓tR_19_3, ↓tR_19_4, ↓tR_19_5, ↓tR_19_6, ↓tR_19_7, ↓tR_19_8, ↓tA_20, ↓tN_20, ↓tA_21, ↓tN_21, ↓tA_22, ↓tN_22, ↓tA_23, ↓tN_23, ↓tA_24, ↓tN_24, ↓tA_25, ↓tN_25, ↓w_ldne, ↓w_ldj, ↓wLd_of h2, ↓wLd_of h4, ↓wLd_of h5, ↓wLd_of k1, ↓wLd_of k4, ↓wLd_of k5, ↓wLd_of hroom, ↓wLd_of b0, ↓wLd_of b1, ↓wLd_of b3, ↓wLd_of b4, ↓hwy, hlt, hro, hgi, l1, l2, l3, l4]
              refine ⟨by omega, hx2, frF_u hfr (by omega), ?_, ?_⟩
              · simp (disch := omega) only [up_k, up_j]; exact h88
              · rfl
            · rw [if_neg hpr]
              simp (disch := omega) only [↓w_eBin, ↓w_eUn, ↓w_eDiv, ↓w_eRem, ↓w_eFld, ↓w_rFld, ↓w_eALd, ↓w_rALd, ↓w_eALen, ↓w_rStr, ↓w_aNil, ↓w_aI, ↓w_aR, ↓w_N, ↓w_eCall, ↓w_X, ↓w_bCmp, ↓w_bAnd, ↓w_bOr, ↓w_bNot, ↓w_eB, ↓w_eIte, ↓w_sSkip, ↓w_sRet, ↓w_sRetZ, ↓w_sRetV, ↓w_sBrk, ↓w_sCont, ↓w_sIf, ↓w_sSeq, ↓w_sCaC, ↓w_sCaB, ↓w_sSw, ↓w_sCall, ↓w_sPut, ↓w_sPutOp, ↓w_sASt, ↓w_sAOp, ↓w_sADiv, ↓w_eLoc0, ↓w_rLoc0, ↓w_sSet0, ↓w_sSetR0, ↓w_sIncP0, ↓w_sIncM0, ↓w_eLoc1, ↓w_rLoc1, ↓w_sSet1, ↓w_sSetR1, ↓w_sIncP1, ↓w_sIncM1, ↓w_eLoc2, ↓w_rLoc2, ↓w_sSet2, ↓w_sSetR2, ↓w_sIncP2, ↓w_sIncM2, ↓w_eLoc3, ↓w_rLoc3, ↓w_sSet3, ↓w_sSetR3, ↓w_sIncP3, ↓w_sIncM3, ↓w_eLoc4, ↓w_rLoc4, ↓w_sSet4, ↓w_sSetR4, ↓w_sIncP4, ↓w_sIncM4, ↓w_eLoc5, ↓w_rLoc5, ↓w_sSet5, ↓w_sSetR5, ↓w_sIncP5, ↓w_sIncM5, ↓w_eLoc6, ↓w_rLoc6, ↓w_sSet6, ↓w_sSetR6, ↓w_sIncP6, ↓w_sIncM6, ↓w_eLoc7, ↓w_rLoc7, ↓w_sSet7, ↓w_sSetR7, ↓w_sIncP7, ↓w_sIncM7, ↓w_eLoc8, ↓w_rLoc8, ↓w_sSet8, ↓w_sSetR8, ↓w_sIncP8, ↓w_sIncM8, ↓w_eLoc9, ↓w_rLoc9, ↓w_sSet9, ↓w_sSetR9, ↓w_sIncP9, ↓w_sIncM9, ↓w_eLoc10, ↓w_rLoc10, ↓w_sSet10, ↓w_sSetR10, ↓w_sIncP10, ↓w_sIncM10, ↓w_eLoc11, ↓w_rLoc11, ↓w_sSet11, ↓w_sSetR11, ↓w_sIncP11, ↓w_sIncM11, ↓w_eLoc12, ↓w_rLoc12, ↓w_sSet12, ↓w_sSetR12, ↓w_sIncP12, ↓w_sIncM12, ↓w_eLoc13, ↓w_rLoc13, ↓w_sSet13, ↓w_sSetR13, ↓w_sIncP13, ↓w_sIncM13, ↓w_eIntN, ↓w_eIntM, ↓w_bZi, ↓w_add, ↓w_sub, ↓w_mul, ↓w_neg, ↓w_nar, ↓w_div, ↓w_ldne, ↓w_ldat, ↓w_ldj, List.length_cons, List.length_nil, Nat.reduceAdd, Nat.reduceSub, Nat.reduceLeDiff, List.replicate_succ, List.replicate_zero, List.cons_append, List.nil_append, List.append_nil, iz_nI, iz_ofNat, iz_add, iz_sub, iz_mul, cz_lt, cz_le, cz_gt, cz_ge, cz_eq, cz_ne, mIn_iz, iz_nat, decide_eq_true_eq, Bool.not_eq_true', decide_eq_false_iff_not, true_and, and_true, ↓reduceIte, not_true_eq_false, not_false_eq_true, w01_bI, w01_i0, w01_i1, bI_ne', bI_eq', bI_t, bI_f, Bool.false_eq_true, false_implies, forall_const, implies_true, true_implies, imp_self, eq_self, ↓sR0 hs, ↓sR1 hs, ↓sR2 hs, ↓sR3 hs, ↓sI4 hs, ↓sI5 hs, ↓sI6 hs, ↓sI7 hs, ↓sI8 hs, ↓pI0 hs, ↓pI1 hs, ↓pI2 hs, ↓pI3 hs, ↓pR4 hs, ↓pR5 hs, ↓pR6 hs, ↓pR7 hs, ↓pR8 hs, ↓pR9 hs, ↓pR10 hs, ↓pA2 hs, ↓pA3 hs, ↓pA4 hs, ↓pA5 hs, ↓pA6 hs, ↓pA7 hs, ↓pA8 hs, ↓cR0 hs, ↓cR1 hs, ↓cR2 hs, ↓cR3 hs, ↓cR4 hs, ↓cR5 hs, ↓cR6 hs, ↓cR7 hs, ↓cA10 hs, ↓cA11 hs, ↓cA12 hs, ↓cA13 hs, ↓cA14 hs, ↓cA15 hs, ↓cA16 hs, ↓cA17 hs, ↓fA18 hs, ↓tO_19, ↓tI_19_0, ↓tI_19_1, ↓tI_19_2, ↓tR_19_3, ↓tR_19_4, ↓tR_19_5, ↓tR_19_6, ↓tR_19_7, ↓tR_19_8, ↓tA_20, ↓tN_20, ↓tA_21, ↓tN_21, ↓tA_22, ↓tN_22, ↓tA_23, ↓tN_23, ↓tA_24, ↓tN_24, ↓tA_25, ↓tN_25, ↓w_ldne, ↓w_ldj, ↓wLd_of h2, ↓wLd_of h4, ↓wLd_of h5, ↓wLd_of k1, ↓wLd_of k4, ↓wLd_of k5, ↓wLd_of hroom, ↓wLd_of b0, ↓wLd_of b1, ↓wLd_of b3, ↓wLd_of b4, ↓hwy, hlt, hro, hgi, l1, l2, l3, l4, hpr]
              refine ⟨by omega, hx, hfr, ?_, ?_⟩
              · simp (disch := omega) only [up_k]; exact h88
              · rfl
          · have hL' := hL
            simp only [aBrd, decide_eq_true_eq] at hL'
            have e : aIn A c r (i + 1) = aIn A c r i := aIn_no (by simp [aEnt, hL])
            rw [e, aEn, if_neg (by simp [hL]), Int.add_zero]
            simp (disch := omega) only [↓w_eBin, ↓w_eUn, ↓w_eDiv, ↓w_eRem, ↓w_eFld, ↓w_rFld, ↓w_eALd, ↓w_rALd, ↓w_eALen, ↓w_rStr, ↓w_aNil, ↓w_aI, ↓w_aR, ↓w_N, ↓w_eCall, ↓w_X, ↓w_bCmp, ↓w_bAnd, ↓w_bOr, ↓w_bNot, ↓w_eB, ↓w_eIte, ↓w_sSkip, ↓w_sRet, ↓w_sRetZ, ↓w_sRetV, ↓w_sBrk, ↓w_sCont, ↓w_sIf, ↓w_sSeq, ↓w_sCaC, ↓w_sCaB, ↓w_sSw, ↓w_sCall, ↓w_sPut, ↓w_sPutOp, ↓w_sASt, ↓w_sAOp, ↓w_sADiv, ↓w_eLoc0, ↓w_rLoc0, ↓w_sSet0, ↓w_sSetR0, ↓w_sIncP0, ↓w_sIncM0, ↓w_eLoc1, ↓w_rLoc1, ↓w_sSet1, ↓w_sSetR1, ↓w_sIncP1, ↓w_sIncM1, ↓w_eLoc2, ↓w_rLoc2, ↓w_sSet2, ↓w_sSetR2, ↓w_sIncP2, ↓w_sIncM2, ↓w_eLoc3, ↓w_rLoc3, ↓w_sSet3, ↓w_sSetR3, ↓w_sIncP3, ↓w_sIncM3, ↓w_eLoc4, ↓w_rLoc4, ↓w_sSet4, ↓w_sSetR4, ↓w_sIncP4, ↓w_sIncM4, ↓w_eLoc5, ↓w_rLoc5, ↓w_sSet5, ↓w_sSetR5, ↓w_sIncP5, ↓w_sIncM5, ↓w_eLoc6, ↓w_rLoc6, ↓w_sSet6, ↓w_sSetR6, ↓w_sIncP6, ↓w_sIncM6, ↓w_eLoc7, ↓w_rLoc7, ↓w_sSet7, ↓w_sSetR7, ↓w_sIncP7, ↓w_sIncM7, ↓w_eLoc8, ↓w_rLoc8, ↓w_sSet8, ↓w_sSetR8, ↓w_sIncP8, ↓w_sIncM8, ↓w_eLoc9, ↓w_rLoc9, ↓w_sSet9, ↓w_sSetR9, ↓w_sIncP9, ↓w_sIncM9, ↓w_eLoc10, ↓w_rLoc10, ↓w_sSet10, ↓w_sSetR10, ↓w_sIncP10, ↓w_sIncM10, ↓w_eLoc11, ↓w_rLoc11, ↓w_sSet11, ↓w_sSetR11, ↓w_sIncP11, ↓w_sIncM11, ↓w_eLoc12, ↓w_rLoc12, ↓w_sSet12, ↓w_sSetR12, ↓w_sIncP12, ↓w_sIncM12, ↓w_eLoc13, ↓w_rLoc13, ↓w_sSet13, ↓w_sSetR13, ↓w_sIncP13, ↓w_sIncM13, ↓w_eIntN, ↓w_eIntM, ↓w_bZi, ↓w_add, ↓w_sub, ↓w_mul, ↓w_neg, ↓w_nar, ↓w_div, ↓w_ldne, ↓w_ldat, ↓w_ldj, List.length_cons, List.length_nil, Nat.reduceAdd, Nat.reduceSub, Nat.reduceLeDiff, List.replicate_succ, List.replicate_zero, List.cons_append, List.nil_append, List.append_nil, iz_nI, iz_ofNat, iz_add, iz_sub, iz_mul, cz_lt, cz_le, cz_gt, cz_ge, cz_eq, cz_ne, mIn_iz, iz_nat, decide_eq_true_eq, Bool.not_eq_true', decide_eq_false_iff_not, true_and, and_true, ↓reduceIte, not_true_eq_false, not_false_eq_true, w01_bI, w01_i0, w01_i1, bI_ne', bI_eq', bI_t, bI_f, Bool.false_eq_true, false_implies, forall_const, implies_true, true_implies, imp_self, eq_self, ↓sR0 hs, ↓sR1 hs, ↓sR2 hs, ↓sR3 hs, ↓sI4 hs, ↓sI5 hs, ↓sI6 hs, ↓sI7 hs, ↓sI8 hs, ↓pI0 hs, ↓pI1 hs, ↓pI2 hs, ↓pI3 hs, ↓pR4 hs, ↓pR5 hs, ↓pR6 hs, ↓pR7 hs, ↓pR8 hs, ↓pR9 hs, ↓pR10 hs, ↓pA2 hs, ↓pA3 hs, ↓pA4 hs, ↓pA5 hs, ↓pA6 hs, ↓pA7 hs, ↓pA8 hs, ↓cR0 hs, ↓cR1 hs, ↓cR2 hs, ↓cR3 hs, ↓cR4 hs, ↓cR5 hs, ↓cR6 hs, ↓cR7 hs, ↓cA10 hs, ↓cA11 hs, ↓cA12 hs, ↓cA13 hs, ↓cA14 hs, ↓cA15 hs, ↓cA16 hs, ↓cA17 hs, ↓fA18 hs, ↓tO_19, ↓tI_19_0, ↓tI_19_1, ↓tI_19_2, ↓tR_19_3, ↓tR_19_4, ↓tR_19_5, ↓tR_19_6, ↓tR_19_7, ↓tR_19_8, ↓tA_20, ↓tN_20, ↓tA_21, ↓tN_21, ↓tA_22, ↓tN_22, ↓tA_23, ↓tN_23, ↓tA_24, ↓tN_24, ↓tA_25, ↓tN_25, ↓wLd_of h2, ↓wLd_of k1, ↓wLd_of k4, ↓wLd_of k5, ↓wLd_of hroom, ↓wLd_of b1, ↓wLd_of b3, ↓wLd_of b4, ↓hwy, hlt, hro, hgi]
            refine ⟨by omega, ?_⟩
            by_cases g1 : A 3 i = 1 <;> by_cases g2 : A 4 i = c <;> by_cases g3 : A 1 i = A 10 c <;> by_cases g4 : aWay A i = A 11 c
            · exact absurd ⟨g1, g2, g3, g4⟩ hL'
            all_goals simp [g1, g2, g3, g4]; exact ⟨hD, hF, h88⟩
        · have : i = (A 30 2).toNat := by omega
          subst this
          simp (disch := omega) only [↓w_eBin, ↓w_eUn, ↓w_eDiv, ↓w_eRem, ↓w_eFld, ↓w_rFld, ↓w_eALd, ↓w_rALd, ↓w_eALen, ↓w_rStr, ↓w_aNil, ↓w_aI, ↓w_aR, ↓w_N, ↓w_eCall, ↓w_X, ↓w_bCmp, ↓w_bAnd, ↓w_bOr, ↓w_bNot, ↓w_eB, ↓w_eIte, ↓w_sSkip, ↓w_sRet, ↓w_sRetZ, ↓w_sRetV, ↓w_sBrk, ↓w_sCont, ↓w_sIf, ↓w_sSeq, ↓w_sCaC, ↓w_sCaB, ↓w_sSw, ↓w_sCall, ↓w_sPut, ↓w_sPutOp, ↓w_sASt, ↓w_sAOp, ↓w_sADiv, ↓w_eLoc0, ↓w_rLoc0, ↓w_sSet0, ↓w_sSetR0, ↓w_sIncP0, ↓w_sIncM0, ↓w_eLoc1, ↓w_rLoc1, ↓w_sSet1, ↓w_sSetR1, ↓w_sIncP1, ↓w_sIncM1, ↓w_eLoc2, ↓w_rLoc2, ↓w_sSet2, ↓w_sSetR2, ↓w_sIncP2, ↓w_sIncM2, ↓w_eLoc3, ↓w_rLoc3, ↓w_sSet3, ↓w_sSetR3, ↓w_sIncP3, ↓w_sIncM3, ↓w_eLoc4, ↓w_rLoc4, ↓w_sSet4, ↓w_sSetR4, ↓w_sIncP4, ↓w_sIncM4, ↓w_eLoc5, ↓w_rLoc5, ↓w_sSet5, ↓w_sSetR5, ↓w_sIncP5, ↓w_sIncM5, ↓w_eLoc6, ↓w_rLoc6, ↓w_sSet6, ↓w_sSetR6, ↓w_sIncP6, ↓w_sIncM6, ↓w_eLoc7, ↓w_rLoc7, ↓w_sSet7, ↓w_sSetR7, ↓w_sIncP7, ↓w_sIncM7, ↓w_eLoc8, ↓w_rLoc8, ↓w_sSet8, ↓w_sSetR8, ↓w_sIncP8, ↓w_sIncM8, ↓w_eLoc9, ↓w_rLoc9, ↓w_sSet9, ↓w_sSetR9, ↓w_sIncP9, ↓w_sIncM9, ↓w_eLoc10, ↓w_rLoc10, ↓w_sSet10, ↓w_sSetR10, ↓w_sIncP10, ↓w_sIncM10, ↓w_eLoc11, ↓w_rLoc11, ↓w_sSet11, ↓w_sSetR11, ↓w_sIncP11, ↓w_sIncM11, ↓w_eLoc12, ↓w_rLoc12, ↓w_sSet12, ↓w_sSetR12, ↓w_sIncP12, ↓w_sIncM12, ↓w_eLoc13, ↓w_rLoc13, ↓w_sSet13, ↓w_sSetR13, ↓w_sIncP13, ↓w_sIncM13, ↓w_eIntN, ↓w_eIntM, ↓w_bZi, ↓w_add, ↓w_sub, ↓w_mul, ↓w_neg, ↓w_nar, ↓w_div, ↓w_ldne, ↓w_ldat, ↓w_ldj, List.length_cons, List.length_nil, Nat.reduceAdd, Nat.reduceSub, Nat.reduceLeDiff, List.replicate_succ, List.replicate_zero, List.cons_append, List.nil_append, List.append_nil, iz_nI, iz_ofNat, iz_add, iz_sub, iz_mul, cz_lt, cz_le, cz_gt, cz_ge, cz_eq, cz_ne, mIn_iz, iz_nat, decide_eq_true_eq, Bool.not_eq_true', decide_eq_false_iff_not, true_and, and_true, ↓reduceIte, not_true_eq_false, not_false_eq_true, w01_bI, w01_i0, w01_i1, bI_ne', bI_eq', bI_t, bI_f, Bool.false_eq_true, false_implies, forall_const, implies_true, true_implies, imp_self, eq_self, ↓sR0 hs, ↓sR1 hs, ↓sR2 hs, ↓sR3 hs, ↓sI4 hs, ↓sI5 hs, ↓sI6 hs, ↓sI7 hs, ↓sI8 hs, ↓pI0 hs, ↓pI1 hs, ↓pI2 hs, ↓pI3 hs, ↓pR4 hs, ↓pR5 hs, ↓pR6 hs, ↓pR7 hs, ↓pR8 hs, ↓pR9 hs, ↓pR10 hs, ↓pA2 hs, ↓pA3 hs, ↓pA4 hs, ↓pA5 hs, ↓pA6 hs, ↓pA7 hs, ↓pA8 hs, ↓cR0 hs, ↓cR1 hs, ↓cR2 hs, ↓cR3 hs, ↓cR4 hs, ↓cR5 hs, ↓cR6 hs, ↓cR7 hs, ↓cA10 hs, ↓cA11 hs, ↓cA12 hs, ↓cA13 hs, ↓cA14 hs, ↓cA15 hs, ↓cA16 hs, ↓cA17 hs, ↓fA18 hs, ↓tO_19, ↓tI_19_0, ↓tI_19_1, ↓tI_19_2, ↓tR_19_3, ↓tR_19_4, ↓tR_19_5, ↓tR_19_6, ↓tR_19_7, ↓tR_19_8, ↓tA_20, ↓tN_20, ↓tA_21, ↓tN_21, ↓tA_22, ↓tN_22, ↓tA_23, ↓tN_23, ↓tA_24, ↓tN_24, ↓tA_25, ↓tN_25, ↓wLd_of h2, ↓wLd_of k4, ↓wLd_of k5, ↓wLd_of hroom, hlt, hro, hgi]
          exact ⟨hD, hF, h88⟩
      · simp (disch := omega) only [↓w_eBin, ↓w_eUn, ↓w_eDiv, ↓w_eRem, ↓w_eFld, ↓w_rFld, ↓w_eALd, ↓w_rALd, ↓w_eALen, ↓w_rStr, ↓w_aNil, ↓w_aI, ↓w_aR, ↓w_N, ↓w_eCall, ↓w_X, ↓w_bCmp, ↓w_bAnd, ↓w_bOr, ↓w_bNot, ↓w_eB, ↓w_eIte, ↓w_sSkip, ↓w_sRet, ↓w_sRetZ, ↓w_sRetV, ↓w_sBrk, ↓w_sCont, ↓w_sIf, ↓w_sSeq, ↓w_sCaC, ↓w_sCaB, ↓w_sSw, ↓w_sCall, ↓w_sPut, ↓w_sPutOp, ↓w_sASt, ↓w_sAOp, ↓w_sADiv, ↓w_eLoc0, ↓w_rLoc0, ↓w_sSet0, ↓w_sSetR0, ↓w_sIncP0, ↓w_sIncM0, ↓w_eLoc1, ↓w_rLoc1, ↓w_sSet1, ↓w_sSetR1, ↓w_sIncP1, ↓w_sIncM1, ↓w_eLoc2, ↓w_rLoc2, ↓w_sSet2, ↓w_sSetR2, ↓w_sIncP2, ↓w_sIncM2, ↓w_eLoc3, ↓w_rLoc3, ↓w_sSet3, ↓w_sSetR3, ↓w_sIncP3, ↓w_sIncM3, ↓w_eLoc4, ↓w_rLoc4, ↓w_sSet4, ↓w_sSetR4, ↓w_sIncP4, ↓w_sIncM4, ↓w_eLoc5, ↓w_rLoc5, ↓w_sSet5, ↓w_sSetR5, ↓w_sIncP5, ↓w_sIncM5, ↓w_eLoc6, ↓w_rLoc6, ↓w_sSet6, ↓w_sSetR6, ↓w_sIncP6, ↓w_sIncM6, ↓w_eLoc7, ↓w_rLoc7, ↓w_sSet7, ↓w_sSetR7, ↓w_sIncP7, ↓w_sIncM7, ↓w_eLoc8, ↓w_rLoc8, ↓w_sSet8, ↓w_sSetR8, ↓w_sIncP8, ↓w_sIncM8, ↓w_eLoc9, ↓w_rLoc9, ↓w_sSet9, ↓w_sSetR9, ↓w_sIncP9, ↓w_sIncM9, ↓w_eLoc10, ↓w_rLoc10, ↓w_sSet10, ↓w_sSetR10, ↓w_sIncP10, ↓w_sIncM10, ↓w_eLoc11, ↓w_rLoc11, ↓w_sSet11, ↓w_sSetR11, ↓w_sIncP11, ↓w_sIncM11, ↓w_eLoc12, ↓w_rLoc12, ↓w_sSet12, ↓w_sSetR12, ↓w_sIncP12, ↓w_sIncM12, ↓w_eLoc13, ↓w_rLoc13, ↓w_sSet13, ↓w_sSetR13, ↓w_sIncP13, ↓w_sIncM13, ↓w_eIntN, ↓w_eIntM, ↓w_bZi, ↓w_add, ↓w_sub, ↓w_mul, ↓w_neg, ↓w_nar, ↓w_div, ↓w_ldne, ↓w_ldat, ↓w_ldj, List.length_cons, List.length_nil, Nat.reduceAdd, Nat.reduceSub, Nat.reduceLeDiff, List.replicate_succ, List.replicate_zero, List.cons_append, List.nil_append, List.append_nil, iz_nI, iz_ofNat, iz_add, iz_sub, iz_mul, cz_lt, cz_le, cz_gt, cz_ge, cz_eq, cz_ne, mIn_iz, iz_nat, decide_eq_true_eq, Bool.not_eq_true', decide_eq_false_iff_not, true_and, and_true, ↓reduceIte, not_true_eq_false, not_false_eq_true, w01_bI, w01_i0, w01_i1, bI_ne', bI_eq', bI_t, bI_f, Bool.false_eq_true, false_implies, forall_const, implies_true, true_implies, imp_self, eq_self, ↓sR0 hs, ↓sR1 hs, ↓sR2 hs, ↓sR3 hs, ↓sI4 hs, ↓sI5 hs, ↓sI6 hs, ↓sI7 hs, ↓sI8 hs, ↓pI0 hs, ↓pI1 hs, ↓pI2 hs, ↓pI3 hs, ↓pR4 hs, ↓pR5 hs, ↓pR6 hs, ↓pR7 hs, ↓pR8 hs, ↓pR9 hs, ↓pR10 hs, ↓pA2 hs, ↓pA3 hs, ↓pA4 hs, ↓pA5 hs, ↓pA6 hs, ↓pA7 hs, ↓pA8 hs, ↓cR0 hs, ↓cR1 hs, ↓cR2 hs, ↓cR3 hs, ↓cR4 hs, ↓cR5 hs, ↓cR6 hs, ↓cR7 hs, ↓cA10 hs, ↓cA11 hs, ↓cA12 hs, ↓cA13 hs, ↓cA14 hs, ↓cA15 hs, ↓cA16 hs, ↓cA17 hs, ↓fA18 hs, ↓tO_19, ↓tI_19_0, ↓tI_19_1, ↓tI_19_2, ↓tR_19_3, ↓tR_19_4, ↓tR_19_5, ↓tR_19_6, ↓tR_19_7, ↓tR_19_8, ↓tA_20, ↓tN_20, ↓tA_21, ↓tN_21, ↓tA_22, ↓tN_22, ↓tA_23, ↓tN_23, ↓tA_24, ↓tN_24, ↓tA_25, ↓tN_25, ↓wLd_of h2, ↓wLd_of k4, ↓wLd_of k5, ↓wLd_of hroom, hro, hgi]
        rw [aIn_full (n := (A 30 2).toNat) (by omega) hi, aEn_full (n := (A 30 2).toNat) (by omega) hi]
        exact ⟨rfl, hD, hF, h88⟩
    · simp (disch := omega) only [↓w_eBin, ↓w_eUn, ↓w_eDiv, ↓w_eRem, ↓w_eFld, ↓w_rFld, ↓w_eALd, ↓w_rALd, ↓w_eALen, ↓w_rStr, ↓w_aNil, ↓w_aI, ↓w_aR, ↓w_N, ↓w_eCall, ↓w_X, ↓w_bCmp, ↓w_bAnd, ↓w_bOr, ↓w_bNot, ↓w_eB, ↓w_eIte, ↓w_sSkip, ↓w_sRet, ↓w_sRetZ, ↓w_sRetV, ↓w_sBrk, ↓w_sCont, ↓w_sIf, ↓w_sSeq, ↓w_sCaC, ↓w_sCaB, ↓w_sSw, ↓w_sCall, ↓w_sPut, ↓w_sPutOp, ↓w_sASt, ↓w_sAOp, ↓w_sADiv, ↓w_eLoc0, ↓w_rLoc0, ↓w_sSet0, ↓w_sSetR0, ↓w_sIncP0, ↓w_sIncM0, ↓w_eLoc1, ↓w_rLoc1, ↓w_sSet1, ↓w_sSetR1, ↓w_sIncP1, ↓w_sIncM1, ↓w_eLoc2, ↓w_rLoc2, ↓w_sSet2, ↓w_sSetR2, ↓w_sIncP2, ↓w_sIncM2, ↓w_eLoc3, ↓w_rLoc3, ↓w_sSet3, ↓w_sSetR3, ↓w_sIncP3, ↓w_sIncM3, ↓w_eLoc4, ↓w_rLoc4, ↓w_sSet4, ↓w_sSetR4, ↓w_sIncP4, ↓w_sIncM4, ↓w_eLoc5, ↓w_rLoc5, ↓w_sSet5, ↓w_sSetR5, ↓w_sIncP5, ↓w_sIncM5, ↓w_eLoc6, ↓w_rLoc6, ↓w_sSet6, ↓w_sSetR6, ↓w_sIncP6, ↓w_sIncM6, ↓w_eLoc7, ↓w_rLoc7, ↓w_sSet7, ↓w_sSetR7, ↓w_sIncP7, ↓w_sIncM7, ↓w_eLoc8, ↓w_rLoc8, ↓w_sSet8, ↓w_sSetR8, ↓w_sIncP8, ↓w_sIncM8, ↓w_eLoc9, ↓w_rLoc9, ↓w_sSet9, ↓w_sSetR9, ↓w_sIncP9, ↓w_sIncM9, ↓w_eLoc10, ↓w_rLoc10, ↓w_sSet10, ↓w_sSetR10, ↓w_sIncP10, ↓w_sIncM10, ↓w_eLoc11, ↓w_rLoc11, ↓w_sSet11, ↓w_sSetR11, ↓w_sIncP11, ↓w_sIncM11, ↓w_eLoc12, ↓w_rLoc12, ↓w_sSet12, ↓w_sSetR12, ↓w_sIncP12, ↓w_sIncM12, ↓w_eLoc13, ↓w_rLoc13, ↓w_sSet13, ↓w_sSetR13, ↓w_sIncP13, ↓w_sIncM13, ↓w_eIntN, ↓w_eIntM, ↓w_bZi, ↓w_add, ↓w_sub, ↓w_mul, ↓w_neg, ↓w_nar, ↓w_div, ↓w_ldne, ↓w_ldat, ↓w_ldj, List.length_cons, List.length_nil, Nat.reduceAdd, Nat.reduceSub, Nat.reduceLeDiff, List.replicate_succ, List.replicate_zero, List.cons_append, List.nil_append, List.append_nil, iz_nI, iz_ofNat, iz_add, iz_sub, iz_mul, cz_lt, cz_le, cz_gt, cz_ge, cz_eq, cz_ne, mIn_iz, iz_nat, decide_eq_true_eq, Bool.not_eq_true', decide_eq_false_iff_not, true_and, and_true, ↓reduceIte, not_true_eq_false, not_false_eq_true, w01_bI, w01_i0, w01_i1, bI_ne', bI_eq', bI_t, bI_f, Bool.false_eq_true, false_implies, forall_const, implies_true, true_implies, imp_self, eq_self, ↓sR0 hs, ↓sR1 hs, ↓sR2 hs, ↓sR3 hs, ↓sI4 hs, ↓sI5 hs, ↓sI6 hs, ↓sI7 hs, ↓sI8 hs, ↓pI0 hs, ↓pI1 hs, ↓pI2 hs, ↓pI3 hs, ↓pR4 hs, ↓pR5 hs, ↓pR6 hs, ↓pR7 hs, ↓pR8 hs, ↓pR9 hs, ↓pR10 hs, ↓pA2 hs, ↓pA3 hs, ↓pA4 hs, ↓pA5 hs, ↓pA6 hs, ↓pA7 hs, ↓pA8 hs, ↓cR0 hs, ↓cR1 hs, ↓cR2 hs, ↓cR3 hs, ↓cR4 hs, ↓cR5 hs, ↓cR6 hs, ↓cR7 hs, ↓cA10 hs, ↓cA11 hs, ↓cA12 hs, ↓cA13 hs, ↓cA14 hs, ↓cA15 hs, ↓cA16 hs, ↓cA17 hs, ↓fA18 hs, ↓tO_19, ↓tI_19_0, ↓tI_19_1, ↓tI_19_2, ↓tR_19_3, ↓tR_19_4, ↓tR_19_5, ↓tR_19_6, ↓tR_19_7, ↓tR_19_8, ↓tA_20, ↓tN_20, ↓tA_21, ↓tN_21, ↓tA_22, ↓tN_22, ↓tA_23, ↓tN_23, ↓tA_24, ↓tN_24, ↓tA_25, ↓tN_25, ↓wLd_of h2, ↓wLd_of k4, ↓wLd_of k5, ↓wLd_of hroom, hgi]
      obtain ⟨z1, z2⟩ := aIn_stop (A := A) (c := c) (r := r) (i := i) (by omega) hi (Nat.le_refl _)
      rw [z1, z2]
      exact ⟨rfl, hD, hF, h88⟩
  obtain ⟨o, D, h, rfl, h1, h2, h3⟩ := wF_of key
  exact ⟨D, h, ⟨RelT_s hT hs h2 (aIn_row (by omega)) (aIn_row (by omega)) (fun k q k1 k2 => aIn_row (by omega)) (fun k q k1 => aIn_row (by omega)), h1⟩, h2, h3⟩
end

/-! texts: a tower is read, by both -/
noncomputable section
section
variable {b : Nat → Int} {L n j q : Nat} {C D E F G H : mMem} {fl : Int} {cs : List Cr} {sk : Nat → Bool} {nl : Nat}
theorem rf_needT (hN : NK b L n) (P : PtM b L C E q) : ∃ t F, f_M_need [.ref 139, .int (iz 159)] E = some (some (bI t), F) ∧ ((kj b L q = 59 ∧ t = true ∧ PtM b L C F (q + 1) ∧ FrN E F) ∨ (¬ kj b L q = 59 ∧ t = false ∧ FtM b L C F (q, 1))) := by
  have kr := hN.2.2.1 q
  have h18 := P.1.2.2.1
  obtain ⟨-, -, -, -, p5, -, pa, pb, -⟩ := ph3 kr.1 kr.2
  by_cases g : kj b L q = 59
  · obtain ⟨F, e, Q, fr⟩ := ptM_n P
    rw [p5.mpr g] at h18
    exact ⟨true, F, my_need h18 (by omega) e, Or.inl ⟨g, rfl, Q, fr⟩⟩
  · obtain ⟨F, e, Q⟩ := ptM_b (f := 1) P
    exact ⟨false, F, mx_need h18 ⟨pa, pb⟩ (by omega) (fun z => g (p5.mp z)) e, Or.inr ⟨g, rfl, Q⟩⟩
/-- what a line comes to, with its ; -/
def TlM (b : Nat → Int) (L : Nat) (C : mMem) (j nl : Nat) (fl : Int) (cs : List Cr) (sk : Nat → Bool) (t : Bool) (E : mMem) : Prop := (t = true ∧ ∃ q fl' cs' sk', twL (kj b L) (vj b L) j nl fl cs sk = .inl (q, fl', cs', sk') ∧ kj b L q = 59 ∧ PtM b L C E (q + 1) ∧ TwM E nl fl' cs' sk') ∨ (t = false ∧ ∃ x, FtM b L C E x ∧ (twL (kj b L) (vj b L) j nl fl cs sk = .inr x ∨ ∃ q fl' cs' sk', twL (kj b L) (vj b L) j nl fl cs sk = .inl (q, fl', cs', sk') ∧ ¬ kj b L q = 59 ∧ x = (q, 1)))
theorem rf_tline (hN : NK b L n) (hR : TwR nl fl cs) (P : PtM b L C D j) (T : TwM D nl fl cs sk) : ∃ t E, f_M_aTowerLine [.ref 139] D = some (some (bI t), E) ∧ TlM b L C j nl fl cs sk t E := by
  obtain ⟨t0, t1, t2, t3, t4⟩ := T
  have kr := hN.2.2.1 j
  have h18 := P.1.2.2.1
  obtain ⟨p30, p31, p32, -, -, -, pa, pb, pr⟩ := ph3 kr.1 kr.2
  have fr : 0 ≤ fl ∧ fl ≤ 80 := by have := hR.2.1; have := hR.2.2.1; omega
  have lr := hR.2.2.2.1
  have nr := hR.1
  have bad : ∀ f, ∃ E, f_M_bad [.ref 139, .int (iz f)] D = some (some (bI false), E) ∧ FtM b L C E (j, f) := fun f => ptM_b P
  generalize ph 3 (kj b L j) = p at *
  by_cases g : ¬ (kj b L j = 271 ∨ kj b L j = 272 ∨ kj b L j = 273)
  · obtain ⟨E, e, Q⟩ := bad 1
    refine ⟨false, E, ma_1 h18 ⟨pa, pb⟩ (by omega) e, Or.inr ⟨rfl, _, Q, Or.inl ?_⟩⟩
    unfold twL
    rw [if_pos (by omega)]
  have g := Classical.not_not.mp g
  have hp : p = 30 ∨ p = 31 ∨ p = 32 := by omega
  by_cases g0 : ¬ (fl = 0 ∧ kj b L j = 272 ∨ ¬ fl = 0 ∧ (kj b L j = 271 ∨ kj b L j = 273))
  · have tw : twL (kj b L) (vj b L) j nl fl cs sk = .inr (j, 1) := by unfold twL; rw [if_pos g0]
    obtain ⟨E, e, Q⟩ := bad 1
    have mm : maF p [.ref 139] D = some (some (bI false), E) := by
      unfold maF
      rcases hp with h | h | h
      · rw [if_pos h]; exact mf_0 t1 (by omega) e
      · rw [if_neg (by omega), if_pos h]
        have : fl = 0 := by omega
        subst this
        exact mc_1 t1 e
      · rw [if_neg (by omega), if_neg (by omega)]
        have : fl = 0 := by omega
        subst this
        exact mk_z0 t1 e
    exact ⟨false, E, ma_c h18 hp t1 fr t0 (by omega) (by omega) mm (Or.inr ⟨rfl, rfl, rfl⟩), Or.inr ⟨rfl, _, Q, Or.inl tw⟩⟩
  have g0 := Classical.not_not.mp g0
  by_cases m4 : nl = 40
  · have tw : twL (kj b L) (vj b L) j nl fl cs sk = .inr (j, 3) := by unfold twL; rw [if_neg (by omega), if_pos (Or.inl m4)]
    obtain ⟨E, e, Q⟩ := bad 3
    subst m4
    exact ⟨false, E, ma_3 h18 t1 fr t0 (by omega) e, Or.inr ⟨rfl, _, Q, Or.inl tw⟩⟩
  have fin : ∀ E q fl' cs' sk', maF p [.ref 139] D = some (some (bI true), E) → PtM b L C E q → TwM E nl fl' cs' sk' → twL (kj b L) (vj b L) j nl fl cs sk = .inl (q, fl', cs', sk') → ∃ t E, f_M_aTowerLine [.ref 139] D = some (some (bI t), E) ∧ TlM b L C j nl fl cs sk t E := by
    intro E q fl' cs' sk' mm PE TE tw
    obtain ⟨t, F, e, h⟩ := rf_needT hN PE
    refine ⟨t, F, ma_c h18 hp t1 fr t0 (by omega) (by omega) mm (Or.inl ⟨rfl, e⟩), ?_⟩
    rcases h with ⟨k1, k2, k3, k4⟩ | ⟨k1, k2, k3⟩
    · exact Or.inl ⟨k2, q, fl', cs', sk', tw, k1, k3, twM_N TE k4⟩
    · exact Or.inr ⟨k2, _, k3, Or.inr ⟨q, fl', cs', sk', tw, k1, rfl⟩⟩
  have fail : ∀ E x, maF p [.ref 139] D = some (some (bI false), E) → FtM b L C E x → twL (kj b L) (vj b L) j nl fl cs sk = .inr x → ∃ t E, f_M_aTowerLine [.ref 139] D = some (some (bI t), E) ∧ TlM b L C j nl fl cs sk t E := by
    intro E x mm Q tw
    exact ⟨false, E, ma_c h18 hp t1 fr t0 (by omega) (by omega) mm (Or.inr ⟨rfl, rfl, rfl⟩), Or.inr ⟨rfl, x, Q, Or.inl tw⟩⟩
  obtain ⟨E, e1, P1, f1⟩ := ptM_n P
  have TE : TwM E nl fl cs sk := twM_N ⟨t0, t1, t2, t3, t4⟩ f1
  by_cases g2 : kj b L j = 272
  · have h30 : p = 30 := by omega
    have z : fl = 0 := by omega
    subst z
    have mF : maF p = f_M_floors := by unfold maF; rw [if_pos h30]
    obtain ⟨x, hx⟩ : ∃ x, E 139 20 = x := ⟨_, rfl⟩
    rcases rf_numT (lo := 2) (hi := 80) hN (by omega) P1 with ⟨n1, -, -, h20, F, e2, P2, f2⟩ | ⟨y, F, n1, e2, Q⟩
    · refine fin (mUp F 139 14 x) (j + 2) (vj b L (j + 1)) cs sk (by rw [mF]; exact mf_2 t1 e1 hx e2) (ptM_u P2 (by omega)) ?_ ?_
      · obtain ⟨u0, u1, u2, u3, u4⟩ := twM_N TE f2
        exact ⟨by rw [up_j (by omega)]; exact u0, by rw [up_at, ← hx]; exact h20, by rw [up_j (by omega)]; exact u2, fun i y hy => by rw [up_k (by omega)]; exact u3 i y hy, fun i hi => by rw [up_k (by omega)]; exact u4 i hi⟩
      · unfold twL
        rw [if_neg (by omega), if_neg (by omega), if_pos g2, n1]
    · refine fail F y (by rw [mF]; exact mf_1 t1 e1 hx e2) Q ?_
      unfold twL
      rw [if_neg (by omega), if_neg (by omega), if_pos g2, n1]
  · have f0 : ¬ fl = 0 := by omega
    by_cases g3 : kj b L j = 271
    · have h31 : p = 31 := by omega
      have mF : maF p = f_M_aCar := by unfold maF; rw [if_neg (by omega), if_pos h31]
      by_cases c4 : cs.length = 4
      · obtain ⟨E', e, Q⟩ := bad 3
        refine fail E' _ (by rw [mF]; exact mc_3 t1 f0 fr (by rw [t2, c4]; rfl) e) Q ?_
        unfold twL
        rw [if_neg (by omega), if_pos (by omega)]
      · rcases rf_car5 hN hR f0 (by omega) P ⟨t0, t1, t2, t3, t4⟩ with ⟨n1, F, e2, P2, T2⟩ | ⟨x, F, n1, e2, Q⟩
        · refine fin F (j + 6) fl _ sk (by rw [mF]; exact e2) P2 T2 ?_
          unfold twL
          rw [if_neg (by omega), if_neg (by omega), if_neg g2, if_pos g3, n1]
        · refine fail F x (by rw [mF]; exact e2) Q ?_
          unfold twL
          rw [if_neg (by omega), if_neg (by omega), if_neg g2, if_pos g3, n1]
    · have h32 : p = 32 := by omega
      have mF : maF p = f_M_skip := by unfold maF; rw [if_neg (by omega), if_neg (by omega)]
      obtain ⟨x, hx⟩ : ∃ x, E 139 20 = x := ⟨_, rfl⟩
      rcases rf_numT (lo := 0) (hi := (cs.length : Int) - 1) hN (by omega) P1 with ⟨n1, a1, a2, h20, F, e2, P2, f2⟩ | ⟨y, F, n1, e2, Q⟩
      · have TF := twM_N TE f2
        obtain ⟨y, hy⟩ : ∃ y, F 139 20 = y := ⟨_, rfl⟩
        rcases rf_numT (lo := 0) (hi := fl - 1) hN (by omega) P2 with ⟨n2, b1, b2, h20', G, e3, P3, f3⟩ | ⟨w, G, n2, e3, Q⟩
        · have n2 : nbE (kj b L) (vj b L) 0 (fl - 1) (j + 2) = none := n2
          have TG := twM_N TF f3
          have b1 : 0 ≤ vj b L (j + 2) := b1
          have b2 : vj b L (j + 2) ≤ fl - 1 := b2
          refine fin (mUp G 149 (80 * vj b L (j + 1) + vj b L (j + 2)).toNat (iz 1)) (j + 3) fl cs (skU sk (80 * vj b L (j + 1) + vj b L (j + 2)).toNat) (by rw [mF]; exact mk_z3 t1 f0 fr e1 h20 (by omega) TE.2.2.1 (by omega) e2 h20' (by omega) TF.2.1 e3) (ptM_u P3 (by omega)) ?_ ?_
          · obtain ⟨u0, u1, u2, u3, u4⟩ := TG
            refine ⟨by rw [up_k (by omega)]; exact u0, by rw [up_k (by omega)]; exact u1, by rw [up_k (by omega)]; exact u2, fun i z hz => by rw [up_k (by omega)]; exact u3 i z hz, fun i hi => ?_⟩
            unfold skU
            by_cases z : i = (80 * vj b L (j + 1) + vj b L (j + 2)).toNat
            · rw [if_pos z, z, up_at]; rfl
            · rw [if_neg z, up_j z]; exact u4 i hi
          · unfold twL
            rw [if_neg (by omega), if_neg (by omega), if_neg g2, if_neg g3, n1]
            simp only [n2]
        · have n2 : nbE (kj b L) (vj b L) 0 (fl - 1) (j + 2) = some w := n2
          refine fail G w (by rw [mF]; exact mk_z2 t1 f0 fr e1 hx TE.2.2.1 (by omega) e2 hy TF.2.1 e3) Q ?_
          unfold twL
          rw [if_neg (by omega), if_neg (by omega), if_neg g2, if_neg g3, n1]
          simp only [n2]
      · refine fail F y (by rw [mF]; exact mk_z1 t1 f0 fr e1 hx TE.2.2.1 (by omega) e2) Q ?_
        unfold twL
        rw [if_neg (by omega), if_neg (by omega), if_neg g2, if_neg g3, n1]
theorem bx_tower {t : Bool} {v : Int} {N : List Value → mMem → Prop} {R : Option Int32 → mMem → Prop} {KK : Bool → List Value → mMem → Prop} {x : Value} (e : f_M_aTowerLine [.ref 139] E = some (some (bI t), D)) (h12 : D 139 12 = iz v) : wS bTx [.ref 139, .int (iz 3), x] E N R KK ↔ N [.ref 139, .int (iz 3), .int (bI t)] (mUp D 139 12 (iz (v + (if t = true then 1 else 0)))) := by
  unfold bTx
  cases t with
  | true => simp (disch := omega) only [↓w_eBin, ↓w_eUn, ↓w_eDiv, ↓w_eRem, ↓w_eFld, ↓w_rFld, ↓w_eALd, ↓w_rALd, ↓w_eALen, ↓w_rStr, ↓w_aNil, ↓w_aI, ↓w_aR, ↓w_N, ↓w_eCall, ↓w_X, ↓w_bCmp, ↓w_bAnd, ↓w_bOr, ↓w_bNot, ↓w_eB, ↓w_eIte, ↓w_sSkip, ↓w_sRet, ↓w_sRetZ, ↓w_sRetV, ↓w_sBrk, ↓w_sCont, ↓w_sIf, ↓w_sSeq, ↓w_sCaC, ↓w_sCaB, ↓w_sSw, ↓w_sCall, ↓w_sPut, ↓w_sPutOp, ↓w_sASt, ↓w_sAOp, ↓w_sADiv, ↓w_eLoc0, ↓w_rLoc0, ↓w_sSet0, ↓w_sSetR0, ↓w_sIncP0, ↓w_sIncM0, ↓w_eLoc1, ↓w_rLoc1, ↓w_sSet1, ↓w_sSetR1, ↓w_sIncP1, ↓w_sIncM1, ↓w_eLoc2, ↓w_rLoc2, ↓w_sSet2, ↓w_sSetR2, ↓w_sIncP2, ↓w_sIncM2, ↓w_eLoc3, ↓w_rLoc3, ↓w_sSet3, ↓w_sSetR3, ↓w_sIncP3, ↓w_sIncM3, ↓w_eLoc4, ↓w_rLoc4, ↓w_sSet4, ↓w_sSetR4, ↓w_sIncP4, ↓w_sIncM4, ↓w_eLoc5, ↓w_rLoc5, ↓w_sSet5, ↓w_sSetR5, ↓w_sIncP5, ↓w_sIncM5, ↓w_eLoc6, ↓w_rLoc6, ↓w_sSet6, ↓w_sSetR6, ↓w_sIncP6, ↓w_sIncM6, ↓w_eLoc7, ↓w_rLoc7, ↓w_sSet7, ↓w_sSetR7, ↓w_sIncP7, ↓w_sIncM7, ↓w_eLoc8, ↓w_rLoc8, ↓w_sSet8, ↓w_sSetR8, ↓w_sIncP8, ↓w_sIncM8, ↓w_eLoc9, ↓w_rLoc9, ↓w_sSet9, ↓w_sSetR9, ↓w_sIncP9, ↓w_sIncM9, ↓w_eLoc10, ↓w_rLoc10, ↓w_sSet10, ↓w_sSetR10, ↓w_sIncP10, ↓w_sIncM10, ↓w_eLoc11, ↓w_rLoc11, ↓w_sSet11, ↓w_sSetR11, ↓w_sIncP11, ↓w_sIncM11, ↓w_eLoc12, ↓w_rLoc12, ↓w_sSet12, ↓w_sSetR12, ↓w_sIncP12, ↓w_sIncM12, ↓w_eLoc13, ↓w_rLoc13, ↓w_sSet13, ↓w_sSetR13, ↓w_sIncP13, ↓w_sIncM13, ↓w_eIntN, ↓w_eIntM, ↓w_bZi, ↓w_add, ↓w_sub, ↓w_mul, ↓w_neg, ↓w_nar, ↓w_div, ↓w_ldne, ↓w_ldat, ↓w_ldj, List.length_cons, List.length_nil, Nat.reduceAdd, Nat.reduceSub, Nat.reduceLeDiff, List.replicate_succ, List.replicate_zero, List.cons_append, List.nil_append, List.append_nil, iz_nI, iz_ofNat, iz_add, iz_sub, iz_mul, cz_lt, cz_le, cz_gt, cz_ge, cz_eq, cz_ne, mIn_iz, iz_nat, decide_eq_true_eq, Bool.not_eq_true', decide_eq_false_iff_not, true_and, and_true, ↓reduceIte, not_true_eq_false, not_false_eq_true, w01_bI, w01_i0, w01_i1, bI_ne', bI_eq', Bool.false_eq_true, false_implies, forall_const, implies_true, true_implies, imp_self, eq_self, cz10, cz00, w01_0, w01_1, Bool.true_eq_false, Bool.not_true, Bool.not_false, decide_true, decide_false, ↓tO_2, ↓tR_2_0, ↓tR_2_1, ↓tR_2_2, ↓tI_2_3, ↓tI_2_4, ↓tI_2_5, ↓tI_2_6, ↓tI_2_7, ↓tI_2_8, ↓tO_11, ↓tI_11_0, ↓tI_11_1, ↓tI_11_2, ↓tR_11_3, ↓tR_11_4, ↓tR_11_5, ↓tR_11_6, ↓tR_11_7, ↓tR_11_8, ↓tA_17, ↓tN_17, ↓tO_139, ↓tR_139_0, ↓tR_139_1, ↓tR_139_2, ↓tI_139_3, ↓tR_139_4, ↓tR_139_5, ↓tR_139_6, ↓tR_139_7, ↓tR_139_8, ↓tR_139_9, ↓tR_139_10, ↓tI_139_11, ↓tI_139_12, ↓tI_139_13, ↓tI_139_14, ↓tI_139_15, ↓tI_139_16, ↓tI_139_17, ↓tI_139_18, ↓tI_139_19, ↓tI_139_20, ↓tI_139_21, ↓tI_139_22, ↓tI_139_23, ↓tI_139_24, ↓tI_139_25, ↓tI_139_26, ↓tR_139_27, ↓tI_139_28, ↓tI_139_29, ↓tI_139_30, ↓tI_139_31, ↓tR_139_32, ↓tI_139_33, ↓tR_139_34, ↓tR_139_35, ↓tR_139_36, ↓tR_139_37, ↓tI_139_38, Int.reduceEq, Int.reduceLT, Int.lt_irrefl, ↓wF_eq e, ↓wLd_of h12, if_true]
  | false => simp (disch := omega) only [↓w_eBin, ↓w_eUn, ↓w_eDiv, ↓w_eRem, ↓w_eFld, ↓w_rFld, ↓w_eALd, ↓w_rALd, ↓w_eALen, ↓w_rStr, ↓w_aNil, ↓w_aI, ↓w_aR, ↓w_N, ↓w_eCall, ↓w_X, ↓w_bCmp, ↓w_bAnd, ↓w_bOr, ↓w_bNot, ↓w_eB, ↓w_eIte, ↓w_sSkip, ↓w_sRet, ↓w_sRetZ, ↓w_sRetV, ↓w_sBrk, ↓w_sCont, ↓w_sIf, ↓w_sSeq, ↓w_sCaC, ↓w_sCaB, ↓w_sSw, ↓w_sCall, ↓w_sPut, ↓w_sPutOp, ↓w_sASt, ↓w_sAOp, ↓w_sADiv, ↓w_eLoc0, ↓w_rLoc0, ↓w_sSet0, ↓w_sSetR0, ↓w_sIncP0, ↓w_sIncM0, ↓w_eLoc1, ↓w_rLoc1, ↓w_sSet1, ↓w_sSetR1, ↓w_sIncP1, ↓w_sIncM1, ↓w_eLoc2, ↓w_rLoc2, ↓w_sSet2, ↓w_sSetR2, ↓w_sIncP2, ↓w_sIncM2, ↓w_eLoc3, ↓w_rLoc3, ↓w_sSet3, ↓w_sSetR3, ↓w_sIncP3, ↓w_sIncM3, ↓w_eLoc4, ↓w_rLoc4, ↓w_sSet4, ↓w_sSetR4, ↓w_sIncP4, ↓w_sIncM4, ↓w_eLoc5, ↓w_rLoc5, ↓w_sSet5, ↓w_sSetR5, ↓w_sIncP5, ↓w_sIncM5, ↓w_eLoc6, ↓w_rLoc6, ↓w_sSet6, ↓w_sSetR6, ↓w_sIncP6, ↓w_sIncM6, ↓w_eLoc7, ↓w_rLoc7, ↓w_sSet7, ↓w_sSetR7, ↓w_sIncP7, ↓w_sIncM7, ↓w_eLoc8, ↓w_rLoc8, ↓w_sSet8, ↓w_sSetR8, ↓w_sIncP8, ↓w_sIncM8, ↓w_eLoc9, ↓w_rLoc9, ↓w_sSet9, ↓w_sSetR9, ↓w_sIncP9, ↓w_sIncM9, ↓w_eLoc10, ↓w_rLoc10, ↓w_sSet10, ↓w_sSetR10, ↓w_sIncP10, ↓w_sIncM10, ↓w_eLoc11, ↓w_rLoc11, ↓w_sSet11, ↓w_sSetR11, ↓w_sIncP11, ↓w_sIncM11, ↓w_eLoc12, ↓w_rLoc12, ↓w_sSet12, ↓w_sSetR12, ↓w_sIncP12, ↓w_sIncM12, ↓w_eLoc13, ↓w_rLoc13, ↓w_sSet13, ↓w_sSetR13, ↓w_sIncP13, ↓w_sIncM13, ↓w_eIntN, ↓w_eIntM, ↓w_bZi, ↓w_add, ↓w_sub, ↓w_mul, ↓w_neg, ↓w_nar, ↓w_div, ↓w_ldne, ↓w_ldat, ↓w_ldj, List.length_cons, List.length_nil, Nat.reduceAdd, Nat.reduceSub, Nat.reduceLeDiff, List.replicate_succ, List.replicate_zero, List.cons_append, List.nil_append, List.append_nil, iz_nI, iz_ofNat, iz_add, iz_sub, iz_mul, cz_lt, cz_le, cz_gt, cz_ge, cz_eq, cz_ne, mIn_iz, iz_nat, decide_eq_true_eq, Bool.not_eq_true', decide_eq_false_iff_not, true_and, and_true, ↓reduceIte, not_true_eq_false, not_false_eq_true, w01_bI, w01_i0, w01_i1, bI_ne', bI_eq', Bool.false_eq_true, false_implies, forall_const, implies_true, true_implies, imp_self, eq_self, cz10, cz00, w01_0, w01_1, Bool.true_eq_false, Bool.not_true, Bool.not_false, decide_true, decide_false, ↓tO_2, ↓tR_2_0, ↓tR_2_1, ↓tR_2_2, ↓tI_2_3, ↓tI_2_4, ↓tI_2_5, ↓tI_2_6, ↓tI_2_7, ↓tI_2_8, ↓tO_11, ↓tI_11_0, ↓tI_11_1, ↓tI_11_2, ↓tR_11_3, ↓tR_11_4, ↓tR_11_5, ↓tR_11_6, ↓tR_11_7, ↓tR_11_8, ↓tA_17, ↓tN_17, ↓tO_139, ↓tR_139_0, ↓tR_139_1, ↓tR_139_2, ↓tI_139_3, ↓tR_139_4, ↓tR_139_5, ↓tR_139_6, ↓tR_139_7, ↓tR_139_8, ↓tR_139_9, ↓tR_139_10, ↓tI_139_11, ↓tI_139_12, ↓tI_139_13, ↓tI_139_14, ↓tI_139_15, ↓tI_139_16, ↓tI_139_17, ↓tI_139_18, ↓tI_139_19, ↓tI_139_20, ↓tI_139_21, ↓tI_139_22, ↓tI_139_23, ↓tI_139_24, ↓tI_139_25, ↓tI_139_26, ↓tR_139_27, ↓tI_139_28, ↓tI_139_29, ↓tI_139_30, ↓tI_139_31, ↓tR_139_32, ↓tI_139_33, ↓tR_139_34, ↓tR_139_35, ↓tR_139_36, ↓tR_139_37, ↓tI_139_38, Int.reduceEq, Int.reduceLT, Int.lt_irrefl, ↓wF_eq e, ↓wLd_of h12, if_false]
def TdM (b : Nat → Int) (L : Nat) (C : mMem) (t : Bool) (D : mMem) : Sum (Nat × Int × List Cr × (Nat → Bool)) (Nat × Int) → Prop
  | .inl (nl, fl, cs, sk) => t = true ∧ TwM D nl fl cs sk ∧ D 139 21 = C 139 21
  | .inr x => t = false ∧ D 139 21 = iz x.2 ∧ D 139 22 = iz (st b L x.1)
def TdC (b : Nat → Int) (L : Nat) (C : mMem) (t : Bool) (D : mMem) : Sum (Nat × Int × List Cr × (Nat → Bool)) (Nat × Int) → Prop
  | .inl (nl, fl, cs, sk) => t = true ∧ TwC D nl fl cs sk ∧ TwR nl fl cs ∧ D 2 7 = C 2 7 ∧ D 2 8 = C 2 8
  | .inr x => t = false ∧ D 2 7 = iz x.2 ∧ D 2 8 = iz (st b L x.1)
def tw0 (b : Nat → Int) (L : Nat) : Sum (Nat × Int × List Cr × (Nat → Bool)) (Nat × Int) := twF (kj b L) (vj b L) 41 0 0 0 [] (fun _ => false)
theorem tw_s {f : Nat} {R0 : Sum (Nat × Int × List Cr × (Nat → Bool)) (Nat × Int)} (hr : twF (kj b L) (vj b L) (f + 1) j nl fl cs sk = R0) (kz : ¬ kj b L j = 0) : (∀ x, twL (kj b L) (vj b L) j nl fl cs sk = .inr x → R0 = .inr x) ∧ ∀ q fl' cs' sk', twL (kj b L) (vj b L) j nl fl cs sk = .inl (q, fl', cs', sk') → (kj b L q = 59 → twF (kj b L) (vj b L) f (q + 1) (nl + 1) fl' cs' sk' = R0) ∧ (¬ kj b L q = 59 → R0 = .inr (q, 1)) := by
  rw [twF, if_neg kz] at hr
  refine ⟨fun x hx => by rw [hx] at hr; exact hr.symm, fun q fl' cs' sk' hx => ?_⟩
  rw [hx] at hr
  have hr : (if kj b L q = 59 then twF (kj b L) (vj b L) f (q + 1) (nl + 1) fl' cs' sk' else .inr (q, 1)) = R0 := hr
  exact ⟨fun z => by rw [if_pos z] at hr; exact hr, fun z => by rw [if_neg z] at hr; exact hr.symm⟩
/-- the lines of a tower, in the reference -/
theorem rf_textT {N : List Value → mMem → Prop} {R : Option Int32 → mMem → Prop} {KK : Bool → List Value → mMem → Prop} (hN : NK b L n) (T : TxM C E b L 3) (H : ∀ t D, FrTM E D → TdM b L E t D (tw0 b L) → N [.ref 139, .int (iz 3), .int (bI t)] D) : wS wTx [.ref 139, .int (iz 3), .int (iz 1)] E N R KK := by
  obtain ⟨T1, T2, T3, T4, T5, T6, T7, T8, T9⟩ := T
  unfold wTx
  refine wS_wh (fun m ls D => ∃ t : Bool, ls = [.ref 139, .int (iz 3), .int (bI t)] ∧ ((t = true ∧ ∃ f j nl fl cs sk, PtM b L E D j ∧ TwM D nl fl cs sk ∧ TwR nl fl cs ∧ twF (kj b L) (vj b L) f j nl fl cs sk = tw0 b L ∧ f + nl = 41 ∧ m = f + 1) ∨ (t = false ∧ FrTM E D ∧ TdM b L E false D (tw0 b L) ∧ m = 0))) ?_ 42 _ _ ⟨true, rfl, Or.inl ⟨rfl, 41, 0, 0, 0, [], fun _ => false, ⟨T1, rfl, ⟨fun _ _ _ _ => rfl, fun _ _ => rfl⟩⟩, ⟨T4, T6, T7, fun i x hx => by simp at hx, fun i hi => T9 i hi⟩, ⟨by omega, Or.inl rfl, by omega, by simp, fun x hx => by simp at hx⟩, rfl, rfl, rfl⟩⟩
  rintro m ls D ⟨t, rfl, ⟨rfl, f, j, nl, fl, cs, sk, P, T, hR, hr, hf, rfl⟩ | ⟨rfl, F, Rd, rfl⟩⟩
  · have kr := hN.2.2.1 j
    have h18 := P.1.2.2.1
    obtain ⟨-, -, -, -, -, p0, pa, pb, -⟩ := ph3 kr.1 kr.2
    have nr := hR.1
    obtain ⟨f, rfl⟩ : ∃ g, f = g + 1 := ⟨f - 1, by omega⟩
    generalize ph 3 (kj b L j) = p at *
    by_cases g : p = 0
    · have kz := p0.mp g
      have fin := H true D P.2.2 (by
        rw [← hr, twF, if_pos kz]
        exact ⟨rfl, T, P.2.1⟩)
      clear H p0
      subst g
      simp (disch := omega) only [↓w_eBin, ↓w_eUn, ↓w_eDiv, ↓w_eRem, ↓w_eFld, ↓w_rFld, ↓w_eALd, ↓w_rALd, ↓w_eALen, ↓w_rStr, ↓w_aNil, ↓w_aI, ↓w_aR, ↓w_N, ↓w_eCall, ↓w_X, ↓w_bCmp, ↓w_bAnd, ↓w_bOr, ↓w_bNot, ↓w_eB, ↓w_eIte, ↓w_sSkip, ↓w_sRet, ↓w_sRetZ, ↓w_sRetV, ↓w_sBrk, ↓w_sCont, ↓w_sIf, ↓w_sSeq, ↓w_sCaC, ↓w_sCaB, ↓w_sSw, ↓w_sCall, ↓w_sPut, ↓w_sPutOp, ↓w_sASt, ↓w_sAOp, ↓w_sADiv, ↓w_eLoc0, ↓w_rLoc0, ↓w_sSet0, ↓w_sSetR0, ↓w_sIncP0, ↓w_sIncM0, ↓w_eLoc1, ↓w_rLoc1, ↓w_sSet1, ↓w_sSetR1, ↓w_sIncP1, ↓w_sIncM1, ↓w_eLoc2, ↓w_rLoc2, ↓w_sSet2, ↓w_sSetR2, ↓w_sIncP2, ↓w_sIncM2, ↓w_eLoc3, ↓w_rLoc3, ↓w_sSet3, ↓w_sSetR3, ↓w_sIncP3, ↓w_sIncM3, ↓w_eLoc4, ↓w_rLoc4, ↓w_sSet4, ↓w_sSetR4, ↓w_sIncP4, ↓w_sIncM4, ↓w_eLoc5, ↓w_rLoc5, ↓w_sSet5, ↓w_sSetR5, ↓w_sIncP5, ↓w_sIncM5, ↓w_eLoc6, ↓w_rLoc6, ↓w_sSet6, ↓w_sSetR6, ↓w_sIncP6, ↓w_sIncM6, ↓w_eLoc7, ↓w_rLoc7, ↓w_sSet7, ↓w_sSetR7, ↓w_sIncP7, ↓w_sIncM7, ↓w_eLoc8, ↓w_rLoc8, ↓w_sSet8, ↓w_sSetR8, ↓w_sIncP8, ↓w_sIncM8, ↓w_eLoc9, ↓w_rLoc9, ↓w_sSet9, ↓w_sSetR9, ↓w_sIncP9, ↓w_sIncM9, ↓w_eLoc10, ↓w_rLoc10, ↓w_sSet10, ↓w_sSetR10, ↓w_sIncP10, ↓w_sIncM10, ↓w_eLoc11, ↓w_rLoc11, ↓w_sSet11, ↓w_sSetR11, ↓w_sIncP11, ↓w_sIncM11, ↓w_eLoc12, ↓w_rLoc12, ↓w_sSet12, ↓w_sSetR12, ↓w_sIncP12, ↓w_sIncM12, ↓w_eLoc13, ↓w_rLoc13, ↓w_sSet13, ↓w_sSetR13, ↓w_sIncP13, ↓w_sIncM13, ↓w_eIntN, ↓w_eIntM, ↓w_bZi, ↓w_add, ↓w_sub, ↓w_mul, ↓w_neg, ↓w_nar, ↓w_div, ↓w_ldne, ↓w_ldat, ↓w_ldj, List.length_cons, List.length_nil, Nat.reduceAdd, Nat.reduceSub, Nat.reduceLeDiff, List.replicate_succ, List.replicate_zero, List.cons_append, List.nil_append, List.append_nil, iz_nI, iz_ofNat, iz_add, iz_sub, iz_mul, cz_lt, cz_le, cz_gt, cz_ge, cz_eq, cz_ne, mIn_iz, iz_nat, decide_eq_true_eq, Bool.not_eq_true', decide_eq_false_iff_not, true_and, and_true, ↓reduceIte, not_true_eq_false, not_false_eq_true, w01_bI, w01_i0, w01_i1, bI_ne', bI_eq', Bool.false_eq_true, false_implies, forall_const, implies_true, true_implies, imp_self, eq_self, cz10, cz00, w01_0, w01_1, Bool.true_eq_false, Bool.not_true, Bool.not_false, decide_true, decide_false, ↓tO_2, ↓tR_2_0, ↓tR_2_1, ↓tR_2_2, ↓tI_2_3, ↓tI_2_4, ↓tI_2_5, ↓tI_2_6, ↓tI_2_7, ↓tI_2_8, ↓tO_11, ↓tI_11_0, ↓tI_11_1, ↓tI_11_2, ↓tR_11_3, ↓tR_11_4, ↓tR_11_5, ↓tR_11_6, ↓tR_11_7, ↓tR_11_8, ↓tA_17, ↓tN_17, ↓tO_139, ↓tR_139_0, ↓tR_139_1, ↓tR_139_2, ↓tI_139_3, ↓tR_139_4, ↓tR_139_5, ↓tR_139_6, ↓tR_139_7, ↓tR_139_8, ↓tR_139_9, ↓tR_139_10, ↓tI_139_11, ↓tI_139_12, ↓tI_139_13, ↓tI_139_14, ↓tI_139_15, ↓tI_139_16, ↓tI_139_17, ↓tI_139_18, ↓tI_139_19, ↓tI_139_20, ↓tI_139_21, ↓tI_139_22, ↓tI_139_23, ↓tI_139_24, ↓tI_139_25, ↓tI_139_26, ↓tR_139_27, ↓tI_139_28, ↓tI_139_29, ↓tI_139_30, ↓tI_139_31, ↓tR_139_32, ↓tI_139_33, ↓tR_139_34, ↓tR_139_35, ↓tR_139_36, ↓tR_139_37, ↓tI_139_38, Int.reduceEq, Int.reduceLT, ↓wLd_of h18]
      exact fin
    · have kz : ¬ kj b L j = 0 := fun z => g (p0.mpr z)
      obtain ⟨s1, s2⟩ := tw_s hr kz
      obtain ⟨t, G, e, h⟩ := rf_tline hN hR P T
      have lp : ∀ {N' : List Value → mMem → Prop} {R' : Option Int32 → mMem → Prop} {K' : Bool → List Value → mMem → Prop} {x : Value}, (∃ v, G 139 12 = iz v ∧ N' [.ref 139, .int (iz 3), .int (bI t)] (mUp G 139 12 (iz (v + (if t = true then 1 else 0))))) → wS bTx [.ref 139, .int (iz 3), x] D N' R' K' := by
        rintro N' R' K' x ⟨v, hv, hN'⟩
        exact (bx_tower e hv).mpr hN'
      clear p0 H
      simp (disch := omega) only [↓w_eBin, ↓w_eUn, ↓w_eDiv, ↓w_eRem, ↓w_eFld, ↓w_rFld, ↓w_eALd, ↓w_rALd, ↓w_eALen, ↓w_rStr, ↓w_aNil, ↓w_aI, ↓w_aR, ↓w_N, ↓w_eCall, ↓w_X, ↓w_bCmp, ↓w_bAnd, ↓w_bOr, ↓w_bNot, ↓w_eB, ↓w_eIte, ↓w_sSkip, ↓w_sRet, ↓w_sRetZ, ↓w_sRetV, ↓w_sBrk, ↓w_sCont, ↓w_sIf, ↓w_sSeq, ↓w_sCaC, ↓w_sCaB, ↓w_sSw, ↓w_sCall, ↓w_sPut, ↓w_sPutOp, ↓w_sASt, ↓w_sAOp, ↓w_sADiv, ↓w_eLoc0, ↓w_rLoc0, ↓w_sSet0, ↓w_sSetR0, ↓w_sIncP0, ↓w_sIncM0, ↓w_eLoc1, ↓w_rLoc1, ↓w_sSet1, ↓w_sSetR1, ↓w_sIncP1, ↓w_sIncM1, ↓w_eLoc2, ↓w_rLoc2, ↓w_sSet2, ↓w_sSetR2, ↓w_sIncP2, ↓w_sIncM2, ↓w_eLoc3, ↓w_rLoc3, ↓w_sSet3, ↓w_sSetR3, ↓w_sIncP3, ↓w_sIncM3, ↓w_eLoc4, ↓w_rLoc4, ↓w_sSet4, ↓w_sSetR4, ↓w_sIncP4, ↓w_sIncM4, ↓w_eLoc5, ↓w_rLoc5, ↓w_sSet5, ↓w_sSetR5, ↓w_sIncP5, ↓w_sIncM5, ↓w_eLoc6, ↓w_rLoc6, ↓w_sSet6, ↓w_sSetR6, ↓w_sIncP6, ↓w_sIncM6, ↓w_eLoc7, ↓w_rLoc7, ↓w_sSet7, ↓w_sSetR7, ↓w_sIncP7, ↓w_sIncM7, ↓w_eLoc8, ↓w_rLoc8, ↓w_sSet8, ↓w_sSetR8, ↓w_sIncP8, ↓w_sIncM8, ↓w_eLoc9, ↓w_rLoc9, ↓w_sSet9, ↓w_sSetR9, ↓w_sIncP9, ↓w_sIncM9, ↓w_eLoc10, ↓w_rLoc10, ↓w_sSet10, ↓w_sSetR10, ↓w_sIncP10, ↓w_sIncM10, ↓w_eLoc11, ↓w_rLoc11, ↓w_sSet11, ↓w_sSetR11, ↓w_sIncP11, ↓w_sIncM11, ↓w_eLoc12, ↓w_rLoc12, ↓w_sSet12, ↓w_sSetR12, ↓w_sIncP12, ↓w_sIncM12, ↓w_eLoc13, ↓w_rLoc13, ↓w_sSet13, ↓w_sSetR13, ↓w_sIncP13, ↓w_sIncM13, ↓w_eIntN, ↓w_eIntM, ↓w_bZi, ↓w_add, ↓w_sub, ↓w_mul, ↓w_neg, ↓w_nar, ↓w_div, ↓w_ldne, ↓w_ldat, ↓w_ldj, List.length_cons, List.length_nil, Nat.reduceAdd, Nat.reduceSub, Nat.reduceLeDiff, List.replicate_succ, List.replicate_zero, List.cons_append, List.nil_append, List.append_nil, iz_nI, iz_ofNat, iz_add, iz_sub, iz_mul, cz_lt, cz_le, cz_gt, cz_ge, cz_eq, cz_ne, mIn_iz, iz_nat, decide_eq_true_eq, Bool.not_eq_true', decide_eq_false_iff_not, true_and, and_true, ↓reduceIte, not_true_eq_false, not_false_eq_true, w01_bI, w01_i0, w01_i1, bI_ne', bI_eq', Bool.false_eq_true, false_implies, forall_const, implies_true, true_implies, imp_self, eq_self, cz10, cz00, w01_0, w01_1, Bool.true_eq_false, Bool.not_true, Bool.not_false, decide_true, decide_false, ↓tO_2, ↓tR_2_0, ↓tR_2_1, ↓tR_2_2, ↓tI_2_3, ↓tI_2_4, ↓tI_2_5, ↓tI_2_6, ↓tI_2_7, ↓tI_2_8, ↓tO_11, ↓tI_11_0, ↓tI_11_1, ↓tI_11_2, ↓tR_11_3, ↓tR_11_4, ↓tR_11_5, ↓tR_11_6, ↓tR_11_7, ↓tR_11_8, ↓tA_17, ↓tN_17, ↓tO_139, ↓tR_139_0, ↓tR_139_1, ↓tR_139_2, ↓tI_139_3, ↓tR_139_4, ↓tR_139_5, ↓tR_139_6, ↓tR_139_7, ↓tR_139_8, ↓tR_139_9, ↓tR_139_10, ↓tI_139_11, ↓tI_139_12, ↓tI_139_13, ↓tI_139_14, ↓tI_139_15, ↓tI_139_16, ↓tI_139_17, ↓tI_139_18, ↓tI_139_19, ↓tI_139_20, ↓tI_139_21, ↓tI_139_22, ↓tI_139_23, ↓tI_139_24, ↓tI_139_25, ↓tI_139_26, ↓tR_139_27, ↓tI_139_28, ↓tI_139_29, ↓tI_139_30, ↓tI_139_31, ↓tR_139_32, ↓tI_139_33, ↓tR_139_34, ↓tR_139_35, ↓tR_139_36, ↓tR_139_37, ↓tI_139_38, Int.reduceEq, Int.reduceLT, ↓wLd_of h18, g]
      apply lp
      rcases h with ⟨rfl, q, fl', cs', sk', tw, k1, PG, TG⟩ | ⟨rfl, x, Q, tw⟩
      · have rr := twL_R hR tw
        obtain ⟨u0, u1, u2, u3, u4⟩ := TG
        refine ⟨_, u0, f + 1, by omega, true, rfl, Or.inl ⟨rfl, f, q + 1, nl + 1, fl', cs', sk', ptM_u PG (by omega), ⟨by rw [up_at]; rfl, by rw [up_j (by omega)]; exact u1, by rw [up_j (by omega)]; exact u2, fun i x hx => by rw [up_k (by omega)]; exact u3 i x hx, fun i hi => by rw [up_k (by omega)]; exact u4 i hi⟩, ⟨by omega, rr.1.2⟩, (s2 q fl' cs' sk' tw).1 k1, by omega, rfl⟩⟩
      · obtain ⟨v, hv, -⟩ := iz_ex (G 139 12)
        have hR0 : tw0 b L = .inr x := by
          rcases tw with tw | ⟨q, fl', cs', sk', tw, k1, rfl⟩
          · exact s1 x tw
          · exact (s2 q fl' cs' sk' tw).2 k1
        refine ⟨v, hv, 0, by omega, false, rfl, Or.inr ⟨rfl, frTM_t Q.2.2 (frTM_u (by omega)), ?_, rfl⟩⟩
        rw [hR0]
        exact ⟨rfl, by rw [up_j (by omega)]; exact Q.1, by rw [up_j (by omega)]; exact Q.2.1⟩
  · have fin := H false D F Rd
    simp (disch := omega) only [↓w_eBin, ↓w_eUn, ↓w_eDiv, ↓w_eRem, ↓w_eFld, ↓w_rFld, ↓w_eALd, ↓w_rALd, ↓w_eALen, ↓w_rStr, ↓w_aNil, ↓w_aI, ↓w_aR, ↓w_N, ↓w_eCall, ↓w_X, ↓w_bCmp, ↓w_bAnd, ↓w_bOr, ↓w_bNot, ↓w_eB, ↓w_eIte, ↓w_sSkip, ↓w_sRet, ↓w_sRetZ, ↓w_sRetV, ↓w_sBrk, ↓w_sCont, ↓w_sIf, ↓w_sSeq, ↓w_sCaC, ↓w_sCaB, ↓w_sSw, ↓w_sCall, ↓w_sPut, ↓w_sPutOp, ↓w_sASt, ↓w_sAOp, ↓w_sADiv, ↓w_eLoc0, ↓w_rLoc0, ↓w_sSet0, ↓w_sSetR0, ↓w_sIncP0, ↓w_sIncM0, ↓w_eLoc1, ↓w_rLoc1, ↓w_sSet1, ↓w_sSetR1, ↓w_sIncP1, ↓w_sIncM1, ↓w_eLoc2, ↓w_rLoc2, ↓w_sSet2, ↓w_sSetR2, ↓w_sIncP2, ↓w_sIncM2, ↓w_eLoc3, ↓w_rLoc3, ↓w_sSet3, ↓w_sSetR3, ↓w_sIncP3, ↓w_sIncM3, ↓w_eLoc4, ↓w_rLoc4, ↓w_sSet4, ↓w_sSetR4, ↓w_sIncP4, ↓w_sIncM4, ↓w_eLoc5, ↓w_rLoc5, ↓w_sSet5, ↓w_sSetR5, ↓w_sIncP5, ↓w_sIncM5, ↓w_eLoc6, ↓w_rLoc6, ↓w_sSet6, ↓w_sSetR6, ↓w_sIncP6, ↓w_sIncM6, ↓w_eLoc7, ↓w_rLoc7, ↓w_sSet7, ↓w_sSetR7, ↓w_sIncP7, ↓w_sIncM7, ↓w_eLoc8, ↓w_rLoc8, ↓w_sSet8, ↓w_sSetR8, ↓w_sIncP8, ↓w_sIncM8, ↓w_eLoc9, ↓w_rLoc9, ↓w_sSet9, ↓w_sSetR9, ↓w_sIncP9, ↓w_sIncM9, ↓w_eLoc10, ↓w_rLoc10, ↓w_sSet10, ↓w_sSetR10, ↓w_sIncP10, ↓w_sIncM10, ↓w_eLoc11, ↓w_rLoc11, ↓w_sSet11, ↓w_sSetR11, ↓w_sIncP11, ↓w_sIncM11, ↓w_eLoc12, ↓w_rLoc12, ↓w_sSet12, ↓w_sSetR12, ↓w_sIncP12, ↓w_sIncM12, ↓w_eLoc13, ↓w_rLoc13, ↓w_sSet13, ↓w_sSetR13, ↓w_sIncP13, ↓w_sIncM13, ↓w_eIntN, ↓w_eIntM, ↓w_bZi, ↓w_add, ↓w_sub, ↓w_mul, ↓w_neg, ↓w_nar, ↓w_div, ↓w_ldne, ↓w_ldat, ↓w_ldj, List.length_cons, List.length_nil, Nat.reduceAdd, Nat.reduceSub, Nat.reduceLeDiff, List.replicate_succ, List.replicate_zero, List.cons_append, List.nil_append, List.append_nil, iz_nI, iz_ofNat, iz_add, iz_sub, iz_mul, cz_lt, cz_le, cz_gt, cz_ge, cz_eq, cz_ne, mIn_iz, iz_nat, decide_eq_true_eq, Bool.not_eq_true', decide_eq_false_iff_not, true_and, and_true, ↓reduceIte, not_true_eq_false, not_false_eq_true, w01_bI, w01_i0, w01_i1, bI_ne', bI_eq', Bool.false_eq_true, false_implies, forall_const, implies_true, true_implies, imp_self, eq_self, cz10, cz00, w01_0, w01_1, Bool.true_eq_false, Bool.not_true, Bool.not_false, decide_true, decide_false, ↓tO_2, ↓tR_2_0, ↓tR_2_1, ↓tR_2_2, ↓tI_2_3, ↓tI_2_4, ↓tI_2_5, ↓tI_2_6, ↓tI_2_7, ↓tI_2_8, ↓tO_11, ↓tI_11_0, ↓tI_11_1, ↓tI_11_2, ↓tR_11_3, ↓tR_11_4, ↓tR_11_5, ↓tR_11_6, ↓tR_11_7, ↓tR_11_8, ↓tA_17, ↓tN_17, ↓tO_139, ↓tR_139_0, ↓tR_139_1, ↓tR_139_2, ↓tI_139_3, ↓tR_139_4, ↓tR_139_5, ↓tR_139_6, ↓tR_139_7, ↓tR_139_8, ↓tR_139_9, ↓tR_139_10, ↓tI_139_11, ↓tI_139_12, ↓tI_139_13, ↓tI_139_14, ↓tI_139_15, ↓tI_139_16, ↓tI_139_17, ↓tI_139_18, ↓tI_139_19, ↓tI_139_20, ↓tI_139_21, ↓tI_139_22, ↓tI_139_23, ↓tI_139_24, ↓tI_139_25, ↓tI_139_26, ↓tR_139_27, ↓tI_139_28, ↓tI_139_29, ↓tI_139_30, ↓tI_139_31, ↓tR_139_32, ↓tI_139_33, ↓tR_139_34, ↓tR_139_35, ↓tR_139_36, ↓tR_139_37, ↓tI_139_38, Int.reduceEq, Int.reduceLT]
    exact fin
theorem rc_takeT (P : PtC b L n C D q) : ∃ t E, f_Tk_take [.ref 2, .int (iz 59)] D = some (some (bI t), E) ∧ ((kj b L q = 59 ∧ t = true ∧ PtC b L n C E (q + 1) ∧ ∀ a, a ≠ 2 → E a = D a) ∨ (¬ kj b L q = 59 ∧ t = false ∧ FtC b L C E (q, 1))) := by
  obtain ⟨h5, -, hN⟩ := ptC_k P
  have kr := hN.2.2.1 q
  by_cases g : kj b L q = 59
  · obtain ⟨E, e, Q, f⟩ := ptC_n P
    rw [g] at h5
    exact ⟨true, E, py_take h5 (by omega) e, Or.inl ⟨g, rfl, Q, f⟩⟩
  · obtain ⟨E, e, Q⟩ := ptC_r (f := 1) P
    exact ⟨false, E, px_take h5 kr (by omega) g e, Or.inr ⟨g, rfl, Q⟩⟩
/-- the class reads a tower -/
theorem rc_tread (T : TokC C b L n 0) : ∃ t D, f_Tw_read [.ref 11, .ref 2] C = some (some (bI t), D) ∧ FrTw C D ∧ TdC b L C t D (tw0 b L) := by
  have hN := nk_of T.1
  have key : wF f_Tw_read [.ref 11, .ref 2] C (fun r D => ∃ t, r = some (bI t) ∧ FrTw C D ∧ TdC b L C t D (tw0 b L)) := by
    unfold f_Tw_read
    simp only [↓w_rcv, ↓w_bodyI, ↓w_bodyZ, ↓w_bodyV, true_and, List.length_cons, List.length_nil, Nat.reduceAdd, Nat.reduceSub, Nat.reduceLeDiff, List.replicate_succ, List.replicate_zero, List.cons_append, List.nil_append, List.append_nil, ↓tO_0, ↓tO_2, ↓tO_6, ↓tO_11, ↓tO_18, ↓tO_19, ↓tO_27, ↓tO_32, ↓tO_37, ↓tO_43, ↓tO_44, ↓tO_52, ↓tO_62, ↓tO_63, ↓tO_71, ↓tO_76, ↓tO_81, ↓tO_87, ↓tO_88, ↓tO_96, ↓tO_106, ↓tO_107, ↓tO_115, ↓tO_127, ↓tO_127c, ↓tO_133, ↓tO_133c, ↓tO_139]
    rw [bTw_eq]
    simp (disch := omega) only [↓w_eBin, ↓w_eUn, ↓w_eDiv, ↓w_eRem, ↓w_eFld, ↓w_rFld, ↓w_eALd, ↓w_rALd, ↓w_eALen, ↓w_rStr, ↓w_aNil, ↓w_aI, ↓w_aR, ↓w_N, ↓w_eCall, ↓w_X, ↓w_bCmp, ↓w_bAnd, ↓w_bOr, ↓w_bNot, ↓w_eB, ↓w_eIte, ↓w_sSkip, ↓w_sRet, ↓w_sRetZ, ↓w_sRetV, ↓w_sBrk, ↓w_sCont, ↓w_sIf, ↓w_sSeq, ↓w_sCaC, ↓w_sCaB, ↓w_sSw, ↓w_sCall, ↓w_sPut, ↓w_sPutOp, ↓w_sASt, ↓w_sAOp, ↓w_sADiv, ↓w_eLoc0, ↓w_rLoc0, ↓w_sSet0, ↓w_sSetR0, ↓w_sIncP0, ↓w_sIncM0, ↓w_eLoc1, ↓w_rLoc1, ↓w_sSet1, ↓w_sSetR1, ↓w_sIncP1, ↓w_sIncM1, ↓w_eLoc2, ↓w_rLoc2, ↓w_sSet2, ↓w_sSetR2, ↓w_sIncP2, ↓w_sIncM2, ↓w_eLoc3, ↓w_rLoc3, ↓w_sSet3, ↓w_sSetR3, ↓w_sIncP3, ↓w_sIncM3, ↓w_eLoc4, ↓w_rLoc4, ↓w_sSet4, ↓w_sSetR4, ↓w_sIncP4, ↓w_sIncM4, ↓w_eLoc5, ↓w_rLoc5, ↓w_sSet5, ↓w_sSetR5, ↓w_sIncP5, ↓w_sIncM5, ↓w_eLoc6, ↓w_rLoc6, ↓w_sSet6, ↓w_sSetR6, ↓w_sIncP6, ↓w_sIncM6, ↓w_eLoc7, ↓w_rLoc7, ↓w_sSet7, ↓w_sSetR7, ↓w_sIncP7, ↓w_sIncM7, ↓w_eLoc8, ↓w_rLoc8, ↓w_sSet8, ↓w_sSetR8, ↓w_sIncP8, ↓w_sIncM8, ↓w_eLoc9, ↓w_rLoc9, ↓w_sSet9, ↓w_sSetR9, ↓w_sIncP9, ↓w_sIncM9, ↓w_eLoc10, ↓w_rLoc10, ↓w_sSet10, ↓w_sSetR10, ↓w_sIncP10, ↓w_sIncM10, ↓w_eLoc11, ↓w_rLoc11, ↓w_sSet11, ↓w_sSetR11, ↓w_sIncP11, ↓w_sIncM11, ↓w_eLoc12, ↓w_rLoc12, ↓w_sSet12, ↓w_sSetR12, ↓w_sIncP12, ↓w_sIncM12, ↓w_eLoc13, ↓w_rLoc13, ↓w_sSet13, ↓w_sSetR13, ↓w_sIncP13, ↓w_sIncM13, ↓w_eIntN, ↓w_eIntM, ↓w_bZi, ↓w_add, ↓w_sub, ↓w_mul, ↓w_neg, ↓w_nar, ↓w_div, ↓w_ldne, ↓w_ldat, ↓w_ldj, List.length_cons, List.length_nil, Nat.reduceAdd, Nat.reduceSub, Nat.reduceLeDiff, List.replicate_succ, List.replicate_zero, List.cons_append, List.nil_append, List.append_nil, iz_nI, iz_ofNat, iz_add, iz_sub, iz_mul, cz_lt, cz_le, cz_gt, cz_ge, cz_eq, cz_ne, mIn_iz, iz_nat, decide_eq_true_eq, Bool.not_eq_true', decide_eq_false_iff_not, true_and, and_true, ↓reduceIte, not_true_eq_false, not_false_eq_true, w01_bI, w01_i0, w01_i1, bI_ne', bI_eq', Bool.false_eq_true, false_implies, forall_const, implies_true, true_implies, imp_self, eq_self, cz10, cz00, w01_0, w01_1, Bool.true_eq_false, Bool.not_true, Bool.not_false, decide_true, decide_false, ↓tO_2, ↓tR_2_0, ↓tR_2_1, ↓tR_2_2, ↓tI_2_3, ↓tI_2_4, ↓tI_2_5, ↓tI_2_6, ↓tI_2_7, ↓tI_2_8, ↓tO_11, ↓tI_11_0, ↓tI_11_1, ↓tI_11_2, ↓tR_11_3, ↓tR_11_4, ↓tR_11_5, ↓tR_11_6, ↓tR_11_7, ↓tR_11_8, ↓tA_17, ↓tN_17, ↓tO_139, ↓tR_139_0, ↓tR_139_1, ↓tR_139_2, ↓tI_139_3, ↓tR_139_4, ↓tR_139_5, ↓tR_139_6, ↓tR_139_7, ↓tR_139_8, ↓tR_139_9, ↓tR_139_10, ↓tI_139_11, ↓tI_139_12, ↓tI_139_13, ↓tI_139_14, ↓tI_139_15, ↓tI_139_16, ↓tI_139_17, ↓tI_139_18, ↓tI_139_19, ↓tI_139_20, ↓tI_139_21, ↓tI_139_22, ↓tI_139_23, ↓tI_139_24, ↓tI_139_25, ↓tI_139_26, ↓tR_139_27, ↓tI_139_28, ↓tI_139_29, ↓tI_139_30, ↓tI_139_31, ↓tR_139_32, ↓tI_139_33, ↓tR_139_34, ↓tR_139_35, ↓tR_139_36, ↓tR_139_37, ↓tI_139_38, Int.reduceEq, Int.reduceLT]
    refine wS_up 320 (fun k ls D => ls = [.ref 11, .ref 2, .int (iz k)] ∧ PtC b L n C D 0 ∧ D 11 0 = iz 0 ∧ D 11 1 = iz 0 ∧ D 11 2 = iz 0 ∧ ∀ i, i < k → D 17 i = iz 0) ?_ (Nat.zero_le _) ⟨rfl, ⟨tokC_fr T (fun a i z => by rw [up_k (by omega), up_k (by omega), up_k (by omega)]), by rw [up_k (by omega), up_k (by omega), up_k (by omega)], by rw [up_k (by omega), up_k (by omega), up_k (by omega)], fun a a1 a2 => by rw [up_k (by omega), up_k (by omega), up_k (by omega)]⟩, by simp (disch := omega) only [up_j, up_at], by simp (disch := omega) only [up_j, up_at], by simp (disch := omega) only [up_j, up_at], fun i hi => by omega⟩
    rintro k ls D hk ⟨rfl, P, d0, d1, d2, d3⟩
    by_cases hlt : (k : Int) < 320
    · simp (disch := omega) only [↓w_eBin, ↓w_eUn, ↓w_eDiv, ↓w_eRem, ↓w_eFld, ↓w_rFld, ↓w_eALd, ↓w_rALd, ↓w_eALen, ↓w_rStr, ↓w_aNil, ↓w_aI, ↓w_aR, ↓w_N, ↓w_eCall, ↓w_X, ↓w_bCmp, ↓w_bAnd, ↓w_bOr, ↓w_bNot, ↓w_eB, ↓w_eIte, ↓w_sSkip, ↓w_sRet, ↓w_sRetZ, ↓w_sRetV, ↓w_sBrk, ↓w_sCont, ↓w_sIf, ↓w_sSeq, ↓w_sCaC, ↓w_sCaB, ↓w_sSw, ↓w_sCall, ↓w_sPut, ↓w_sPutOp, ↓w_sASt, ↓w_sAOp, ↓w_sADiv, ↓w_eLoc0, ↓w_rLoc0, ↓w_sSet0, ↓w_sSetR0, ↓w_sIncP0, ↓w_sIncM0, ↓w_eLoc1, ↓w_rLoc1, ↓w_sSet1, ↓w_sSetR1, ↓w_sIncP1, ↓w_sIncM1, ↓w_eLoc2, ↓w_rLoc2, ↓w_sSet2, ↓w_sSetR2, ↓w_sIncP2, ↓w_sIncM2, ↓w_eLoc3, ↓w_rLoc3, ↓w_sSet3, ↓w_sSetR3, ↓w_sIncP3, ↓w_sIncM3, ↓w_eLoc4, ↓w_rLoc4, ↓w_sSet4, ↓w_sSetR4, ↓w_sIncP4, ↓w_sIncM4, ↓w_eLoc5, ↓w_rLoc5, ↓w_sSet5, ↓w_sSetR5, ↓w_sIncP5, ↓w_sIncM5, ↓w_eLoc6, ↓w_rLoc6, ↓w_sSet6, ↓w_sSetR6, ↓w_sIncP6, ↓w_sIncM6, ↓w_eLoc7, ↓w_rLoc7, ↓w_sSet7, ↓w_sSetR7, ↓w_sIncP7, ↓w_sIncM7, ↓w_eLoc8, ↓w_rLoc8, ↓w_sSet8, ↓w_sSetR8, ↓w_sIncP8, ↓w_sIncM8, ↓w_eLoc9, ↓w_rLoc9, ↓w_sSet9, ↓w_sSetR9, ↓w_sIncP9, ↓w_sIncM9, ↓w_eLoc10, ↓w_rLoc10, ↓w_sSet10, ↓w_sSetR10, ↓w_sIncP10, ↓w_sIncM10, ↓w_eLoc11, ↓w_rLoc11, ↓w_sSet11, ↓w_sSetR11, ↓w_sIncP11, ↓w_sIncM11, ↓w_eLoc12, ↓w_rLoc12, ↓w_sSet12, ↓w_sSetR12, ↓w_sIncP12, ↓w_sIncM12, ↓w_eLoc13, ↓w_rLoc13, ↓w_sSet13, ↓w_sSetR13, ↓w_sIncP13, ↓w_sIncM13, ↓w_eIntN, ↓w_eIntM, ↓w_bZi, ↓w_add, ↓w_sub, ↓w_mul, ↓w_neg, ↓w_nar, ↓w_div, ↓w_ldne, ↓w_ldat, ↓w_ldj, List.length_cons, List.length_nil, Nat.reduceAdd, Nat.reduceSub, Nat.reduceLeDiff, List.replicate_succ, List.replicate_zero, List.cons_append, List.nil_append, List.append_nil, iz_nI, iz_ofNat, iz_add, iz_sub, iz_mul, cz_lt, cz_le, cz_gt, cz_ge, cz_eq, cz_ne, mIn_iz, iz_nat, decide_eq_true_eq, Bool.not_eq_true', decide_eq_false_iff_not, true_and, and_true, ↓reduceIte, not_true_eq_false, not_false_eq_true, w01_bI, w01_i0, w01_i1, bI_ne', bI_eq', Bool.false_eq_true, false_implies, forall_const, implies_true, true_implies, imp_self, eq_self, cz10, cz00, w01_0, w01_1, Bool.true_eq_false, Bool.not_true, Bool.not_false, decide_true, decide_false, ↓tO_2, ↓tR_2_0, ↓tR_2_1, ↓tR_2_2, ↓tI_2_3, ↓tI_2_4, ↓tI_2_5, ↓tI_2_6, ↓tI_2_7, ↓tI_2_8, ↓tO_11, ↓tI_11_0, ↓tI_11_1, ↓tI_11_2, ↓tR_11_3, ↓tR_11_4, ↓tR_11_5, ↓tR_11_6, ↓tR_11_7, ↓tR_11_8, ↓tA_17, ↓tN_17, ↓tO_139, ↓tR_139_0, ↓tR_139_1, ↓tR_139_2, ↓tI_139_3, ↓tR_139_4, ↓tR_139_5, ↓tR_139_6, ↓tR_139_7, ↓tR_139_8, ↓tR_139_9, ↓tR_139_10, ↓tI_139_11, ↓tI_139_12, ↓tI_139_13, ↓tI_139_14, ↓tI_139_15, ↓tI_139_16, ↓tI_139_17, ↓tI_139_18, ↓tI_139_19, ↓tI_139_20, ↓tI_139_21, ↓tI_139_22, ↓tI_139_23, ↓tI_139_24, ↓tI_139_25, ↓tI_139_26, ↓tR_139_27, ↓tI_139_28, ↓tI_139_29, ↓tI_139_30, ↓tI_139_31, ↓tR_139_32, ↓tI_139_33, ↓tR_139_34, ↓tR_139_35, ↓tR_139_36, ↓tR_139_37, ↓tI_139_38, Int.reduceEq, Int.reduceLT, Int.cast_ofNat_Int, hlt, w_nb0]
      refine ⟨by omega, rfl, ptC_u P (by omega), by rw [up_k (by omega)]; exact d0, by rw [up_k (by omega)]; exact d1, by rw [up_k (by omega)]; exact d2, fun i hi => ?_⟩
      rw [Int.toNat_natCast]
      by_cases e : i = k
      · subst e; rw [up_at]
      · rw [up_j e]; exact d3 i (by omega)
    · have hk' : k = 320 := by omega
      subst hk'
      simp (disch := omega) only [↓w_eBin, ↓w_eUn, ↓w_eDiv, ↓w_eRem, ↓w_eFld, ↓w_rFld, ↓w_eALd, ↓w_rALd, ↓w_eALen, ↓w_rStr, ↓w_aNil, ↓w_aI, ↓w_aR, ↓w_N, ↓w_eCall, ↓w_X, ↓w_bCmp, ↓w_bAnd, ↓w_bOr, ↓w_bNot, ↓w_eB, ↓w_eIte, ↓w_sSkip, ↓w_sRet, ↓w_sRetZ, ↓w_sRetV, ↓w_sBrk, ↓w_sCont, ↓w_sIf, ↓w_sSeq, ↓w_sCaC, ↓w_sCaB, ↓w_sSw, ↓w_sCall, ↓w_sPut, ↓w_sPutOp, ↓w_sASt, ↓w_sAOp, ↓w_sADiv, ↓w_eLoc0, ↓w_rLoc0, ↓w_sSet0, ↓w_sSetR0, ↓w_sIncP0, ↓w_sIncM0, ↓w_eLoc1, ↓w_rLoc1, ↓w_sSet1, ↓w_sSetR1, ↓w_sIncP1, ↓w_sIncM1, ↓w_eLoc2, ↓w_rLoc2, ↓w_sSet2, ↓w_sSetR2, ↓w_sIncP2, ↓w_sIncM2, ↓w_eLoc3, ↓w_rLoc3, ↓w_sSet3, ↓w_sSetR3, ↓w_sIncP3, ↓w_sIncM3, ↓w_eLoc4, ↓w_rLoc4, ↓w_sSet4, ↓w_sSetR4, ↓w_sIncP4, ↓w_sIncM4, ↓w_eLoc5, ↓w_rLoc5, ↓w_sSet5, ↓w_sSetR5, ↓w_sIncP5, ↓w_sIncM5, ↓w_eLoc6, ↓w_rLoc6, ↓w_sSet6, ↓w_sSetR6, ↓w_sIncP6, ↓w_sIncM6, ↓w_eLoc7, ↓w_rLoc7, ↓w_sSet7, ↓w_sSetR7, ↓w_sIncP7, ↓w_sIncM7, ↓w_eLoc8, ↓w_rLoc8, ↓w_sSet8, ↓w_sSetR8, ↓w_sIncP8, ↓w_sIncM8, ↓w_eLoc9, ↓w_rLoc9, ↓w_sSet9, ↓w_sSetR9, ↓w_sIncP9, ↓w_sIncM9, ↓w_eLoc10, ↓w_rLoc10, ↓w_sSet10, ↓w_sSetR10, ↓w_sIncP10, ↓w_sIncM10, ↓w_eLoc11, ↓w_rLoc11, ↓w_sSet11, ↓w_sSetR11, ↓w_sIncP11, ↓w_sIncM11, ↓w_eLoc12, ↓w_rLoc12, ↓w_sSet12, ↓w_sSetR12, ↓w_sIncP12, ↓w_sIncM12, ↓w_eLoc13, ↓w_rLoc13, ↓w_sSet13, ↓w_sSetR13, ↓w_sIncP13, ↓w_sIncM13, ↓w_eIntN, ↓w_eIntM, ↓w_bZi, ↓w_add, ↓w_sub, ↓w_mul, ↓w_neg, ↓w_nar, ↓w_div, ↓w_ldne, ↓w_ldat, ↓w_ldj, List.length_cons, List.length_nil, Nat.reduceAdd, Nat.reduceSub, Nat.reduceLeDiff, List.replicate_succ, List.replicate_zero, List.cons_append, List.nil_append, List.append_nil, iz_nI, iz_ofNat, iz_add, iz_sub, iz_mul, cz_lt, cz_le, cz_gt, cz_ge, cz_eq, cz_ne, mIn_iz, iz_nat, decide_eq_true_eq, Bool.not_eq_true', decide_eq_false_iff_not, true_and, and_true, ↓reduceIte, not_true_eq_false, not_false_eq_true, w01_bI, w01_i0, w01_i1, bI_ne', bI_eq', Bool.false_eq_true, false_implies, forall_const, implies_true, true_implies, imp_self, eq_self, cz10, cz00, w01_0, w01_1, Bool.true_eq_false, Bool.not_true, Bool.not_false, decide_true, decide_false, ↓tO_2, ↓tR_2_0, ↓tR_2_1, ↓tR_2_2, ↓tI_2_3, ↓tI_2_4, ↓tI_2_5, ↓tI_2_6, ↓tI_2_7, ↓tI_2_8, ↓tO_11, ↓tI_11_0, ↓tI_11_1, ↓tI_11_2, ↓tR_11_3, ↓tR_11_4, ↓tR_11_5, ↓tR_11_6, ↓tR_11_7, ↓tR_11_8, ↓tA_17, ↓tN_17, ↓tO_139, ↓tR_139_0, ↓tR_139_1, ↓tR_139_2, ↓tI_139_3, ↓tR_139_4, ↓tR_139_5, ↓tR_139_6, ↓tR_139_7, ↓tR_139_8, ↓tR_139_9, ↓tR_139_10, ↓tI_139_11, ↓tI_139_12, ↓tI_139_13, ↓tI_139_14, ↓tI_139_15, ↓tI_139_16, ↓tI_139_17, ↓tI_139_18, ↓tI_139_19, ↓tI_139_20, ↓tI_139_21, ↓tI_139_22, ↓tI_139_23, ↓tI_139_24, ↓tI_139_25, ↓tI_139_26, ↓tR_139_27, ↓tI_139_28, ↓tI_139_29, ↓tI_139_30, ↓tI_139_31, ↓tR_139_32, ↓tI_139_33, ↓tR_139_34, ↓tR_139_35, ↓tR_139_36, ↓tR_139_37, ↓tI_139_38, Int.reduceEq, Int.reduceLT, Int.cast_ofNat_Int, hlt]
      refine wS_wh (fun m ls D => ∃ j nl fl cs sk, ls = [.ref 11, .ref 2, .int (iz (nl : Nat))] ∧ PtC b L n C D j ∧ TwC D nl fl cs sk ∧ TwR nl fl cs ∧ twF (kj b L) (vj b L) m j nl fl cs sk = tw0 b L ∧ m + nl = 41) ?_ 41 _ _ ⟨0, 0, 0, [], fun _ => false, rfl, P, ⟨d0, d1, d2, fun i x hx => by simp at hx, fun i hi => d3 i hi⟩, ⟨by omega, Or.inl rfl, by omega, by simp, fun x hx => by simp at hx⟩, rfl, rfl⟩
      clear P d0 d1 d2 d3
      rintro m ls D ⟨j, nl, fl, cs, sk, rfl, P, TD, hR, hr, hm⟩
      obtain ⟨h5, -, -⟩ := ptC_k P
      have kr := hN.2.2.1 j
      have nr : (nl : Int) ≤ 40 := by have := hR.1; omega
      obtain ⟨f, rfl⟩ : ∃ f, m = f + 1 := ⟨m - 1, by omega⟩
      by_cases g : kj b L j = 0
      · have fin : ∃ t, some (iz 1) = some (bI t) ∧ FrTw C D ∧ TdC b L C t D (tw0 b L) := by
          refine ⟨true, rfl, P.2.2.2, ?_⟩
          rw [← hr, twF, if_pos g]
          exact ⟨rfl, TD, hR, P.2.1, P.2.2.1⟩
        rw [g] at h5
        clear kr hr
        simp (disch := omega) only [↓w_eBin, ↓w_eUn, ↓w_eDiv, ↓w_eRem, ↓w_eFld, ↓w_rFld, ↓w_eALd, ↓w_rALd, ↓w_eALen, ↓w_rStr, ↓w_aNil, ↓w_aI, ↓w_aR, ↓w_N, ↓w_eCall, ↓w_X, ↓w_bCmp, ↓w_bAnd, ↓w_bOr, ↓w_bNot, ↓w_eB, ↓w_eIte, ↓w_sSkip, ↓w_sRet, ↓w_sRetZ, ↓w_sRetV, ↓w_sBrk, ↓w_sCont, ↓w_sIf, ↓w_sSeq, ↓w_sCaC, ↓w_sCaB, ↓w_sSw, ↓w_sCall, ↓w_sPut, ↓w_sPutOp, ↓w_sASt, ↓w_sAOp, ↓w_sADiv, ↓w_eLoc0, ↓w_rLoc0, ↓w_sSet0, ↓w_sSetR0, ↓w_sIncP0, ↓w_sIncM0, ↓w_eLoc1, ↓w_rLoc1, ↓w_sSet1, ↓w_sSetR1, ↓w_sIncP1, ↓w_sIncM1, ↓w_eLoc2, ↓w_rLoc2, ↓w_sSet2, ↓w_sSetR2, ↓w_sIncP2, ↓w_sIncM2, ↓w_eLoc3, ↓w_rLoc3, ↓w_sSet3, ↓w_sSetR3, ↓w_sIncP3, ↓w_sIncM3, ↓w_eLoc4, ↓w_rLoc4, ↓w_sSet4, ↓w_sSetR4, ↓w_sIncP4, ↓w_sIncM4, ↓w_eLoc5, ↓w_rLoc5, ↓w_sSet5, ↓w_sSetR5, ↓w_sIncP5, ↓w_sIncM5, ↓w_eLoc6, ↓w_rLoc6, ↓w_sSet6, ↓w_sSetR6, ↓w_sIncP6, ↓w_sIncM6, ↓w_eLoc7, ↓w_rLoc7, ↓w_sSet7, ↓w_sSetR7, ↓w_sIncP7, ↓w_sIncM7, ↓w_eLoc8, ↓w_rLoc8, ↓w_sSet8, ↓w_sSetR8, ↓w_sIncP8, ↓w_sIncM8, ↓w_eLoc9, ↓w_rLoc9, ↓w_sSet9, ↓w_sSetR9, ↓w_sIncP9, ↓w_sIncM9, ↓w_eLoc10, ↓w_rLoc10, ↓w_sSet10, ↓w_sSetR10, ↓w_sIncP10, ↓w_sIncM10, ↓w_eLoc11, ↓w_rLoc11, ↓w_sSet11, ↓w_sSetR11, ↓w_sIncP11, ↓w_sIncM11, ↓w_eLoc12, ↓w_rLoc12, ↓w_sSet12, ↓w_sSetR12, ↓w_sIncP12, ↓w_sIncM12, ↓w_eLoc13, ↓w_rLoc13, ↓w_sSet13, ↓w_sSetR13, ↓w_sIncP13, ↓w_sIncM13, ↓w_eIntN, ↓w_eIntM, ↓w_bZi, ↓w_add, ↓w_sub, ↓w_mul, ↓w_neg, ↓w_nar, ↓w_div, ↓w_ldne, ↓w_ldat, ↓w_ldj, List.length_cons, List.length_nil, Nat.reduceAdd, Nat.reduceSub, Nat.reduceLeDiff, List.replicate_succ, List.replicate_zero, List.cons_append, List.nil_append, List.append_nil, iz_nI, iz_ofNat, iz_add, iz_sub, iz_mul, cz_lt, cz_le, cz_gt, cz_ge, cz_eq, cz_ne, mIn_iz, iz_nat, decide_eq_true_eq, Bool.not_eq_true', decide_eq_false_iff_not, true_and, and_true, ↓reduceIte, not_true_eq_false, not_false_eq_true, w01_bI, w01_i0, w01_i1, bI_ne', bI_eq', Bool.false_eq_true, false_implies, forall_const, implies_true, true_implies, imp_self, eq_self, cz10, cz00, w01_0, w01_1, Bool.true_eq_false, Bool.not_true, Bool.not_false, decide_true, decide_false, ↓tO_2, ↓tR_2_0, ↓tR_2_1, ↓tR_2_2, ↓tI_2_3, ↓tI_2_4, ↓tI_2_5, ↓tI_2_6, ↓tI_2_7, ↓tI_2_8, ↓tO_11, ↓tI_11_0, ↓tI_11_1, ↓tI_11_2, ↓tR_11_3, ↓tR_11_4, ↓tR_11_5, ↓tR_11_6, ↓tR_11_7, ↓tR_11_8, ↓tA_17, ↓tN_17, ↓tO_139, ↓tR_139_0, ↓tR_139_1, ↓tR_139_2, ↓tI_139_3, ↓tR_139_4, ↓tR_139_5, ↓tR_139_6, ↓tR_139_7, ↓tR_139_8, ↓tR_139_9, ↓tR_139_10, ↓tI_139_11, ↓tI_139_12, ↓tI_139_13, ↓tI_139_14, ↓tI_139_15, ↓tI_139_16, ↓tI_139_17, ↓tI_139_18, ↓tI_139_19, ↓tI_139_20, ↓tI_139_21, ↓tI_139_22, ↓tI_139_23, ↓tI_139_24, ↓tI_139_25, ↓tI_139_26, ↓tR_139_27, ↓tI_139_28, ↓tI_139_29, ↓tI_139_30, ↓tI_139_31, ↓tR_139_32, ↓tI_139_33, ↓tR_139_34, ↓tR_139_35, ↓tR_139_36, ↓tR_139_37, ↓tI_139_38, Int.reduceEq, Int.reduceLT, ↓wLd_of h5, nr]
        exact fin
      · obtain ⟨s1, s2⟩ := tw_s hr g
        have ln : wS bTw [.ref 11, .ref 2, .int (iz (nl : Nat))] D (fun ls D => ∃ j nl fl cs sk, ls = [.ref 11, .ref 2, .int (iz (nl : Nat))] ∧ PtC b L n C D j ∧ TwC D nl fl cs sk ∧ TwR nl fl cs ∧ twF (kj b L) (vj b L) f j nl fl cs sk = tw0 b L ∧ f + nl = 41) (fun r D => ∃ t, r = some (bI t) ∧ FrTw C D ∧ TdC b L C t D (tw0 b L)) (fun _ _ _ => False) := by
          rcases rc_tline hR P TD with ⟨x, E, tw, Q, h⟩ | ⟨q, fl', cs', sk', E, tw, e1, e2, PE, TE⟩
          · have fin : ∃ t, some (iz 0) = some (bI t) ∧ FrTw C E ∧ TdC b L C t E (tw0 b L) := ⟨false, rfl, Q.2.2, by rw [s1 x tw]; exact ⟨rfl, Q.1, Q.2.1⟩⟩
            rcases h with e | ⟨e, e2⟩
            · exact (bw_1 e).mpr fin
            · exact (bw_2 e e2).mpr fin
          · obtain ⟨t, G, e3, h⟩ := rc_takeT PE
            rcases h with ⟨k1, rfl, PG, fG⟩ | ⟨k1, rfl, Q⟩
            · have rr := twL_R hR tw
              obtain ⟨u0, u1, u2, u3, u4⟩ := twC_fr TE (fun a _ _ => fG a (by omega))
              refine (bw_4 e1 e2 e3 u0).mpr ⟨q + 1, nl + 1, fl', cs', sk', rfl, ptC_u PG (by omega), ⟨by rw [up_at]; rfl, by rw [up_j (by omega)]; exact u1, by rw [up_j (by omega)]; exact u2, fun i x hx => by rw [up_k (by omega), up_k (by omega), up_k (by omega), up_k (by omega), up_k (by omega)]; exact u3 i x hx, fun i hi => by rw [up_k (by omega)]; exact u4 i hi⟩, ⟨by omega, rr.1.2⟩, (s2 q fl' cs' sk' tw).1 k1, by omega⟩
            · exact (bw_3 e1 e2 e3).mpr ⟨false, rfl, Q.2.2, by rw [(s2 q fl' cs' sk' tw).2 k1]; exact ⟨rfl, Q.1, Q.2.1⟩⟩
        clear s1 s2
        generalize kj b L j = kk at *
        simp (disch := omega) only [↓w_eBin, ↓w_eUn, ↓w_eDiv, ↓w_eRem, ↓w_eFld, ↓w_rFld, ↓w_eALd, ↓w_rALd, ↓w_eALen, ↓w_rStr, ↓w_aNil, ↓w_aI, ↓w_aR, ↓w_N, ↓w_eCall, ↓w_X, ↓w_bCmp, ↓w_bAnd, ↓w_bOr, ↓w_bNot, ↓w_eB, ↓w_eIte, ↓w_sSkip, ↓w_sRet, ↓w_sRetZ, ↓w_sRetV, ↓w_sBrk, ↓w_sCont, ↓w_sIf, ↓w_sSeq, ↓w_sCaC, ↓w_sCaB, ↓w_sSw, ↓w_sCall, ↓w_sPut, ↓w_sPutOp, ↓w_sASt, ↓w_sAOp, ↓w_sADiv, ↓w_eLoc0, ↓w_rLoc0, ↓w_sSet0, ↓w_sSetR0, ↓w_sIncP0, ↓w_sIncM0, ↓w_eLoc1, ↓w_rLoc1, ↓w_sSet1, ↓w_sSetR1, ↓w_sIncP1, ↓w_sIncM1, ↓w_eLoc2, ↓w_rLoc2, ↓w_sSet2, ↓w_sSetR2, ↓w_sIncP2, ↓w_sIncM2, ↓w_eLoc3, ↓w_rLoc3, ↓w_sSet3, ↓w_sSetR3, ↓w_sIncP3, ↓w_sIncM3, ↓w_eLoc4, ↓w_rLoc4, ↓w_sSet4, ↓w_sSetR4, ↓w_sIncP4, ↓w_sIncM4, ↓w_eLoc5, ↓w_rLoc5, ↓w_sSet5, ↓w_sSetR5, ↓w_sIncP5, ↓w_sIncM5, ↓w_eLoc6, ↓w_rLoc6, ↓w_sSet6, ↓w_sSetR6, ↓w_sIncP6, ↓w_sIncM6, ↓w_eLoc7, ↓w_rLoc7, ↓w_sSet7, ↓w_sSetR7, ↓w_sIncP7, ↓w_sIncM7, ↓w_eLoc8, ↓w_rLoc8, ↓w_sSet8, ↓w_sSetR8, ↓w_sIncP8, ↓w_sIncM8, ↓w_eLoc9, ↓w_rLoc9, ↓w_sSet9, ↓w_sSetR9, ↓w_sIncP9, ↓w_sIncM9, ↓w_eLoc10, ↓w_rLoc10, ↓w_sSet10, ↓w_sSetR10, ↓w_sIncP10, ↓w_sIncM10, ↓w_eLoc11, ↓w_rLoc11, ↓w_sSet11, ↓w_sSetR11, ↓w_sIncP11, ↓w_sIncM11, ↓w_eLoc12, ↓w_rLoc12, ↓w_sSet12, ↓w_sSetR12, ↓w_sIncP12, ↓w_sIncM12, ↓w_eLoc13, ↓w_rLoc13, ↓w_sSet13, ↓w_sSetR13, ↓w_sIncP13, ↓w_sIncM13, ↓w_eIntN, ↓w_eIntM, ↓w_bZi, ↓w_add, ↓w_sub, ↓w_mul, ↓w_neg, ↓w_nar, ↓w_div, ↓w_ldne, ↓w_ldat, ↓w_ldj, List.length_cons, List.length_nil, Nat.reduceAdd, Nat.reduceSub, Nat.reduceLeDiff, List.replicate_succ, List.replicate_zero, List.cons_append, List.nil_append, List.append_nil, iz_nI, iz_ofNat, iz_add, iz_sub, iz_mul, cz_lt, cz_le, cz_gt, cz_ge, cz_eq, cz_ne, mIn_iz, iz_nat, decide_eq_true_eq, Bool.not_eq_true', decide_eq_false_iff_not, true_and, and_true, ↓reduceIte, not_true_eq_false, not_false_eq_true, w01_bI, w01_i0, w01_i1, bI_ne', bI_eq', Bool.false_eq_true, false_implies, forall_const, implies_true, true_implies, imp_self, eq_self, cz10, cz00, w01_0, w01_1, Bool.true_eq_false, Bool.not_true, Bool.not_false, decide_true, decide_false, ↓tO_2, ↓tR_2_0, ↓tR_2_1, ↓tR_2_2, ↓tI_2_3, ↓tI_2_4, ↓tI_2_5, ↓tI_2_6, ↓tI_2_7, ↓tI_2_8, ↓tO_11, ↓tI_11_0, ↓tI_11_1, ↓tI_11_2, ↓tR_11_3, ↓tR_11_4, ↓tR_11_5, ↓tR_11_6, ↓tR_11_7, ↓tR_11_8, ↓tA_17, ↓tN_17, ↓tO_139, ↓tR_139_0, ↓tR_139_1, ↓tR_139_2, ↓tI_139_3, ↓tR_139_4, ↓tR_139_5, ↓tR_139_6, ↓tR_139_7, ↓tR_139_8, ↓tR_139_9, ↓tR_139_10, ↓tI_139_11, ↓tI_139_12, ↓tI_139_13, ↓tI_139_14, ↓tI_139_15, ↓tI_139_16, ↓tI_139_17, ↓tI_139_18, ↓tI_139_19, ↓tI_139_20, ↓tI_139_21, ↓tI_139_22, ↓tI_139_23, ↓tI_139_24, ↓tI_139_25, ↓tI_139_26, ↓tR_139_27, ↓tI_139_28, ↓tI_139_29, ↓tI_139_30, ↓tI_139_31, ↓tR_139_32, ↓tI_139_33, ↓tR_139_34, ↓tR_139_35, ↓tR_139_36, ↓tR_139_37, ↓tI_139_38, Int.reduceEq, Int.reduceLT, ↓wLd_of h5, nr, g]
        refine wS_mono ln ?_ ?_ ?_
        · rintro ls D ⟨j', nl', fl', cs', sk', a1, a2, a3, a4, a5, a6⟩
          exact ⟨f, Nat.lt_succ_self f, j', nl', fl', cs', sk', a1, a2, a3, a4, a5, a6⟩
        · rintro r D ⟨t, rfl, h⟩
          exact ⟨bI t, rfl, w01_bI, t, rfl, h⟩
        · exact fun k ls D h => h.elim
  obtain ⟨r, D, e, t, rfl, F, Q⟩ := wF_of key
  exact ⟨t, D, e, F, Q⟩
end
end

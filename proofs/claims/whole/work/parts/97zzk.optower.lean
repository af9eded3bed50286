/-! texts: text(3), a tower's text, answers alike -/
noncomputable section
def bOf (M : Nat → Int32) (u v : Int) : aS := fun r p =>
  if r < 7 then (M (820 + 8 * p + r).toNat).toInt
  else if r < 21 then (M (10 + 20 * p + (r - 10)).toNat).toInt
  else if r = 30 then (M p.toNat).toInt
  else if r = 31 then (M (740 + p).toNat).toInt
  else if r = 32 then (if p = 0 then -1 else if p = 1 then u else v)
  else (M (100 + 80 * (r - 40) + p).toNat).toInt
section
variable {M : Nat → Int32} {u v : Int} {C D E F : mMem} {fl : Int} {cs : List Cr} {sk : Nat → Bool} {nl : Nat} {A : aS} {Rs : Int → aS}
theorem bO_p {k p : Int} (h : k < 7) : bOf M u v k p = (M (820 + 8 * p + k).toNat).toInt := by unfold bOf; rw [if_pos h]
theorem bO_c {k r c : Int} (h : r = 10 + k) (h0 : 0 ≤ k ∧ k < 11) : bOf M u v r c = (M (10 + 20 * c + k).toNat).toInt := by
  unfold bOf
  rw [if_neg (by omega), if_pos (by omega), show r - 10 = k by omega]
theorem bO_30 {p : Int} : bOf M u v 30 p = (M p.toNat).toInt := by unfold bOf; rw [if_neg (by omega), if_neg (by omega), if_pos rfl]
theorem bO_31 {p : Int} : bOf M u v 31 p = (M (740 + p).toNat).toInt := by unfold bOf; rw [if_neg (by omega), if_neg (by omega), if_neg (by omega), if_pos rfl]
theorem bO_32 {p : Int} : bOf M u v 32 p = if p = 0 then -1 else if p = 1 then u else v := by unfold bOf; rw [if_neg (by omega), if_neg (by omega), if_neg (by omega), if_neg (by omega), if_pos rfl]
theorem bO_40 {c r f : Int} (h : r = 40 + c) (hc : 0 ≤ c) : bOf M u v r f = (M (100 + 80 * c + f).toNat).toInt := by
  unfold bOf
  rw [if_neg (by omega), if_neg (by omega), if_neg (by omega), if_neg (by omega), if_neg (by omega), show r - 40 = c by omega]
theorem bO_rel (h29 : D 139 29 = iz u) (h30 : D 139 30 = iz v) (hf : ∀ i, 420 ≤ i → i < 740 → D 140 i = iz 0) : RelM D (bOf (D 140) u v) := by
  refine ⟨fun k p k0 k1 p0 p1 => ?_, fun k c k0 k1 c0 c1 => ?_, fun i i0 i1 => ?_, fun c f c0 c1 f0 f1 => ?_, fun c f c0 c1 f0 f1 => ?_, fun f f0 f1 => ?_, ?_, ?_⟩
  · rw [bO_p k1, iz_self]
  · rw [bO_c rfl ⟨k0, k1⟩, iz_self]
  · rw [bO_30, iz_self]
  · rw [bO_40 rfl c0, iz_self]
  · rw [hf _ (by omega) (by omega), bO_32, if_pos rfl, if_neg (by omega)]
  · rw [bO_31, iz_self]
  · rw [bO_32, if_neg (by omega), if_pos rfl]; exact h29
  · rw [bO_32, if_neg (by omega), if_neg (by omega)]; exact h30
/-- what is known of the picture of a new tower -/
def NwT (B : aS) (nl : Nat) (fl : Int) (cs : List Cr) (sk : Nat → Bool) (w4 u v : Int) : Prop := B 30 0 = fl ∧ B 30 1 = cs.length ∧ B 30 2 = 0 ∧ B 30 3 = 0 ∧ B 30 4 = w4 ∧ B 30 5 = nl ∧ B 32 0 = -1 ∧ B 32 1 = u ∧ B 32 2 = v ∧ (∀ f, 0 ≤ f → f < fl → B 31 f = 1) ∧ (∀ c f, 0 ≤ c → c < 4 → 0 ≤ f → f < 80 → 0 ≤ B (40 + c) f ∧ B (40 + c) f ≤ 1) ∧ ∀ (c : Nat) x, cs[c]? = some x → B 10 c = x.2.2.2.2 ∧ B 11 c = 0 ∧ B 12 c = 0 ∧ B 13 c = 0 ∧ B 14 c = 0 ∧ B 15 c = -1 ∧ B 16 c = x.1 ∧ B 17 c = x.2.1 ∧ B 18 c = x.2.2.1 ∧ B 19 c = x.2.2.2.1 ∧ B 20 c = x.2.2.2.2 ∧ ∀ f : Int, 0 ≤ f → f < fl → B (40 + c) f = if sk (80 * c + f.toNat) = true then 0 else 1
theorem nwT_of {w4 : Int} (hR : TwR nl fl cs) (kt : KT E D nl fl cs sk cs.length) (wt : WtD D fl) (h4 : E 140 4 = iz w4) (w4r : 0 ≤ w4 ∧ w4 ≤ 2) : NwT (aPk (bOf (D 140) u v) cs.length) nl fl cs sk w4 u v := by
  obtain ⟨h1, h2, h3, h4', h5, h6, h7, h8, h9, h10, h11, h12⟩ := kt
  obtain ⟨r1, r2, r3, r4, r5⟩ := hR
  have fr : 0 ≤ fl := by omega
  refine ⟨?_, ?_, ?_, ?_, ?_, ?_, ?_, ?_, ?_, fun f f0 f1 => ?_, fun c f c0 c1 f0 f1 => ?_, fun c x hx => ?_⟩
  · rw [aPk_r (by omega), bO_30]; show (D 140 0).toInt = fl; rw [h3, iz_int (by omega)]
  · rw [aPk_r (by omega), bO_30]; show (D 140 1).toInt = _; rw [h4', iz_int (by omega)]
  · rw [aPk_r (by omega), bO_30]; show (D 140 2).toInt = _; rw [h5, iz_int (by omega)]
  · rw [aPk_r (by omega), bO_30]; show (D 140 3).toInt = _; rw [h6, iz_int (by omega)]
  · rw [aPk_r (by omega), bO_30]; show (D 140 4).toInt = _; rw [h7, h4, iz_int (by omega)]
  · rw [aPk_r (by omega), bO_30]; show (D 140 5).toInt = _; rw [h8, iz_int (by omega)]
  · rw [aPk_r (by omega), bO_32, if_pos rfl]
  · rw [aPk_r (by omega), bO_32, if_neg (by omega), if_pos rfl]
  · rw [aPk_r (by omega), bO_32, if_neg (by omega), if_neg (by omega)]
  · obtain ⟨m, rfl⟩ := Int.eq_ofNat_of_zero_le f0
    rw [aPk_r (by omega), bO_31, show (740 + (m : Int)).toNat = 740 + m by omega, wt m f1, iz_int (by omega)]
  · rw [aPk_r (by omega), bO_40 rfl c0]
    rcases h11 (100 + 80 * c + f).toNat (by omega) (by omega) with e | e <;> rw [e, iz_int (by omega)] <;> omega
  · have hc : c < cs.length := (List.getElem?_eq_some_iff.mp hx).1
    obtain ⟨a1, a2, a3, a4, a5, a6, a7⟩ := h12 c x hc hx
    have rg := r5 x (List.mem_of_getElem? hx)
    have e20 : bOf (D 140) u v 20 (c : Int) = x.2.2.2.2 := by
      rw [bO_c (r := 20) (k := 10) (by omega) (by omega), show (10 + 20 * (c : Int) + 10).toNat = 20 + 20 * c by omega, a5, iz_int (by omega)]
    have pk : ∀ r : Int, 10 ≤ r → r ≤ 13 → aPk (bOf (D 140) u v) cs.length r c = if r = 10 then bOf (D 140) u v 20 (c : Int) else 0 := fun r r0 r1 => by
      unfold aPk
      rw [if_pos (by omega)]
    refine ⟨by rw [pk 10 (by omega) (by omega), if_pos rfl, e20], by rw [pk 11 (by omega) (by omega), if_neg (by omega)], by rw [pk 12 (by omega) (by omega), if_neg (by omega)], by rw [pk 13 (by omega) (by omega), if_neg (by omega)], ?_, ?_, ?_, ?_, ?_, ?_, ?_, fun f f0 f1 => ?_⟩
    · rw [aPk_r (by omega), bO_c (r := 14) (k := 4) (by omega) (by omega), show (10 + 20 * (c : Int) + 4).toNat = 14 + 20 * c by omega, h10 c (by omega), iz_int (by omega)]
    · rw [aPk_r (by omega), bO_c (r := 15) (k := 5) (by omega) (by omega), show (10 + 20 * (c : Int) + 5).toNat = 15 + 20 * c by omega, a6, iz_int (by omega)]
    · rw [aPk_r (by omega), bO_c (r := 16) (k := 6) (by omega) (by omega), show (10 + 20 * (c : Int) + 6).toNat = 16 + 20 * c by omega, a1, iz_int (by omega)]
    · rw [aPk_r (by omega), bO_c (r := 17) (k := 7) (by omega) (by omega), show (10 + 20 * (c : Int) + 7).toNat = 17 + 20 * c by omega, a2, iz_int (by omega)]
    · rw [aPk_r (by omega), bO_c (r := 18) (k := 8) (by omega) (by omega), show (10 + 20 * (c : Int) + 8).toNat = 18 + 20 * c by omega, a3, iz_int (by omega)]
    · rw [aPk_r (by omega), bO_c (r := 19) (k := 9) (by omega) (by omega), show (10 + 20 * (c : Int) + 9).toNat = 19 + 20 * c by omega, a4, iz_int (by omega)]
    · rw [aPk_r (by omega)]; exact e20
    · obtain ⟨m, rfl⟩ := Int.eq_ofNat_of_zero_le f0
      rw [aPk_r (by omega), bO_40 rfl (by omega), show (100 + 80 * (c : Int) + (m : Int)).toNat = 100 + 80 * c + m by omega, a7 m f1, Int.toNat_natCast]
      by_cases z : sk (80 * c + m) = true
      · rw [if_pos z, iz_int (by omega)]
      · rw [if_neg z, iz_int (by omega)]
theorem nwT_car {w4 : Int} {B : aS} (h : NwT B nl fl cs sk w4 u v) (c : Int) (c0 : 0 ≤ c) (c1 : c < B 30 1) : ∃ (m : Nat) (x : Cr), c = m ∧ cs[m]? = some x ∧ x ∈ cs := by
  rw [h.2.1] at c1
  obtain ⟨m, rfl⟩ := Int.eq_ofNat_of_zero_le c0
  have hm : m < cs.length := by omega
  exact ⟨m, cs[m], rfl, List.getElem?_eq_getElem hm, List.getElem_mem hm⟩
theorem nwT_fresh {w4 : Int} {B : aS} (h : NwT B nl fl cs sk w4 (-1) v) : Fresh B := by
  refine ⟨h.2.2.1, h.2.2.2.1, h.2.2.2.2.2.2.1, h.2.2.2.2.2.2.2.1, fun c c0 c1 => ?_⟩
  obtain ⟨m, x, rfl, hx, -⟩ := nwT_car h c c0 c1
  obtain ⟨a1, a2, a3, a4, a5, a6, a7, a8, a9, a10, a11, a12⟩ := h.2.2.2.2.2.2.2.2.2.2.2 m x hx
  exact ⟨by rw [a1, a11], a2, a3, a4, a5, a6⟩
theorem nwT_wf {w4 : Int} {B : aS} (h : NwT B nl fl cs sk w4 (-1) v) (hR : TwR nl fl cs) (hw4 : 0 ≤ w4 ∧ w4 ≤ 2) (hv : -1 ≤ v ∧ v < 80) (hr : ∀ k, 0 ≤ k → k ≤ 2 → WfR (Rs k)) : WfW B Rs := by
  have car := fun c c0 c1 => nwT_car h c c0 c1
  obtain ⟨b0, b1, b2, b3, b4, b5, b6, b7, b8, b9, b10, b11⟩ := h
  obtain ⟨r1, r2, r3, r4, r5⟩ := hR
  refine ⟨⟨⟨?_, fun p p0 p1 => by omega, fun c c0 c1 => ?_, b10, fun p p0 p1 => by omega⟩, fun c c0 c1 => ?_⟩, by omega, b6, b7, by omega, by omega, fun f f0 f1 => ?_, hr, by omega⟩
  · unfold WfG; omega
  · obtain ⟨m, x, rfl, hx, hm⟩ := car c c0 c1
    obtain ⟨a1, a2, a3, a4, a5, a6, a7, a8, a9, a10, a11, a12⟩ := b11 m x hx
    have := r5 x hm
    unfold WfC
    omega
  · obtain ⟨m, x, rfl, hx, hm⟩ := car c c0 c1
    obtain ⟨a1, a2, a3, a4, a5, a6, a7, a8, a9, a10, a11, a12⟩ := b11 m x hx
    unfold WfD
    omega
  · rw [b9 f f0 (by omega)]; omega
def aNob : aS := fun r _ => if r = 32 then -1 else 0
theorem rc_wobegin : ∃ D, f_Wo_begin [.ref 18] C = some (none, D) ∧ (∀ B : aS, Fresh B → B 30 1 ≤ 4 → (∀ c, 0 ≤ c → c < B 30 1 → C 24 c.toNat = iz (B 20 c)) → RelS D 43 B) ∧ (∀ f, f < 80 → D 42 f = iz 1) ∧ ∀ a, a < 42 ∨ 60 < a → D a = C a := by
  have key : wF f_Wo_begin [.ref 18] C (fun o D => o = none ∧ (∀ B : aS, Fresh B → B 30 1 ≤ 4 → (∀ c, 0 ≤ c → c < B 30 1 → C 24 c.toNat = iz (B 20 c)) → RelS D 43 B) ∧ (∀ f, f < 80 → D 42 f = iz 1) ∧ ∀ a, a < 42 ∨ 60 < a → D a = C a) := by
    unfold f_Wo_begin
    simp only [↓w_rcv, ↓w_bodyI, ↓w_bodyZ, ↓w_bodyV, true_and, List.length_cons, List.length_nil, Nat.reduceAdd, Nat.reduceSub, Nat.reduceLeDiff, List.replicate_succ, List.replicate_zero, List.cons_append, List.nil_append, List.append_nil, ↓tO_0, ↓tO_2, ↓tO_6, ↓tO_11, ↓tO_18, ↓tO_19, ↓tO_27, ↓tO_32, ↓tO_37, ↓tO_43, ↓tO_44, ↓tO_52, ↓tO_62, ↓tO_63, ↓tO_71, ↓tO_76, ↓tO_81, ↓tO_87, ↓tO_88, ↓tO_96, ↓tO_106, ↓tO_107, ↓tO_115, ↓tO_127, ↓tO_127c, ↓tO_133, ↓tO_133c, ↓tO_139]
    unfold S_Wo_begin
    simp (disch := omega) only [↓w_eBin, ↓w_eUn, ↓w_eDiv, ↓w_eRem, ↓w_eFld, ↓w_rFld, ↓w_eALd, ↓w_rALd, ↓w_eALen, ↓w_rStr, ↓w_aNil, ↓w_aI, ↓w_aR, ↓w_N, ↓w_eCall, ↓w_X, ↓w_bCmp, ↓w_bAnd, ↓w_bOr, ↓w_bNot, ↓w_eB, ↓w_eIte, ↓w_sSkip, ↓w_sRet, ↓w_sRetZ, ↓w_sRetV, ↓w_sBrk, ↓w_sCont, ↓w_sIf, ↓w_sSeq, ↓w_sCaC, ↓w_sCaB, ↓w_sSw, ↓w_sCall, ↓w_sPut, ↓w_sPutOp, ↓w_sASt, ↓w_sAOp, ↓w_sADiv, ↓w_eLoc0, ↓w_rLoc0, ↓w_sSet0, ↓w_sSetR0, ↓w_sIncP0, ↓w_sIncM0, ↓w_eLoc1, ↓w_rLoc1, ↓w_sSet1, ↓w_sSetR1, ↓w_sIncP1, ↓w_sIncM1, ↓w_eLoc2, ↓w_rLoc2, ↓w_sSet2, ↓w_sSetR2, ↓w_sIncP2, ↓w_sIncM2, ↓w_eLoc3, ↓w_rLoc3, ↓w_sSet3, ↓w_sSetR3, ↓w_sIncP3, ↓w_sIncM3, ↓w_eLoc4, ↓w_rLoc4, ↓w_sSet4, ↓w_sSetR4, ↓w_sIncP4, ↓w_sIncM4, ↓w_eLoc5, ↓w_rLoc5, ↓w_sSet5, ↓w_sSetR5, ↓w_sIncP5, ↓w_sIncM5, ↓w_eLoc6, ↓w_rLoc6, ↓w_sSet6, ↓w_sSetR6, ↓w_sIncP6, ↓w_sIncM6, ↓w_eLoc7, ↓w_rLoc7, ↓w_sSet7, ↓w_sSetR7, ↓w_sIncP7, ↓w_sIncM7, ↓w_eLoc8, ↓w_rLoc8, ↓w_sSet8, ↓w_sSetR8, ↓w_sIncP8, ↓w_sIncM8, ↓w_eLoc9, ↓w_rLoc9, ↓w_sSet9, ↓w_sSetR9, ↓w_sIncP9, ↓w_sIncM9, ↓w_eLoc10, ↓w_rLoc10, ↓w_sSet10, ↓w_sSetR10, ↓w_sIncP10, ↓w_sIncM10, ↓w_eLoc11, ↓w_rLoc11, ↓w_sSet11, ↓w_sSetR11, ↓w_sIncP11, ↓w_sIncM11, ↓w_eLoc12, ↓w_rLoc12, ↓w_sSet12, ↓w_sSetR12, ↓w_sIncP12, ↓w_sIncM12, ↓w_eLoc13, ↓w_rLoc13, ↓w_sSet13, ↓w_sSetR13, ↓w_sIncP13, ↓w_sIncM13, ↓w_eIntN, ↓w_eIntM, ↓w_bZi, ↓w_add, ↓w_sub, ↓w_mul, ↓w_neg, ↓w_nar, ↓w_div, ↓w_ldne, ↓w_ldat, ↓w_ldj, List.length_cons, List.length_nil, Nat.reduceAdd, Nat.reduceSub, Nat.reduceLeDiff, List.replicate_succ, List.replicate_zero, List.cons_append, List.nil_append, List.append_nil, iz_nI, iz_ofNat, iz_add, iz_sub, iz_mul, cz_lt, cz_le, cz_gt, cz_ge, cz_eq, cz_ne, mIn_iz, iz_nat, decide_eq_true_eq, Bool.not_eq_true', decide_eq_false_iff_not, true_and, and_true, ↓reduceIte, not_true_eq_false, not_false_eq_true, w01_bI, w01_i0, w01_i1, bI_ne', bI_eq', Bool.false_eq_true, false_implies, forall_const, implies_true, true_implies, imp_self, eq_self, cz10, cz00, w01_0, w01_1, Bool.true_eq_false, Bool.not_true, Bool.not_false, decide_true, decide_false, ↓tO_0, ↓tR_0_0, ↓tI_0_1, ↓tR_0_2, ↓tR_0_3, ↓tR_0_4, ↓tR_0_5, ↓tR_0_6, ↓tI_0_7, ↓tR_0_8, ↓tR_0_9, ↓tR_0_10, ↓tR_0_11, ↓tR_0_12, ↓tO_11, ↓tI_11_0, ↓tI_11_1, ↓tI_11_2, ↓tR_11_3, ↓tR_11_4, ↓tR_11_5, ↓tR_11_6, ↓tR_11_7, ↓tR_11_8, ↓tO_18, ↓tR_18_0, ↓tR_18_1, ↓tR_18_2, ↓tR_18_3, ↓tI_18_4, ↓tA_42, ↓tN_42, Int.reduceEq, Int.reduceLT]
    refine wS_up 80 (fun k ls D => ls = [.ref 18, .int (iz k)] ∧ (∀ f, f < k → D 42 f = iz 1) ∧ ∀ a, a ≠ 42 → D a = C a) ?_ (Nat.zero_le _) ⟨rfl, fun f hf => by omega, fun _ _ => rfl⟩
    rintro k ls D hk ⟨rfl, d1, d2⟩
    by_cases hlt : (k : Int) < 80
    · simp (disch := omega) only [↓w_eBin, ↓w_eUn, ↓w_eDiv, ↓w_eRem, ↓w_eFld, ↓w_rFld, ↓w_eALd, ↓w_rALd, ↓w_eALen, ↓w_rStr, ↓w_aNil, ↓w_aI, ↓w_aR, ↓w_N, ↓w_eCall, ↓w_X, ↓w_bCmp, ↓w_bAnd, ↓w_bOr, ↓w_bNot, ↓w_eB, ↓w_eIte, ↓w_sSkip, ↓w_sRet, ↓w_sRetZ, ↓w_sRetV, ↓w_sBrk, ↓w_sCont, ↓w_sIf, ↓w_sSeq, ↓w_sCaC, ↓w_sCaB, ↓w_sSw, ↓w_sCall, ↓w_sPut, ↓w_sPutOp, ↓w_sASt, ↓w_sAOp, ↓w_sADiv, ↓w_eLoc0, ↓w_rLoc0, ↓w_sSet0, ↓w_sSetR0, ↓w_sIncP0, ↓w_sIncM0, ↓w_eLoc1, ↓w_rLoc1, ↓w_sSet1, ↓w_sSetR1, ↓w_sIncP1, ↓w_sIncM1, ↓w_eLoc2, ↓w_rLoc2, ↓w_sSet2, ↓w_sSetR2, ↓w_sIncP2, ↓w_sIncM2, ↓w_eLoc3, ↓w_rLoc3, ↓w_sSet3, ↓w_sSetR3, ↓w_sIncP3, ↓w_sIncM3, ↓w_eLoc4, ↓w_rLoc4, ↓w_sSet4, ↓w_sSetR4, ↓w_sIncP4, ↓w_sIncM4, ↓w_eLoc5, ↓w_rLoc5, ↓w_sSet5, ↓w_sSetR5, ↓w_sIncP5, ↓w_sIncM5, ↓w_eLoc6, ↓w_rLoc6, ↓w_sSet6, ↓w_sSetR6, ↓w_sIncP6, ↓w_sIncM6, ↓w_eLoc7, ↓w_rLoc7, ↓w_sSet7, ↓w_sSetR7, ↓w_sIncP7, ↓w_sIncM7, ↓w_eLoc8, ↓w_rLoc8, ↓w_sSet8, ↓w_sSetR8, ↓w_sIncP8, ↓w_sIncM8, ↓w_eLoc9, ↓w_rLoc9, ↓w_sSet9, ↓w_sSetR9, ↓w_sIncP9, ↓w_sIncM9, ↓w_eLoc10, ↓w_rLoc10, ↓w_sSet10, ↓w_sSetR10, ↓w_sIncP10, ↓w_sIncM10, ↓w_eLoc11, ↓w_rLoc11, ↓w_sSet11, ↓w_sSetR11, ↓w_sIncP11, ↓w_sIncM11, ↓w_eLoc12, ↓w_rLoc12, ↓w_sSet12, ↓w_sSetR12, ↓w_sIncP12, ↓w_sIncM12, ↓w_eLoc13, ↓w_rLoc13, ↓w_sSet13, ↓w_sSetR13, ↓w_sIncP13, ↓w_sIncM13, ↓w_eIntN, ↓w_eIntM, ↓w_bZi, ↓w_add, ↓w_sub, ↓w_mul, ↓w_neg, ↓w_nar, ↓w_div, ↓w_ldne, ↓w_ldat, ↓w_ldj, List.length_cons, List.length_nil, Nat.reduceAdd, Nat.reduceSub, Nat.reduceLeDiff, List.replicate_succ, List.replicate_zero, List.cons_append, List.nil_append, List.append_nil, iz_nI, iz_ofNat, iz_add, iz_sub, iz_mul, cz_lt, cz_le, cz_gt, cz_ge, cz_eq, cz_ne, mIn_iz, iz_nat, decide_eq_true_eq, Bool.not_eq_true', decide_eq_false_iff_not, true_and, and_true, ↓reduceIte, not_true_eq_false, not_false_eq_true, w01_bI, w01_i0, w01_i1, bI_ne', bI_eq', Bool.false_eq_true, false_implies, forall_const, implies_true, true_implies, imp_self, eq_self, cz10, cz00, w01_0, w01_1, Bool.true_eq_false, Bool.not_true, Bool.not_false, decide_true, decide_false, ↓tO_0, ↓tR_0_0, ↓tI_0_1, ↓tR_0_2, ↓tR_0_3, ↓tR_0_4, ↓tR_0_5, ↓tR_0_6, ↓tI_0_7, ↓tR_0_8, ↓tR_0_9, ↓tR_0_10, ↓tR_0_11, ↓tR_0_12, ↓tO_11, ↓tI_11_0, ↓tI_11_1, ↓tI_11_2, ↓tR_11_3, ↓tR_11_4, ↓tR_11_5, ↓tR_11_6, ↓tR_11_7, ↓tR_11_8, ↓tO_18, ↓tR_18_0, ↓tR_18_1, ↓tR_18_2, ↓tR_18_3, ↓tI_18_4, ↓tA_42, ↓tN_42, Int.reduceEq, Int.reduceLT, hlt]
      refine ⟨by omega, rfl, fun f hf => ?_, fun a ha => by rw [up_k ha]; exact d2 a ha⟩
      rw [Int.toNat_natCast]
      by_cases e : f = k
      · subst e; rw [up_at]
      · rw [up_j e]; exact d1 f (by omega)
    · have hk' : k = 80 := by omega
      subst hk'
      obtain ⟨F, e, -, f1⟩ := rc_begin (C := D) (s := 43) (B := aNob) (Or.inl rfl) ⟨rfl, rfl, rfl, rfl, fun c c0 c1 => by have : c < 0 := c1; omega⟩ (by decide) (fun c c0 c1 => by have : c < 0 := c1; omega)
      have all : ∀ B : aS, Fresh B → B 30 1 ≤ 4 → (∀ c, 0 ≤ c → c < B 30 1 → C 24 c.toNat = iz (B 20 c)) → RelS F 43 B := by
        intro B hB h4 h24
        obtain ⟨F', e', rs, -⟩ := rc_begin (C := D) (s := 43) (B := B) (Or.inl rfl) hB h4 (fun c c0 c1 => by rw [d2 24 (by omega)]; exact h24 c c0 c1)
        rw [e] at e'
        have : F = F' := (Prod.mk.inj (Option.some.inj e')).2
        rw [this]; exact rs
      have w : ∀ f, f < 80 → F 42 f = iz 1 := fun f hf => by rw [f1 42 (by omega)]; exact d1 f hf
      have fr : ∀ a, a < 42 ∨ 60 < a → F a = C a := fun a ha => by rw [f1 a (by omega)]; exact d2 a (by omega)
      simp (disch := omega) only [↓w_eBin, ↓w_eUn, ↓w_eDiv, ↓w_eRem, ↓w_eFld, ↓w_rFld, ↓w_eALd, ↓w_rALd, ↓w_eALen, ↓w_rStr, ↓w_aNil, ↓w_aI, ↓w_aR, ↓w_N, ↓w_eCall, ↓w_X, ↓w_bCmp, ↓w_bAnd, ↓w_bOr, ↓w_bNot, ↓w_eB, ↓w_eIte, ↓w_sSkip, ↓w_sRet, ↓w_sRetZ, ↓w_sRetV, ↓w_sBrk, ↓w_sCont, ↓w_sIf, ↓w_sSeq, ↓w_sCaC, ↓w_sCaB, ↓w_sSw, ↓w_sCall, ↓w_sPut, ↓w_sPutOp, ↓w_sASt, ↓w_sAOp, ↓w_sADiv, ↓w_eLoc0, ↓w_rLoc0, ↓w_sSet0, ↓w_sSetR0, ↓w_sIncP0, ↓w_sIncM0, ↓w_eLoc1, ↓w_rLoc1, ↓w_sSet1, ↓w_sSetR1, ↓w_sIncP1, ↓w_sIncM1, ↓w_eLoc2, ↓w_rLoc2, ↓w_sSet2, ↓w_sSetR2, ↓w_sIncP2, ↓w_sIncM2, ↓w_eLoc3, ↓w_rLoc3, ↓w_sSet3, ↓w_sSetR3, ↓w_sIncP3, ↓w_sIncM3, ↓w_eLoc4, ↓w_rLoc4, ↓w_sSet4, ↓w_sSetR4, ↓w_sIncP4, ↓w_sIncM4, ↓w_eLoc5, ↓w_rLoc5, ↓w_sSet5, ↓w_sSetR5, ↓w_sIncP5, ↓w_sIncM5, ↓w_eLoc6, ↓w_rLoc6, ↓w_sSet6, ↓w_sSetR6, ↓w_sIncP6, ↓w_sIncM6, ↓w_eLoc7, ↓w_rLoc7, ↓w_sSet7, ↓w_sSetR7, ↓w_sIncP7, ↓w_sIncM7, ↓w_eLoc8, ↓w_rLoc8, ↓w_sSet8, ↓w_sSetR8, ↓w_sIncP8, ↓w_sIncM8, ↓w_eLoc9, ↓w_rLoc9, ↓w_sSet9, ↓w_sSetR9, ↓w_sIncP9, ↓w_sIncM9, ↓w_eLoc10, ↓w_rLoc10, ↓w_sSet10, ↓w_sSetR10, ↓w_sIncP10, ↓w_sIncM10, ↓w_eLoc11, ↓w_rLoc11, ↓w_sSet11, ↓w_sSetR11, ↓w_sIncP11, ↓w_sIncM11, ↓w_eLoc12, ↓w_rLoc12, ↓w_sSet12, ↓w_sSetR12, ↓w_sIncP12, ↓w_sIncM12, ↓w_eLoc13, ↓w_rLoc13, ↓w_sSet13, ↓w_sSetR13, ↓w_sIncP13, ↓w_sIncM13, ↓w_eIntN, ↓w_eIntM, ↓w_bZi, ↓w_add, ↓w_sub, ↓w_mul, ↓w_neg, ↓w_nar, ↓w_div, ↓w_ldne, ↓w_ldat, ↓w_ldj, List.length_cons, List.length_nil, Nat.reduceAdd, Nat.reduceSub, Nat.reduceLeDiff, List.replicate_succ, List.replicate_zero, List.cons_append, List.nil_append, List.append_nil, iz_nI, iz_ofNat, iz_add, iz_sub, iz_mul, cz_lt, cz_le, cz_gt, cz_ge, cz_eq, cz_ne, mIn_iz, iz_nat, decide_eq_true_eq, Bool.not_eq_true', decide_eq_false_iff_not, true_and, and_true, ↓reduceIte, not_true_eq_false, not_false_eq_true, w01_bI, w01_i0, w01_i1, bI_ne', bI_eq', Bool.false_eq_true, false_implies, forall_const, implies_true, true_implies, imp_self, eq_self, cz10, cz00, w01_0, w01_1, Bool.true_eq_false, Bool.not_true, Bool.not_false, decide_true, decide_false, ↓tO_0, ↓tR_0_0, ↓tI_0_1, ↓tR_0_2, ↓tR_0_3, ↓tR_0_4, ↓tR_0_5, ↓tR_0_6, ↓tI_0_7, ↓tR_0_8, ↓tR_0_9, ↓tR_0_10, ↓tR_0_11, ↓tR_0_12, ↓tO_11, ↓tI_11_0, ↓tI_11_1, ↓tI_11_2, ↓tR_11_3, ↓tR_11_4, ↓tR_11_5, ↓tR_11_6, ↓tR_11_7, ↓tR_11_8, ↓tO_18, ↓tR_18_0, ↓tR_18_1, ↓tR_18_2, ↓tR_18_3, ↓tI_18_4, ↓tA_42, ↓tN_42, Int.reduceEq, Int.reduceLT, hlt, ↓wF_eq e]
      exact ⟨all, w, fr⟩
  obtain ⟨o, D, e, rfl, r⟩ := wF_of key
  exact ⟨D, e, r⟩
theorem rc_takeTower (T : TwC E nl fl cs sk) : ∃ F, f_F_takeTower [.ref 0] E = some (some (iz (nl : Int)), F) ∧ (∀ B : aS, Fresh B → B 30 1 ≤ 4 → (∀ c, 0 ≤ c → c < B 30 1 → E 16 c.toNat = iz (B 20 c)) → RelS F 43 B) ∧ (∀ f, f < 80 → F 42 f = iz 1) ∧ (∀ i, i < 3 → F 19 i = E 11 i) ∧ (∀ j i : Nat, j < 5 → i < 4 → F (20 + j) i = E (12 + j) i) ∧ (∀ i, i < 320 → F 25 i = E 17 i) ∧ ∀ a, a < 19 ∨ (25 < a ∧ a < 42) ∨ 60 < a → F a = E a := by
  obtain ⟨t0, t1, t2, t3, t4⟩ := T
  obtain ⟨D, e1, f1, g1, g2, g3⟩ := im_towerT (C := E) (fun i hi => by
    rw [t4 i hi]
    cases sk i
    · exact Or.inl rfl
    · exact Or.inr rfl)
  obtain ⟨F, e2, rs, w, f2⟩ := rc_wobegin (C := D)
  have h0 : F 11 0 = iz (nl : Int) := by rw [f2 11 (by omega), f1 11 (by omega)]; exact t0
  refine ⟨F, ?_, fun B hB h4 h16 => rs B hB h4 (fun c c0 c1 => ?_), w, fun i hi => by rw [f2 19 (by omega)]; exact g1 i hi, fun j i hj hi => by rw [f2 _ (by omega)]; exact g2 j i hj hi, fun i hi => by rw [f2 25 (by omega)]; exact g3 i hi, fun a ha => by rw [f2 a (by omega), f1 a (by omega)]⟩
  · apply wF_to
    unfold f_F_takeTower
    simp only [↓w_rcv, ↓w_bodyI, ↓w_bodyZ, ↓w_bodyV, true_and, List.length_cons, List.length_nil, Nat.reduceAdd, Nat.reduceSub, Nat.reduceLeDiff, List.replicate_succ, List.replicate_zero, List.cons_append, List.nil_append, List.append_nil, ↓tO_0, ↓tO_2, ↓tO_6, ↓tO_11, ↓tO_18, ↓tO_19, ↓tO_27, ↓tO_32, ↓tO_37, ↓tO_43, ↓tO_44, ↓tO_52, ↓tO_62, ↓tO_63, ↓tO_71, ↓tO_76, ↓tO_81, ↓tO_87, ↓tO_88, ↓tO_96, ↓tO_106, ↓tO_107, ↓tO_115, ↓tO_127, ↓tO_127c, ↓tO_133, ↓tO_133c, ↓tO_139]
    unfold S_F_takeTower
    simp (disch := omega) only [↓w_eBin, ↓w_eUn, ↓w_eDiv, ↓w_eRem, ↓w_eFld, ↓w_rFld, ↓w_eALd, ↓w_rALd, ↓w_eALen, ↓w_rStr, ↓w_aNil, ↓w_aI, ↓w_aR, ↓w_N, ↓w_eCall, ↓w_X, ↓w_bCmp, ↓w_bAnd, ↓w_bOr, ↓w_bNot, ↓w_eB, ↓w_eIte, ↓w_sSkip, ↓w_sRet, ↓w_sRetZ, ↓w_sRetV, ↓w_sBrk, ↓w_sCont, ↓w_sIf, ↓w_sSeq, ↓w_sCaC, ↓w_sCaB, ↓w_sSw, ↓w_sCall, ↓w_sPut, ↓w_sPutOp, ↓w_sASt, ↓w_sAOp, ↓w_sADiv, ↓w_eLoc0, ↓w_rLoc0, ↓w_sSet0, ↓w_sSetR0, ↓w_sIncP0, ↓w_sIncM0, ↓w_eLoc1, ↓w_rLoc1, ↓w_sSet1, ↓w_sSetR1, ↓w_sIncP1, ↓w_sIncM1, ↓w_eLoc2, ↓w_rLoc2, ↓w_sSet2, ↓w_sSetR2, ↓w_sIncP2, ↓w_sIncM2, ↓w_eLoc3, ↓w_rLoc3, ↓w_sSet3, ↓w_sSetR3, ↓w_sIncP3, ↓w_sIncM3, ↓w_eLoc4, ↓w_rLoc4, ↓w_sSet4, ↓w_sSetR4, ↓w_sIncP4, ↓w_sIncM4, ↓w_eLoc5, ↓w_rLoc5, ↓w_sSet5, ↓w_sSetR5, ↓w_sIncP5, ↓w_sIncM5, ↓w_eLoc6, ↓w_rLoc6, ↓w_sSet6, ↓w_sSetR6, ↓w_sIncP6, ↓w_sIncM6, ↓w_eLoc7, ↓w_rLoc7, ↓w_sSet7, ↓w_sSetR7, ↓w_sIncP7, ↓w_sIncM7, ↓w_eLoc8, ↓w_rLoc8, ↓w_sSet8, ↓w_sSetR8, ↓w_sIncP8, ↓w_sIncM8, ↓w_eLoc9, ↓w_rLoc9, ↓w_sSet9, ↓w_sSetR9, ↓w_sIncP9, ↓w_sIncM9, ↓w_eLoc10, ↓w_rLoc10, ↓w_sSet10, ↓w_sSetR10, ↓w_sIncP10, ↓w_sIncM10, ↓w_eLoc11, ↓w_rLoc11, ↓w_sSet11, ↓w_sSetR11, ↓w_sIncP11, ↓w_sIncM11, ↓w_eLoc12, ↓w_rLoc12, ↓w_sSet12, ↓w_sSetR12, ↓w_sIncP12, ↓w_sIncM12, ↓w_eLoc13, ↓w_rLoc13, ↓w_sSet13, ↓w_sSetR13, ↓w_sIncP13, ↓w_sIncM13, ↓w_eIntN, ↓w_eIntM, ↓w_bZi, ↓w_add, ↓w_sub, ↓w_mul, ↓w_neg, ↓w_nar, ↓w_div, ↓w_ldne, ↓w_ldat, ↓w_ldj, List.length_cons, List.length_nil, Nat.reduceAdd, Nat.reduceSub, Nat.reduceLeDiff, List.replicate_succ, List.replicate_zero, List.cons_append, List.nil_append, List.append_nil, iz_nI, iz_ofNat, iz_add, iz_sub, iz_mul, cz_lt, cz_le, cz_gt, cz_ge, cz_eq, cz_ne, mIn_iz, iz_nat, decide_eq_true_eq, Bool.not_eq_true', decide_eq_false_iff_not, true_and, and_true, ↓reduceIte, not_true_eq_false, not_false_eq_true, w01_bI, w01_i0, w01_i1, bI_ne', bI_eq', Bool.false_eq_true, false_implies, forall_const, implies_true, true_implies, imp_self, eq_self, cz10, cz00, w01_0, w01_1, Bool.true_eq_false, Bool.not_true, Bool.not_false, decide_true, decide_false, ↓tO_0, ↓tR_0_0, ↓tI_0_1, ↓tR_0_2, ↓tR_0_3, ↓tR_0_4, ↓tR_0_5, ↓tR_0_6, ↓tI_0_7, ↓tR_0_8, ↓tR_0_9, ↓tR_0_10, ↓tR_0_11, ↓tR_0_12, ↓tO_11, ↓tI_11_0, ↓tI_11_1, ↓tI_11_2, ↓tR_11_3, ↓tR_11_4, ↓tR_11_5, ↓tR_11_6, ↓tR_11_7, ↓tR_11_8, ↓tO_18, ↓tR_18_0, ↓tR_18_1, ↓tR_18_2, ↓tR_18_3, ↓tI_18_4, ↓tA_42, ↓tN_42, Int.reduceEq, Int.reduceLT, ↓wF_eq e1, ↓wF_eq e2, ↓wLd_of h0, and_self]
  · have := g2 4 c.toNat (by omega) (by omega)
    rw [show (24 : Nat) = 20 + 4 from rfl, this]
    exact h16 c c0 c1
end
end

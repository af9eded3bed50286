/-! texts: a rule that was read is kept -/
noncomputable section
def lnD : Ln := (0, 0, 0, 0)
def mkR (Ls : List Ln) (l : List (Int × Int)) (g : Nat → Int32) : aS := fun r p =>
  if r = 0 then (if p = 0 then (Ls.length : Int) else if p = 1 then (l.length : Int) else if l.any (fun x => decide (x.1 = 9)) = true then 1 else 0)
  else if r = 1 then (Ls.getD p.toNat lnD).1
  else if r = 2 then ((Ls.getD p.toNat lnD).2.1 : Int)
  else if r = 3 then ((Ls.getD p.toNat lnD).2.2.1 : Int)
  else if r = 4 then ((Ls.getD p.toNat lnD).2.2.2 : Int)
  else if r = 5 then (l.getD p.toNat (0, 0)).1
  else (g (2 * p.toNat + 1)).toInt
section
variable {Ls : List Ln} {l o : List (Int × Int)} {g : Nat → Int32} {C D E : mMem}
theorem getD_of {α : Type} {l : List α} {i : Nat} {d x : α} (h : l[i]? = some x) : l.getD i d = x := by rw [List.getD_eq_getElem?_getD, h]; rfl
theorem mk_0 : mkR Ls l g 0 0 = Ls.length := rfl
theorem mk_1 : mkR Ls l g 0 1 = l.length := rfl
theorem mk_2 : mkR Ls l g 0 2 = if l.any (fun x => decide (x.1 = 9)) = true then 1 else 0 := rfl
theorem mk_l {i : Nat} {w : Ln} (h : Ls[i]? = some w) : mkR Ls l g 1 i = w.1 ∧ mkR Ls l g 2 i = w.2.1 ∧ mkR Ls l g 3 i = w.2.2.1 ∧ mkR Ls l g 4 i = w.2.2.2 := by
  refine ⟨?_, ?_, ?_, ?_⟩
  · show (Ls.getD (i : Int).toNat lnD).1 = _; rw [Int.toNat_natCast, getD_of h]
  · show ((Ls.getD (i : Int).toNat lnD).2.1 : Int) = _; rw [Int.toNat_natCast, getD_of h]
  · show ((Ls.getD (i : Int).toNat lnD).2.2.1 : Int) = _; rw [Int.toNat_natCast, getD_of h]
  · show ((Ls.getD (i : Int).toNat lnD).2.2.2 : Int) = _; rw [Int.toNat_natCast, getD_of h]
theorem mk_5 {i : Nat} {x : Int × Int} (h : l[i]? = some x) : mkR Ls l g 5 i = x.1 := by
  show (l.getD (i : Int).toNat (0, 0)).1 = _
  rw [Int.toNat_natCast, getD_of h]
theorem mk_6 {i : Nat} : mkR Ls l g 6 i = (g (2 * i + 1)).toInt := by
  show (g (2 * (i : Int).toNat + 1)).toInt = _
  rw [Int.toNat_natCast]
def StG (g : Nat → Int32) (l : List (Int × Int)) : Prop := ∀ (q : Nat) (x : Int × Int), l[q]? = some x → x.1 = 0 ∨ x.1 = 16 → g (2 * q + 1) = iz x.2
theorem mk_sg {l0 l1 : List (Int × Int)} {c : Bool} {k : Nat} (hl : l = l0 ++ o ++ l1) (hg : StG g l) (hd : Gd c k o) (hk : k ≤ 22) : Sg (mkR Ls l g) l0.length o := by
  intro i x hx
  have hi : i < o.length := (List.getElem?_eq_some_iff.mp hx).1
  have hx2 : l[l0.length + i]? = some x := by
    rw [hl, List.append_assoc, List.getElem?_append_right (by omega), Nat.add_sub_cancel_left, List.getElem?_append_left hi]; exact hx
  refine ⟨mk_5 hx2, fun z => ?_⟩
  have ok := okL_get o 0 i x (hd 0 (by omega)).1 hx
  have rg := ok.2.1 z
  rw [mk_6, hg _ x hx2 z, iz_int (by omega)]
theorem mk_wl {i : Nat} {w : Ln} (hw : Ls[i]? = some w) (ho : LnOk l w) (hg : StG g l) : WfL (mkR Ls l g) i := by
  obtain ⟨e1, e2, e3, e4⟩ := mk_l (l := l) (g := g) hw
  obtain ⟨l0, o1, o2, l1, hl, h1, h2, h3, h4, h5⟩ := ho
  have hlen : l.length = l0.length + o1.length + o2.length + l1.length := by rw [hl, List.length_append, List.length_append, List.length_append]
  unfold WfL
  rw [e1, e2, e3, e4, mk_1, h1, h2, h3]
  have g1 : ∀ {c : Bool} {k : Nat} {o : List (Int × Int)}, Gd c k o → 1 ≤ k → k ≤ 22 → 0 < o.length := by
    intro c k o hd k1 k2
    have := (hd 0 (by omega)).2.1
    cases o with
    | nil => simp [eh] at this
    | cons x o => simp
  refine ⟨by omega, by omega, by omega, by omega, ?_, ?_, fun z => ?_, fun z => ?_⟩
  · rcases h4 with h4 | h4
    · exact Or.inl h4.1
    · exact Or.inr h4.1
  · rcases h4 with ⟨a, c⟩ | ⟨a, c⟩
    · have := g1 c (by omega) (by omega)
      rw [a]; omega
    · rw [a, c, List.length_nil]; omega
  · rcases h4 with ⟨a, c⟩ | ⟨a, c⟩
    · have sg := mk_sg (Ls := Ls) (g := g) (l0 := l0) (o := o1) (l1 := o2 ++ l1) (by rw [hl]; simp only [List.append_assoc]) hg c (by omega)
      have := (sg_seg sg c (by omega) (by rw [mk_1]; omega)).1
      rw [Int.toNat_natCast, Int.toNat_natCast]
      exact this
    · rw [c, List.length_nil] at z; omega
  · rcases h5 with h5 | h5
    · rw [h5, List.length_nil] at z; omega
    · have sg := mk_sg (Ls := Ls) (g := g) (l0 := l0 ++ o1) (o := o2) (l1 := l1) hl hg h5 (by omega)
      rw [List.length_append] at sg
      have s := sg_seg sg h5 (by omega) (by rw [mk_1]; omega)
      rw [Int.toNat_natCast, Int.toNat_natCast]
      exact ⟨s.1, s.2 rfl⟩
theorem mk_wf (h16 : Ls.length ≤ 16) (h4 : l.length ≤ 400) (ho : ∀ w, w ∈ Ls → LnOk l w) (hg : StG g l) : WfR (mkR Ls l g) := by
  refine ⟨by rw [mk_0]; omega, by rw [mk_0]; omega, by rw [mk_1]; omega, by rw [mk_1]; omega, ?_, fun i i0 i1 => ?_, fun z j j0 j1 => ?_⟩
  · rw [mk_2]; split
    · exact Or.inr rfl
    · exact Or.inl rfl
  · rw [mk_0] at i1
    obtain ⟨m, rfl⟩ := Int.eq_ofNat_of_zero_le i0
    have hm : m < Ls.length := by omega
    have hx : Ls[m]? = some Ls[m] := List.getElem?_eq_getElem hm
    exact mk_wl hx (ho _ (List.getElem_mem hm)) hg
  · rw [mk_1] at j1
    obtain ⟨m, rfl⟩ := Int.eq_ofNat_of_zero_le j0
    have hm : m < l.length := by omega
    have hx : l[m]? = some l[m] := List.getElem?_eq_getElem hm
    have e5 : mkR Ls l g 5 (m : Int) = (l[m]).1 := mk_5 hx
    intro h9
    have h9 : mkR Ls l g 5 (m : Int) = 9 := h9
    rw [e5] at h9
    rw [mk_2] at z
    have : l.any (fun x => decide (x.1 = 9)) = true := List.any_eq_true.mpr ⟨l[m], List.getElem_mem hm, decide_eq_true h9⟩
    rw [if_pos this] at z
    omega
theorem rEn_iz {s v u : Int} (h : s = 0 ∨ s = 16 → iz v = iz u) : iz (rEn s v) = iz (rEn s u) := by
  unfold rEn
  by_cases g1 : s = 0
  · rw [if_pos g1, if_pos g1, ← iz_mul, ← iz_mul, h (Or.inl g1)]
  · rw [if_neg g1, if_neg g1]
    by_cases g2 : s < 13
    · rw [if_pos g2, if_pos g2]
    · rw [if_neg g2, if_neg g2]
      by_cases g3 : s = 16
      · rw [if_pos g3, if_pos g3, ← iz_add, ← iz_add, ← iz_mul, ← iz_mul, h (Or.inr g3)]
      · rw [if_neg g3, if_neg g3]
theorem mk_rc (hL : LnC D Ls l) (hO : OutC D l) (hg : StG g l) : RelRC D 6 (mkR Ls l g) := by
  obtain ⟨a1, a2, a3, a4⟩ := hL
  obtain ⟨b1, b2, b3⟩ := hO
  refine ⟨by rw [mk_0]; exact a1, by rw [mk_1]; exact b1, by rw [mk_2, b2, bI_iz], a3, fun i i0 i1 => ?_, fun j j0 j1 => ?_⟩
  · rw [mk_0] at i1
    obtain ⟨m, rfl⟩ := Int.eq_ofNat_of_zero_le i0
    have hm : m < Ls.length := by omega
    have hx : Ls[m]? = some Ls[m] := List.getElem?_eq_getElem hm
    obtain ⟨e1, e2, e3, e4⟩ := mk_l (l := l) (g := g) hx
    rw [e2, e3, e4, Int.toNat_natCast, show ((m : Int) + 1).toNat = m + 1 by omega]
    exact a4 m _ hx
  · rw [mk_1] at j1
    obtain ⟨m, rfl⟩ := Int.eq_ofNat_of_zero_le j0
    have hm : m < l.length := by omega
    have hx : l[m]? = some l[m] := List.getElem?_eq_getElem hm
    rw [mk_5 hx, mk_6, Int.toNat_natCast]
    rw [show (6 + 3 : Nat) = 9 from rfl, b3 m _ hx]
    exact rEn_iz (fun z => by rw [iz_self, hg m _ hx z])
/-- where the reference keeps rule k -/
def InR (k : Int) (i : Nat) : Prop := (i : Int) = 1300 + k ∨ (1310 + 16 * k ≤ i ∧ (i : Int) < 1326 + 16 * k) ∨ (1360 + 16 * k ≤ i ∧ (i : Int) < 1376 + 16 * k) ∨ (1410 + 16 * k ≤ i ∧ (i : Int) < 1426 + 16 * k) ∨ (1460 + 16 * k ≤ i ∧ (i : Int) < 1476 + 16 * k) ∨ (1510 + 820 * k ≤ i ∧ (i : Int) < 2330 + 820 * k)
theorem rf_keepsRule {k : Int} (hk : 0 ≤ k ∧ k ≤ 2) (hL : LnM E Ls.length Ls) (hO : OutM E l) (h16 : Ls.length ≤ 16) (h4 : l.length ≤ 400) : ∃ D, f_M_keepsRule [.ref 139, .int (iz k)] E = some (none, D) ∧ RelRM D 140 k (mkR Ls l (E 144)) ∧ (∀ a, a ≠ 140 → D a = E a) ∧ ∀ i, ¬ InR k i → D 140 i = E 140 i := by
  have h12 := hL.1
  have h13 := hO.1
  have key : wF f_M_keepsRule [.ref 139, .int (iz k)] E (fun o D => o = none ∧ (∀ a, a ≠ 140 → D a = E a) ∧ (∀ i, ¬ InR k i → D 140 i = E 140 i) ∧ D 140 (1300 + k).toNat = iz (Ls.length : Int) ∧ (∀ m : Nat, m < Ls.length → D 140 (1310 + 16 * k + m).toNat = E 143 (4 * m) ∧ D 140 (1360 + 16 * k + m).toNat = E 143 (4 * m + 1) ∧ D 140 (1410 + 16 * k + m).toNat = E 143 (4 * m + 2) ∧ D 140 (1460 + 16 * k + m).toNat = E 143 (4 * m + 3)) ∧ ∀ m : Nat, m < 2 * l.length → D 140 (1510 + 820 * k + m).toNat = E 144 m) := by
    unfold f_M_keepsRule
    simp only [↓w_rcv, ↓w_bodyI, ↓w_bodyZ, ↓w_bodyV, true_and, List.length_cons, List.length_nil, Nat.reduceAdd, Nat.reduceSub, Nat.reduceLeDiff, List.replicate_succ, List.replicate_zero, List.cons_append, List.nil_append, List.append_nil, ↓tO_0, ↓tO_2, ↓tO_6, ↓tO_11, ↓tO_18, ↓tO_19, ↓tO_27, ↓tO_32, ↓tO_37, ↓tO_43, ↓tO_44, ↓tO_52, ↓tO_62, ↓tO_63, ↓tO_71, ↓tO_76, ↓tO_81, ↓tO_87, ↓tO_88, ↓tO_96, ↓tO_106, ↓tO_107, ↓tO_115, ↓tO_127, ↓tO_127c, ↓tO_133, ↓tO_133c, ↓tO_139]
    unfold S_M_keepsRule
    simp (disch := omega) only [↓w_eBin, ↓w_eUn, ↓w_eDiv, ↓w_eRem, ↓w_eFld, ↓w_rFld, ↓w_eALd, ↓w_rALd, ↓w_eALen, ↓w_rStr, ↓w_aNil, ↓w_aI, ↓w_aR, ↓w_N, ↓w_eCall, ↓w_X, ↓w_bCmp, ↓w_bAnd, ↓w_bOr, ↓w_bNot, ↓w_eB, ↓w_eIte, ↓w_sSkip, ↓w_sRet, ↓w_sRetZ, ↓w_sRetV, ↓w_sBrk, ↓w_sCont, ↓w_sIf, ↓w_sSeq, ↓w_sCaC, ↓w_sCaB, ↓w_sSw, ↓w_sCall, ↓w_sPut, ↓w_sPutOp, ↓w_sASt, ↓w_sAOp, ↓w_sADiv, ↓w_eLoc0, ↓w_rLoc0, ↓w_sSet0, ↓w_sSetR0, ↓w_sIncP0, ↓w_sIncM0, ↓w_eLoc1, ↓w_rLoc1, ↓w_sSet1, ↓w_sSetR1, ↓w_sIncP1, ↓w_sIncM1, ↓w_eLoc2, ↓w_rLoc2, ↓w_sSet2, ↓w_sSetR2, ↓w_sIncP2, ↓w_sIncM2, ↓w_eLoc3, ↓w_rLoc3, ↓w_sSet3, ↓w_sSetR3, ↓w_sIncP3, ↓w_sIncM3, ↓w_eLoc4, ↓w_rLoc4, ↓w_sSet4, ↓w_sSetR4, ↓w_sIncP4, ↓w_sIncM4, ↓w_eLoc5, ↓w_rLoc5, ↓w_sSet5, ↓w_sSetR5, ↓w_sIncP5, ↓w_sIncM5, ↓w_eLoc6, ↓w_rLoc6, ↓w_sSet6, ↓w_sSetR6, ↓w_sIncP6, ↓w_sIncM6, ↓w_eLoc7, ↓w_rLoc7, ↓w_sSet7, ↓w_sSetR7, ↓w_sIncP7, ↓w_sIncM7, ↓w_eLoc8, ↓w_rLoc8, ↓w_sSet8, ↓w_sSetR8, ↓w_sIncP8, ↓w_sIncM8, ↓w_eLoc9, ↓w_rLoc9, ↓w_sSet9, ↓w_sSetR9, ↓w_sIncP9, ↓w_sIncM9, ↓w_eLoc10, ↓w_rLoc10, ↓w_sSet10, ↓w_sSetR10, ↓w_sIncP10, ↓w_sIncM10, ↓w_eLoc11, ↓w_rLoc11, ↓w_sSet11, ↓w_sSetR11, ↓w_sIncP11, ↓w_sIncM11, ↓w_eLoc12, ↓w_rLoc12, ↓w_sSet12, ↓w_sSetR12, ↓w_sIncP12, ↓w_sIncM12, ↓w_eLoc13, ↓w_rLoc13, ↓w_sSet13, ↓w_sSetR13, ↓w_sIncP13, ↓w_sIncM13, ↓w_eIntN, ↓w_eIntM, ↓w_bZi, ↓w_add, ↓w_sub, ↓w_mul, ↓w_neg, ↓w_nar, ↓w_div, ↓w_ldne, ↓w_ldat, ↓w_ldj, List.length_cons, List.length_nil, Nat.reduceAdd, Nat.reduceSub, Nat.reduceLeDiff, List.replicate_succ, List.replicate_zero, List.cons_append, List.nil_append, List.append_nil, iz_nI, iz_ofNat, iz_add, iz_sub, iz_mul, cz_lt, cz_le, cz_gt, cz_ge, cz_eq, cz_ne, mIn_iz, iz_nat, decide_eq_true_eq, Bool.not_eq_true', decide_eq_false_iff_not, true_and, and_true, ↓reduceIte, not_true_eq_false, not_false_eq_true, w01_bI, w01_i0, w01_i1, bI_ne', bI_eq', Bool.false_eq_true, false_implies, forall_const, implies_true, true_implies, imp_self, eq_self, cz10, cz00, w01_0, w01_1, Bool.true_eq_false, Bool.not_true, Bool.not_false, decide_true, decide_false, ↓tO_139, ↓tR_139_0, ↓tR_139_1, ↓tR_139_2, ↓tI_139_3, ↓tR_139_4, ↓tR_139_5, ↓tR_139_6, ↓tR_139_7, ↓tR_139_8, ↓tR_139_9, ↓tR_139_10, ↓tI_139_11, ↓tI_139_12, ↓tI_139_13, ↓tI_139_14, ↓tI_139_15, ↓tI_139_16, ↓tI_139_17, ↓tI_139_18, ↓tI_139_19, ↓tI_139_20, ↓tI_139_21, ↓tI_139_22, ↓tI_139_23, ↓tI_139_24, ↓tI_139_25, ↓tI_139_26, ↓tR_139_27, ↓tI_139_28, ↓tI_139_29, ↓tI_139_30, ↓tI_139_31, ↓tR_139_32, ↓tI_139_33, ↓tR_139_34, ↓tR_139_35, ↓tR_139_36, ↓tR_139_37, ↓tI_139_38, ↓tA_140, ↓tN_140, ↓tA_143, ↓tN_143, ↓tA_144, ↓tN_144, Int.reduceEq, ↓wLd_of h12]
    refine wS_up Ls.length (fun n ls D => (∀ a, a ≠ 140 → D a = E a) ∧ (∀ i, ¬ InR k i → D 140 i = E 140 i) ∧ D 140 (1300 + k).toNat = iz (Ls.length : Int) ∧ (∀ m : Nat, m < n → D 140 (1310 + 16 * k + m).toNat = E 143 (4 * m) ∧ D 140 (1360 + 16 * k + m).toNat = E 143 (4 * m + 1) ∧ D 140 (1410 + 16 * k + m).toNat = E 143 (4 * m + 2) ∧ D 140 (1460 + 16 * k + m).toNat = E 143 (4 * m + 3)) ∧ ls = [.ref 139, .int (iz k), .int (iz n)]) ?_ (Nat.zero_le _) ⟨fun a ha => up_k ha, fun i hi => up_j (by unfold InR at hi; omega), up_at, fun m hm => by omega, rfl⟩
    rintro n ls D hn ⟨d1, d2, d3, d4, rfl⟩
    have d12 : D 139 12 = iz (Ls.length : Int) := by rw [d1 139 (by omega)]; exact h12
    have d13 : D 139 13 = iz (l.length : Int) := by rw [d1 139 (by omega)]; exact h13
    by_cases hlt : (n : Int) < Ls.length
    · have x0 : D 143 (4 * (n : Int)).toNat = E 143 (4 * n) := by rw [d1 143 (by omega), show (4 * (n : Int)).toNat = 4 * n by omega]
      have x1 : D 143 (4 * (n : Int) + 1).toNat = E 143 (4 * n + 1) := by rw [d1 143 (by omega), show (4 * (n : Int) + 1).toNat = 4 * n + 1 by omega]
      have x2 : D 143 (4 * (n : Int) + 2).toNat = E 143 (4 * n + 2) := by rw [d1 143 (by omega), show (4 * (n : Int) + 2).toNat = 4 * n + 2 by omega]
      have x3 : D 143 (4 * (n : Int) + 3).toNat = E 143 (4 * n + 3) := by rw [d1 143 (by omega), show (4 * (n : Int) + 3).toNat = 4 * n + 3 by omega]
      simp (disch := omega) only [↓w_eBin, ↓w_eUn, ↓w_eDiv, ↓w_eRem, ↓w_eFld, ↓w_rFld, ↓w_eALd, ↓w_rALd, ↓w_eALen, ↓w_rStr, ↓w_aNil, ↓w_aI, ↓w_aR, ↓w_N, ↓w_eCall, ↓w_X, ↓w_bCmp, ↓w_bAnd, ↓w_bOr, ↓w_bNot, ↓w_eB, ↓w_eIte, ↓w_sSkip, ↓w_sRet, ↓w_sRetZ, ↓w_sRetV, ↓w_sBrk, ↓w_sCont, ↓w_sIf, ↓w_sSeq, ↓w_sCaC, ↓w_sCaB, ↓w_sSw, ↓w_sCall, ↓w_sPut, ↓w_sPutOp, ↓w_sASt, ↓w_sAOp, ↓w_sADiv, ↓w_eLoc0, ↓w_rLoc0, ↓w_sSet0, ↓w_sSetR0, ↓w_sIncP0, ↓w_sIncM0, ↓w_eLoc1, ↓w_rLoc1, ↓w_sSet1, ↓w_sSetR1, ↓w_sIncP1, ↓w_sIncM1, ↓w_eLoc2, ↓w_rLoc2, ↓w_sSet2, ↓w_sSetR2, ↓w_sIncP2, ↓w_sIncM2, ↓w_eLoc3, ↓w_rLoc3, ↓w_sSet3, ↓w_sSetR3, ↓w_sIncP3, ↓w_sIncM3, ↓w_eLoc4, ↓w_rLoc4, ↓w_sSet4, ↓w_sSetR4, ↓w_sIncP4, ↓w_sIncM4, ↓w_eLoc5, ↓w_rLoc5, ↓w_sSet5, ↓w_sSetR5, ↓w_sIncP5, ↓w_sIncM5, ↓w_eLoc6, ↓w_rLoc6, ↓w_sSet6, ↓w_sSetR6, ↓w_sIncP6, ↓w_sIncM6, ↓w_eLoc7, ↓w_rLoc7, ↓w_sSet7, ↓w_sSetR7, ↓w_sIncP7, ↓w_sIncM7, ↓w_eLoc8, ↓w_rLoc8, ↓w_sSet8, ↓w_sSetR8, ↓w_sIncP8, ↓w_sIncM8, ↓w_eLoc9, ↓w_rLoc9, ↓w_sSet9, ↓w_sSetR9, ↓w_sIncP9, ↓w_sIncM9, ↓w_eLoc10, ↓w_rLoc10, ↓w_sSet10, ↓w_sSetR10, ↓w_sIncP10, ↓w_sIncM10, ↓w_eLoc11, ↓w_rLoc11, ↓w_sSet11, ↓w_sSetR11, ↓w_sIncP11, ↓w_sIncM11, ↓w_eLoc12, ↓w_rLoc12, ↓w_sSet12, ↓w_sSetR12, ↓w_sIncP12, ↓w_sIncM12, ↓w_eLoc13, ↓w_rLoc13, ↓w_sSet13, ↓w_sSetR13, ↓w_sIncP13, ↓w_sIncM13, ↓w_eIntN, ↓w_eIntM, ↓w_bZi, ↓w_add, ↓w_sub, ↓w_mul, ↓w_neg, ↓w_nar, ↓w_div, ↓w_ldne, ↓w_ldat, ↓w_ldj, List.length_cons, List.length_nil, Nat.reduceAdd, Nat.reduceSub, Nat.reduceLeDiff, List.replicate_succ, List.replicate_zero, List.cons_append, List.nil_append, List.append_nil, iz_nI, iz_ofNat, iz_add, iz_sub, iz_mul, cz_lt, cz_le, cz_gt, cz_ge, cz_eq, cz_ne, mIn_iz, iz_nat, decide_eq_true_eq, Bool.not_eq_true', decide_eq_false_iff_not, true_and, and_true, ↓reduceIte, not_true_eq_false, not_false_eq_true, w01_bI, w01_i0, w01_i1, bI_ne', bI_eq', Bool.false_eq_true, false_implies, forall_const, implies_true, true_implies, imp_self, eq_self, cz10, cz00, w01_0, w01_1, Bool.true_eq_false, Bool.not_true, Bool.not_false, decide_true, decide_false, ↓tO_139, ↓tR_139_0, ↓tR_139_1, ↓tR_139_2, ↓tI_139_3, ↓tR_139_4, ↓tR_139_5, ↓tR_139_6, ↓tR_139_7, ↓tR_139_8, ↓tR_139_9, ↓tR_139_10, ↓tI_139_11, ↓tI_139_12, ↓tI_139_13, ↓tI_139_14, ↓tI_139_15, ↓tI_139_16, ↓tI_139_17, ↓tI_139_18, ↓tI_139_19, ↓tI_139_20, ↓tI_139_21, ↓tI_139_22, ↓tI_139_23, ↓tI_139_24, ↓tI_139_25, ↓tI_139_26, ↓tR_139_27, ↓tI_139_28, ↓tI_139_29, ↓tI_139_30, ↓tI_139_31, ↓tR_139_32, ↓tI_139_33, ↓tR_139_34, ↓tR_139_35, ↓tR_139_36, ↓tR_139_37, ↓tI_139_38, ↓tA_140, ↓tN_140, ↓tA_143, ↓tN_143, ↓tA_144, ↓tN_144, Int.reduceEq, ↓wLd_of d12, hlt, ↓wLd_of x0, ↓wLd_of x1, ↓wLd_of x2, ↓wLd_of x3]
      refine ⟨by omega, fun a ha => ?_, fun i hi => ?_, ?_, fun m hm => ?_, rfl⟩
      · rw [up_k ha, up_k ha, up_k ha, up_k ha]; exact d1 a ha
      · unfold InR at hi
        rw [up_j (by omega), up_j (by omega), up_j (by omega), up_j (by omega)]; exact d2 i (by unfold InR; omega)
      · rw [up_j (by omega), up_j (by omega), up_j (by omega), up_j (by omega)]; exact d3
      · by_cases e : m = n
        · subst e
          simp (disch := omega) only [up_j, up_at, and_self]
        · have := d4 m (by omega)
          simp (disch := omega) only [up_j]
          exact this
    · simp (disch := omega) only [↓w_eBin, ↓w_eUn, ↓w_eDiv, ↓w_eRem, ↓w_eFld, ↓w_rFld, ↓w_eALd, ↓w_rALd, ↓w_eALen, ↓w_rStr, ↓w_aNil, ↓w_aI, ↓w_aR, ↓w_N, ↓w_eCall, ↓w_X, ↓w_bCmp, ↓w_bAnd, ↓w_bOr, ↓w_bNot, ↓w_eB, ↓w_eIte, ↓w_sSkip, ↓w_sRet, ↓w_sRetZ, ↓w_sRetV, ↓w_sBrk, ↓w_sCont, ↓w_sIf, ↓w_sSeq, ↓w_sCaC, ↓w_sCaB, ↓w_sSw, ↓w_sCall, ↓w_sPut, ↓w_sPutOp, ↓w_sASt, ↓w_sAOp, ↓w_sADiv, ↓w_eLoc0, ↓w_rLoc0, ↓w_sSet0, ↓w_sSetR0, ↓w_sIncP0, ↓w_sIncM0, ↓w_eLoc1, ↓w_rLoc1, ↓w_sSet1, ↓w_sSetR1, ↓w_sIncP1, ↓w_sIncM1, ↓w_eLoc2, ↓w_rLoc2, ↓w_sSet2, ↓w_sSetR2, ↓w_sIncP2, ↓w_sIncM2, ↓w_eLoc3, ↓w_rLoc3, ↓w_sSet3, ↓w_sSetR3, ↓w_sIncP3, ↓w_sIncM3, ↓w_eLoc4, ↓w_rLoc4, ↓w_sSet4, ↓w_sSetR4, ↓w_sIncP4, ↓w_sIncM4, ↓w_eLoc5, ↓w_rLoc5, ↓w_sSet5, ↓w_sSetR5, ↓w_sIncP5, ↓w_sIncM5, ↓w_eLoc6, ↓w_rLoc6, ↓w_sSet6, ↓w_sSetR6, ↓w_sIncP6, ↓w_sIncM6, ↓w_eLoc7, ↓w_rLoc7, ↓w_sSet7, ↓w_sSetR7, ↓w_sIncP7, ↓w_sIncM7, ↓w_eLoc8, ↓w_rLoc8, ↓w_sSet8, ↓w_sSetR8, ↓w_sIncP8, ↓w_sIncM8, ↓w_eLoc9, ↓w_rLoc9, ↓w_sSet9, ↓w_sSetR9, ↓w_sIncP9, ↓w_sIncM9, ↓w_eLoc10, ↓w_rLoc10, ↓w_sSet10, ↓w_sSetR10, ↓w_sIncP10, ↓w_sIncM10, ↓w_eLoc11, ↓w_rLoc11, ↓w_sSet11, ↓w_sSetR11, ↓w_sIncP11, ↓w_sIncM11, ↓w_eLoc12, ↓w_rLoc12, ↓w_sSet12, ↓w_sSetR12, ↓w_sIncP12, ↓w_sIncM12, ↓w_eLoc13, ↓w_rLoc13, ↓w_sSet13, ↓w_sSetR13, ↓w_sIncP13, ↓w_sIncM13, ↓w_eIntN, ↓w_eIntM, ↓w_bZi, ↓w_add, ↓w_sub, ↓w_mul, ↓w_neg, ↓w_nar, ↓w_div, ↓w_ldne, ↓w_ldat, ↓w_ldj, List.length_cons, List.length_nil, Nat.reduceAdd, Nat.reduceSub, Nat.reduceLeDiff, List.replicate_succ, List.replicate_zero, List.cons_append, List.nil_append, List.append_nil, iz_nI, iz_ofNat, iz_add, iz_sub, iz_mul, cz_lt, cz_le, cz_gt, cz_ge, cz_eq, cz_ne, mIn_iz, iz_nat, decide_eq_true_eq, Bool.not_eq_true', decide_eq_false_iff_not, true_and, and_true, ↓reduceIte, not_true_eq_false, not_false_eq_true, w01_bI, w01_i0, w01_i1, bI_ne', bI_eq', Bool.false_eq_true, false_implies, forall_const, implies_true, true_implies, imp_self, eq_self, cz10, cz00, w01_0, w01_1, Bool.true_eq_false, Bool.not_true, Bool.not_false, decide_true, decide_false, ↓tO_139, ↓tR_139_0, ↓tR_139_1, ↓tR_139_2, ↓tI_139_3, ↓tR_139_4, ↓tR_139_5, ↓tR_139_6, ↓tR_139_7, ↓tR_139_8, ↓tR_139_9, ↓tR_139_10, ↓tI_139_11, ↓tI_139_12, ↓tI_139_13, ↓tI_139_14, ↓tI_139_15, ↓tI_139_16, ↓tI_139_17, ↓tI_139_18, ↓tI_139_19, ↓tI_139_20, ↓tI_139_21, ↓tI_139_22, ↓tI_139_23, ↓tI_139_24, ↓tI_139_25, ↓tI_139_26, ↓tR_139_27, ↓tI_139_28, ↓tI_139_29, ↓tI_139_30, ↓tI_139_31, ↓tR_139_32, ↓tI_139_33, ↓tR_139_34, ↓tR_139_35, ↓tR_139_36, ↓tR_139_37, ↓tI_139_38, ↓tA_140, ↓tN_140, ↓tA_143, ↓tN_143, ↓tA_144, ↓tN_144, Int.reduceEq, ↓wLd_of d12, hlt]
      have hn' : n = Ls.length := by omega
      subst hn'
      refine wS_up (2 * l.length) (fun n ls D => (∀ a, a ≠ 140 → D a = E a) ∧ (∀ i, ¬ InR k i → D 140 i = E 140 i) ∧ D 140 (1300 + k).toNat = iz (Ls.length : Int) ∧ (∀ m : Nat, m < Ls.length → D 140 (1310 + 16 * k + m).toNat = E 143 (4 * m) ∧ D 140 (1360 + 16 * k + m).toNat = E 143 (4 * m + 1) ∧ D 140 (1410 + 16 * k + m).toNat = E 143 (4 * m + 2) ∧ D 140 (1460 + 16 * k + m).toNat = E 143 (4 * m + 3)) ∧ (∀ m : Nat, m < n → D 140 (1510 + 820 * k + m).toNat = E 144 m) ∧ ls = [.ref 139, .int (iz k), .int (iz n)]) ?_ (Nat.zero_le _) ⟨d1, d2, d3, d4, fun m hm => by omega, rfl⟩
      clear d1 d2 d3 d4 d12 d13
      rintro n ls D hn ⟨d1, d2, d3, d4, d5, rfl⟩
      have d13 : D 139 13 = iz (l.length : Int) := by rw [d1 139 (by omega)]; exact h13
      by_cases hlt : (n : Int) < 2 * (l.length : Int)
      · have x0 : D 144 (n : Int).toNat = E 144 n := by rw [d1 144 (by omega), Int.toNat_natCast]
        simp (disch := omega) only [↓w_eBin, ↓w_eUn, ↓w_eDiv, ↓w_eRem, ↓w_eFld, ↓w_rFld, ↓w_eALd, ↓w_rALd, ↓w_eALen, ↓w_rStr, ↓w_aNil, ↓w_aI, ↓w_aR, ↓w_N, ↓w_eCall, ↓w_X, ↓w_bCmp, ↓w_bAnd, ↓w_bOr, ↓w_bNot, ↓w_eB, ↓w_eIte, ↓w_sSkip, ↓w_sRet, ↓w_sRetZ, ↓w_sRetV, ↓w_sBrk, ↓w_sCont, ↓w_sIf, ↓w_sSeq, ↓w_sCaC, ↓w_sCaB, ↓w_sSw, ↓w_sCall, ↓w_sPut, ↓w_sPutOp, ↓w_sASt, ↓w_sAOp, ↓w_sADiv, ↓w_eLoc0, ↓w_rLoc0, ↓w_sSet0, ↓w_sSetR0, ↓w_sIncP0, ↓w_sIncM0, ↓w_eLoc1, ↓w_rLoc1, ↓w_sSet1, ↓w_sSetR1, ↓w_sIncP1, ↓w_sIncM1, ↓w_eLoc2, ↓w_rLoc2, ↓w_sSet2, ↓w_sSetR2, ↓w_sIncP2, ↓w_sIncM2, ↓w_eLoc3, ↓w_rLoc3, ↓w_sSet3, ↓w_sSetR3, ↓w_sIncP3, ↓w_sIncM3, ↓w_eLoc4, ↓w_rLoc4, ↓w_sSet4, ↓w_sSetR4, ↓w_sIncP4, ↓w_sIncM4, ↓w_eLoc5, ↓w_rLoc5, ↓w_sSet5, ↓w_sSetR5, ↓w_sIncP5, ↓w_sIncM5, ↓w_eLoc6, ↓w_rLoc6, ↓w_sSet6, ↓w_sSetR6, ↓w_sIncP6, ↓w_sIncM6, ↓w_eLoc7, ↓w_rLoc7, ↓w_sSet7, ↓w_sSetR7, ↓w_sIncP7, ↓w_sIncM7, ↓w_eLoc8, ↓w_rLoc8, ↓w_sSet8, ↓w_sSetR8, ↓w_sIncP8, ↓w_sIncM8, ↓w_eLoc9, ↓w_rLoc9, ↓w_sSet9, ↓w_sSetR9, ↓w_sIncP9, ↓w_sIncM9, ↓w_eLoc10, ↓w_rLoc10, ↓w_sSet10, ↓w_sSetR10, ↓w_sIncP10, ↓w_sIncM10, ↓w_eLoc11, ↓w_rLoc11, ↓w_sSet11, ↓w_sSetR11, ↓w_sIncP11, ↓w_sIncM11, ↓w_eLoc12, ↓w_rLoc12, ↓w_sSet12, ↓w_sSetR12, ↓w_sIncP12, ↓w_sIncM12, ↓w_eLoc13, ↓w_rLoc13, ↓w_sSet13, ↓w_sSetR13, ↓w_sIncP13, ↓w_sIncM13, ↓w_eIntN, ↓w_eIntM, ↓w_bZi, ↓w_add, ↓w_sub, ↓w_mul, ↓w_neg, ↓w_nar, ↓w_div, ↓w_ldne, ↓w_ldat, ↓w_ldj, List.length_cons, List.length_nil, Nat.reduceAdd, Nat.reduceSub, Nat.reduceLeDiff, List.replicate_succ, List.replicate_zero, List.cons_append, List.nil_append, List.append_nil, iz_nI, iz_ofNat, iz_add, iz_sub, iz_mul, cz_lt, cz_le, cz_gt, cz_ge, cz_eq, cz_ne, mIn_iz, iz_nat, decide_eq_true_eq, Bool.not_eq_true', decide_eq_false_iff_not, true_and, and_true, ↓reduceIte, not_true_eq_false, not_false_eq_true, w01_bI, w01_i0, w01_i1, bI_ne', bI_eq', Bool.false_eq_true, false_implies, forall_const, implies_true, true_implies, imp_self, eq_self, cz10, cz00, w01_0, w01_1, Bool.true_eq_false, Bool.not_true, Bool.not_false, decide_true, decide_false, ↓tO_139, ↓tR_139_0, ↓tR_139_1, ↓tR_139_2, ↓tI_139_3, ↓tR_139_4, ↓tR_139_5, ↓tR_139_6, ↓tR_139_7, ↓tR_139_8, ↓tR_139_9, ↓tR_139_10, ↓tI_139_11, ↓tI_139_12, ↓tI_139_13, ↓tI_139_14, ↓tI_139_15, ↓tI_139_16, ↓tI_139_17, ↓tI_139_18, ↓tI_139_19, ↓tI_139_20, ↓tI_139_21, ↓tI_139_22, ↓tI_139_23, ↓tI_139_24, ↓tI_139_25, ↓tI_139_26, ↓tR_139_27, ↓tI_139_28, ↓tI_139_29, ↓tI_139_30, ↓tI_139_31, ↓tR_139_32, ↓tI_139_33, ↓tR_139_34, ↓tR_139_35, ↓tR_139_36, ↓tR_139_37, ↓tI_139_38, ↓tA_140, ↓tN_140, ↓tA_143, ↓tN_143, ↓tA_144, ↓tN_144, Int.reduceEq, ↓wLd_of d13, hlt, ↓wLd_of x0]
        refine ⟨by omega, fun a ha => ?_, fun i hi => ?_, ?_, fun m hm => ?_, fun m hm => ?_, rfl⟩
        · rw [up_k ha]; exact d1 a ha
        · unfold InR at hi
          rw [up_j (by omega)]; exact d2 i (by unfold InR; omega)
        · rw [up_j (by omega)]; exact d3
        · have := d4 m (by omega)
          simp (disch := omega) only [up_j]
          exact this
        · by_cases e : m = n
          · subst e; rw [up_at]
          · rw [up_j (by omega)]; exact d5 m (by omega)
      · simp (disch := omega) only [↓w_eBin, ↓w_eUn, ↓w_eDiv, ↓w_eRem, ↓w_eFld, ↓w_rFld, ↓w_eALd, ↓w_rALd, ↓w_eALen, ↓w_rStr, ↓w_aNil, ↓w_aI, ↓w_aR, ↓w_N, ↓w_eCall, ↓w_X, ↓w_bCmp, ↓w_bAnd, ↓w_bOr, ↓w_bNot, ↓w_eB, ↓w_eIte, ↓w_sSkip, ↓w_sRet, ↓w_sRetZ, ↓w_sRetV, ↓w_sBrk, ↓w_sCont, ↓w_sIf, ↓w_sSeq, ↓w_sCaC, ↓w_sCaB, ↓w_sSw, ↓w_sCall, ↓w_sPut, ↓w_sPutOp, ↓w_sASt, ↓w_sAOp, ↓w_sADiv, ↓w_eLoc0, ↓w_rLoc0, ↓w_sSet0, ↓w_sSetR0, ↓w_sIncP0, ↓w_sIncM0, ↓w_eLoc1, ↓w_rLoc1, ↓w_sSet1, ↓w_sSetR1, ↓w_sIncP1, ↓w_sIncM1, ↓w_eLoc2, ↓w_rLoc2, ↓w_sSet2, ↓w_sSetR2, ↓w_sIncP2, ↓w_sIncM2, ↓w_eLoc3, ↓w_rLoc3, ↓w_sSet3, ↓w_sSetR3, ↓w_sIncP3, ↓w_sIncM3, ↓w_eLoc4, ↓w_rLoc4, ↓w_sSet4, ↓w_sSetR4, ↓w_sIncP4, ↓w_sIncM4, ↓w_eLoc5, ↓w_rLoc5, ↓w_sSet5, ↓w_sSetR5, ↓w_sIncP5, ↓w_sIncM5, ↓w_eLoc6, ↓w_rLoc6, ↓w_sSet6, ↓w_sSetR6, ↓w_sIncP6, ↓w_sIncM6, ↓w_eLoc7, ↓w_rLoc7, ↓w_sSet7, ↓w_sSetR7, ↓w_sIncP7, ↓w_sIncM7, ↓w_eLoc8, ↓w_rLoc8, ↓w_sSet8, ↓w_sSetR8, ↓w_sIncP8, ↓w_sIncM8, ↓w_eLoc9, ↓w_rLoc9, ↓w_sSet9, ↓w_sSetR9, ↓w_sIncP9, ↓w_sIncM9, ↓w_eLoc10, ↓w_rLoc10, ↓w_sSet10, ↓w_sSetR10, ↓w_sIncP10, ↓w_sIncM10, ↓w_eLoc11, ↓w_rLoc11, ↓w_sSet11, ↓w_sSetR11, ↓w_sIncP11, ↓w_sIncM11, ↓w_eLoc12, ↓w_rLoc12, ↓w_sSet12, ↓w_sSetR12, ↓w_sIncP12, ↓w_sIncM12, ↓w_eLoc13, ↓w_rLoc13, ↓w_sSet13, ↓w_sSetR13, ↓w_sIncP13, ↓w_sIncM13, ↓w_eIntN, ↓w_eIntM, ↓w_bZi, ↓w_add, ↓w_sub, ↓w_mul, ↓w_neg, ↓w_nar, ↓w_div, ↓w_ldne, ↓w_ldat, ↓w_ldj, List.length_cons, List.length_nil, Nat.reduceAdd, Nat.reduceSub, Nat.reduceLeDiff, List.replicate_succ, List.replicate_zero, List.cons_append, List.nil_append, List.append_nil, iz_nI, iz_ofNat, iz_add, iz_sub, iz_mul, cz_lt, cz_le, cz_gt, cz_ge, cz_eq, cz_ne, mIn_iz, iz_nat, decide_eq_true_eq, Bool.not_eq_true', decide_eq_false_iff_not, true_and, and_true, ↓reduceIte, not_true_eq_false, not_false_eq_true, w01_bI, w01_i0, w01_i1, bI_ne', bI_eq', Bool.false_eq_true, false_implies, forall_const, implies_true, true_implies, imp_self, eq_self, cz10, cz00, w01_0, w01_1, Bool.true_eq_false, Bool.not_true, Bool.not_false, decide_true, decide_false, ↓tO_139, ↓tR_139_0, ↓tR_139_1, ↓tR_139_2, ↓tI_139_3, ↓tR_139_4, ↓tR_139_5, ↓tR_139_6, ↓tR_139_7, ↓tR_139_8, ↓tR_139_9, ↓tR_139_10, ↓tI_139_11, ↓tI_139_12, ↓tI_139_13, ↓tI_139_14, ↓tI_139_15, ↓tI_139_16, ↓tI_139_17, ↓tI_139_18, ↓tI_139_19, ↓tI_139_20, ↓tI_139_21, ↓tI_139_22, ↓tI_139_23, ↓tI_139_24, ↓tI_139_25, ↓tI_139_26, ↓tR_139_27, ↓tI_139_28, ↓tI_139_29, ↓tI_139_30, ↓tI_139_31, ↓tR_139_32, ↓tI_139_33, ↓tR_139_34, ↓tR_139_35, ↓tR_139_36, ↓tR_139_37, ↓tI_139_38, ↓tA_140, ↓tN_140, ↓tA_143, ↓tN_143, ↓tA_144, ↓tN_144, Int.reduceEq, ↓wLd_of d13, hlt]
        have hn' : n = 2 * l.length := by omega
        subst hn'
        exact ⟨d1, d2, d3, d4, d5⟩
  obtain ⟨o, D, e, rfl, d1, d2, d3, d4, d5⟩ := wF_of key
  refine ⟨D, e, ⟨by rw [mk_0]; exact d3, fun i i0 i1 => ?_, fun j j0 j1 => ?_⟩, d1, d2⟩
  · rw [mk_0] at i1
    obtain ⟨m, rfl⟩ := Int.eq_ofNat_of_zero_le i0
    have hm : m < Ls.length := by omega
    have hx : Ls[m]? = some Ls[m] := List.getElem?_eq_getElem hm
    obtain ⟨e1, e2, e3, e4⟩ := mk_l (l := l) (g := E 144) hx
    have hd := d4 m hm
    have hl := hL.2 m _ hx
    rw [e1, e2, e3, e4, ← hl.1, ← hl.2.1, ← hl.2.2.1, ← hl.2.2.2, ← hd.1, ← hd.2.1, ← hd.2.2.1, ← hd.2.2.2, Int.add_assoc, Int.add_assoc, Int.add_assoc, Int.add_assoc]
    exact ⟨rfl, rfl, rfl, rfl⟩
  · rw [mk_1] at j1
    obtain ⟨m, rfl⟩ := Int.eq_ofNat_of_zero_le j0
    have hm : m < l.length := by omega
    have hx : l[m]? = some l[m] := List.getElem?_eq_getElem hm
    rw [mk_5 hx, mk_6, iz_self, ← (hO.2 m _ hx).1]
    have a1 := d5 (2 * m) (by omega)
    have a2 := d5 (2 * m + 1) (by omega)
    rw [← a1, ← a2]
    refine ⟨?_, ?_⟩ <;> congr 1 <;> omega
theorem stG_of (hO : OutM E l) : StG (E 144) l := fun q x hx z => (hO.2 q x hx).2 z
end
end

/-! texts: the lines of a rule -/
noncomputable section
/-- a line: its word, and where its parts stand -/
abbrev Ln : Type := Int × Nat × Nat × Nat
def bnd {α : Type} (r : Rz) (t : Nat → List (Int × Int) → Sum α (Nat × Int)) : Sum α (Nat × Int) := match r with
  | .inl (j, o) => t j o
  | .inr x => .inr x
theorem bnd_l {α : Type} (j : Nat) (o : List (Int × Int)) (t : Nat → List (Int × Int) → Sum α (Nat × Int)) : bnd (.inl (j, o)) t = t j o := rfl
theorem bnd_r {α : Type} (x : Nat × Int) (t : Nat → List (Int × Int) → Sum α (Nat × Int)) : bnd (.inr x) t = .inr x := rfl
section
variable (K V : Nat → Int)
def hdF (j : Nat) : Rz := if K j = 256 then suF K V (j + 1) else .inl (j + 1, [])
def cnF (q : Nat) : Rz := if K q = 258 then anF K (tsF K V 8) (q + 1) else .inl (q, [])
def clF (q : Nat) : Rz := if K q = 59 then .inl (q + 1, []) else .inr (q, 1)
def rdF : Nat → Nat → List Ln → List (Int × Int) → Sum (List Ln × List (Int × Int)) (Nat × Int)
  | 0, _, Ls, l => .inl (Ls, l)
  | f + 1, j, Ls, l => if K j = 0 then .inl (Ls, l) else if ¬ (K j = 256 ∨ K j = 257) then .inr (j, 1) else if Ls.length = 16 then .inr (j, 3) else bnd (hdF K V j) (fun q1 o1 => bnd (cnF K V q1) (fun q2 o2 => bnd (clF K q2) (fun q3 _ => rdF f q3 (Ls ++ [(K j - 256, l.length, l.length + o1.length, l.length + o1.length + o2.length)]) (l ++ o1 ++ o2))))
end
/-- what a line's parts hold -/
def LnOk (l : List (Int × Int)) (w : Ln) : Prop := ∃ l0 o1 o2 l1 : List (Int × Int), l = l0 ++ o1 ++ o2 ++ l1 ∧ w.2.1 = l0.length ∧ w.2.2.1 = l0.length + o1.length ∧ w.2.2.2 = l0.length + o1.length + o2.length ∧ (w.1 = 0 ∧ Gd false 3 o1 ∨ w.1 = 1 ∧ o1 = []) ∧ (o2 = [] ∨ Gd true 22 o2)
theorem lnOk_app {l p : List (Int × Int)} {w : Ln} (h : LnOk l w) : LnOk (l ++ p) w := by
  obtain ⟨l0, o1, o2, l1, h1, h2⟩ := h
  exact ⟨l0, o1, o2, l1 ++ p, by rw [h1]; simp only [List.append_assoc], h2⟩
section
variable {K V : Nat → Int}
theorem rdF_ok (hV : ∀ j, 0 ≤ V j ∧ V j ≤ 9999) (f : Nat) : ∀ j Ls l Ls' l', (∀ w, w ∈ Ls → LnOk l w) → rdF K V f j Ls l = .inl (Ls', l') → ∀ w, w ∈ Ls' → LnOk l' w := by
  induction f with
  | zero =>
    intro j Ls l Ls' l' h e
    rw [rdF] at e
    simp only [Sum.inl.injEq, Prod.mk.injEq] at e
    obtain ⟨rfl, rfl⟩ := e
    exact h
  | succ f ih =>
    intro j Ls l Ls' l' h e
    rw [rdF] at e
    split at e
    · simp only [Sum.inl.injEq, Prod.mk.injEq] at e
      obtain ⟨rfl, rfl⟩ := e
      exact h
    · split at e
      · simp at e
      · split at e
        · simp at e
        · rename_i k1 k2 k3
          rcases e1 : hdF K V j with ⟨q1, o1⟩ | x
          · rw [e1, bnd_l] at e
            rcases e2 : cnF K V q1 with ⟨q2, o2⟩ | x
            · rw [e2, bnd_l] at e
              rcases e3 : clF K q2 with ⟨q3, o3⟩ | x
              · rw [e3, bnd_l] at e
                refine ih _ _ _ _ _ (fun w hw => ?_) e
                rw [List.mem_append, List.mem_singleton] at hw
                rcases hw with hw | rfl
                · rw [List.append_assoc]; exact lnOk_app (h w hw)
                · refine ⟨l, o1, o2, [], by rw [List.append_nil], rfl, rfl, rfl, ?_, ?_⟩
                  · unfold hdF at e1
                    by_cases z : K j = 256
                    · rw [if_pos z] at e1
                      exact Or.inl ⟨by show K j - 256 = 0; omega, gd_su hV e1⟩
                    · rw [if_neg z] at e1
                      simp only [Sum.inl.injEq, Prod.mk.injEq] at e1
                      exact Or.inr ⟨by show K j - 256 = 1; omega, e1.2.symm⟩
                  · unfold cnF at e2
                    by_cases z : K q1 = 258
                    · rw [if_pos z] at e2
                      exact Or.inr (gd_cond hV e2)
                    · rw [if_neg z] at e2
                      simp only [Sum.inl.injEq, Prod.mk.injEq] at e2
                      exact Or.inl e2.2.symm
              · rw [e3, bnd_r] at e; simp at e
            · rw [e2, bnd_r] at e; simp at e
          · rw [e1, bnd_r] at e; simp at e
end
section
variable {b : Nat → Int} {L n j q : Nat} {C D E F G H : mMem} {l o : List (Int × Int)} {Ls : List Ln}
def FrXC (C D : mMem) : Prop := ∀ a, a ≠ 2 → a ≠ 6 → a ≠ 7 → a ≠ 8 → a ≠ 9 → D a = C a
def LnC (D : mMem) (Ls : List Ln) (l : List (Int × Int)) : Prop := D 6 0 = iz (Ls.length : Int) ∧ D 7 Ls.length = iz (l.length : Int) ∧ D 7 0 = iz 0 ∧ ∀ i w, Ls[i]? = some w → D 7 i = iz (w.2.1 : Int) ∧ D 7 (i + 1) = iz (w.2.2.2 : Int) ∧ D 8 i = iz (w.2.2.1 : Int)
theorem lnC_fr (h : LnC D Ls l) (h0 : E 6 0 = D 6 0) (h7 : E 7 = D 7) (h8 : ∀ i, i < Ls.length → E 8 i = D 8 i) : LnC E Ls l := by
  obtain ⟨a, c, d, e⟩ := h
  refine ⟨by rw [h0]; exact a, by rw [h7]; exact c, by rw [h7]; exact d, fun i w hi => ?_⟩
  rw [h7, h8 i (List.getElem?_eq_some_iff.mp hi).1]; exact e i w hi
theorem frXC_C (h : FrC C D) : FrXC C D := fun a a1 a2 a3 a4 a5 => h.1 a a1 a2 a5
theorem frXC_t (h : FrXC C D) (g : FrXC D E) : FrXC C E := fun a a1 a2 a3 a4 a5 => (g a a1 a2 a3 a4 a5).trans (h a a1 a2 a3 a4 a5)
def RdC (b : Nat → Int) (L : Nat) (C : mMem) (t : Bool) (D : mMem) : Sum (List Ln × List (Int × Int)) (Nat × Int) → Prop
  | .inl (Ls, l) => t = true ∧ LnC D Ls l ∧ OutC D l ∧ l.length ≤ 400 ∧ Ls.length ≤ 16 ∧ D 2 7 = C 2 7 ∧ D 2 8 = C 2 8
  | .inr (j, f) => t = false ∧ D 2 7 = iz f ∧ D 2 8 = iz (st b L j) ∧ D 7 0 = iz 0
/-- the state between two lines -/
def BtC (b : Nat → Int) (L n : Nat) (C : mMem) (E : mMem) (j : Nat) (Ls : List Ln) (l : List (Int × Int)) : Prop := PoC b L n E l true E (.inl (j, [])) ∧ LnC E Ls l ∧ FrXC C E ∧ E 2 7 = C 2 7 ∧ E 2 8 = C 2 8 ∧ Ls.length ≤ 16
theorem pr_clear : f_Ru_clear [.ref 6] C = some (none, mUp (mUp (mUp C 6 0 (iz 0)) 6 3 (iz 0)) 6 2 (iz 0)) := by
  apply wF_to
  unfold f_Ru_clear
  simp only [↓w_rcv, ↓w_bodyI, ↓w_bodyZ, ↓w_bodyV, true_and, List.length_cons, List.length_nil, Nat.reduceAdd, Nat.reduceSub, Nat.reduceLeDiff, List.replicate_succ, List.replicate_zero, List.cons_append, List.nil_append, List.append_nil, ↓tO_0, ↓tO_2, ↓tO_6, ↓tO_11, ↓tO_18, ↓tO_19, ↓tO_27, ↓tO_32, ↓tO_37, ↓tO_43, ↓tO_44, ↓tO_52, ↓tO_62, ↓tO_63, ↓tO_71, ↓tO_76, ↓tO_81, ↓tO_87, ↓tO_88, ↓tO_96, ↓tO_106, ↓tO_107, ↓tO_115, ↓tO_127, ↓tO_127c, ↓tO_133, ↓tO_133c, ↓tO_139]
  unfold S_Ru_clear
  simp (disch := omega) only [↓w_eBin, ↓w_eUn, ↓w_eDiv, ↓w_eRem, ↓w_eFld, ↓w_rFld, ↓w_eALd, ↓w_rALd, ↓w_eALen, ↓w_rStr, ↓w_aNil, ↓w_aI, ↓w_aR, ↓w_N, ↓w_eCall, ↓w_X, ↓w_bCmp, ↓w_bAnd, ↓w_bOr, ↓w_bNot, ↓w_eB, ↓w_eIte, ↓w_sSkip, ↓w_sRet, ↓w_sRetZ, ↓w_sRetV, ↓w_sBrk, ↓w_sCont, ↓w_sIf, ↓w_sSeq, ↓w_sCaC, ↓w_sCaB, ↓w_sSw, ↓w_sCall, ↓w_sPut, ↓w_sPutOp, ↓w_sASt, ↓w_sAOp, ↓w_sADiv, ↓w_eLoc0, ↓w_rLoc0, ↓w_sSet0, ↓w_sSetR0, ↓w_sIncP0, ↓w_sIncM0, ↓w_eLoc1, ↓w_rLoc1, ↓w_sSet1, ↓w_sSetR1, ↓w_sIncP1, ↓w_sIncM1, ↓w_eLoc2, ↓w_rLoc2, ↓w_sSet2, ↓w_sSetR2, ↓w_sIncP2, ↓w_sIncM2, ↓w_eLoc3, ↓w_rLoc3, ↓w_sSet3, ↓w_sSetR3, ↓w_sIncP3, ↓w_sIncM3, ↓w_eLoc4, ↓w_rLoc4, ↓w_sSet4, ↓w_sSetR4, ↓w_sIncP4, ↓w_sIncM4, ↓w_eLoc5, ↓w_rLoc5, ↓w_sSet5, ↓w_sSetR5, ↓w_sIncP5, ↓w_sIncM5, ↓w_eLoc6, ↓w_rLoc6, ↓w_sSet6, ↓w_sSetR6, ↓w_sIncP6, ↓w_sIncM6, ↓w_eLoc7, ↓w_rLoc7, ↓w_sSet7, ↓w_sSetR7, ↓w_sIncP7, ↓w_sIncM7, ↓w_eLoc8, ↓w_rLoc8, ↓w_sSet8, ↓w_sSetR8, ↓w_sIncP8, ↓w_sIncM8, ↓w_eLoc9, ↓w_rLoc9, ↓w_sSet9, ↓w_sSetR9, ↓w_sIncP9, ↓w_sIncM9, ↓w_eLoc10, ↓w_rLoc10, ↓w_sSet10, ↓w_sSetR10, ↓w_sIncP10, ↓w_sIncM10, ↓w_eLoc11, ↓w_rLoc11, ↓w_sSet11, ↓w_sSetR11, ↓w_sIncP11, ↓w_sIncM11, ↓w_eLoc12, ↓w_rLoc12, ↓w_sSet12, ↓w_sSetR12, ↓w_sIncP12, ↓w_sIncM12, ↓w_eLoc13, ↓w_rLoc13, ↓w_sSet13, ↓w_sSetR13, ↓w_sIncP13, ↓w_sIncM13, ↓w_eIntN, ↓w_eIntM, ↓w_bZi, ↓w_add, ↓w_sub, ↓w_mul, ↓w_neg, ↓w_nar, ↓w_div, ↓w_ldne, ↓w_ldat, ↓w_ldj, List.length_cons, List.length_nil, Nat.reduceAdd, Nat.reduceSub, Nat.reduceLeDiff, List.replicate_succ, List.replicate_zero, List.cons_append, List.nil_append, List.append_nil, iz_nI, iz_ofNat, iz_add, iz_sub, iz_mul, cz_lt, cz_le, cz_gt, cz_ge, cz_eq, cz_ne, mIn_iz, iz_nat, decide_eq_true_eq, Bool.not_eq_true', decide_eq_false_iff_not, true_and, and_true, ↓reduceIte, not_true_eq_false, not_false_eq_true, w01_bI, w01_i0, w01_i1, bI_ne', bI_eq', Bool.false_eq_true, false_implies, forall_const, implies_true, true_implies, imp_self, eq_self, cz10, cz00, w01_0, w01_1, Bool.true_eq_false, Bool.not_true, Bool.not_false, decide_true, decide_false, ↓tO_2, ↓tR_2_0, ↓tR_2_1, ↓tR_2_2, ↓tI_2_3, ↓tI_2_4, ↓tI_2_5, ↓tI_2_6, ↓tI_2_7, ↓tI_2_8, ↓tO_6, ↓tI_6_0, ↓tI_6_1, ↓tI_6_2, ↓tI_6_3, ↓tR_6_4, ↓tR_6_5, ↓tR_6_6, ↓tR_6_7, ↓tA_7, ↓tN_7, ↓tA_8, ↓tN_8, and_self]
/-- behind the first word: what it costs, and when -/
def S1C (b : Nat → Int) (L n : Nat) (D : mMem) (l : List (Int × Int)) (k : Int) (j : Nat) (E : mMem) (t : Bool) : Prop := (k = 256 ∧ f_Ru_readSum [.ref 6, .ref 2] D = some (some (bI t), E) ∨ k = 257 ∧ t = true ∧ E = D) ∧ PoC b L n D l t E (hdF (kj b L) (vj b L) j)
theorem rc_s1 (h : kj b L j = 256 ∨ kj b L j = 257) (P : PoC b L n D l true D (.inl (j + 1, []))) : ∃ t E, S1C b L n D l (kj b L j) j E t := by
  unfold S1C hdF
  by_cases g : kj b L j = 256
  · rw [if_pos g]
    obtain ⟨t, E, e, P1⟩ := rc_sum P
    rw [pre_nil] at P1
    exact ⟨t, E, Or.inl ⟨g, e⟩, P1⟩
  · rw [if_neg g]
    exact ⟨true, D, Or.inr ⟨by omega, rfl, rfl⟩, P⟩
def S2C (b : Nat → Int) (L n : Nat) (D : mMem) (l : List (Int × Int)) (q : Nat) (E : mMem) (t : Bool) : Prop := (kj b L q = 258 ∧ (∃ F, f_Tk_next [.ref 2] D = some (none, F) ∧ f_Ru_readCondition [.ref 6, .ref 2, .int (iz 0)] F = some (some (bI t), E)) ∨ ¬ kj b L q = 258 ∧ t = true ∧ E = D) ∧ PoC b L n D l t E (cnF (kj b L) (vj b L) q)
theorem rc_s2 (P : PoC b L n D l true D (.inl (q, []))) : ∃ t E, S2C b L n D l q E t := by
  unfold S2C cnF
  by_cases g : kj b L q = 258
  · rw [if_pos g]
    obtain ⟨F, e1, P1⟩ := rc_nextG P (by omega)
    obtain ⟨t, E, e, P2⟩ := rc_condition D l F (q + 1) [] P1
    rw [pre_nil] at P2
    exact ⟨t, E, Or.inl ⟨g, F, e1, e⟩, P2⟩
  · rw [if_neg g]
    exact ⟨true, D, Or.inr ⟨g, rfl, rfl⟩, P⟩
end
end

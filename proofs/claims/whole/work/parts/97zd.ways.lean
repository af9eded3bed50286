/-! best: the ways to give -/
noncomputable section
theorem td_nat (a b : Nat) : Int.tdiv (a : Int) (b : Int) = ((a / b : Nat) : Int) := by
  rw [Int.tdiv_eq_ediv_of_nonneg (by omega)]
  exact (Int.natCast_ediv a b).symm
theorem w_divN {a b : Nat} {P : Int32 → Prop} (h : a < 2147483648 ∧ 0 < b ∧ b < 2147483648) : wDv (iz (a : Int)) (iz (b : Int)) P ↔ P (iz ((a / b : Nat) : Int)) := by
  rw [w_div (by omega), td_nat]
theorem w_remN {a b : Nat} {P : Int32 → Prop} (h : a < 2147483648 ∧ 0 < b ∧ b < 2147483648) : wRm (iz (a : Int)) (iz (b : Int)) P ↔ P (iz ((a % b : Nat) : Int)) := by
  rw [w_rem (by omega), td_nat]
  have e : (a : Int) - ((a / b : Nat) : Int) * (b : Int) = ((a % b : Nat) : Int) := by
    have := Nat.div_add_mod a b
    rw [Nat.mul_comm] at this
    have h2 : ((a / b : Nat) : Int) * (b : Int) = ((a / b * b : Nat) : Int) := (Int.natCast_mul _ _).symm
    omega
  rw [e]
theorem or_all : ∀ m : Fin 64, ∀ p : Fin 6, (m : Nat).testBit p = false → iz ((m : Nat) : Int) ||| iz ((2 ^ (p : Nat) : Nat) : Int) = iz (((m : Nat) + 2 ^ (p : Nat) : Nat) : Int) ∧ (m : Nat) + 2 ^ (p : Nat) < 64 := by decide +kernel
theorem bit_add : ∀ m : Fin 64, ∀ p : Fin 6, ∀ q : Fin 6, (m : Nat).testBit p = false → ((m : Nat) + 2 ^ (p : Nat)).testBit q = ((m : Nat).testBit q || decide ((q : Nat) = p)) := by decide +kernel
/-- who of the last j of n people has car c by way x -/
def mk (K n x c : Nat) : Nat → Nat
  | 0 => 0
  | j + 1 => mk K n x c j + (if x / K ^ j % K = c then 2 ^ (n - 1 - j) else 0)
def dg (K n x q : Nat) : Nat := x / K ^ (n - 1 - q) % K
theorem mk_ok {K n x c : Nat} (hn : n ≤ 6) (j : Nat) (hj : j ≤ n) : mk K n x c j < 64 ∧ ∀ q, q < 6 → (mk K n x c j).testBit q = decide (n - j ≤ q ∧ q < n ∧ dg K n x q = c) := by
  induction j with
  | zero =>
    refine ⟨by rw [mk]; omega, fun q hq => ?_⟩
    rw [mk, Nat.zero_testBit, decide_eq_false (by omega)]
  | succ j ih =>
    obtain ⟨i1, i2⟩ := ih (by omega)
    have b0 : (mk K n x c j).testBit (n - 1 - j) = false := by rw [i2 _ (by omega)]; exact decide_eq_false (by omega)
    rw [mk]
    by_cases e : x / K ^ j % K = c
    · rw [if_pos e]
      refine ⟨(or_all ⟨_, i1⟩ ⟨n - 1 - j, by omega⟩ b0).2, fun q hq => ?_⟩
      have := bit_add ⟨_, i1⟩ ⟨n - 1 - j, by omega⟩ ⟨q, hq⟩ b0
      simp only at this
      rw [this, i2 q hq]
      by_cases g : q = n - 1 - j
      · have d : dg K n x q = c := by unfold dg; rw [show n - 1 - q = j by omega]; exact e
        rw [decide_eq_true g, Bool.or_true, decide_eq_true ⟨by omega, by omega, d⟩]
      · rw [decide_eq_false g, Bool.or_false]
        congr 1
        apply propext
        constructor
        · rintro ⟨a, b, d⟩; exact ⟨by omega, b, d⟩
        · rintro ⟨a, b, d⟩; exact ⟨by omega, b, d⟩
    · rw [if_neg e, Nat.add_zero]
      refine ⟨i1, fun q hq => ?_⟩
      rw [i2 q hq]
      congr 1
      apply propext
      constructor
      · rintro ⟨a, b, d⟩; exact ⟨by omega, b, d⟩
      · rintro ⟨a, b, d⟩
        refine ⟨?_, b, d⟩
        by_cases g : q = n - 1 - j
        · exfalso
          apply e
          rw [← d]
          unfold dg
          rw [show n - 1 - q = j by omega]
        · omega
theorem mk_lt {K n x c : Nat} (hn : n ≤ 6) : mk K n x c n < 2 ^ n := by
  obtain ⟨h1, h2⟩ := mk_ok (K := K) (x := x) (c := c) hn n (Nat.le_refl _)
  apply Nat.lt_pow_two_of_testBit
  intro i hi
  by_cases g : i < 6
  · rw [h2 i g]; exact decide_eq_false (by omega)
  · exact Nat.testBit_lt_two_pow (Nat.lt_of_lt_of_le h1 (by
      have := Nat.pow_le_pow_right (n := 2) (by omega) (by omega : 6 ≤ i)
      exact this))
theorem mk_gB {K n x c q : Nat} (hn : n ≤ 6) (hq : q < n) : gBt (mk K n x c n) q = decide (((dg K n x q : Nat) : Int) = (c : Int)) := by
  rw [gBt_n, (mk_ok hn n (Nat.le_refl _)).2 q (by omega)]
  congr 1
  apply propext
  constructor
  · rintro ⟨a, b, d⟩; omega
  · intro d; exact ⟨by omega, hq, by omega⟩
/-- parts added; one that is none makes all none -/
def oS (f : Nat → Int) : Nat → Int
  | 0 => 0
  | k + 1 => if oS f k = -1 ∨ f k = -1 then -1 else oS f k + f k
theorem oS_ok {f : Nat → Int} {K : Nat} (h : ∀ k, k < K → f k = -1 ∨ (0 ≤ f k ∧ f k ≤ 400000)) : (oS f K = -1 ∧ ∃ k, k < K ∧ f k = -1) ∨ (oS f K = sumC f K ∧ (∀ k, k < K → f k ≠ -1) ∧ 0 ≤ oS f K ∧ oS f K ≤ 400000 * K) := by
  induction K with
  | zero => exact Or.inr ⟨rfl, fun k hk => by omega, by rw [oS]; omega, by rw [oS]; omega⟩
  | succ K ih =>
    have hK := h K (by omega)
    rw [oS]
    rcases ih (fun k hk => h k (by omega)) with ⟨i1, k, k1, k2⟩ | ⟨i1, i2, i3, i4⟩
    · rw [if_pos (Or.inl i1)]
      exact Or.inl ⟨rfl, k, by omega, k2⟩
    · by_cases e : f K = -1
      · rw [if_pos (Or.inr e)]
        exact Or.inl ⟨rfl, K, by omega, e⟩
      · rw [if_neg (by omega)]
        refine Or.inr ⟨by rw [sumC, i1], fun k hk => ?_, by omega, by omega⟩
        by_cases g : k = K
        · subst g; exact e
        · exact i2 k (by omega)
def wV (A : aS) (K n x : Nat) : Int := oS (fun c => gVal A c (mk K n x c n) n) K
def sc (V : Nat → Int) : Nat → Int × Int
  | 0 => (-1, 0)
  | w + 1 => if V w ≠ -1 ∧ ((sc V w).1 = -1 ∨ V w < (sc V w).2) then ((w : Int), V w) else sc V w
theorem sc_ok (V : Nat → Int) (w : Nat) : (sc V w).1 = -1 ∨ (∃ x : Nat, x < w ∧ (sc V w).1 = x ∧ (sc V w).2 = V x ∧ V x ≠ -1) := by
  induction w with
  | zero => exact Or.inl rfl
  | succ w ih =>
    rw [sc]
    split
    · rename_i z
      exact Or.inr ⟨w, by omega, rfl, rfl, z.1⟩
    · rcases ih with h | ⟨x, h1, h2⟩
      · exact Or.inl h
      · exact Or.inr ⟨x, by omega, h2⟩
section
variable {A : aS} {C : mMem} {Rs : Int → aS} {n K x : Nat}
theorem pow_rg {K n : Nat} (h : 1 ≤ K ∧ K ≤ 3 ∧ n ≤ 6) : 1 ≤ K ^ n ∧ K ^ n ≤ 729 := by
  have h1 : K ^ n ≤ 3 ^ n := Nat.pow_le_pow_left h.2.1 n
  have h2 : 3 ^ n ≤ 3 ^ 6 := Nat.pow_le_pow_right (by omega) h.2.2
  have h3 : 0 < K ^ n := Nat.pow_pos (by omega)
  omega
def FrX (C D : mMem) : Prop := ∀ a, a ≠ 126 → D a = C a
theorem rc_overW (hT : ∀ k m : Nat, k < K → m < 2 ^ n → C 125 (k * 64 + m) = iz (gVal A k m n)) (hK : 1 ≤ K ∧ K ≤ 3) (hn : 1 ≤ n ∧ n ≤ 6) (hx : x < 1000) (hg : ∀ (c : Int) m, gVal A c m n = -1 ∨ (0 ≤ gVal A c m n ∧ gVal A c m n ≤ 400000)) :
    ∃ D, f_F_overOfWay [.ref 0, .int (iz x), .int (iz n), .int (iz K)] C = some (some (iz (wV A K n x)), D) ∧ FrX C D := by
  have key : wF f_F_overOfWay [.ref 0, .int (iz x), .int (iz n), .int (iz K)] C (fun o D => o = some (iz (wV A K n x)) ∧ FrX C D) := by
    unfold f_F_overOfWay
    simp only [↓w_rcv, ↓w_bodyI, ↓w_bodyZ, ↓w_bodyV, true_and, List.length_cons, List.length_nil, Nat.reduceAdd, Nat.reduceSub, Nat.reduceLeDiff, List.replicate_succ, List.replicate_zero, List.cons_append, List.nil_append, List.append_nil, ↓tO_0, ↓tO_2, ↓tO_6, ↓tO_11, ↓tO_18, ↓tO_19, ↓tO_27, ↓tO_32, ↓tO_37, ↓tO_43, ↓tO_44, ↓tO_52, ↓tO_62, ↓tO_63, ↓tO_71, ↓tO_76, ↓tO_81, ↓tO_87, ↓tO_88, ↓tO_96, ↓tO_106, ↓tO_107, ↓tO_115, ↓tO_127, ↓tO_127c, ↓tO_133, ↓tO_133c, ↓tO_139]
    unfold S_F_overOfWay
    simp (disch := omega) only [↓w_eBin, ↓w_eUn, ↓w_eDiv, ↓w_eRem, ↓w_eFld, ↓w_rFld, ↓w_eALd, ↓w_rALd, ↓w_eALen, ↓w_rStr, ↓w_aNil, ↓w_aI, ↓w_aR, ↓w_N, ↓w_eCall, ↓w_X, ↓w_bCmp, ↓w_bAnd, ↓w_bOr, ↓w_bNot, ↓w_eB, ↓w_eIte, ↓w_sSkip, ↓w_sRet, ↓w_sRetZ, ↓w_sRetV, ↓w_sBrk, ↓w_sCont, ↓w_sIf, ↓w_sSeq, ↓w_sCaC, ↓w_sCaB, ↓w_sSw, ↓w_sCall, ↓w_sPut, ↓w_sPutOp, ↓w_sASt, ↓w_sAOp, ↓w_sADiv, ↓w_eLoc0, ↓w_rLoc0, ↓w_sSet0, ↓w_sSetR0, ↓w_sIncP0, ↓w_sIncM0, ↓w_eLoc1, ↓w_rLoc1, ↓w_sSet1, ↓w_sSetR1, ↓w_sIncP1, ↓w_sIncM1, ↓w_eLoc2, ↓w_rLoc2, ↓w_sSet2, ↓w_sSetR2, ↓w_sIncP2, ↓w_sIncM2, ↓w_eLoc3, ↓w_rLoc3, ↓w_sSet3, ↓w_sSetR3, ↓w_sIncP3, ↓w_sIncM3, ↓w_eLoc4, ↓w_rLoc4, ↓w_sSet4, ↓w_sSetR4, ↓w_sIncP4, ↓w_sIncM4, ↓w_eLoc5, ↓w_rLoc5, ↓w_sSet5, ↓w_sSetR5, ↓w_sIncP5, ↓w_sIncM5, ↓w_eLoc6, ↓w_rLoc6, ↓w_sSet6, ↓w_sSetR6, ↓w_sIncP6, ↓w_sIncM6, ↓w_eLoc7, ↓w_rLoc7, ↓w_sSet7, ↓w_sSetR7, ↓w_sIncP7, ↓w_sIncM7, ↓w_eLoc8, ↓w_rLoc8, ↓w_sSet8, ↓w_sSetR8, ↓w_sIncP8, ↓w_sIncM8, ↓w_eLoc9, ↓w_rLoc9, ↓w_sSet9, ↓w_sSetR9, ↓w_sIncP9, ↓w_sIncM9, ↓w_eLoc10, ↓w_rLoc10, ↓w_sSet10, ↓w_sSetR10, ↓w_sIncP10, ↓w_sIncM10, ↓w_eLoc11, ↓w_rLoc11, ↓w_sSet11, ↓w_sSetR11, ↓w_sIncP11, ↓w_sIncM11, ↓w_eLoc12, ↓w_rLoc12, ↓w_sSet12, ↓w_sSetR12, ↓w_sIncP12, ↓w_sIncM12, ↓w_eLoc13, ↓w_rLoc13, ↓w_sSet13, ↓w_sSetR13, ↓w_sIncP13, ↓w_sIncM13, ↓w_eIntN, ↓w_eIntM, ↓w_bZi, ↓w_add, ↓w_sub, ↓w_mul, ↓w_neg, ↓w_nar, ↓w_div, ↓w_ldne, ↓w_ldat, ↓w_ldj, List.length_cons, List.length_nil, Nat.reduceAdd, Nat.reduceSub, Nat.reduceLeDiff, List.replicate_succ, List.replicate_zero, List.cons_append, List.nil_append, List.append_nil, iz_nI, iz_ofNat, iz_add, iz_sub, iz_mul, cz_lt, cz_le, cz_gt, cz_ge, cz_eq, cz_ne, mIn_iz, iz_nat, decide_eq_true_eq, Bool.not_eq_true', decide_eq_false_iff_not, true_and, and_true, ↓reduceIte, not_true_eq_false, not_false_eq_true, w01_bI, w01_i0, w01_i1, bI_ne', bI_eq', bI_t, bI_f, Bool.false_eq_true, false_implies, forall_const, implies_true, true_implies, imp_self, eq_self, cz10, cz00, Bool.true_eq_false, Bool.not_true, Bool.not_false, decide_true, decide_false, ↓tO_0, ↓tR_0_0, ↓tI_0_1, ↓tR_0_2, ↓tR_0_3, ↓tR_0_4, ↓tR_0_5, ↓tR_0_6, ↓tI_0_7, ↓tR_0_8, ↓tR_0_9, ↓tR_0_10, ↓tR_0_11, ↓tR_0_12, ↓tO_6, ↓tI_6_0, ↓tI_6_1, ↓tI_6_2, ↓tI_6_3, ↓tR_6_4, ↓tR_6_5, ↓tR_6_6, ↓tR_6_7, ↓tO_18, ↓tR_18_0, ↓tR_18_1, ↓tR_18_2, ↓tR_18_3, ↓tI_18_4, ↓tO_19, ↓tI_19_0, ↓tI_19_1, ↓tI_19_2, ↓tR_19_3, ↓tR_19_4, ↓tR_19_5, ↓tR_19_6, ↓tR_19_7, ↓tR_19_8, ↓tA_42, ↓tN_42, ↓tO_43, ↓tR_43_0, ↓tR_43_1, ↓tR_43_2, ↓tR_43_3, ↓tI_43_4, ↓tI_43_5, ↓tI_43_6, ↓tI_43_7, ↓tI_43_8, ↓tO_44, ↓tI_44_0, ↓tI_44_1, ↓tI_44_2, ↓tI_44_3, ↓tR_44_4, ↓tR_44_5, ↓tR_44_6, ↓tR_44_7, ↓tR_44_8, ↓tR_44_9, ↓tR_44_10, ↓tO_52, ↓tR_52_0, ↓tR_52_1, ↓tR_52_2, ↓tR_52_3, ↓tR_52_4, ↓tR_52_5, ↓tR_52_6, ↓tR_52_7, ↓tA_60, ↓tN_60, ↓tO_106, ↓tR_106_0, ↓tR_106_1, ↓tR_106_2, ↓tR_106_3, ↓tI_106_4, ↓tI_106_5, ↓tI_106_6, ↓tI_106_7, ↓tI_106_8, ↓tO_107, ↓tI_107_0, ↓tI_107_1, ↓tI_107_2, ↓tI_107_3, ↓tR_107_4, ↓tR_107_5, ↓tR_107_6, ↓tR_107_7, ↓tR_107_8, ↓tR_107_9, ↓tR_107_10, ↓tA_125, ↓tN_125, ↓tA_126, ↓tN_126]
    refine wS_up K (fun j l D => FrX C D ∧ (∀ c : Nat, c < j → D 126 c = iz 0) ∧ ∃ v5 v6 v7 : Value, l = [.ref 0, .int (iz x), .int (iz n), .int (iz K), .int (iz j), v5, v6, v7]) ?_ (Nat.zero_le _) ⟨fun _ _ => rfl, fun c hc => by omega, _, _, _, rfl⟩
    rintro j l D hj ⟨d1, d2, v5, v6, v7, rfl⟩
    by_cases hlt : (j : Int) < K
    · simp (disch := omega) only [↓w_eBin, ↓w_eUn, ↓w_eDiv, ↓w_eRem, ↓w_eFld, ↓w_rFld, ↓w_eALd, ↓w_rALd, ↓w_eALen, ↓w_rStr, ↓w_aNil, ↓w_aI, ↓w_aR, ↓w_N, ↓w_eCall, ↓w_X, ↓w_bCmp, ↓w_bAnd, ↓w_bOr, ↓w_bNot, ↓w_eB, ↓w_eIte, ↓w_sSkip, ↓w_sRet, ↓w_sRetZ, ↓w_sRetV, ↓w_sBrk, ↓w_sCont, ↓w_sIf, ↓w_sSeq, ↓w_sCaC, ↓w_sCaB, ↓w_sSw, ↓w_sCall, ↓w_sPut, ↓w_sPutOp, ↓w_sASt, ↓w_sAOp, ↓w_sADiv, ↓w_eLoc0, ↓w_rLoc0, ↓w_sSet0, ↓w_sSetR0, ↓w_sIncP0, ↓w_sIncM0, ↓w_eLoc1, ↓w_rLoc1, ↓w_sSet1, ↓w_sSetR1, ↓w_sIncP1, ↓w_sIncM1, ↓w_eLoc2, ↓w_rLoc2, ↓w_sSet2, ↓w_sSetR2, ↓w_sIncP2, ↓w_sIncM2, ↓w_eLoc3, ↓w_rLoc3, ↓w_sSet3, ↓w_sSetR3, ↓w_sIncP3, ↓w_sIncM3, ↓w_eLoc4, ↓w_rLoc4, ↓w_sSet4, ↓w_sSetR4, ↓w_sIncP4, ↓w_sIncM4, ↓w_eLoc5, ↓w_rLoc5, ↓w_sSet5, ↓w_sSetR5, ↓w_sIncP5, ↓w_sIncM5, ↓w_eLoc6, ↓w_rLoc6, ↓w_sSet6, ↓w_sSetR6, ↓w_sIncP6, ↓w_sIncM6, ↓w_eLoc7, ↓w_rLoc7, ↓w_sSet7, ↓w_sSetR7, ↓w_sIncP7, ↓w_sIncM7, ↓w_eLoc8, ↓w_rLoc8, ↓w_sSet8, ↓w_sSetR8, ↓w_sIncP8, ↓w_sIncM8, ↓w_eLoc9, ↓w_rLoc9, ↓w_sSet9, ↓w_sSetR9, ↓w_sIncP9, ↓w_sIncM9, ↓w_eLoc10, ↓w_rLoc10, ↓w_sSet10, ↓w_sSetR10, ↓w_sIncP10, ↓w_sIncM10, ↓w_eLoc11, ↓w_rLoc11, ↓w_sSet11, ↓w_sSetR11, ↓w_sIncP11, ↓w_sIncM11, ↓w_eLoc12, ↓w_rLoc12, ↓w_sSet12, ↓w_sSetR12, ↓w_sIncP12, ↓w_sIncM12, ↓w_eLoc13, ↓w_rLoc13, ↓w_sSet13, ↓w_sSetR13, ↓w_sIncP13, ↓w_sIncM13, ↓w_eIntN, ↓w_eIntM, ↓w_bZi, ↓w_add, ↓w_sub, ↓w_mul, ↓w_neg, ↓w_nar, ↓w_div, ↓w_ldne, ↓w_ldat, ↓w_ldj, List.length_cons, List.length_nil, Nat.reduceAdd, Nat.reduceSub, Nat.reduceLeDiff, List.replicate_succ, List.replicate_zero, List.cons_append, List.nil_append, List.append_nil, iz_nI, iz_ofNat, iz_add, iz_sub, iz_mul, cz_lt, cz_le, cz_gt, cz_ge, cz_eq, cz_ne, mIn_iz, iz_nat, decide_eq_true_eq, Bool.not_eq_true', decide_eq_false_iff_not, true_and, and_true, ↓reduceIte, not_true_eq_false, not_false_eq_true, w01_bI, w01_i0, w01_i1, bI_ne', bI_eq', bI_t, bI_f, Bool.false_eq_true, false_implies, forall_const, implies_true, true_implies, imp_self, eq_self, cz10, cz00, Bool.true_eq_false, Bool.not_true, Bool.not_false, decide_true, decide_false, ↓tO_0, ↓tR_0_0, ↓tI_0_1, ↓tR_0_2, ↓tR_0_3, ↓tR_0_4, ↓tR_0_5, ↓tR_0_6, ↓tI_0_7, ↓tR_0_8, ↓tR_0_9, ↓tR_0_10, ↓tR_0_11, ↓tR_0_12, ↓tO_6, ↓tI_6_0, ↓tI_6_1, ↓tI_6_2, ↓tI_6_3, ↓tR_6_4, ↓tR_6_5, ↓tR_6_6, ↓tR_6_7, ↓tO_18, ↓tR_18_0, ↓tR_18_1, ↓tR_18_2, ↓tR_18_3, ↓tI_18_4, ↓tO_19, ↓tI_19_0, ↓tI_19_1, ↓tI_19_2, ↓tR_19_3, ↓tR_19_4, ↓tR_19_5, ↓tR_19_6, ↓tR_19_7, ↓tR_19_8, ↓tA_42, ↓tN_42, ↓tO_43, ↓tR_43_0, ↓tR_43_1, ↓tR_43_2, ↓tR_43_3, ↓tI_43_4, ↓tI_43_5, ↓tI_43_6, ↓tI_43_7, ↓tI_43_8, ↓tO_44, ↓tI_44_0, ↓tI_44_1, ↓tI_44_2, ↓tI_44_3, ↓tR_44_4, ↓tR_44_5, ↓tR_44_6, ↓tR_44_7, ↓tR_44_8, ↓tR_44_9, ↓tR_44_10, ↓tO_52, ↓tR_52_0, ↓tR_52_1, ↓tR_52_2, ↓tR_52_3, ↓tR_52_4, ↓tR_52_5, ↓tR_52_6, ↓tR_52_7, ↓tA_60, ↓tN_60, ↓tO_106, ↓tR_106_0, ↓tR_106_1, ↓tR_106_2, ↓tR_106_3, ↓tI_106_4, ↓tI_106_5, ↓tI_106_6, ↓tI_106_7, ↓tI_106_8, ↓tO_107, ↓tI_107_0, ↓tI_107_1, ↓tI_107_2, ↓tI_107_3, ↓tR_107_4, ↓tR_107_5, ↓tR_107_6, ↓tR_107_7, ↓tR_107_8, ↓tR_107_9, ↓tR_107_10, ↓tA_125, ↓tN_125, ↓tA_126, ↓tN_126, hlt]
      refine ⟨by omega, fun a ha => by rw [up_k ha]; exact d1 a ha, fun c hc => ?_, _, _, _, by rw [show ((j + 1 : Nat) : Int) = (j : Int) + 1 by omega]⟩
      by_cases e : c = j
      · subst e; rw [Int.toNat_natCast, up_at]
      · rw [up_j (by omega)]; exact d2 c (by omega)
    · have : j = K := by omega
      subst this
      simp (disch := omega) only [↓w_eBin, ↓w_eUn, ↓w_eDiv, ↓w_eRem, ↓w_eFld, ↓w_rFld, ↓w_eALd, ↓w_rALd, ↓w_eALen, ↓w_rStr, ↓w_aNil, ↓w_aI, ↓w_aR, ↓w_N, ↓w_eCall, ↓w_X, ↓w_bCmp, ↓w_bAnd, ↓w_bOr, ↓w_bNot, ↓w_eB, ↓w_eIte, ↓w_sSkip, ↓w_sRet, ↓w_sRetZ, ↓w_sRetV, ↓w_sBrk, ↓w_sCont, ↓w_sIf, ↓w_sSeq, ↓w_sCaC, ↓w_sCaB, ↓w_sSw, ↓w_sCall, ↓w_sPut, ↓w_sPutOp, ↓w_sASt, ↓w_sAOp, ↓w_sADiv, ↓w_eLoc0, ↓w_rLoc0, ↓w_sSet0, ↓w_sSetR0, ↓w_sIncP0, ↓w_sIncM0, ↓w_eLoc1, ↓w_rLoc1, ↓w_sSet1, ↓w_sSetR1, ↓w_sIncP1, ↓w_sIncM1, ↓w_eLoc2, ↓w_rLoc2, ↓w_sSet2, ↓w_sSetR2, ↓w_sIncP2, ↓w_sIncM2, ↓w_eLoc3, ↓w_rLoc3, ↓w_sSet3, ↓w_sSetR3, ↓w_sIncP3, ↓w_sIncM3, ↓w_eLoc4, ↓w_rLoc4, ↓w_sSet4, ↓w_sSetR4, ↓w_sIncP4, ↓w_sIncM4, ↓w_eLoc5, ↓w_rLoc5, ↓w_sSet5, ↓w_sSetR5, ↓w_sIncP5, ↓w_sIncM5, ↓w_eLoc6, ↓w_rLoc6, ↓w_sSet6, ↓w_sSetR6, ↓w_sIncP6, ↓w_sIncM6, ↓w_eLoc7, ↓w_rLoc7, ↓w_sSet7, ↓w_sSetR7, ↓w_sIncP7, ↓w_sIncM7, ↓w_eLoc8, ↓w_rLoc8, ↓w_sSet8, ↓w_sSetR8, ↓w_sIncP8, ↓w_sIncM8, ↓w_eLoc9, ↓w_rLoc9, ↓w_sSet9, ↓w_sSetR9, ↓w_sIncP9, ↓w_sIncM9, ↓w_eLoc10, ↓w_rLoc10, ↓w_sSet10, ↓w_sSetR10, ↓w_sIncP10, ↓w_sIncM10, ↓w_eLoc11, ↓w_rLoc11, ↓w_sSet11, ↓w_sSetR11, ↓w_sIncP11, ↓w_sIncM11, ↓w_eLoc12, ↓w_rLoc12, ↓w_sSet12, ↓w_sSetR12, ↓w_sIncP12, ↓w_sIncM12, ↓w_eLoc13, ↓w_rLoc13, ↓w_sSet13, ↓w_sSetR13, ↓w_sIncP13, ↓w_sIncM13, ↓w_eIntN, ↓w_eIntM, ↓w_bZi, ↓w_add, ↓w_sub, ↓w_mul, ↓w_neg, ↓w_nar, ↓w_div, ↓w_ldne, ↓w_ldat, ↓w_ldj, List.length_cons, List.length_nil, Nat.reduceAdd, Nat.reduceSub, Nat.reduceLeDiff, List.replicate_succ, List.replicate_zero, List.cons_append, List.nil_append, List.append_nil, iz_nI, iz_ofNat, iz_add, iz_sub, iz_mul, cz_lt, cz_le, cz_gt, cz_ge, cz_eq, cz_ne, mIn_iz, iz_nat, decide_eq_true_eq, Bool.not_eq_true', decide_eq_false_iff_not, true_and, and_true, ↓reduceIte, not_true_eq_false, not_false_eq_true, w01_bI, w01_i0, w01_i1, bI_ne', bI_eq', bI_t, bI_f, Bool.false_eq_true, false_implies, forall_const, implies_true, true_implies, imp_self, eq_self, cz10, cz00, Bool.true_eq_false, Bool.not_true, Bool.not_false, decide_true, decide_false, ↓tO_0, ↓tR_0_0, ↓tI_0_1, ↓tR_0_2, ↓tR_0_3, ↓tR_0_4, ↓tR_0_5, ↓tR_0_6, ↓tI_0_7, ↓tR_0_8, ↓tR_0_9, ↓tR_0_10, ↓tR_0_11, ↓tR_0_12, ↓tO_6, ↓tI_6_0, ↓tI_6_1, ↓tI_6_2, ↓tI_6_3, ↓tR_6_4, ↓tR_6_5, ↓tR_6_6, ↓tR_6_7, ↓tO_18, ↓tR_18_0, ↓tR_18_1, ↓tR_18_2, ↓tR_18_3, ↓tI_18_4, ↓tO_19, ↓tI_19_0, ↓tI_19_1, ↓tI_19_2, ↓tR_19_3, ↓tR_19_4, ↓tR_19_5, ↓tR_19_6, ↓tR_19_7, ↓tR_19_8, ↓tA_42, ↓tN_42, ↓tO_43, ↓tR_43_0, ↓tR_43_1, ↓tR_43_2, ↓tR_43_3, ↓tI_43_4, ↓tI_43_5, ↓tI_43_6, ↓tI_43_7, ↓tI_43_8, ↓tO_44, ↓tI_44_0, ↓tI_44_1, ↓tI_44_2, ↓tI_44_3, ↓tR_44_4, ↓tR_44_5, ↓tR_44_6, ↓tR_44_7, ↓tR_44_8, ↓tR_44_9, ↓tR_44_10, ↓tO_52, ↓tR_52_0, ↓tR_52_1, ↓tR_52_2, ↓tR_52_3, ↓tR_52_4, ↓tR_52_5, ↓tR_52_6, ↓tR_52_7, ↓tA_60, ↓tN_60, ↓tO_106, ↓tR_106_0, ↓tR_106_1, ↓tR_106_2, ↓tR_106_3, ↓tI_106_4, ↓tI_106_5, ↓tI_106_6, ↓tI_106_7, ↓tI_106_8, ↓tO_107, ↓tI_107_0, ↓tI_107_1, ↓tI_107_2, ↓tI_107_3, ↓tR_107_4, ↓tR_107_5, ↓tR_107_6, ↓tR_107_7, ↓tR_107_8, ↓tR_107_9, ↓tR_107_10, ↓tA_125, ↓tN_125, ↓tA_126, ↓tN_126, hlt]
      refine wS_up n (fun i l E => FrX C E ∧ (∀ c : Nat, c < j → E 126 c = iz (mk j n x c i)) ∧ ∃ v6 v7 : Value, l = [.ref 0, .int (iz x), .int (iz n), .int (iz j), .int (iz ((x / j ^ i : Nat) : Int)), .int (iz ((n : Int) - 1 - i)), v6, v7]) ?_ (Nat.zero_le _) ⟨d1, d2, v6, v7, by rw [Nat.pow_zero, Nat.div_one]; simp only [Int.natCast_zero, Int.sub_zero]⟩
      rintro i l E hi ⟨f1, f2, v6, v7, rfl⟩
      have hxi : x / j ^ i ≤ x := Nat.div_le_self _ _
      by_cases hli : 0 ≤ (n : Int) - 1 - i
      · obtain ⟨p, hp⟩ : ∃ p : Nat, (n : Int) - 1 - i = p := ⟨n - 1 - i, by omega⟩
        have hp' : p = n - 1 - i := by omega
        rw [hp] at hli ⊢
        have hr : x / j ^ i % j < j := Nat.mod_lt _ (by omega)
        generalize hd : x / j ^ i % j = d at *
        obtain ⟨m1, m2⟩ := mk_ok (K := j) (x := x) (c := d) hn.2 i hi
        have b0 : (mk j n x d i).testBit p = false := by rw [m2 _ (by omega)]; exact decide_eq_false (by omega)
        have e1 : E 126 (d : Int).toNat = iz ((mk j n x d i : Nat) : Int) := by rw [Int.toNat_natCast]; exact f2 d hr
        have o := (or_all ⟨_, m1⟩ ⟨p, by omega⟩ b0).1
        simp only at o
        have wo : ∀ P : Int32 → Prop, wO2 (fun x y => x ||| y) (iz ((mk j n x d i : Nat) : Int)) (iz ((2 ^ p : Nat) : Int)) P ↔ P (iz ((mk j n x d i + 2 ^ p : Nat) : Int)) := fun P => by
          show P (iz ((mk j n x d i : Nat) : Int) ||| iz ((2 ^ p : Nat) : Int)) ↔ _
          rw [o]
        have rm : ∀ P : Int32 → Prop, wRm (iz ((x / j ^ i : Nat) : Int)) (iz (j : Int)) P ↔ P (iz (d : Int)) := fun P => by rw [w_remN (by omega), hd]
        have dv : ∀ P : Int32 → Prop, wDv (iz ((x / j ^ i : Nat) : Int)) (iz (j : Int)) P ↔ P (iz ((x / j ^ (i + 1) : Nat) : Int)) := fun P => by rw [w_divN (by omega), Nat.div_div_eq_div_mul, Nat.pow_succ]
        clear m2 o hlt hx hxi
        simp (disch := omega) only [↓w_eBin, ↓w_eUn, ↓w_eDiv, ↓w_eRem, ↓w_eFld, ↓w_rFld, ↓w_eALd, ↓w_rALd, ↓w_eALen, ↓w_rStr, ↓w_aNil, ↓w_aI, ↓w_aR, ↓w_N, ↓w_eCall, ↓w_X, ↓w_bCmp, ↓w_bAnd, ↓w_bOr, ↓w_bNot, ↓w_eB, ↓w_eIte, ↓w_sSkip, ↓w_sRet, ↓w_sRetZ, ↓w_sRetV, ↓w_sBrk, ↓w_sCont, ↓w_sIf, ↓w_sSeq, ↓w_sCaC, ↓w_sCaB, ↓w_sSw, ↓w_sCall, ↓w_sPut, ↓w_sPutOp, ↓w_sASt, ↓w_sAOp, ↓w_sADiv, ↓w_eLoc0, ↓w_rLoc0, ↓w_sSet0, ↓w_sSetR0, ↓w_sIncP0, ↓w_sIncM0, ↓w_eLoc1, ↓w_rLoc1, ↓w_sSet1, ↓w_sSetR1, ↓w_sIncP1, ↓w_sIncM1, ↓w_eLoc2, ↓w_rLoc2, ↓w_sSet2, ↓w_sSetR2, ↓w_sIncP2, ↓w_sIncM2, ↓w_eLoc3, ↓w_rLoc3, ↓w_sSet3, ↓w_sSetR3, ↓w_sIncP3, ↓w_sIncM3, ↓w_eLoc4, ↓w_rLoc4, ↓w_sSet4, ↓w_sSetR4, ↓w_sIncP4, ↓w_sIncM4, ↓w_eLoc5, ↓w_rLoc5, ↓w_sSet5, ↓w_sSetR5, ↓w_sIncP5, ↓w_sIncM5, ↓w_eLoc6, ↓w_rLoc6, ↓w_sSet6, ↓w_sSetR6, ↓w_sIncP6, ↓w_sIncM6, ↓w_eLoc7, ↓w_rLoc7, ↓w_sSet7, ↓w_sSetR7, ↓w_sIncP7, ↓w_sIncM7, ↓w_eLoc8, ↓w_rLoc8, ↓w_sSet8, ↓w_sSetR8, ↓w_sIncP8, ↓w_sIncM8, ↓w_eLoc9, ↓w_rLoc9, ↓w_sSet9, ↓w_sSetR9, ↓w_sIncP9, ↓w_sIncM9, ↓w_eLoc10, ↓w_rLoc10, ↓w_sSet10, ↓w_sSetR10, ↓w_sIncP10, ↓w_sIncM10, ↓w_eLoc11, ↓w_rLoc11, ↓w_sSet11, ↓w_sSetR11, ↓w_sIncP11, ↓w_sIncM11, ↓w_eLoc12, ↓w_rLoc12, ↓w_sSet12, ↓w_sSetR12, ↓w_sIncP12, ↓w_sIncM12, ↓w_eLoc13, ↓w_rLoc13, ↓w_sSet13, ↓w_sSetR13, ↓w_sIncP13, ↓w_sIncM13, ↓w_eIntN, ↓w_eIntM, ↓w_bZi, ↓w_add, ↓w_sub, ↓w_mul, ↓w_neg, ↓w_nar, ↓w_div, ↓w_ldne, ↓w_ldat, ↓w_ldj, List.length_cons, List.length_nil, Nat.reduceAdd, Nat.reduceSub, Nat.reduceLeDiff, List.replicate_succ, List.replicate_zero, List.cons_append, List.nil_append, List.append_nil, iz_nI, iz_ofNat, iz_add, iz_sub, iz_mul, cz_lt, cz_le, cz_gt, cz_ge, cz_eq, cz_ne, mIn_iz, iz_nat, decide_eq_true_eq, Bool.not_eq_true', decide_eq_false_iff_not, true_and, and_true, ↓reduceIte, not_true_eq_false, not_false_eq_true, w01_bI, w01_i0, w01_i1, bI_ne', bI_eq', bI_t, bI_f, Bool.false_eq_true, false_implies, forall_const, implies_true, true_implies, imp_self, eq_self, cz10, cz00, Bool.true_eq_false, Bool.not_true, Bool.not_false, decide_true, decide_false, ↓tO_0, ↓tR_0_0, ↓tI_0_1, ↓tR_0_2, ↓tR_0_3, ↓tR_0_4, ↓tR_0_5, ↓tR_0_6, ↓tI_0_7, ↓tR_0_8, ↓tR_0_9, ↓tR_0_10, ↓tR_0_11, ↓tR_0_12, ↓tO_6, ↓tI_6_0, ↓tI_6_1, ↓tI_6_2, ↓tI_6_3, ↓tR_6_4, ↓tR_6_5, ↓tR_6_6, ↓tR_6_7, ↓tO_18, ↓tR_18_0, ↓tR_18_1, ↓tR_18_2, ↓tR_18_3, ↓tI_18_4, ↓tO_19, ↓tI_19_0, ↓tI_19_1, ↓tI_19_2, ↓tR_19_3, ↓tR_19_4, ↓tR_19_5, ↓tR_19_6, ↓tR_19_7, ↓tR_19_8, ↓tA_42, ↓tN_42, ↓tO_43, ↓tR_43_0, ↓tR_43_1, ↓tR_43_2, ↓tR_43_3, ↓tI_43_4, ↓tI_43_5, ↓tI_43_6, ↓tI_43_7, ↓tI_43_8, ↓tO_44, ↓tI_44_0, ↓tI_44_1, ↓tI_44_2, ↓tI_44_3, ↓tR_44_4, ↓tR_44_5, ↓tR_44_6, ↓tR_44_7, ↓tR_44_8, ↓tR_44_9, ↓tR_44_10, ↓tO_52, ↓tR_52_0, ↓tR_52_1, ↓tR_52_2, ↓tR_52_3, ↓tR_52_4, ↓tR_52_5, ↓tR_52_6, ↓tR_52_7, ↓tA_60, ↓tN_60, ↓tO_106, ↓tR_106_0, ↓tR_106_1, ↓tR_106_2, ↓tR_106_3, ↓tI_106_4, ↓tI_106_5, ↓tI_106_6, ↓tI_106_7, ↓tI_106_8, ↓tO_107, ↓tI_107_0, ↓tI_107_1, ↓tI_107_2, ↓tI_107_3, ↓tR_107_4, ↓tR_107_5, ↓tR_107_6, ↓tR_107_7, ↓tR_107_8, ↓tR_107_9, ↓tR_107_10, ↓tA_125, ↓tN_125, ↓tA_126, ↓tN_126, ↓rm, ↓dv, ↓w_shl, ↓wLd_of e1, ↓wo, hli]
        refine ⟨by omega, fun a ha => by rw [up_k ha]; exact f1 a ha, fun c hc => ?_, _, _, by rw [show (n : Int) - 1 - ((i + 1 : Nat) : Int) = (p : Int) - 1 by omega]⟩
        rw [mk, hp'.symm]
        by_cases e : c = d
        · subst e
          rw [if_pos hd, Int.toNat_natCast, up_at]
        · rw [if_neg (by omega), Nat.add_zero, up_j (by omega)]
          exact f2 c hc
      · have hin : i = n := by omega
        subst hin
        have F2 : ∀ c : Nat, c < j → E 126 (c : Int).toNat = iz ((mk j i x c i : Nat) : Int) := fun c hc => by rw [Int.toNat_natCast]; exact f2 c hc
        have fk : ∀ k, k < j → (fun c : Nat => gVal A c (mk j i x c i) i) k = -1 ∨ (0 ≤ (fun c : Nat => gVal A c (mk j i x c i) i) k ∧ (fun c : Nat => gVal A c (mk j i x c i) i) k ≤ 400000) := fun k _ => hg _ _
        have none_up : ∀ k, k ≤ j → oS (fun c : Nat => gVal A c (mk j i x c i) i) k = -1 → wV A j i x = -1 := by
          intro k hk hz
          unfold wV
          have : ∀ r, oS (fun c : Nat => gVal A c (mk j i x c i) i) (k + r) = -1 := fun r => by
            induction r with
            | zero => exact hz
            | succ r ih => rw [← Nat.add_assoc, oS, if_pos (Or.inl ih)]
          have := this (j - k)
          rw [show k + (j - k) = j by omega] at this
          exact this
        simp (disch := omega) only [↓w_eBin, ↓w_eUn, ↓w_eDiv, ↓w_eRem, ↓w_eFld, ↓w_rFld, ↓w_eALd, ↓w_rALd, ↓w_eALen, ↓w_rStr, ↓w_aNil, ↓w_aI, ↓w_aR, ↓w_N, ↓w_eCall, ↓w_X, ↓w_bCmp, ↓w_bAnd, ↓w_bOr, ↓w_bNot, ↓w_eB, ↓w_eIte, ↓w_sSkip, ↓w_sRet, ↓w_sRetZ, ↓w_sRetV, ↓w_sBrk, ↓w_sCont, ↓w_sIf, ↓w_sSeq, ↓w_sCaC, ↓w_sCaB, ↓w_sSw, ↓w_sCall, ↓w_sPut, ↓w_sPutOp, ↓w_sASt, ↓w_sAOp, ↓w_sADiv, ↓w_eLoc0, ↓w_rLoc0, ↓w_sSet0, ↓w_sSetR0, ↓w_sIncP0, ↓w_sIncM0, ↓w_eLoc1, ↓w_rLoc1, ↓w_sSet1, ↓w_sSetR1, ↓w_sIncP1, ↓w_sIncM1, ↓w_eLoc2, ↓w_rLoc2, ↓w_sSet2, ↓w_sSetR2, ↓w_sIncP2, ↓w_sIncM2, ↓w_eLoc3, ↓w_rLoc3, ↓w_sSet3, ↓w_sSetR3, ↓w_sIncP3, ↓w_sIncM3, ↓w_eLoc4, ↓w_rLoc4, ↓w_sSet4, ↓w_sSetR4, ↓w_sIncP4, ↓w_sIncM4, ↓w_eLoc5, ↓w_rLoc5, ↓w_sSet5, ↓w_sSetR5, ↓w_sIncP5, ↓w_sIncM5, ↓w_eLoc6, ↓w_rLoc6, ↓w_sSet6, ↓w_sSetR6, ↓w_sIncP6, ↓w_sIncM6, ↓w_eLoc7, ↓w_rLoc7, ↓w_sSet7, ↓w_sSetR7, ↓w_sIncP7, ↓w_sIncM7, ↓w_eLoc8, ↓w_rLoc8, ↓w_sSet8, ↓w_sSetR8, ↓w_sIncP8, ↓w_sIncM8, ↓w_eLoc9, ↓w_rLoc9, ↓w_sSet9, ↓w_sSetR9, ↓w_sIncP9, ↓w_sIncM9, ↓w_eLoc10, ↓w_rLoc10, ↓w_sSet10, ↓w_sSetR10, ↓w_sIncP10, ↓w_sIncM10, ↓w_eLoc11, ↓w_rLoc11, ↓w_sSet11, ↓w_sSetR11, ↓w_sIncP11, ↓w_sIncM11, ↓w_eLoc12, ↓w_rLoc12, ↓w_sSet12, ↓w_sSetR12, ↓w_sIncP12, ↓w_sIncM12, ↓w_eLoc13, ↓w_rLoc13, ↓w_sSet13, ↓w_sSetR13, ↓w_sIncP13, ↓w_sIncM13, ↓w_eIntN, ↓w_eIntM, ↓w_bZi, ↓w_add, ↓w_sub, ↓w_mul, ↓w_neg, ↓w_nar, ↓w_div, ↓w_ldne, ↓w_ldat, ↓w_ldj, List.length_cons, List.length_nil, Nat.reduceAdd, Nat.reduceSub, Nat.reduceLeDiff, List.replicate_succ, List.replicate_zero, List.cons_append, List.nil_append, List.append_nil, iz_nI, iz_ofNat, iz_add, iz_sub, iz_mul, cz_lt, cz_le, cz_gt, cz_ge, cz_eq, cz_ne, mIn_iz, iz_nat, decide_eq_true_eq, Bool.not_eq_true', decide_eq_false_iff_not, true_and, and_true, ↓reduceIte, not_true_eq_false, not_false_eq_true, w01_bI, w01_i0, w01_i1, bI_ne', bI_eq', bI_t, bI_f, Bool.false_eq_true, false_implies, forall_const, implies_true, true_implies, imp_self, eq_self, cz10, cz00, Bool.true_eq_false, Bool.not_true, Bool.not_false, decide_true, decide_false, ↓tO_0, ↓tR_0_0, ↓tI_0_1, ↓tR_0_2, ↓tR_0_3, ↓tR_0_4, ↓tR_0_5, ↓tR_0_6, ↓tI_0_7, ↓tR_0_8, ↓tR_0_9, ↓tR_0_10, ↓tR_0_11, ↓tR_0_12, ↓tO_6, ↓tI_6_0, ↓tI_6_1, ↓tI_6_2, ↓tI_6_3, ↓tR_6_4, ↓tR_6_5, ↓tR_6_6, ↓tR_6_7, ↓tO_18, ↓tR_18_0, ↓tR_18_1, ↓tR_18_2, ↓tR_18_3, ↓tI_18_4, ↓tO_19, ↓tI_19_0, ↓tI_19_1, ↓tI_19_2, ↓tR_19_3, ↓tR_19_4, ↓tR_19_5, ↓tR_19_6, ↓tR_19_7, ↓tR_19_8, ↓tA_42, ↓tN_42, ↓tO_43, ↓tR_43_0, ↓tR_43_1, ↓tR_43_2, ↓tR_43_3, ↓tI_43_4, ↓tI_43_5, ↓tI_43_6, ↓tI_43_7, ↓tI_43_8, ↓tO_44, ↓tI_44_0, ↓tI_44_1, ↓tI_44_2, ↓tI_44_3, ↓tR_44_4, ↓tR_44_5, ↓tR_44_6, ↓tR_44_7, ↓tR_44_8, ↓tR_44_9, ↓tR_44_10, ↓tO_52, ↓tR_52_0, ↓tR_52_1, ↓tR_52_2, ↓tR_52_3, ↓tR_52_4, ↓tR_52_5, ↓tR_52_6, ↓tR_52_7, ↓tA_60, ↓tN_60, ↓tO_106, ↓tR_106_0, ↓tR_106_1, ↓tR_106_2, ↓tR_106_3, ↓tI_106_4, ↓tI_106_5, ↓tI_106_6, ↓tI_106_7, ↓tI_106_8, ↓tO_107, ↓tI_107_0, ↓tI_107_1, ↓tI_107_2, ↓tI_107_3, ↓tR_107_4, ↓tR_107_5, ↓tR_107_6, ↓tR_107_7, ↓tR_107_8, ↓tR_107_9, ↓tR_107_10, ↓tA_125, ↓tN_125, ↓tA_126, ↓tN_126, hli]
        refine wS_up j (fun k l F => F = E ∧ oS (fun c : Nat => gVal A c (mk j i x c i) i) k ≠ -1 ∧ ∃ v4 v7 : Value, l = [.ref 0, .int (iz x), .int (iz i), .int (iz j), v4, .int (iz (oS (fun c : Nat => gVal A c (mk j i x c i) i) k)), .int (iz k), v7]) ?_ (Nat.zero_le _) ⟨rfl, by rw [oS]; omega, _, _, rfl⟩
        rintro k l F hk ⟨rfl, hz, v4, v7, rfl⟩
        by_cases hlk : (k : Int) < j
        · obtain ⟨m1, m2⟩ := mk_ok (K := j) (x := x) (c := k) hn.2 i (Nat.le_refl _)
          have e1 := F2 k (by omega)
          have e2 : F 125 ((k : Int) * 64 + ((mk j i x k i : Nat) : Int)).toNat = iz (gVal A k (mk j i x k i) i) := by
            rw [f1 125 (by omega), show ((k : Int) * 64 + ((mk j i x k i : Nat) : Int)).toNat = k * 64 + mk j i x k i by omega]
            exact hT k _ (by omega) (mk_lt hn.2)
          have hgk := hg k (mk j i x k i)
          by_cases e : gVal A k (mk j i x k i) i = -1
          · have w := none_up (k + 1) (by omega) (by rw [oS, if_pos (Or.inr e)])
            simp (disch := omega) only [↓w_eBin, ↓w_eUn, ↓w_eDiv, ↓w_eRem, ↓w_eFld, ↓w_rFld, ↓w_eALd, ↓w_rALd, ↓w_eALen, ↓w_rStr, ↓w_aNil, ↓w_aI, ↓w_aR, ↓w_N, ↓w_eCall, ↓w_X, ↓w_bCmp, ↓w_bAnd, ↓w_bOr, ↓w_bNot, ↓w_eB, ↓w_eIte, ↓w_sSkip, ↓w_sRet, ↓w_sRetZ, ↓w_sRetV, ↓w_sBrk, ↓w_sCont, ↓w_sIf, ↓w_sSeq, ↓w_sCaC, ↓w_sCaB, ↓w_sSw, ↓w_sCall, ↓w_sPut, ↓w_sPutOp, ↓w_sASt, ↓w_sAOp, ↓w_sADiv, ↓w_eLoc0, ↓w_rLoc0, ↓w_sSet0, ↓w_sSetR0, ↓w_sIncP0, ↓w_sIncM0, ↓w_eLoc1, ↓w_rLoc1, ↓w_sSet1, ↓w_sSetR1, ↓w_sIncP1, ↓w_sIncM1, ↓w_eLoc2, ↓w_rLoc2, ↓w_sSet2, ↓w_sSetR2, ↓w_sIncP2, ↓w_sIncM2, ↓w_eLoc3, ↓w_rLoc3, ↓w_sSet3, ↓w_sSetR3, ↓w_sIncP3, ↓w_sIncM3, ↓w_eLoc4, ↓w_rLoc4, ↓w_sSet4, ↓w_sSetR4, ↓w_sIncP4, ↓w_sIncM4, ↓w_eLoc5, ↓w_rLoc5, ↓w_sSet5, ↓w_sSetR5, ↓w_sIncP5, ↓w_sIncM5, ↓w_eLoc6, ↓w_rLoc6, ↓w_sSet6, ↓w_sSetR6, ↓w_sIncP6, ↓w_sIncM6, ↓w_eLoc7, ↓w_rLoc7, ↓w_sSet7, ↓w_sSetR7, ↓w_sIncP7, ↓w_sIncM7, ↓w_eLoc8, ↓w_rLoc8, ↓w_sSet8, ↓w_sSetR8, ↓w_sIncP8, ↓w_sIncM8, ↓w_eLoc9, ↓w_rLoc9, ↓w_sSet9, ↓w_sSetR9, ↓w_sIncP9, ↓w_sIncM9, ↓w_eLoc10, ↓w_rLoc10, ↓w_sSet10, ↓w_sSetR10, ↓w_sIncP10, ↓w_sIncM10, ↓w_eLoc11, ↓w_rLoc11, ↓w_sSet11, ↓w_sSetR11, ↓w_sIncP11, ↓w_sIncM11, ↓w_eLoc12, ↓w_rLoc12, ↓w_sSet12, ↓w_sSetR12, ↓w_sIncP12, ↓w_sIncM12, ↓w_eLoc13, ↓w_rLoc13, ↓w_sSet13, ↓w_sSetR13, ↓w_sIncP13, ↓w_sIncM13, ↓w_eIntN, ↓w_eIntM, ↓w_bZi, ↓w_add, ↓w_sub, ↓w_mul, ↓w_neg, ↓w_nar, ↓w_div, ↓w_ldne, ↓w_ldat, ↓w_ldj, List.length_cons, List.length_nil, Nat.reduceAdd, Nat.reduceSub, Nat.reduceLeDiff, List.replicate_succ, List.replicate_zero, List.cons_append, List.nil_append, List.append_nil, iz_nI, iz_ofNat, iz_add, iz_sub, iz_mul, cz_lt, cz_le, cz_gt, cz_ge, cz_eq, cz_ne, mIn_iz, iz_nat, decide_eq_true_eq, Bool.not_eq_true', decide_eq_false_iff_not, true_and, and_true, ↓reduceIte, not_true_eq_false, not_false_eq_true, w01_bI, w01_i0, w01_i1, bI_ne', bI_eq', bI_t, bI_f, Bool.false_eq_true, false_implies, forall_const, implies_true, true_implies, imp_self, eq_self, cz10, cz00, Bool.true_eq_false, Bool.not_true, Bool.not_false, decide_true, decide_false, ↓tO_0, ↓tR_0_0, ↓tI_0_1, ↓tR_0_2, ↓tR_0_3, ↓tR_0_4, ↓tR_0_5, ↓tR_0_6, ↓tI_0_7, ↓tR_0_8, ↓tR_0_9, ↓tR_0_10, ↓tR_0_11, ↓tR_0_12, ↓tO_6, ↓tI_6_0, ↓tI_6_1, ↓tI_6_2, ↓tI_6_3, ↓tR_6_4, ↓tR_6_5, ↓tR_6_6, ↓tR_6_7, ↓tO_18, ↓tR_18_0, ↓tR_18_1, ↓tR_18_2, ↓tR_18_3, ↓tI_18_4, ↓tO_19, ↓tI_19_0, ↓tI_19_1, ↓tI_19_2, ↓tR_19_3, ↓tR_19_4, ↓tR_19_5, ↓tR_19_6, ↓tR_19_7, ↓tR_19_8, ↓tA_42, ↓tN_42, ↓tO_43, ↓tR_43_0, ↓tR_43_1, ↓tR_43_2, ↓tR_43_3, ↓tI_43_4, ↓tI_43_5, ↓tI_43_6, ↓tI_43_7, ↓tI_43_8, ↓tO_44, ↓tI_44_0, ↓tI_44_1, ↓tI_44_2, ↓tI_44_3, ↓tR_44_4, ↓tR_44_5, ↓tR_44_6, ↓tR_44_7, ↓tR_44_8, ↓tR_44_9, ↓tR_44_10, ↓tO_52, ↓tR_52_0, ↓tR_52_1, ↓tR_52_2, ↓tR_52_3, ↓tR_52_4, ↓tR_52_5, ↓tR_52_6, ↓tR_52_7, ↓tA_60, ↓tN_60, ↓tO_106, ↓tR_106_0, ↓tR_106_1, ↓tR_106_2, ↓tR_106_3, ↓tI_106_4, ↓tI_106_5, ↓tI_106_6, ↓tI_106_7, ↓tI_106_8, ↓tO_107, ↓tI_107_0, ↓tI_107_1, ↓tI_107_2, ↓tI_107_3, ↓tR_107_4, ↓tR_107_5, ↓tR_107_6, ↓tR_107_7, ↓tR_107_8, ↓tR_107_9, ↓tR_107_10, ↓tA_125, ↓tN_125, ↓tA_126, ↓tN_126, ↓wLd_of e1, ↓wLd_of e2, hlk, e]
            exact ⟨by omega, by rw [w], f1⟩
          · simp (disch := omega) only [↓w_eBin, ↓w_eUn, ↓w_eDiv, ↓w_eRem, ↓w_eFld, ↓w_rFld, ↓w_eALd, ↓w_rALd, ↓w_eALen, ↓w_rStr, ↓w_aNil, ↓w_aI, ↓w_aR, ↓w_N, ↓w_eCall, ↓w_X, ↓w_bCmp, ↓w_bAnd, ↓w_bOr, ↓w_bNot, ↓w_eB, ↓w_eIte, ↓w_sSkip, ↓w_sRet, ↓w_sRetZ, ↓w_sRetV, ↓w_sBrk, ↓w_sCont, ↓w_sIf, ↓w_sSeq, ↓w_sCaC, ↓w_sCaB, ↓w_sSw, ↓w_sCall, ↓w_sPut, ↓w_sPutOp, ↓w_sASt, ↓w_sAOp, ↓w_sADiv, ↓w_eLoc0, ↓w_rLoc0, ↓w_sSet0, ↓w_sSetR0, ↓w_sIncP0, ↓w_sIncM0, ↓w_eLoc1, ↓w_rLoc1, ↓w_sSet1, ↓w_sSetR1, ↓w_sIncP1, ↓w_sIncM1, ↓w_eLoc2, ↓w_rLoc2, ↓w_sSet2, ↓w_sSetR2, ↓w_sIncP2, ↓w_sIncM2, ↓w_eLoc3, ↓w_rLoc3, ↓w_sSet3, ↓w_sSetR3, ↓w_sIncP3, ↓w_sIncM3, ↓w_eLoc4, ↓w_rLoc4, ↓w_sSet4, ↓w_sSetR4, ↓w_sIncP4, ↓w_sIncM4, ↓w_eLoc5, ↓w_rLoc5, ↓w_sSet5, ↓w_sSetR5, ↓w_sIncP5, ↓w_sIncM5, ↓w_eLoc6, ↓w_rLoc6, ↓w_sSet6, ↓w_sSetR6, ↓w_sIncP6, ↓w_sIncM6, ↓w_eLoc7, ↓w_rLoc7, ↓w_sSet7, ↓w_sSetR7, ↓w_sIncP7, ↓w_sIncM7, ↓w_eLoc8, ↓w_rLoc8, ↓w_sSet8, ↓w_sSetR8, ↓w_sIncP8, ↓w_sIncM8, ↓w_eLoc9, ↓w_rLoc9, ↓w_sSet9, ↓w_sSetR9, ↓w_sIncP9, ↓w_sIncM9, ↓w_eLoc10, ↓w_rLoc10, ↓w_sSet10, ↓w_sSetR10, ↓w_sIncP10, ↓w_sIncM10, ↓w_eLoc11, ↓w_rLoc11, ↓w_sSet11, ↓w_sSetR11, ↓w_sIncP11, ↓w_sIncM11, ↓w_eLoc12, ↓w_rLoc12, ↓w_sSet12, ↓w_sSetR12, ↓w_sIncP12, ↓w_sIncM12, ↓w_eLoc13, ↓w_rLoc13, ↓w_sSet13, ↓w_sSetR13, ↓w_sIncP13, ↓w_sIncM13, ↓w_eIntN, ↓w_eIntM, ↓w_bZi, ↓w_add, ↓w_sub, ↓w_mul, ↓w_neg, ↓w_nar, ↓w_div, ↓w_ldne, ↓w_ldat, ↓w_ldj, List.length_cons, List.length_nil, Nat.reduceAdd, Nat.reduceSub, Nat.reduceLeDiff, List.replicate_succ, List.replicate_zero, List.cons_append, List.nil_append, List.append_nil, iz_nI, iz_ofNat, iz_add, iz_sub, iz_mul, cz_lt, cz_le, cz_gt, cz_ge, cz_eq, cz_ne, mIn_iz, iz_nat, decide_eq_true_eq, Bool.not_eq_true', decide_eq_false_iff_not, true_and, and_true, ↓reduceIte, not_true_eq_false, not_false_eq_true, w01_bI, w01_i0, w01_i1, bI_ne', bI_eq', bI_t, bI_f, Bool.false_eq_true, false_implies, forall_const, implies_true, true_implies, imp_self, eq_self, cz10, cz00, Bool.true_eq_false, Bool.not_true, Bool.not_false, decide_true, decide_false, ↓tO_0, ↓tR_0_0, ↓tI_0_1, ↓tR_0_2, ↓tR_0_3, ↓tR_0_4, ↓tR_0_5, ↓tR_0_6, ↓tI_0_7, ↓tR_0_8, ↓tR_0_9, ↓tR_0_10, ↓tR_0_11, ↓tR_0_12, ↓tO_6, ↓tI_6_0, ↓tI_6_1, ↓tI_6_2, ↓tI_6_3, ↓tR_6_4, ↓tR_6_5, ↓tR_6_6, ↓tR_6_7, ↓tO_18, ↓tR_18_0, ↓tR_18_1, ↓tR_18_2, ↓tR_18_3, ↓tI_18_4, ↓tO_19, ↓tI_19_0, ↓tI_19_1, ↓tI_19_2, ↓tR_19_3, ↓tR_19_4, ↓tR_19_5, ↓tR_19_6, ↓tR_19_7, ↓tR_19_8, ↓tA_42, ↓tN_42, ↓tO_43, ↓tR_43_0, ↓tR_43_1, ↓tR_43_2, ↓tR_43_3, ↓tI_43_4, ↓tI_43_5, ↓tI_43_6, ↓tI_43_7, ↓tI_43_8, ↓tO_44, ↓tI_44_0, ↓tI_44_1, ↓tI_44_2, ↓tI_44_3, ↓tR_44_4, ↓tR_44_5, ↓tR_44_6, ↓tR_44_7, ↓tR_44_8, ↓tR_44_9, ↓tR_44_10, ↓tO_52, ↓tR_52_0, ↓tR_52_1, ↓tR_52_2, ↓tR_52_3, ↓tR_52_4, ↓tR_52_5, ↓tR_52_6, ↓tR_52_7, ↓tA_60, ↓tN_60, ↓tO_106, ↓tR_106_0, ↓tR_106_1, ↓tR_106_2, ↓tR_106_3, ↓tI_106_4, ↓tI_106_5, ↓tI_106_6, ↓tI_106_7, ↓tI_106_8, ↓tO_107, ↓tI_107_0, ↓tI_107_1, ↓tI_107_2, ↓tI_107_3, ↓tR_107_4, ↓tR_107_5, ↓tR_107_6, ↓tR_107_7, ↓tR_107_8, ↓tR_107_9, ↓tR_107_10, ↓tA_125, ↓tN_125, ↓tA_126, ↓tN_126, ↓wLd_of e1, ↓wLd_of e2, hlk, e]
            have eo : oS (fun c : Nat => gVal A c (mk j i x c i) i) (k + 1) = oS (fun c : Nat => gVal A c (mk j i x c i) i) k + gVal A k (mk j i x k i) i := by rw [oS, if_neg (by rintro (z | z); exact hz z; exact e z)]
            refine ⟨by omega, ?_, _, _, by rw [eo, show ((k + 1 : Nat) : Int) = (k : Int) + 1 by omega]⟩
            rcases oS_ok (f := fun c : Nat => gVal A c (mk j i x c i) i) (K := k) (fun k' hk' => hg _ _) with ⟨z, _⟩ | ⟨_, _, z, _⟩
            · exact absurd z hz
            · rw [eo]; omega
        · have : k = j := by omega
          subst this
          simp (disch := omega) only [↓w_eBin, ↓w_eUn, ↓w_eDiv, ↓w_eRem, ↓w_eFld, ↓w_rFld, ↓w_eALd, ↓w_rALd, ↓w_eALen, ↓w_rStr, ↓w_aNil, ↓w_aI, ↓w_aR, ↓w_N, ↓w_eCall, ↓w_X, ↓w_bCmp, ↓w_bAnd, ↓w_bOr, ↓w_bNot, ↓w_eB, ↓w_eIte, ↓w_sSkip, ↓w_sRet, ↓w_sRetZ, ↓w_sRetV, ↓w_sBrk, ↓w_sCont, ↓w_sIf, ↓w_sSeq, ↓w_sCaC, ↓w_sCaB, ↓w_sSw, ↓w_sCall, ↓w_sPut, ↓w_sPutOp, ↓w_sASt, ↓w_sAOp, ↓w_sADiv, ↓w_eLoc0, ↓w_rLoc0, ↓w_sSet0, ↓w_sSetR0, ↓w_sIncP0, ↓w_sIncM0, ↓w_eLoc1, ↓w_rLoc1, ↓w_sSet1, ↓w_sSetR1, ↓w_sIncP1, ↓w_sIncM1, ↓w_eLoc2, ↓w_rLoc2, ↓w_sSet2, ↓w_sSetR2, ↓w_sIncP2, ↓w_sIncM2, ↓w_eLoc3, ↓w_rLoc3, ↓w_sSet3, ↓w_sSetR3, ↓w_sIncP3, ↓w_sIncM3, ↓w_eLoc4, ↓w_rLoc4, ↓w_sSet4, ↓w_sSetR4, ↓w_sIncP4, ↓w_sIncM4, ↓w_eLoc5, ↓w_rLoc5, ↓w_sSet5, ↓w_sSetR5, ↓w_sIncP5, ↓w_sIncM5, ↓w_eLoc6, ↓w_rLoc6, ↓w_sSet6, ↓w_sSetR6, ↓w_sIncP6, ↓w_sIncM6, ↓w_eLoc7, ↓w_rLoc7, ↓w_sSet7, ↓w_sSetR7, ↓w_sIncP7, ↓w_sIncM7, ↓w_eLoc8, ↓w_rLoc8, ↓w_sSet8, ↓w_sSetR8, ↓w_sIncP8, ↓w_sIncM8, ↓w_eLoc9, ↓w_rLoc9, ↓w_sSet9, ↓w_sSetR9, ↓w_sIncP9, ↓w_sIncM9, ↓w_eLoc10, ↓w_rLoc10, ↓w_sSet10, ↓w_sSetR10, ↓w_sIncP10, ↓w_sIncM10, ↓w_eLoc11, ↓w_rLoc11, ↓w_sSet11, ↓w_sSetR11, ↓w_sIncP11, ↓w_sIncM11, ↓w_eLoc12, ↓w_rLoc12, ↓w_sSet12, ↓w_sSetR12, ↓w_sIncP12, ↓w_sIncM12, ↓w_eLoc13, ↓w_rLoc13, ↓w_sSet13, ↓w_sSetR13, ↓w_sIncP13, ↓w_sIncM13, ↓w_eIntN, ↓w_eIntM, ↓w_bZi, ↓w_add, ↓w_sub, ↓w_mul, ↓w_neg, ↓w_nar, ↓w_div, ↓w_ldne, ↓w_ldat, ↓w_ldj, List.length_cons, List.length_nil, Nat.reduceAdd, Nat.reduceSub, Nat.reduceLeDiff, List.replicate_succ, List.replicate_zero, List.cons_append, List.nil_append, List.append_nil, iz_nI, iz_ofNat, iz_add, iz_sub, iz_mul, cz_lt, cz_le, cz_gt, cz_ge, cz_eq, cz_ne, mIn_iz, iz_nat, decide_eq_true_eq, Bool.not_eq_true', decide_eq_false_iff_not, true_and, and_true, ↓reduceIte, not_true_eq_false, not_false_eq_true, w01_bI, w01_i0, w01_i1, bI_ne', bI_eq', bI_t, bI_f, Bool.false_eq_true, false_implies, forall_const, implies_true, true_implies, imp_self, eq_self, cz10, cz00, Bool.true_eq_false, Bool.not_true, Bool.not_false, decide_true, decide_false, ↓tO_0, ↓tR_0_0, ↓tI_0_1, ↓tR_0_2, ↓tR_0_3, ↓tR_0_4, ↓tR_0_5, ↓tR_0_6, ↓tI_0_7, ↓tR_0_8, ↓tR_0_9, ↓tR_0_10, ↓tR_0_11, ↓tR_0_12, ↓tO_6, ↓tI_6_0, ↓tI_6_1, ↓tI_6_2, ↓tI_6_3, ↓tR_6_4, ↓tR_6_5, ↓tR_6_6, ↓tR_6_7, ↓tO_18, ↓tR_18_0, ↓tR_18_1, ↓tR_18_2, ↓tR_18_3, ↓tI_18_4, ↓tO_19, ↓tI_19_0, ↓tI_19_1, ↓tI_19_2, ↓tR_19_3, ↓tR_19_4, ↓tR_19_5, ↓tR_19_6, ↓tR_19_7, ↓tR_19_8, ↓tA_42, ↓tN_42, ↓tO_43, ↓tR_43_0, ↓tR_43_1, ↓tR_43_2, ↓tR_43_3, ↓tI_43_4, ↓tI_43_5, ↓tI_43_6, ↓tI_43_7, ↓tI_43_8, ↓tO_44, ↓tI_44_0, ↓tI_44_1, ↓tI_44_2, ↓tI_44_3, ↓tR_44_4, ↓tR_44_5, ↓tR_44_6, ↓tR_44_7, ↓tR_44_8, ↓tR_44_9, ↓tR_44_10, ↓tO_52, ↓tR_52_0, ↓tR_52_1, ↓tR_52_2, ↓tR_52_3, ↓tR_52_4, ↓tR_52_5, ↓tR_52_6, ↓tR_52_7, ↓tA_60, ↓tN_60, ↓tO_106, ↓tR_106_0, ↓tR_106_1, ↓tR_106_2, ↓tR_106_3, ↓tI_106_4, ↓tI_106_5, ↓tI_106_6, ↓tI_106_7, ↓tI_106_8, ↓tO_107, ↓tI_107_0, ↓tI_107_1, ↓tI_107_2, ↓tI_107_3, ↓tR_107_4, ↓tR_107_5, ↓tR_107_6, ↓tR_107_7, ↓tR_107_8, ↓tR_107_9, ↓tR_107_10, ↓tA_125, ↓tN_125, ↓tA_126, ↓tN_126, hlk]
          exact ⟨rfl, f1⟩
  obtain ⟨o, D, e, rfl, r⟩ := wF_of key
  exact ⟨D, e, r⟩
end
end

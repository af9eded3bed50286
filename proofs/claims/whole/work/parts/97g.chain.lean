/-! chains of points: pure -/
/-- the first of the least -/
def am (g : Int → Int) (lo : Int) : Nat → Int
  | 0 => lo
  | n + 1 => if g (lo + n + 1) < g (am g lo n) then lo + n + 1 else am g lo n
theorem am_rg {g : Int → Int} {lo : Int} (n : Nat) : lo ≤ am g lo n ∧ am g lo n ≤ lo + n := by
  induction n with
  | zero => rw [am]; omega
  | succ n ih => rw [am]; split <;> omega
theorem am_le {g : Int → Int} {lo : Int} (n : Nat) : ∀ x, lo ≤ x → x ≤ lo + n → g (am g lo n) ≤ g x := by
  induction n with
  | zero =>
    intro x x0 x1
    have : x = lo := by omega
    subst this
    rw [am]; exact Int.le_refl _
  | succ n ih =>
    intro x x0 x1
    rw [am]
    by_cases e : x = lo + n + 1
    · subst e
      split
      · exact Int.le_refl _
      · omega
    · have := ih x x0 (by omega)
      split
      · omega
      · exact this
theorem am_lt {g : Int → Int} {lo : Int} (n : Nat) : ∀ x, lo ≤ x → x < am g lo n → g (am g lo n) < g x := by
  induction n with
  | zero => intro x x0 x1; rw [am] at x1; omega
  | succ n ih =>
    intro x x0 x1
    rw [am] at x1 ⊢
    split at x1
    · rename_i h
      rw [if_pos h]
      have := am_le (g := g) (lo := lo) n x x0 (by omega)
      omega
    · rename_i h
      rw [if_neg h]
      exact ih x x0 x1
theorem am_congr {g h : Int → Int} {lo : Int} (n : Nat) (e : ∀ x, lo ≤ x → x ≤ lo + n → g x = h x) : am g lo n = am h lo n := by
  induction n with
  | zero => rfl
  | succ n ih =>
    have i := ih (fun x x0 x1 => e x x0 (by omega))
    have r := am_rg (g := h) (lo := lo) n
    rw [am, am, i, e _ (by omega) (by omega), e (am h lo n) (by omega) (by omega)]
/-- the least sum of t more points behind a -/
def cG (P : Int → Int → Int) (N : Int) : Nat → Int → Int
  | 0, a => P a N
  | t + 1, a => P a (am (fun b => P a b + cG P N t b) (a + 1) (N - t - 2 - a).toNat) + cG P N t (am (fun b => P a b + cG P N t b) (a + 1) (N - t - 2 - a).toNat)
/-- the next point, with t more behind it -/
def cN (P : Int → Int → Int) (N : Int) (t : Nat) (a : Int) : Int := am (fun b => P a b + cG P N t b) (a + 1) (N - t - 2 - a).toNat
def cPath (P : Int → Int → Int) (N : Int) : Nat → Int → Nat → Int
  | _, a, 0 => a
  | 0, a, _ + 1 => a
  | t + 1, a, i + 1 => cPath P N t (cN P N t a) i
theorem cG_s {P : Int → Int → Int} {N : Int} {t : Nat} {a : Int} : cG P N (t + 1) a = P a (cN P N t a) + cG P N t (cN P N t a) := by rw [cG]; rfl
theorem cN_rg {P : Int → Int → Int} {N : Int} {t : Nat} {a : Int} (h : a + 2 + t ≤ N) : a < cN P N t a ∧ cN P N t a + t + 1 ≤ N := by
  have := am_rg (g := fun b => P a b + cG P N t b) (lo := a + 1) (N - t - 2 - a).toNat
  unfold cN
  omega
/-- pieces are within bounds -/
def cB (P : Int → Int → Int) (N lo : Int) : Prop := ∀ a b, (a = -1 ∨ lo ≤ a) → a < b → 0 ≤ b → (b < N ∨ (b = N ∧ lo ≤ a)) → (lo ≤ b ∨ lo ≤ a) → 0 ≤ P a b ∧ P a b ≤ 100000000
theorem cG_rg {P : Int → Int → Int} {N lo : Int} (hP : cB P N lo) (h0 : 0 ≤ lo) (t : Nat) : ∀ a, lo ≤ a → a + 1 + t ≤ N → 0 ≤ cG P N t a ∧ cG P N t a ≤ (t + 1) * 100000000 := by
  induction t with
  | zero =>
    intro a a0 a1
    have := hP a N (by omega) (by omega) (by omega) (by omega) (by omega)
    rw [cG]; omega
  | succ t ih =>
    intro a a0 a1
    have r := cN_rg (P := P) (N := N) (t := t) (a := a) (by omega)
    have i := ih (cN P N t a) (by omega) (by omega)
    have p := hP a (cN P N t a) (by omega) (by omega) (by omega) (by omega) (by omega)
    rw [cG_s]; omega
/-! the class's chains -/
def chIs (s : Nat) : Prop := s = 127 ∨ s = 133
theorem hO {s : Nat} {P : Prop} (hs : chIs s) : wOk [1, 2] s P ↔ P := by
  rcases hs with rfl | rfl
  · exact tO_127c
  · exact tO_133c
theorem hR0 {s : Nat} {P : Nat → Prop} (hs : chIs s) : wRk [1, 2] 0 s P ↔ P (s + 1 + 0) := by
  rcases hs with rfl | rfl
  · exact tR_127_0c
  · exact tR_133_0c
theorem hR1 {s : Nat} {P : Nat → Prop} (hs : chIs s) : wRk [1, 2] 1 s P ↔ P (s + 1 + 1) := by
  rcases hs with rfl | rfl
  · exact tR_127_1c
  · exact tR_133_1c
theorem hR2 {s : Nat} {P : Nat → Prop} (hs : chIs s) : wRk [1, 2] 2 s P ↔ P (s + 1 + 2) := by
  rcases hs with rfl | rfl
  · exact tR_127_2c
  · exact tR_133_2c
theorem hR3 {s : Nat} {P : Nat → Prop} (hs : chIs s) : wRk [1, 2] 3 s P ↔ P (s + 1 + 3) := by
  rcases hs with rfl | rfl
  · exact tR_127_3c
  · exact tR_133_3c
theorem hR4 {s : Nat} {P : Nat → Prop} (hs : chIs s) : wRk [1, 2] 4 s P ↔ P (s + 1 + 4) := by
  rcases hs with rfl | rfl
  · exact tR_127_4c
  · exact tR_133_4c
theorem hI5 {s : Nat} {P : Prop} (hs : chIs s) : wIk [1, 2] 5 s P ↔ P := by
  rcases hs with rfl | rfl
  · exact tI_127_5c
  · exact tI_133_5c
theorem hA0 {s : Nat} {a : Int} {P : Nat → Prop} (hs : chIs s) (h : 0 ≤ a ∧ a < 4) : wAk .int (s + 1 + 0) (iz a) P ↔ P a.toNat := by
  rcases hs with rfl | rfl
  · exact wAk_of (n := 4) rfl ⟨h.1, h.2, by decide⟩
  · exact wAk_of (n := 4) rfl ⟨h.1, h.2, by decide⟩
theorem hA1 {s : Nat} {a : Int} {P : Nat → Prop} (hs : chIs s) (h : 0 ≤ a ∧ a < 81) : wAk .int (s + 1 + 1) (iz a) P ↔ P a.toNat := by
  rcases hs with rfl | rfl
  · exact wAk_of (n := 81) rfl ⟨h.1, h.2, by decide⟩
  · exact wAk_of (n := 81) rfl ⟨h.1, h.2, by decide⟩
theorem hA2 {s : Nat} {a : Int} {P : Nat → Prop} (hs : chIs s) (h : 0 ≤ a ∧ a < 81) : wAk .int (s + 1 + 2) (iz a) P ↔ P a.toNat := by
  rcases hs with rfl | rfl
  · exact wAk_of (n := 81) rfl ⟨h.1, h.2, by decide⟩
  · exact wAk_of (n := 81) rfl ⟨h.1, h.2, by decide⟩
theorem hA3 {s : Nat} {a : Int} {P : Nat → Prop} (hs : chIs s) (h : 0 ≤ a ∧ a < 324) : wAk .int (s + 1 + 3) (iz a) P ↔ P a.toNat := by
  rcases hs with rfl | rfl
  · exact wAk_of (n := 324) rfl ⟨h.1, h.2, by decide⟩
  · exact wAk_of (n := 324) rfl ⟨h.1, h.2, by decide⟩
theorem hA4 {s : Nat} {a : Int} {P : Nat → Prop} (hs : chIs s) (h : 0 ≤ a ∧ a < 324) : wAk .int (s + 1 + 4) (iz a) P ↔ P a.toNat := by
  rcases hs with rfl | rfl
  · exact wAk_of (n := 324) rfl ⟨h.1, h.2, by decide⟩
  · exact wAk_of (n := 324) rfl ⟨h.1, h.2, by decide⟩
/-- what a piece costs in the class -/
def ChP (C : mMem) (s : Nat) (P : Int → Int → Int) (N lo : Int) : Prop := C s 5 = iz N ∧ ∀ D : mMem, D s = C s → D (s + 1 + 1) = C (s + 1 + 1) → D (s + 1 + 2) = C (s + 1 + 2) → ∀ a b, (a = -1 ∨ lo ≤ a) → a < b → 0 ≤ b → (b < N ∨ (b = N ∧ lo ≤ a)) → (lo ≤ b ∨ lo ≤ a) → f_Ch_piece [.ref s, .int (iz a), .int (iz b)] D = some (some (iz (P a b)), D)
/-- a row of the least sums -/
def ChL (C : mMem) (s : Nat) (P : Int → Int → Int) (N lo : Int) (t : Nat) (hi : Int) : Prop := ∀ a, lo ≤ a → a < hi → C (s + 1 + 3) (81 * (t : Int) + a).toNat = iz (cG P N t a)
theorem rc_bestNext {C : mMem} {s : Nat} {P : Int → Int → Int} {N lo a l : Int} {t : Nat} (hs : chIs s) (hP : ChP C s P N lo) (hB : cB P N lo) (h0 : 0 ≤ lo) (hN : N ≤ 80) (ht : t < 4) (ha : (a = -1 ∧ l = lo) ∨ (lo ≤ a ∧ l = a + 1)) (hl : l + t + 1 ≤ N) (hL : ChL C s P N lo t (N - t)) :
    f_Ch_bestNext [.ref s, .int (iz a), .int (iz l), .int (iz (t + 1))] C = some (some (iz (am (fun b => P a b + cG P N t b) l (N - t - 1 - l).toNat)), C) := by
  apply wF_to
  unfold f_Ch_bestNext
  simp only [↓w_rcv, ↓w_bodyI, ↓w_bodyZ, ↓w_bodyV, true_and, List.length_cons, List.length_nil, Nat.reduceAdd, Nat.reduceSub, Nat.reduceLeDiff, List.replicate_succ, List.replicate_zero, List.cons_append, List.nil_append, List.append_nil, ↓hO hs]
  unfold S_Ch_bestNext
  simp (disch := omega) only [↓w_eBin, ↓w_eUn, ↓w_eDiv, ↓w_eRem, ↓w_eFld, ↓w_rFld, ↓w_eALd, ↓w_rALd, ↓w_eALen, ↓w_rStr, ↓w_aNil, ↓w_aI, ↓w_aR, ↓w_N, ↓w_eCall, ↓w_X, ↓w_bCmp, ↓w_bAnd, ↓w_bOr, ↓w_bNot, ↓w_eB, ↓w_eIte, ↓w_sSkip, ↓w_sRet, ↓w_sRetZ, ↓w_sRetV, ↓w_sBrk, ↓w_sCont, ↓w_sIf, ↓w_sSeq, ↓w_sCaC, ↓w_sCaB, ↓w_sSw, ↓w_sCall, ↓w_sPut, ↓w_sPutOp, ↓w_sASt, ↓w_sAOp, ↓w_sADiv, ↓w_eLoc0, ↓w_rLoc0, ↓w_sSet0, ↓w_sSetR0, ↓w_sIncP0, ↓w_sIncM0, ↓w_eLoc1, ↓w_rLoc1, ↓w_sSet1, ↓w_sSetR1, ↓w_sIncP1, ↓w_sIncM1, ↓w_eLoc2, ↓w_rLoc2, ↓w_sSet2, ↓w_sSetR2, ↓w_sIncP2, ↓w_sIncM2, ↓w_eLoc3, ↓w_rLoc3, ↓w_sSet3, ↓w_sSetR3, ↓w_sIncP3, ↓w_sIncM3, ↓w_eLoc4, ↓w_rLoc4, ↓w_sSet4, ↓w_sSetR4, ↓w_sIncP4, ↓w_sIncM4, ↓w_eLoc5, ↓w_rLoc5, ↓w_sSet5, ↓w_sSetR5, ↓w_sIncP5, ↓w_sIncM5, ↓w_eLoc6, ↓w_rLoc6, ↓w_sSet6, ↓w_sSetR6, ↓w_sIncP6, ↓w_sIncM6, ↓w_eLoc7, ↓w_rLoc7, ↓w_sSet7, ↓w_sSetR7, ↓w_sIncP7, ↓w_sIncM7, ↓w_eLoc8, ↓w_rLoc8, ↓w_sSet8, ↓w_sSetR8, ↓w_sIncP8, ↓w_sIncM8, ↓w_eLoc9, ↓w_rLoc9, ↓w_sSet9, ↓w_sSetR9, ↓w_sIncP9, ↓w_sIncM9, ↓w_eLoc10, ↓w_rLoc10, ↓w_sSet10, ↓w_sSetR10, ↓w_sIncP10, ↓w_sIncM10, ↓w_eLoc11, ↓w_rLoc11, ↓w_sSet11, ↓w_sSetR11, ↓w_sIncP11, ↓w_sIncM11, ↓w_eLoc12, ↓w_rLoc12, ↓w_sSet12, ↓w_sSetR12, ↓w_sIncP12, ↓w_sIncM12, ↓w_eLoc13, ↓w_rLoc13, ↓w_sSet13, ↓w_sSetR13, ↓w_sIncP13, ↓w_sIncM13, ↓w_eIntN, ↓w_eIntM, ↓w_bZi, ↓w_add, ↓w_sub, ↓w_mul, ↓w_neg, ↓w_nar, ↓w_div, ↓w_ldne, ↓w_ldat, ↓w_ldj, List.length_cons, List.length_nil, Nat.reduceAdd, Nat.reduceSub, Nat.reduceLeDiff, List.replicate_succ, List.replicate_zero, List.cons_append, List.nil_append, List.append_nil, iz_nI, iz_ofNat, iz_add, iz_sub, iz_mul, cz_lt, cz_le, cz_gt, cz_ge, cz_eq, cz_ne, mIn_iz, iz_nat, decide_eq_true_eq, Bool.not_eq_true', decide_eq_false_iff_not, true_and, and_true, ↓reduceIte, not_true_eq_false, not_false_eq_true, w01_bI, w01_i0, w01_i1, bI_ne', bI_eq', bI_t, bI_f, Bool.false_eq_true, false_implies, forall_const, implies_true, true_implies, imp_self, eq_self, ↓hO hs, ↓hR0 hs, ↓hR1 hs, ↓hR2 hs, ↓hR3 hs, ↓hR4 hs, ↓hI5 hs, ↓hA0 hs, ↓hA1 hs, ↓hA2 hs, ↓hA3 hs, ↓hA4 hs]
  have hbd : ∀ b, l ≤ b → b + t + 1 ≤ N → 0 ≤ P a b + cG P N t b ∧ P a b + cG P N t b ≤ 500000000 := by
    intro b b0 b1
    have p := hB a b (by omega) (by omega) (by omega) (by omega) (by omega)
    have q := cG_rg hB h0 t b (by omega) (by omega)
    have : ((t : Int) + 1) * 100000000 ≤ 400000000 := by omega
    omega
  refine wS_up ((N - t - 1 - l).toNat + 1) (fun j x D => D = C ∧ ∃ v, x = [.ref s, .int (iz a), .int (iz l), .int (iz (t + 1)), .int (iz (if j = 0 then l else am (fun b => P a b + cG P N t b) l (j - 1))), .int (iz (if j = 0 then 2147483647 else (fun b => P a b + cG P N t b) (am (fun b => P a b + cG P N t b) l (j - 1)))), .int (iz (l + j)), v]) ?_ (Nat.zero_le _) ⟨rfl, _, by simp only [↓reduceIte, Int.natCast_zero, Int.add_zero]; rfl⟩
  rintro j x D hj ⟨rfl, v, rfl⟩
  have h5 := hP.1
  by_cases hlt : l + (j : Int) ≤ N - (t + 1)
  · have hp := hP.2 D rfl rfl rfl a (l + j) (by omega) (by omega) (by omega) (by omega) (by omega)
    have hq := hL (l + j) (by omega) (by omega)
    have e81 : ((t : Int) + 1 - 1) * 81 + (l + (j : Int)) = 81 * (t : Int) + (l + j) := by omega
    have b1 := hbd (l + j) (by omega) (by omega)
    by_cases j0 : j = 0
    · subst j0
      have hc : P a (l + ((0 : Nat) : Int)) + cG P N t (l + ((0 : Nat) : Int)) < 2147483647 := by omega
      simp (disch := omega) only [↓w_eBin, ↓w_eUn, ↓w_eDiv, ↓w_eRem, ↓w_eFld, ↓w_rFld, ↓w_eALd, ↓w_rALd, ↓w_eALen, ↓w_rStr, ↓w_aNil, ↓w_aI, ↓w_aR, ↓w_N, ↓w_eCall, ↓w_X, ↓w_bCmp, ↓w_bAnd, ↓w_bOr, ↓w_bNot, ↓w_eB, ↓w_eIte, ↓w_sSkip, ↓w_sRet, ↓w_sRetZ, ↓w_sRetV, ↓w_sBrk, ↓w_sCont, ↓w_sIf, ↓w_sSeq, ↓w_sCaC, ↓w_sCaB, ↓w_sSw, ↓w_sCall, ↓w_sPut, ↓w_sPutOp, ↓w_sASt, ↓w_sAOp, ↓w_sADiv, ↓w_eLoc0, ↓w_rLoc0, ↓w_sSet0, ↓w_sSetR0, ↓w_sIncP0, ↓w_sIncM0, ↓w_eLoc1, ↓w_rLoc1, ↓w_sSet1, ↓w_sSetR1, ↓w_sIncP1, ↓w_sIncM1, ↓w_eLoc2, ↓w_rLoc2, ↓w_sSet2, ↓w_sSetR2, ↓w_sIncP2, ↓w_sIncM2, ↓w_eLoc3, ↓w_rLoc3, ↓w_sSet3, ↓w_sSetR3, ↓w_sIncP3, ↓w_sIncM3, ↓w_eLoc4, ↓w_rLoc4, ↓w_sSet4, ↓w_sSetR4, ↓w_sIncP4, ↓w_sIncM4, ↓w_eLoc5, ↓w_rLoc5, ↓w_sSet5, ↓w_sSetR5, ↓w_sIncP5, ↓w_sIncM5, ↓w_eLoc6, ↓w_rLoc6, ↓w_sSet6, ↓w_sSetR6, ↓w_sIncP6, ↓w_sIncM6, ↓w_eLoc7, ↓w_rLoc7, ↓w_sSet7, ↓w_sSetR7, ↓w_sIncP7, ↓w_sIncM7, ↓w_eLoc8, ↓w_rLoc8, ↓w_sSet8, ↓w_sSetR8, ↓w_sIncP8, ↓w_sIncM8, ↓w_eLoc9, ↓w_rLoc9, ↓w_sSet9, ↓w_sSetR9, ↓w_sIncP9, ↓w_sIncM9, ↓w_eLoc10, ↓w_rLoc10, ↓w_sSet10, ↓w_sSetR10, ↓w_sIncP10, ↓w_sIncM10, ↓w_eLoc11, ↓w_rLoc11, ↓w_sSet11, ↓w_sSetR11, ↓w_sIncP11, ↓w_sIncM11, ↓w_eLoc12, ↓w_rLoc12, ↓w_sSet12, ↓w_sSetR12, ↓w_sIncP12, ↓w_sIncM12, ↓w_eLoc13, ↓w_rLoc13, ↓w_sSet13, ↓w_sSetR13, ↓w_sIncP13, ↓w_sIncM13, ↓w_eIntN, ↓w_eIntM, ↓w_bZi, ↓w_add, ↓w_sub, ↓w_mul, ↓w_neg, ↓w_nar, ↓w_div, ↓w_ldne, ↓w_ldat, ↓w_ldj, List.length_cons, List.length_nil, Nat.reduceAdd, Nat.reduceSub, Nat.reduceLeDiff, List.replicate_succ, List.replicate_zero, List.cons_append, List.nil_append, List.append_nil, iz_nI, iz_ofNat, iz_add, iz_sub, iz_mul, cz_lt, cz_le, cz_gt, cz_ge, cz_eq, cz_ne, mIn_iz, iz_nat, decide_eq_true_eq, Bool.not_eq_true', decide_eq_false_iff_not, true_and, and_true, ↓reduceIte, not_true_eq_false, not_false_eq_true, w01_bI, w01_i0, w01_i1, bI_ne', bI_eq', bI_t, bI_f, Bool.false_eq_true, false_implies, forall_const, implies_true, true_implies, imp_self, eq_self, ↓hO hs, ↓hR0 hs, ↓hR1 hs, ↓hR2 hs, ↓hR3 hs, ↓hR4 hs, ↓hI5 hs, ↓hA0 hs, ↓hA1 hs, ↓hA2 hs, ↓hA3 hs, ↓hA4 hs, ↓wLd_of h5, ↓wF_eq hp, e81, ↓wLd_of hq, hlt, hc]
      refine ⟨by omega, .int (iz (P a l + cG P N t l)), ?_⟩
      simp only [Nat.zero_add, Nat.one_ne_zero, ↓reduceIte, Nat.sub_self, am, Int.natCast_zero, Int.add_zero, Int.natCast_one]
    · obtain ⟨m, rfl⟩ : ∃ m, j = m + 1 := ⟨j - 1, by omega⟩
      have r := am_rg (g := fun b => P a b + cG P N t b) (lo := l) m
      have b2 := hbd (am (fun b => P a b + cG P N t b) l m) (by omega) (by omega)
      have e2 : l + ((m + 1 : Nat) : Int) = l + m + 1 := by omega
      rw [e2] at hp hq e81 b1 hlt ⊢
      simp only [Nat.add_one_ne_zero, ↓reduceIte, Nat.add_sub_cancel]
      by_cases hc : P a (l + m + 1) + cG P N t (l + m + 1) < P a (am (fun b => P a b + cG P N t b) l m) + cG P N t (am (fun b => P a b + cG P N t b) l m)
      · simp (disch := omega) only [↓w_eBin, ↓w_eUn, ↓w_eDiv, ↓w_eRem, ↓w_eFld, ↓w_rFld, ↓w_eALd, ↓w_rALd, ↓w_eALen, ↓w_rStr, ↓w_aNil, ↓w_aI, ↓w_aR, ↓w_N, ↓w_eCall, ↓w_X, ↓w_bCmp, ↓w_bAnd, ↓w_bOr, ↓w_bNot, ↓w_eB, ↓w_eIte, ↓w_sSkip, ↓w_sRet, ↓w_sRetZ, ↓w_sRetV, ↓w_sBrk, ↓w_sCont, ↓w_sIf, ↓w_sSeq, ↓w_sCaC, ↓w_sCaB, ↓w_sSw, ↓w_sCall, ↓w_sPut, ↓w_sPutOp, ↓w_sASt, ↓w_sAOp, ↓w_sADiv, ↓w_eLoc0, ↓w_rLoc0, ↓w_sSet0, ↓w_sSetR0, ↓w_sIncP0, ↓w_sIncM0, ↓w_eLoc1, ↓w_rLoc1, ↓w_sSet1, ↓w_sSetR1, ↓w_sIncP1, ↓w_sIncM1, ↓w_eLoc2, ↓w_rLoc2, ↓w_sSet2, ↓w_sSetR2, ↓w_sIncP2, ↓w_sIncM2, ↓w_eLoc3, ↓w_rLoc3, ↓w_sSet3, ↓w_sSetR3, ↓w_sIncP3, ↓w_sIncM3, ↓w_eLoc4, ↓w_rLoc4, ↓w_sSet4, ↓w_sSetR4, ↓w_sIncP4, ↓w_sIncM4, ↓w_eLoc5, ↓w_rLoc5, ↓w_sSet5, ↓w_sSetR5, ↓w_sIncP5, ↓w_sIncM5, ↓w_eLoc6, ↓w_rLoc6, ↓w_sSet6, ↓w_sSetR6, ↓w_sIncP6, ↓w_sIncM6, ↓w_eLoc7, ↓w_rLoc7, ↓w_sSet7, ↓w_sSetR7, ↓w_sIncP7, ↓w_sIncM7, ↓w_eLoc8, ↓w_rLoc8, ↓w_sSet8, ↓w_sSetR8, ↓w_sIncP8, ↓w_sIncM8, ↓w_eLoc9, ↓w_rLoc9, ↓w_sSet9, ↓w_sSetR9, ↓w_sIncP9, ↓w_sIncM9, ↓w_eLoc10, ↓w_rLoc10, ↓w_sSet10, ↓w_sSetR10, ↓w_sIncP10, ↓w_sIncM10, ↓w_eLoc11, ↓w_rLoc11, ↓w_sSet11, ↓w_sSetR11, ↓w_sIncP11, ↓w_sIncM11, ↓w_eLoc12, ↓w_rLoc12, ↓w_sSet12, ↓w_sSetR12, ↓w_sIncP12, ↓w_sIncM12, ↓w_eLoc13, ↓w_rLoc13, ↓w_sSet13, ↓w_sSetR13, ↓w_sIncP13, ↓w_sIncM13, ↓w_eIntN, ↓w_eIntM, ↓w_bZi, ↓w_add, ↓w_sub, ↓w_mul, ↓w_neg, ↓w_nar, ↓w_div, ↓w_ldne, ↓w_ldat, ↓w_ldj, List.length_cons, List.length_nil, Nat.reduceAdd, Nat.reduceSub, Nat.reduceLeDiff, List.replicate_succ, List.replicate_zero, List.cons_append, List.nil_append, List.append_nil, iz_nI, iz_ofNat, iz_add, iz_sub, iz_mul, cz_lt, cz_le, cz_gt, cz_ge, cz_eq, cz_ne, mIn_iz, iz_nat, decide_eq_true_eq, Bool.not_eq_true', decide_eq_false_iff_not, true_and, and_true, ↓reduceIte, not_true_eq_false, not_false_eq_true, w01_bI, w01_i0, w01_i1, bI_ne', bI_eq', bI_t, bI_f, Bool.false_eq_true, false_implies, forall_const, implies_true, true_implies, imp_self, eq_self, ↓hO hs, ↓hR0 hs, ↓hR1 hs, ↓hR2 hs, ↓hR3 hs, ↓hR4 hs, ↓hI5 hs, ↓hA0 hs, ↓hA1 hs, ↓hA2 hs, ↓hA3 hs, ↓hA4 hs, ↓wLd_of h5, ↓wF_eq hp, e81, ↓wLd_of hq, hlt, hc]
        refine ⟨by omega, .int (iz (P a (l + m + 1) + cG P N t (l + m + 1))), ?_⟩
        have : am (fun b => P a b + cG P N t b) l (m + 1) = l + m + 1 := by rw [am]; exact if_pos hc
        rw [this, show l + ((m + 1 + 1 : Nat) : Int) = l + m + 1 + 1 by omega]
      · simp (disch := omega) only [↓w_eBin, ↓w_eUn, ↓w_eDiv, ↓w_eRem, ↓w_eFld, ↓w_rFld, ↓w_eALd, ↓w_rALd, ↓w_eALen, ↓w_rStr, ↓w_aNil, ↓w_aI, ↓w_aR, ↓w_N, ↓w_eCall, ↓w_X, ↓w_bCmp, ↓w_bAnd, ↓w_bOr, ↓w_bNot, ↓w_eB, ↓w_eIte, ↓w_sSkip, ↓w_sRet, ↓w_sRetZ, ↓w_sRetV, ↓w_sBrk, ↓w_sCont, ↓w_sIf, ↓w_sSeq, ↓w_sCaC, ↓w_sCaB, ↓w_sSw, ↓w_sCall, ↓w_sPut, ↓w_sPutOp, ↓w_sASt, ↓w_sAOp, ↓w_sADiv, ↓w_eLoc0, ↓w_rLoc0, ↓w_sSet0, ↓w_sSetR0, ↓w_sIncP0, ↓w_sIncM0, ↓w_eLoc1, ↓w_rLoc1, ↓w_sSet1, ↓w_sSetR1, ↓w_sIncP1, ↓w_sIncM1, ↓w_eLoc2, ↓w_rLoc2, ↓w_sSet2, ↓w_sSetR2, ↓w_sIncP2, ↓w_sIncM2, ↓w_eLoc3, ↓w_rLoc3, ↓w_sSet3, ↓w_sSetR3, ↓w_sIncP3, ↓w_sIncM3, ↓w_eLoc4, ↓w_rLoc4, ↓w_sSet4, ↓w_sSetR4, ↓w_sIncP4, ↓w_sIncM4, ↓w_eLoc5, ↓w_rLoc5, ↓w_sSet5, ↓w_sSetR5, ↓w_sIncP5, ↓w_sIncM5, ↓w_eLoc6, ↓w_rLoc6, ↓w_sSet6, ↓w_sSetR6, ↓w_sIncP6, ↓w_sIncM6, ↓w_eLoc7, ↓w_rLoc7, ↓w_sSet7, ↓w_sSetR7, ↓w_sIncP7, ↓w_sIncM7, ↓w_eLoc8, ↓w_rLoc8, ↓w_sSet8, ↓w_sSetR8, ↓w_sIncP8, ↓w_sIncM8, ↓w_eLoc9, ↓w_rLoc9, ↓w_sSet9, ↓w_sSetR9, ↓w_sIncP9, ↓w_sIncM9, ↓w_eLoc10, ↓w_rLoc10, ↓w_sSet10, ↓w_sSetR10, ↓w_sIncP10, ↓w_sIncM10, ↓w_eLoc11, ↓w_rLoc11, ↓w_sSet11, ↓w_sSetR11, ↓w_sIncP11, ↓w_sIncM11, ↓w_eLoc12, ↓w_rLoc12, ↓w_sSet12, ↓w_sSetR12, ↓w_sIncP12, ↓w_sIncM12, ↓w_eLoc13, ↓w_rLoc13, ↓w_sSet13, ↓w_sSetR13, ↓w_sIncP13, ↓w_sIncM13, ↓w_eIntN, ↓w_eIntM, ↓w_bZi, ↓w_add, ↓w_sub, ↓w_mul, ↓w_neg, ↓w_nar, ↓w_div, ↓w_ldne, ↓w_ldat, ↓w_ldj, List.length_cons, List.length_nil, Nat.reduceAdd, Nat.reduceSub, Nat.reduceLeDiff, List.replicate_succ, List.replicate_zero, List.cons_append, List.nil_append, List.append_nil, iz_nI, iz_ofNat, iz_add, iz_sub, iz_mul, cz_lt, cz_le, cz_gt, cz_ge, cz_eq, cz_ne, mIn_iz, iz_nat, decide_eq_true_eq, Bool.not_eq_true', decide_eq_false_iff_not, true_and, and_true, ↓reduceIte, not_true_eq_false, not_false_eq_true, w01_bI, w01_i0, w01_i1, bI_ne', bI_eq', bI_t, bI_f, Bool.false_eq_true, false_implies, forall_const, implies_true, true_implies, imp_self, eq_self, ↓hO hs, ↓hR0 hs, ↓hR1 hs, ↓hR2 hs, ↓hR3 hs, ↓hR4 hs, ↓hI5 hs, ↓hA0 hs, ↓hA1 hs, ↓hA2 hs, ↓hA3 hs, ↓hA4 hs, ↓wLd_of h5, ↓wF_eq hp, e81, ↓wLd_of hq, hlt, hc]
        refine ⟨by omega, .int (iz (P a (l + m + 1) + cG P N t (l + m + 1))), ?_⟩
        have : am (fun b => P a b + cG P N t b) l (m + 1) = am (fun b => P a b + cG P N t b) l m := by rw [am]; exact if_neg hc
        rw [this, show l + ((m + 1 + 1 : Nat) : Int) = l + m + 1 + 1 by omega]
  · have hj' : j = (N - t - 1 - l).toNat + 1 := by omega
    subst hj'
    simp (disch := omega) only [↓w_eBin, ↓w_eUn, ↓w_eDiv, ↓w_eRem, ↓w_eFld, ↓w_rFld, ↓w_eALd, ↓w_rALd, ↓w_eALen, ↓w_rStr, ↓w_aNil, ↓w_aI, ↓w_aR, ↓w_N, ↓w_eCall, ↓w_X, ↓w_bCmp, ↓w_bAnd, ↓w_bOr, ↓w_bNot, ↓w_eB, ↓w_eIte, ↓w_sSkip, ↓w_sRet, ↓w_sRetZ, ↓w_sRetV, ↓w_sBrk, ↓w_sCont, ↓w_sIf, ↓w_sSeq, ↓w_sCaC, ↓w_sCaB, ↓w_sSw, ↓w_sCall, ↓w_sPut, ↓w_sPutOp, ↓w_sASt, ↓w_sAOp, ↓w_sADiv, ↓w_eLoc0, ↓w_rLoc0, ↓w_sSet0, ↓w_sSetR0, ↓w_sIncP0, ↓w_sIncM0, ↓w_eLoc1, ↓w_rLoc1, ↓w_sSet1, ↓w_sSetR1, ↓w_sIncP1, ↓w_sIncM1, ↓w_eLoc2, ↓w_rLoc2, ↓w_sSet2, ↓w_sSetR2, ↓w_sIncP2, ↓w_sIncM2, ↓w_eLoc3, ↓w_rLoc3, ↓w_sSet3, ↓w_sSetR3, ↓w_sIncP3, ↓w_sIncM3, ↓w_eLoc4, ↓w_rLoc4, ↓w_sSet4, ↓w_sSetR4, ↓w_sIncP4, ↓w_sIncM4, ↓w_eLoc5, ↓w_rLoc5, ↓w_sSet5, ↓w_sSetR5, ↓w_sIncP5, ↓w_sIncM5, ↓w_eLoc6, ↓w_rLoc6, ↓w_sSet6, ↓w_sSetR6, ↓w_sIncP6, ↓w_sIncM6, ↓w_eLoc7, ↓w_rLoc7, ↓w_sSet7, ↓w_sSetR7, ↓w_sIncP7, ↓w_sIncM7, ↓w_eLoc8, ↓w_rLoc8, ↓w_sSet8, ↓w_sSetR8, ↓w_sIncP8, ↓w_sIncM8, ↓w_eLoc9, ↓w_rLoc9, ↓w_sSet9, ↓w_sSetR9, ↓w_sIncP9, ↓w_sIncM9, ↓w_eLoc10, ↓w_rLoc10, ↓w_sSet10, ↓w_sSetR10, ↓w_sIncP10, ↓w_sIncM10, ↓w_eLoc11, ↓w_rLoc11, ↓w_sSet11, ↓w_sSetR11, ↓w_sIncP11, ↓w_sIncM11, ↓w_eLoc12, ↓w_rLoc12, ↓w_sSet12, ↓w_sSetR12, ↓w_sIncP12, ↓w_sIncM12, ↓w_eLoc13, ↓w_rLoc13, ↓w_sSet13, ↓w_sSetR13, ↓w_sIncP13, ↓w_sIncM13, ↓w_eIntN, ↓w_eIntM, ↓w_bZi, ↓w_add, ↓w_sub, ↓w_mul, ↓w_neg, ↓w_nar, ↓w_div, ↓w_ldne, ↓w_ldat, ↓w_ldj, List.length_cons, List.length_nil, Nat.reduceAdd, Nat.reduceSub, Nat.reduceLeDiff, List.replicate_succ, List.replicate_zero, List.cons_append, List.nil_append, List.append_nil, iz_nI, iz_ofNat, iz_add, iz_sub, iz_mul, cz_lt, cz_le, cz_gt, cz_ge, cz_eq, cz_ne, mIn_iz, iz_nat, decide_eq_true_eq, Bool.not_eq_true', decide_eq_false_iff_not, true_and, and_true, ↓reduceIte, not_true_eq_false, not_false_eq_true, w01_bI, w01_i0, w01_i1, bI_ne', bI_eq', bI_t, bI_f, Bool.false_eq_true, false_implies, forall_const, implies_true, true_implies, imp_self, eq_self, ↓hO hs, ↓hR0 hs, ↓hR1 hs, ↓hR2 hs, ↓hR3 hs, ↓hR4 hs, ↓hI5 hs, ↓hA0 hs, ↓hA1 hs, ↓hA2 hs, ↓hA3 hs, ↓hA4 hs, ↓wLd_of h5, hlt]
    simp only [Nat.add_one_ne_zero, ↓reduceIte, Nat.add_sub_cancel, and_self]

/-! sums of weights, and what a piece costs -/
def pS (g : Int → Int) : Nat → Int
  | 0 => 0
  | n + 1 => pS g n + g n
theorem pS_ext {g h : Int → Int} (lo : Nat) : ∀ hi : Nat, lo ≤ hi → (∀ f : Nat, lo ≤ f → f < hi → g f = h f) → pS g hi - pS g lo = pS h hi - pS h lo := by
  intro hi
  induction hi with
  | zero =>
    intro h0 _
    have : lo = 0 := by omega
    subst this
    rfl
  | succ n ih =>
    intro h0 e
    by_cases c : lo = n + 1
    · subst c; omega
    · have := ih (by omega) (fun f f0 f1 => e f f0 (by omega))
      have := e n (by omega) (by omega)
      rw [pS, pS]; omega
theorem pS_bd {g : Int → Int} (M : Int) (lo : Nat) : ∀ hi : Nat, lo ≤ hi → (∀ f : Nat, lo ≤ f → f < hi → 0 ≤ g f ∧ g f ≤ M) → 0 ≤ pS g hi - pS g lo ∧ pS g hi - pS g lo ≤ ((hi : Int) - lo) * M := by
  intro hi
  induction hi with
  | zero =>
    intro h0 _
    have : lo = 0 := by omega
    subst this
    simp
  | succ n ih =>
    intro h0 e
    by_cases c : lo = n + 1
    · subst c; simp
    · have i := ih (by omega) (fun f f0 f1 => e f f0 (by omega))
      have j := e n (by omega) (by omega)
      have m : (((n + 1 : Nat) : Int) - lo) * M = ((n : Int) - lo) * M + M := by
        rw [show (((n + 1 : Nat) : Int) - lo) = ((n : Int) - lo) + 1 by omega, Int.add_mul, Int.one_mul]
      rw [pS]; omega
theorem pS_up {W : Int → Int} {a : Int} (n : Nat) : pS (fun f => W f * (f - a)) n = pS (fun f => W f * f) n - a * pS W n := by
  induction n with
  | zero => simp [pS]
  | succ n ih => rw [pS, pS, pS, ih, Int.mul_sub, Int.mul_add, Int.mul_comm (W n) a]; omega
theorem pS_dn {W : Int → Int} {a : Int} (n : Nat) : pS (fun f => W f * (a - f)) n = a * pS W n - pS (fun f => W f * f) n := by
  induction n with
  | zero => simp [pS]
  | succ n ih => rw [pS, pS, pS, ih, Int.mul_sub, Int.mul_add, Int.mul_comm (W n) a]; omega
def gB (W : Int → Int) (a b f : Int) : Int := W f * (if f - a < b - f then f - a else b - f)
def gP (W : Int → Int) (N a b : Int) : Int := if a = -1 then pS (fun f => W f * (b - f)) b.toNat else if b = N then pS (fun f => W f * (f - a)) N.toNat - pS (fun f => W f * (f - a)) (a + 1).toNat else pS (gB W a b) b.toNat - pS (gB W a b) (a + 1).toNat
theorem w_bd {x y : Int} (hx : 0 ≤ x ∧ x ≤ 99) (hy : 0 ≤ y ∧ y ≤ 80) : 0 ≤ x * y ∧ x * y ≤ 7920 := by
  refine ⟨Int.mul_nonneg hx.1 hy.1, ?_⟩
  have := Int.mul_le_mul hx.2 hy.2 hy.1 (by omega)
  omega
theorem gP_bd {W : Int → Int} {N : Int} (hN : N ≤ 80) (hW : ∀ f, 0 ≤ f → f < N → 0 ≤ W f ∧ W f ≤ 99) : cB (gP W N) N 0 := by
  intro a b ha hab hb hbN _
  unfold gP
  split
  · have := pS_bd (g := fun f => W f * (b - f)) 7920 0 b.toNat (by omega) (fun f f0 f1 => w_bd (hW f (by omega) (by omega)) (by omega))
    rw [show pS (fun f => W f * (b - f)) 0 = 0 from rfl] at this
    omega
  · split
    · have := pS_bd (g := fun f => W f * (f - a)) 7920 (a + 1).toNat N.toNat (by omega) (fun f f0 f1 => w_bd (hW f (by omega) (by omega)) (by omega))
      omega
    · have := pS_bd (g := gB W a b) 7920 (a + 1).toNat b.toNat (by omega) (fun f f0 f1 => by
        unfold gB
        exact w_bd (hW f (by omega) (by omega)) (by split <;> omega))
      omega
def zP (W : Int → Int) (sp dr a b : Int) : Int := (pS W b.toNat - pS W (if a = -1 then 1 else a).toNat) * (2 * (b - 1) * sp + (b - 1 - (if a = -1 then 1 else a) + 1) * dr)
theorem zP_bd {W : Int → Int} {N sp dr : Int} (hN : N ≤ 80) (hW : ∀ f, 0 ≤ f → f < N → 0 ≤ W f ∧ W f ≤ 99) (hs : 1 ≤ sp ∧ sp ≤ 9) (hd : 1 ≤ dr ∧ dr ≤ 9) : cB (zP W sp dr) N 1 := by
  intro a b ha hab hb hbN hlo
  unfold zP
  have h1 : (1 : Int) ≤ (if a = -1 then 1 else a) ∧ (if a = -1 then 1 else a) ≤ b := by split <;> omega
  generalize (if a = -1 then (1 : Int) else a) = l at h1 ⊢
  have p := pS_bd (g := W) 99 l.toNat b.toNat (by omega) (fun f f0 f1 => hW f (by omega) (by omega))
  have q1 : 0 ≤ (b - 1) * sp ∧ (b - 1) * sp ≤ 79 * 9 := ⟨Int.mul_nonneg (by omega) (by omega), Int.mul_le_mul (by omega) hs.2 (by omega) (by omega)⟩
  have q2 : 0 ≤ (b - 1 - l + 1) * dr ∧ (b - 1 - l + 1) * dr ≤ 79 * 9 := ⟨Int.mul_nonneg (by omega) (by omega), Int.mul_le_mul (by omega) hd.2 (by omega) (by omega)⟩
  rw [Int.mul_assoc]
  have q3 : 0 ≤ 2 * ((b - 1) * sp) + (b - 1 - l + 1) * dr ∧ 2 * ((b - 1) * sp) + (b - 1 - l + 1) * dr ≤ 2133 := by omega
  generalize 2 * ((b - 1) * sp) + (b - 1 - l + 1) * dr = y at q3 ⊢
  have p' : 0 ≤ pS W b.toNat - pS W l.toNat ∧ pS W b.toNat - pS W l.toNat ≤ 7920 := by omega
  generalize pS W b.toNat - pS W l.toNat = x at p' ⊢
  refine ⟨Int.mul_nonneg p'.1 q3.1, ?_⟩
  have := Int.mul_le_mul p'.2 q3.2 q3.1 (by omega)
  omega
/-- the weights as the class adds them up -/
def ChW (D : mMem) (s : Nat) (W : Int → Int) (N : Int) : Prop := D s 5 = iz N ∧ ∃ x y : Int, ∀ i : Int, 0 ≤ i → i ≤ N → D (s + 1 + 1) i.toNat = iz (x + pS W i.toNat) ∧ D (s + 1 + 2) i.toNat = iz (y + pS (fun f => W f * f) i.toNat)
theorem chW_fr {C D : mMem} {s : Nat} {W : Int → Int} {N : Int} (h : ChW C s W N) (d0 : D s 5 = C s 5) (d1 : D (s + 1 + 1) = C (s + 1 + 1)) (d2 : D (s + 1 + 2) = C (s + 1 + 2)) : ChW D s W N := by
  obtain ⟨h0, x, y, h1⟩ := h
  exact ⟨by rw [d0]; exact h0, x, y, fun i i0 i1 => by rw [d1, d2]; exact h1 i i0 i1⟩
theorem rc_weigh {C : mMem} {s : Nat} {W : Int → Int} {N : Int} (hs : chIs s) (hN : 0 ≤ N ∧ N ≤ 80) (hW : ∀ f, 0 ≤ f → f < N → C 42 f.toNat = iz (W f)) : ∃ D, f_Ch_weigh [.ref s, .ref 42, .int (iz N)] C = some (none, D) ∧ ChW D s W N ∧ (∀ a, a ≠ s → a ≠ s + 1 + 1 → a ≠ s + 1 + 2 → D a = C a) ∧ (∀ i, i ≠ 5 → D s i = C s i) := by
  have hsn : s ≠ 42 ∧ s + 1 + 1 ≠ 42 ∧ s + 1 + 2 ≠ 42 := by unfold chIs at hs; omega
  obtain ⟨x, hx, _⟩ := iz_ex (C (s + 1 + 1) 0)
  obtain ⟨y, hy, _⟩ := iz_ex (C (s + 1 + 2) 0)
  have key : wF f_Ch_weigh [.ref s, .ref 42, .int (iz N)] C (fun o D => o = none ∧ ChW D s W N ∧ (∀ a, a ≠ s → a ≠ s + 1 + 1 → a ≠ s + 1 + 2 → D a = C a) ∧ (∀ i, i ≠ 5 → D s i = C s i)) := by
    unfold f_Ch_weigh
    simp only [↓w_rcv, ↓w_bodyI, ↓w_bodyZ, ↓w_bodyV, true_and, List.length_cons, List.length_nil, Nat.reduceAdd, Nat.reduceSub, Nat.reduceLeDiff, List.replicate_succ, List.replicate_zero, List.cons_append, List.nil_append, List.append_nil, ↓hO hs]
    unfold S_Ch_weigh
    simp (disch := omega) only [↓w_eBin, ↓w_eUn, ↓w_eDiv, ↓w_eRem, ↓w_eFld, ↓w_rFld, ↓w_eALd, ↓w_rALd, ↓w_eALen, ↓w_rStr, ↓w_aNil, ↓w_aI, ↓w_aR, ↓w_N, ↓w_eCall, ↓w_X, ↓w_bCmp, ↓w_bAnd, ↓w_bOr, ↓w_bNot, ↓w_eB, ↓w_eIte, ↓w_sSkip, ↓w_sRet, ↓w_sRetZ, ↓w_sRetV, ↓w_sBrk, ↓w_sCont, ↓w_sIf, ↓w_sSeq, ↓w_sCaC, ↓w_sCaB, ↓w_sSw, ↓w_sCall, ↓w_sPut, ↓w_sPutOp, ↓w_sASt, ↓w_sAOp, ↓w_sADiv, ↓w_eLoc0, ↓w_rLoc0, ↓w_sSet0, ↓w_sSetR0, ↓w_sIncP0, ↓w_sIncM0, ↓w_eLoc1, ↓w_rLoc1, ↓w_sSet1, ↓w_sSetR1, ↓w_sIncP1, ↓w_sIncM1, ↓w_eLoc2, ↓w_rLoc2, ↓w_sSet2, ↓w_sSetR2, ↓w_sIncP2, ↓w_sIncM2, ↓w_eLoc3, ↓w_rLoc3, ↓w_sSet3, ↓w_sSetR3, ↓w_sIncP3, ↓w_sIncM3, ↓w_eLoc4, ↓w_rLoc4, ↓w_sSet4, ↓w_sSetR4, ↓w_sIncP4, ↓w_sIncM4, ↓w_eLoc5, ↓w_rLoc5, ↓w_sSet5, ↓w_sSetR5, ↓w_sIncP5, ↓w_sIncM5, ↓w_eLoc6, ↓w_rLoc6, ↓w_sSet6, ↓w_sSetR6, ↓w_sIncP6, ↓w_sIncM6, ↓w_eLoc7, ↓w_rLoc7, ↓w_sSet7, ↓w_sSetR7, ↓w_sIncP7, ↓w_sIncM7, ↓w_eLoc8, ↓w_rLoc8, ↓w_sSet8, ↓w_sSetR8, ↓w_sIncP8, ↓w_sIncM8, ↓w_eLoc9, ↓w_rLoc9, ↓w_sSet9, ↓w_sSetR9, ↓w_sIncP9, ↓w_sIncM9, ↓w_eLoc10, ↓w_rLoc10, ↓w_sSet10, ↓w_sSetR10, ↓w_sIncP10, ↓w_sIncM10, ↓w_eLoc11, ↓w_rLoc11, ↓w_sSet11, ↓w_sSetR11, ↓w_sIncP11, ↓w_sIncM11, ↓w_eLoc12, ↓w_rLoc12, ↓w_sSet12, ↓w_sSetR12, ↓w_sIncP12, ↓w_sIncM12, ↓w_eLoc13, ↓w_rLoc13, ↓w_sSet13, ↓w_sSetR13, ↓w_sIncP13, ↓w_sIncM13, ↓w_eIntN, ↓w_eIntM, ↓w_bZi, ↓w_add, ↓w_sub, ↓w_mul, ↓w_neg, ↓w_nar, ↓w_div, ↓w_ldne, ↓w_ldat, ↓w_ldj, List.length_cons, List.length_nil, Nat.reduceAdd, Nat.reduceSub, Nat.reduceLeDiff, List.replicate_succ, List.replicate_zero, List.cons_append, List.nil_append, List.append_nil, iz_nI, iz_ofNat, iz_add, iz_sub, iz_mul, cz_lt, cz_le, cz_gt, cz_ge, cz_eq, cz_ne, mIn_iz, iz_nat, decide_eq_true_eq, Bool.not_eq_true', decide_eq_false_iff_not, true_and, and_true, ↓reduceIte, not_true_eq_false, not_false_eq_true, w01_bI, w01_i0, w01_i1, bI_ne', bI_eq', bI_t, bI_f, Bool.false_eq_true, false_implies, forall_const, implies_true, true_implies, imp_self, eq_self, ↓hO hs, ↓hR0 hs, ↓hR1 hs, ↓hR2 hs, ↓hR3 hs, ↓hR4 hs, ↓hI5 hs, ↓hA0 hs, ↓hA1 hs, ↓hA2 hs, ↓hA3 hs, ↓hA4 hs]
    refine wS_up N.toNat (fun j l D => D s 5 = iz N ∧ (∀ i : Int, 0 ≤ i → i ≤ j → D (s + 1 + 1) i.toNat = iz (x + pS W i.toNat) ∧ D (s + 1 + 2) i.toNat = iz (y + pS (fun f => W f * f) i.toNat)) ∧ (∀ a, a ≠ s → a ≠ s + 1 + 1 → a ≠ s + 1 + 2 → D a = C a) ∧ (∀ i, i ≠ 5 → D s i = C s i) ∧ l = [.ref s, .ref 42, .int (iz N), .int (iz j)]) ?_ (Nat.zero_le _) ⟨up_at, fun i i0 i1 => ?_, fun a a1 _ _ => up_k a1, fun i hi => up_j hi, rfl⟩
    · rintro j l D hj ⟨h5, d1, d2, d3, rfl⟩
      by_cases hlt : (j : Int) < N
      · have e42 : D 42 (j : Int).toNat = iz (W j) := by rw [d2 42 (by omega) (by omega) (by omega)]; exact hW j (by omega) hlt
        obtain ⟨ex, ey⟩ := d1 j (by omega) (by omega)
        simp (disch := omega) only [↓w_eBin, ↓w_eUn, ↓w_eDiv, ↓w_eRem, ↓w_eFld, ↓w_rFld, ↓w_eALd, ↓w_rALd, ↓w_eALen, ↓w_rStr, ↓w_aNil, ↓w_aI, ↓w_aR, ↓w_N, ↓w_eCall, ↓w_X, ↓w_bCmp, ↓w_bAnd, ↓w_bOr, ↓w_bNot, ↓w_eB, ↓w_eIte, ↓w_sSkip, ↓w_sRet, ↓w_sRetZ, ↓w_sRetV, ↓w_sBrk, ↓w_sCont, ↓w_sIf, ↓w_sSeq, ↓w_sCaC, ↓w_sCaB, ↓w_sSw, ↓w_sCall, ↓w_sPut, ↓w_sPutOp, ↓w_sASt, ↓w_sAOp, ↓w_sADiv, ↓w_eLoc0, ↓w_rLoc0, ↓w_sSet0, ↓w_sSetR0, ↓w_sIncP0, ↓w_sIncM0, ↓w_eLoc1, ↓w_rLoc1, ↓w_sSet1, ↓w_sSetR1, ↓w_sIncP1, ↓w_sIncM1, ↓w_eLoc2, ↓w_rLoc2, ↓w_sSet2, ↓w_sSetR2, ↓w_sIncP2, ↓w_sIncM2, ↓w_eLoc3, ↓w_rLoc3, ↓w_sSet3, ↓w_sSetR3, ↓w_sIncP3, ↓w_sIncM3, ↓w_eLoc4, ↓w_rLoc4, ↓w_sSet4, ↓w_sSetR4, ↓w_sIncP4, ↓w_sIncM4, ↓w_eLoc5, ↓w_rLoc5, ↓w_sSet5, ↓w_sSetR5, ↓w_sIncP5, ↓w_sIncM5, ↓w_eLoc6, ↓w_rLoc6, ↓w_sSet6, ↓w_sSetR6, ↓w_sIncP6, ↓w_sIncM6, ↓w_eLoc7, ↓w_rLoc7, ↓w_sSet7, ↓w_sSetR7, ↓w_sIncP7, ↓w_sIncM7, ↓w_eLoc8, ↓w_rLoc8, ↓w_sSet8, ↓w_sSetR8, ↓w_sIncP8, ↓w_sIncM8, ↓w_eLoc9, ↓w_rLoc9, ↓w_sSet9, ↓w_sSetR9, ↓w_sIncP9, ↓w_sIncM9, ↓w_eLoc10, ↓w_rLoc10, ↓w_sSet10, ↓w_sSetR10, ↓w_sIncP10, ↓w_sIncM10, ↓w_eLoc11, ↓w_rLoc11, ↓w_sSet11, ↓w_sSetR11, ↓w_sIncP11, ↓w_sIncM11, ↓w_eLoc12, ↓w_rLoc12, ↓w_sSet12, ↓w_sSetR12, ↓w_sIncP12, ↓w_sIncM12, ↓w_eLoc13, ↓w_rLoc13, ↓w_sSet13, ↓w_sSetR13, ↓w_sIncP13, ↓w_sIncM13, ↓w_eIntN, ↓w_eIntM, ↓w_bZi, ↓w_add, ↓w_sub, ↓w_mul, ↓w_neg, ↓w_nar, ↓w_div, ↓w_ldne, ↓w_ldat, ↓w_ldj, List.length_cons, List.length_nil, Nat.reduceAdd, Nat.reduceSub, Nat.reduceLeDiff, List.replicate_succ, List.replicate_zero, List.cons_append, List.nil_append, List.append_nil, iz_nI, iz_ofNat, iz_add, iz_sub, iz_mul, cz_lt, cz_le, cz_gt, cz_ge, cz_eq, cz_ne, mIn_iz, iz_nat, decide_eq_true_eq, Bool.not_eq_true', decide_eq_false_iff_not, true_and, and_true, ↓reduceIte, not_true_eq_false, not_false_eq_true, w01_bI, w01_i0, w01_i1, bI_ne', bI_eq', bI_t, bI_f, Bool.false_eq_true, false_implies, forall_const, implies_true, true_implies, imp_self, eq_self, ↓hO hs, ↓hR0 hs, ↓hR1 hs, ↓hR2 hs, ↓hR3 hs, ↓hR4 hs, ↓hI5 hs, ↓hA0 hs, ↓hA1 hs, ↓hA2 hs, ↓hA3 hs, ↓hA4 hs, ↓tA_42, ↓tN_42, ↓wLd_of h5, ↓wLd_of e42, ↓wLd_of ex, ↓wLd_of ey, hlt]
        refine ⟨by omega, by rw [up_k (by omega), up_k (by omega)]; exact h5, fun i i0 i1 => ?_, fun a a1 a2 a3 => by rw [up_k a3, up_k a2]; exact d2 a a1 a2 a3, fun i hi => by rw [up_k (by omega), up_k (by omega)]; exact d3 i hi, rfl⟩
        by_cases e : i = j + 1
        · subst e
          rw [up_k (by omega), up_at, up_at, show ((j : Int) + 1).toNat = j + 1 by omega, pS, pS, Int.toNat_natCast]
          constructor <;> congr 1 <;> omega
        · obtain ⟨z1, z2⟩ := d1 i i0 (by omega)
          rw [up_k (by omega), up_j (by omega), up_j (by omega), up_k (by omega)]; exact ⟨z1, z2⟩
      · simp (disch := omega) only [↓w_eBin, ↓w_eUn, ↓w_eDiv, ↓w_eRem, ↓w_eFld, ↓w_rFld, ↓w_eALd, ↓w_rALd, ↓w_eALen, ↓w_rStr, ↓w_aNil, ↓w_aI, ↓w_aR, ↓w_N, ↓w_eCall, ↓w_X, ↓w_bCmp, ↓w_bAnd, ↓w_bOr, ↓w_bNot, ↓w_eB, ↓w_eIte, ↓w_sSkip, ↓w_sRet, ↓w_sRetZ, ↓w_sRetV, ↓w_sBrk, ↓w_sCont, ↓w_sIf, ↓w_sSeq, ↓w_sCaC, ↓w_sCaB, ↓w_sSw, ↓w_sCall, ↓w_sPut, ↓w_sPutOp, ↓w_sASt, ↓w_sAOp, ↓w_sADiv, ↓w_eLoc0, ↓w_rLoc0, ↓w_sSet0, ↓w_sSetR0, ↓w_sIncP0, ↓w_sIncM0, ↓w_eLoc1, ↓w_rLoc1, ↓w_sSet1, ↓w_sSetR1, ↓w_sIncP1, ↓w_sIncM1, ↓w_eLoc2, ↓w_rLoc2, ↓w_sSet2, ↓w_sSetR2, ↓w_sIncP2, ↓w_sIncM2, ↓w_eLoc3, ↓w_rLoc3, ↓w_sSet3, ↓w_sSetR3, ↓w_sIncP3, ↓w_sIncM3, ↓w_eLoc4, ↓w_rLoc4, ↓w_sSet4, ↓w_sSetR4, ↓w_sIncP4, ↓w_sIncM4, ↓w_eLoc5, ↓w_rLoc5, ↓w_sSet5, ↓w_sSetR5, ↓w_sIncP5, ↓w_sIncM5, ↓w_eLoc6, ↓w_rLoc6, ↓w_sSet6, ↓w_sSetR6, ↓w_sIncP6, ↓w_sIncM6, ↓w_eLoc7, ↓w_rLoc7, ↓w_sSet7, ↓w_sSetR7, ↓w_sIncP7, ↓w_sIncM7, ↓w_eLoc8, ↓w_rLoc8, ↓w_sSet8, ↓w_sSetR8, ↓w_sIncP8, ↓w_sIncM8, ↓w_eLoc9, ↓w_rLoc9, ↓w_sSet9, ↓w_sSetR9, ↓w_sIncP9, ↓w_sIncM9, ↓w_eLoc10, ↓w_rLoc10, ↓w_sSet10, ↓w_sSetR10, ↓w_sIncP10, ↓w_sIncM10, ↓w_eLoc11, ↓w_rLoc11, ↓w_sSet11, ↓w_sSetR11, ↓w_sIncP11, ↓w_sIncM11, ↓w_eLoc12, ↓w_rLoc12, ↓w_sSet12, ↓w_sSetR12, ↓w_sIncP12, ↓w_sIncM12, ↓w_eLoc13, ↓w_rLoc13, ↓w_sSet13, ↓w_sSetR13, ↓w_sIncP13, ↓w_sIncM13, ↓w_eIntN, ↓w_eIntM, ↓w_bZi, ↓w_add, ↓w_sub, ↓w_mul, ↓w_neg, ↓w_nar, ↓w_div, ↓w_ldne, ↓w_ldat, ↓w_ldj, List.length_cons, List.length_nil, Nat.reduceAdd, Nat.reduceSub, Nat.reduceLeDiff, List.replicate_succ, List.replicate_zero, List.cons_append, List.nil_append, List.append_nil, iz_nI, iz_ofNat, iz_add, iz_sub, iz_mul, cz_lt, cz_le, cz_gt, cz_ge, cz_eq, cz_ne, mIn_iz, iz_nat, decide_eq_true_eq, Bool.not_eq_true', decide_eq_false_iff_not, true_and, and_true, ↓reduceIte, not_true_eq_false, not_false_eq_true, w01_bI, w01_i0, w01_i1, bI_ne', bI_eq', bI_t, bI_f, Bool.false_eq_true, false_implies, forall_const, implies_true, true_implies, imp_self, eq_self, ↓hO hs, ↓hR0 hs, ↓hR1 hs, ↓hR2 hs, ↓hR3 hs, ↓hR4 hs, ↓hI5 hs, ↓hA0 hs, ↓hA1 hs, ↓hA2 hs, ↓hA3 hs, ↓hA4 hs, ↓wLd_of h5, hlt]
        exact ⟨⟨h5, x, y, fun i i0 i1 => d1 i i0 (by omega)⟩, d2, d3⟩
    · have : i = 0 := by omega
      subst this
      rw [up_k (by omega), up_k (by omega)]
      refine ⟨?_, ?_⟩
      · rw [show (0 : Int).toNat = 0 from rfl, hx, show pS W 0 = 0 from rfl, Int.add_zero]
      · rw [show (0 : Int).toNat = 0 from rfl, hy, show pS (fun f => W f * f) 0 = 0 from rfl, Int.add_zero]
  obtain ⟨o, D, e, rfl, d⟩ := wF_of key
  exact ⟨D, e, d⟩
theorem wf_wOf {D : mMem} {s : Nat} {W : Int → Int} {N a b : Int} {Q : Option Int32 → mMem → Prop} (hs : chIs s) (h : ChW D s W N) (hN : N ≤ 80) (hab : 0 ≤ a ∧ a ≤ b + 1 ∧ b + 1 ≤ N) : wF f_Ch_weightOf [.ref s, .int (iz a), .int (iz b)] D Q ↔ Q (some (iz (pS W (b + 1).toNat - pS W a.toNat))) D := by
  obtain ⟨h0, x, y, h1⟩ := h
  have e1 := (h1 (b + 1) (by omega) (by omega)).1
  have e2 := (h1 a (by omega) (by omega)).1
  unfold f_Ch_weightOf
  simp only [↓w_rcv, ↓w_bodyI, ↓w_bodyZ, ↓w_bodyV, true_and, List.length_cons, List.length_nil, Nat.reduceAdd, Nat.reduceSub, Nat.reduceLeDiff, List.replicate_succ, List.replicate_zero, List.cons_append, List.nil_append, List.append_nil, ↓hO hs]
  unfold S_Ch_weightOf
  simp (disch := omega) only [↓w_eBin, ↓w_eUn, ↓w_eDiv, ↓w_eRem, ↓w_eFld, ↓w_rFld, ↓w_eALd, ↓w_rALd, ↓w_eALen, ↓w_rStr, ↓w_aNil, ↓w_aI, ↓w_aR, ↓w_N, ↓w_eCall, ↓w_X, ↓w_bCmp, ↓w_bAnd, ↓w_bOr, ↓w_bNot, ↓w_eB, ↓w_eIte, ↓w_sSkip, ↓w_sRet, ↓w_sRetZ, ↓w_sRetV, ↓w_sBrk, ↓w_sCont, ↓w_sIf, ↓w_sSeq, ↓w_sCaC, ↓w_sCaB, ↓w_sSw, ↓w_sCall, ↓w_sPut, ↓w_sPutOp, ↓w_sASt, ↓w_sAOp, ↓w_sADiv, ↓w_eLoc0, ↓w_rLoc0, ↓w_sSet0, ↓w_sSetR0, ↓w_sIncP0, ↓w_sIncM0, ↓w_eLoc1, ↓w_rLoc1, ↓w_sSet1, ↓w_sSetR1, ↓w_sIncP1, ↓w_sIncM1, ↓w_eLoc2, ↓w_rLoc2, ↓w_sSet2, ↓w_sSetR2, ↓w_sIncP2, ↓w_sIncM2, ↓w_eLoc3, ↓w_rLoc3, ↓w_sSet3, ↓w_sSetR3, ↓w_sIncP3, ↓w_sIncM3, ↓w_eLoc4, ↓w_rLoc4, ↓w_sSet4, ↓w_sSetR4, ↓w_sIncP4, ↓w_sIncM4, ↓w_eLoc5, ↓w_rLoc5, ↓w_sSet5, ↓w_sSetR5, ↓w_sIncP5, ↓w_sIncM5, ↓w_eLoc6, ↓w_rLoc6, ↓w_sSet6, ↓w_sSetR6, ↓w_sIncP6, ↓w_sIncM6, ↓w_eLoc7, ↓w_rLoc7, ↓w_sSet7, ↓w_sSetR7, ↓w_sIncP7, ↓w_sIncM7, ↓w_eLoc8, ↓w_rLoc8, ↓w_sSet8, ↓w_sSetR8, ↓w_sIncP8, ↓w_sIncM8, ↓w_eLoc9, ↓w_rLoc9, ↓w_sSet9, ↓w_sSetR9, ↓w_sIncP9, ↓w_sIncM9, ↓w_eLoc10, ↓w_rLoc10, ↓w_sSet10, ↓w_sSetR10, ↓w_sIncP10, ↓w_sIncM10, ↓w_eLoc11, ↓w_rLoc11, ↓w_sSet11, ↓w_sSetR11, ↓w_sIncP11, ↓w_sIncM11, ↓w_eLoc12, ↓w_rLoc12, ↓w_sSet12, ↓w_sSetR12, ↓w_sIncP12, ↓w_sIncM12, ↓w_eLoc13, ↓w_rLoc13, ↓w_sSet13, ↓w_sSetR13, ↓w_sIncP13, ↓w_sIncM13, ↓w_eIntN, ↓w_eIntM, ↓w_bZi, ↓w_add, ↓w_sub, ↓w_mul, ↓w_neg, ↓w_nar, ↓w_div, ↓w_ldne, ↓w_ldat, ↓w_ldj, List.length_cons, List.length_nil, Nat.reduceAdd, Nat.reduceSub, Nat.reduceLeDiff, List.replicate_succ, List.replicate_zero, List.cons_append, List.nil_append, List.append_nil, iz_nI, iz_ofNat, iz_add, iz_sub, iz_mul, cz_lt, cz_le, cz_gt, cz_ge, cz_eq, cz_ne, mIn_iz, iz_nat, decide_eq_true_eq, Bool.not_eq_true', decide_eq_false_iff_not, true_and, and_true, ↓reduceIte, not_true_eq_false, not_false_eq_true, w01_bI, w01_i0, w01_i1, bI_ne', bI_eq', bI_t, bI_f, Bool.false_eq_true, false_implies, forall_const, implies_true, true_implies, imp_self, eq_self, ↓hO hs, ↓hR0 hs, ↓hR1 hs, ↓hR2 hs, ↓hR3 hs, ↓hR4 hs, ↓hI5 hs, ↓hA0 hs, ↓hA1 hs, ↓hA2 hs, ↓hA3 hs, ↓hA4 hs, ↓wLd_of e1, ↓wLd_of e2]
  rw [show x + pS W (b + 1).toNat - (x + pS W a.toNat) = pS W (b + 1).toNat - pS W a.toNat by omega]
theorem wf_dOf {D : mMem} {s : Nat} {W : Int → Int} {N a b c : Int} {Q : Option Int32 → mMem → Prop} (hs : chIs s) (h : ChW D s W N) (hN : N ≤ 80) (hab : 0 ≤ a ∧ a ≤ b + 1 ∧ b + 1 ≤ N) : wF f_Ch_distanceOf [.ref s, .int (iz a), .int (iz b), .int (iz c)] D Q ↔ Q (some (iz (pS (fun f => W f * f) (b + 1).toNat - pS (fun f => W f * f) a.toNat - c * (pS W (b + 1).toNat - pS W a.toNat)))) D := by
  have hh := h
  obtain ⟨h0, x, y, h1⟩ := h
  have e1 := (h1 (b + 1) (by omega) (by omega)).2
  have e2 := (h1 a (by omega) (by omega)).2
  unfold f_Ch_distanceOf
  simp only [↓w_rcv, ↓w_bodyI, ↓w_bodyZ, ↓w_bodyV, true_and, List.length_cons, List.length_nil, Nat.reduceAdd, Nat.reduceSub, Nat.reduceLeDiff, List.replicate_succ, List.replicate_zero, List.cons_append, List.nil_append, List.append_nil, ↓hO hs]
  unfold S_Ch_distanceOf
  simp (disch := omega) only [↓w_eBin, ↓w_eUn, ↓w_eDiv, ↓w_eRem, ↓w_eFld, ↓w_rFld, ↓w_eALd, ↓w_rALd, ↓w_eALen, ↓w_rStr, ↓w_aNil, ↓w_aI, ↓w_aR, ↓w_N, ↓w_eCall, ↓w_X, ↓w_bCmp, ↓w_bAnd, ↓w_bOr, ↓w_bNot, ↓w_eB, ↓w_eIte, ↓w_sSkip, ↓w_sRet, ↓w_sRetZ, ↓w_sRetV, ↓w_sBrk, ↓w_sCont, ↓w_sIf, ↓w_sSeq, ↓w_sCaC, ↓w_sCaB, ↓w_sSw, ↓w_sCall, ↓w_sPut, ↓w_sPutOp, ↓w_sASt, ↓w_sAOp, ↓w_sADiv, ↓w_eLoc0, ↓w_rLoc0, ↓w_sSet0, ↓w_sSetR0, ↓w_sIncP0, ↓w_sIncM0, ↓w_eLoc1, ↓w_rLoc1, ↓w_sSet1, ↓w_sSetR1, ↓w_sIncP1, ↓w_sIncM1, ↓w_eLoc2, ↓w_rLoc2, ↓w_sSet2, ↓w_sSetR2, ↓w_sIncP2, ↓w_sIncM2, ↓w_eLoc3, ↓w_rLoc3, ↓w_sSet3, ↓w_sSetR3, ↓w_sIncP3, ↓w_sIncM3, ↓w_eLoc4, ↓w_rLoc4, ↓w_sSet4, ↓w_sSetR4, ↓w_sIncP4, ↓w_sIncM4, ↓w_eLoc5, ↓w_rLoc5, ↓w_sSet5, ↓w_sSetR5, ↓w_sIncP5, ↓w_sIncM5, ↓w_eLoc6, ↓w_rLoc6, ↓w_sSet6, ↓w_sSetR6, ↓w_sIncP6, ↓w_sIncM6, ↓w_eLoc7, ↓w_rLoc7, ↓w_sSet7, ↓w_sSetR7, ↓w_sIncP7, ↓w_sIncM7, ↓w_eLoc8, ↓w_rLoc8, ↓w_sSet8, ↓w_sSetR8, ↓w_sIncP8, ↓w_sIncM8, ↓w_eLoc9, ↓w_rLoc9, ↓w_sSet9, ↓w_sSetR9, ↓w_sIncP9, ↓w_sIncM9, ↓w_eLoc10, ↓w_rLoc10, ↓w_sSet10, ↓w_sSetR10, ↓w_sIncP10, ↓w_sIncM10, ↓w_eLoc11, ↓w_rLoc11, ↓w_sSet11, ↓w_sSetR11, ↓w_sIncP11, ↓w_sIncM11, ↓w_eLoc12, ↓w_rLoc12, ↓w_sSet12, ↓w_sSetR12, ↓w_sIncP12, ↓w_sIncM12, ↓w_eLoc13, ↓w_rLoc13, ↓w_sSet13, ↓w_sSetR13, ↓w_sIncP13, ↓w_sIncM13, ↓w_eIntN, ↓w_eIntM, ↓w_bZi, ↓w_add, ↓w_sub, ↓w_mul, ↓w_neg, ↓w_nar, ↓w_div, ↓w_ldne, ↓w_ldat, ↓w_ldj, List.length_cons, List.length_nil, Nat.reduceAdd, Nat.reduceSub, Nat.reduceLeDiff, List.replicate_succ, List.replicate_zero, List.cons_append, List.nil_append, List.append_nil, iz_nI, iz_ofNat, iz_add, iz_sub, iz_mul, cz_lt, cz_le, cz_gt, cz_ge, cz_eq, cz_ne, mIn_iz, iz_nat, decide_eq_true_eq, Bool.not_eq_true', decide_eq_false_iff_not, true_and, and_true, ↓reduceIte, not_true_eq_false, not_false_eq_true, w01_bI, w01_i0, w01_i1, bI_ne', bI_eq', bI_t, bI_f, Bool.false_eq_true, false_implies, forall_const, implies_true, true_implies, imp_self, eq_self, ↓hO hs, ↓hR0 hs, ↓hR1 hs, ↓hR2 hs, ↓hR3 hs, ↓hR4 hs, ↓hI5 hs, ↓hA0 hs, ↓hA1 hs, ↓hA2 hs, ↓hA3 hs, ↓hA4 hs, ↓wLd_of e1, ↓wLd_of e2, ↓wf_wOf hs hh hN]
  rw [show y + pS (fun f => W f * f) (b + 1).toNat - (y + pS (fun f => W f * f) a.toNat) = pS (fun f => W f * f) (b + 1).toNat - pS (fun f => W f * f) a.toNat by omega]

/-! WEAKEST PRECONDITIONS of the words -/
theorem w_ob {α β : Type} (o : Option α) (g : α → Option β) (P : β → Prop) : (∃ p, o.bind g = some p ∧ P p) ↔ ∃ q, o = some q ∧ ∃ p, g q = some p ∧ P p := by
  constructor
  · rintro ⟨p, h, hp⟩
    obtain ⟨q, hq, hg⟩ := Option.bind_eq_some_iff.mp h
    exact ⟨q, hq, p, hg, hp⟩
  · rintro ⟨q, hq, p, hg, hp⟩
    exact ⟨p, Option.bind_eq_some_iff.mpr ⟨q, hq, hg⟩, hp⟩
theorem w_os {α : Type} (x : α) (P : α → Prop) : (∃ p, some x = some p ∧ P p) ↔ P x := by simp
theorem w_on {α : Type} (P : α → Prop) : (∃ p, (none : Option α) = some p ∧ P p) ↔ False := by simp
theorem w_oi {α : Type} (t : Prop) (h : Decidable t) (x y : Option α) (P : α → Prop) : (∃ p, (@ite _ t h x y) = some p ∧ P p) ↔ @ite _ t h (∃ p, x = some p ∧ P p) (∃ p, y = some p ∧ P p) := by
  by_cases z : t <;> simp [z]
def wE (e : mEI) (ls : List Value) (C : mMem) (Q : Int32 → mMem → Prop) : Prop := ∃ p, e ls C = some p ∧ Q p.1 p.2
def wR (e : mER) (ls : List Value) (C : mMem) (Q : Nat → mMem → Prop) : Prop := ∃ p, e ls C = some p ∧ Q p.1 p.2
def wB (e : mEB) (ls : List Value) (C : mMem) (Q : Bool → mMem → Prop) : Prop := ∃ p, e ls C = some p ∧ Q p.1 p.2
def wA (e : mAS) (ls : List Value) (C : mMem) (Q : List Value → mMem → Prop) : Prop := ∃ p, e ls C = some p ∧ Q p.1 p.2
def wF (f : mSem) (as : List Value) (C : mMem) (Q : Option Int32 → mMem → Prop) : Prop := ∃ p, f as C = some p ∧ Q p.1 p.2
def wK (r : mSR) (N : List Value → mMem → Prop) (R : Option Int32 → mMem → Prop) (K : Bool → List Value → mMem → Prop) : Prop := match r with
  | .inl q => N q.1 q.2
  | .inr (.inl q) => R q.1 q.2
  | .inr (.inr q) => K q.1 q.2.1 q.2.2
def wS (S : mSS) (ls : List Value) (C : mMem) (N : List Value → mMem → Prop) (R : Option Int32 → mMem → Prop) (K : Bool → List Value → mMem → Prop) : Prop := ∃ r, S ls C = some r ∧ wK r N R K
/-- an int field, a cell field, an array's place -/
def wIk (cs : List Nat) (j k : Nat) (P : Prop) : Prop := mI cs j k = true ∧ P
def wRk (cs : List Nat) (j k : Nat) (P : Nat → Prop) : Prop := ∃ t, mR cs j k = some t ∧ P t
def wAk (ty : FieldType) (k : Nat) (x : Int32) (P : Nat → Prop) : Prop := ∃ n, mA ty k = some n ∧ mIn x n = true ∧ P x.toNatClampNeg
/-- a load, and sums, by their results -/
def wLd (C : mMem) (k i : Nat) (P : Int32 → Prop) : Prop := P (C k i)
def wO2 (g : Int32 → Int32 → Int32) (x y : Int32) (P : Int32 → Prop) : Prop := P (g x y)
def wO1 (g : Int32 → Int32) (x : Int32) (P : Int32 → Prop) : Prop := P (g x)
def wDv (x y : Int32) (P : Int32 → Prop) : Prop := ¬ y = 0 ∧ P (x / y)
def wRm (x y : Int32) (P : Int32 → Prop) : Prop := ¬ y = 0 ∧ P (x - x / y * y)
def wNk (ty : FieldType) (k : Nat) (P : Int32 → Prop) : Prop := ∃ n, mA ty k = some n ∧ P (Int32.ofNat n)
def wQk (k : Nat) (x : Int32) (P : Nat → Prop) : Prop := ∃ ts, mQ k = some ts ∧ mIn x ts.length = true ∧ ∃ t, ts[x.toNatClampNeg]? = some t ∧ P t
def wOk (cs : List Nat) (k : Nat) (P : Prop) : Prop := mO cs k = true ∧ P
section
variable {ls : List Value} {C : mMem} {v : Int32} {a b : mEI} {r r2 : mER} {c d : mEB} {t : mAS} {S S2 : mSS} {f : mSem} {g : Int32 → Int32 → Int32} {h : Int32 → Int32} {cs : List Nat} {j k : Nat} {ty : FieldType} {cd : ClassFile.Cond} {Q : Int32 → mMem → Prop} {QR : Nat → mMem → Prop} {QB : Bool → mMem → Prop} {QA : List Value → mMem → Prop} {N : List Value → mMem → Prop} {R : Option Int32 → mMem → Prop} {K : Bool → List Value → mMem → Prop}
theorem w_eInt : wE (eInt v) ls C Q ↔ Q v C := by
  simp only [wE, eInt, w_ob, w_os, w_on, w_oi]
theorem w_eBin : wE (eBin g a b) ls C Q ↔ wE a ls C fun x C => wE b ls C fun y C => wO2 g x y fun v => Q v C := by
  simp only [wE, wO2, eBin, w_ob, w_os, w_on, w_oi]
theorem w_eUn : wE (eUn h a) ls C Q ↔ wE a ls C fun x C => wO1 h x fun v => Q v C := by
  simp only [wE, wO1, eUn, w_ob, w_os, w_on, w_oi]
theorem w_ite {t : Prop} {h : Decidable t} {P : Prop} : (@ite _ t h P False) ↔ t ∧ P := by by_cases z : t <;> simp [z]
theorem w_itf {t : Prop} {h : Decidable t} {P : Prop} : (@ite _ t h False P) ↔ ¬ t ∧ P := by by_cases z : t <;> simp [z]
theorem w_eDiv : wE (eDiv a b) ls C Q ↔ wE a ls C fun x C => wE b ls C fun y C => wDv x y fun v => Q v C := by
  simp only [wE, wDv, eDiv, w_ob, w_os, w_on, w_oi, w_itf]
theorem w_eRem : wE (eRem a b) ls C Q ↔ wE a ls C fun x C => wE b ls C fun y C => wRm x y fun v => Q v C := by
  simp only [wE, wRm, eRem, w_ob, w_os, w_on, w_oi, w_itf]
theorem w_eFld : wE (eFld cs j r) ls C Q ↔ wR r ls C fun k C => wIk cs j k (wLd C k j fun v => Q v C) := by
  simp only [wE, wR, wIk, wLd, eFld, w_ob, w_os, w_on, w_oi, w_ite]
theorem w_rFld : wR (rFld cs j r) ls C QR ↔ wR r ls C fun k C => wRk cs j k fun t => QR t C := by
  simp only [wR, wRk, rFld, w_ob, w_os, w_on, w_oi]
theorem w_eALd : wE (eALd ty r a) ls C Q ↔ wR r ls C fun k C => wE a ls C fun x C => wAk ty k x fun i => wLd C k i fun v => Q v C := by
  simp only [wE, wR, wAk, wLd, eALd, w_ob, w_os, w_on, w_oi, w_ite]
theorem w_rALd : wR (rALd r a) ls C QR ↔ wR r ls C fun k C => wE a ls C fun x C => wQk k x fun t => QR t C := by
  simp only [wE, wR, wQk, rALd, w_ob, w_os, w_on, w_oi, w_ite]
theorem w_eALen : wE (eALen ty r) ls C Q ↔ wR r ls C fun k C => wNk ty k fun n => Q n C := by
  simp only [wE, wR, wNk, eALen, w_ob, w_os, w_on, w_oi]
theorem w_rStr : wR (rStr k) ls C QR ↔ QR k C := by
  simp only [wR, rStr, w_ob, w_os, w_on, w_oi]
theorem w_aNil : wA aNil ls C QA ↔ QA [] C := by
  simp only [wA, aNil, w_ob, w_os, w_on, w_oi]
theorem w_aI : wA (aI a t) ls C QA ↔ wE a ls C fun x C => wA t ls C fun as C => QA (.int x :: as) C := by
  simp only [wA, wE, aI, w_ob, w_os, w_on, w_oi]
theorem w_aR : wA (aR r t) ls C QA ↔ wR r ls C fun x C => wA t ls C fun as C => QA (.ref x :: as) C := by
  simp only [wA, wR, aR, w_ob, w_os, w_on, w_oi]
def wX (o : Option Int32) (P : Int32 → Prop) : Prop := ∃ x, o = some x ∧ P x
def wN (o : Option Int32) (P : Prop) : Prop := o = none ∧ P
def w01 (x : Int32) : Prop := (x == 0 || x == 1) = true
def bI (t : Bool) : Int32 := if t = true then 1 else 0
theorem w_N {P : Prop} : wN none P ↔ P := by simp [wN]
theorem w01_bI {t : Bool} : w01 (bI t) := by unfold w01; cases t <;> decide
theorem w01_0 : w01 0 := by unfold w01; decide
theorem w01_1 : w01 1 := by unfold w01; decide
theorem bI_t : bI true = 1 := rfl
theorem bI_f : bI false = 0 := rfl
theorem bI_ne {t : Bool} : cz .ne (bI t) 0 = t := by cases t <;> decide
theorem bI_eq {t : Bool} : cz .eq (bI t) 0 = !t := by cases t <;> decide
theorem bI_inj {s t : Bool} : bI s = bI t ↔ s = t := by cases s <;> cases t <;> decide
theorem w_eCall : wE (eCall f t) ls C Q ↔ wA t ls C fun as C => wF f as C fun o C => wX o fun x => Q x C := by
  simp only [wE, wA, wF, wX, eCall, w_ob, w_os, w_on, w_oi]
theorem w_X {x : Int32} {P : Int32 → Prop} : wX (some x) P ↔ P x := by simp [wX]
theorem w_bCmp : wB (bCmp cd a b) ls C QB ↔ wE a ls C fun x C => wE b ls C fun y C => QB (cz cd x y) C := by
  simp only [wE, wB, bCmp, w_ob, w_os, w_on, w_oi]
theorem w_bZ : wB (bZ cd a) ls C QB ↔ wE a ls C fun x C => QB (cz cd x 0) C := by
  simp only [wE, wB, bZ, w_ob, w_os, w_on, w_oi]
theorem w_bAnd : wB (bAnd c d) ls C QB ↔ wB c ls C fun x C => if x = true then wB d ls C QB else QB false C := by
  simp only [wB, bAnd, w_ob, w_os, w_on, w_oi]
theorem w_bOr : wB (bOr c d) ls C QB ↔ wB c ls C fun x C => if x = true then QB true C else wB d ls C QB := by
  simp only [wB, bOr, w_ob, w_os, w_on, w_oi]
theorem w_bNot : wB (bNot c) ls C QB ↔ wB c ls C fun x C => QB (!x) C := by
  simp only [wB, bNot, w_ob, w_os, w_on, w_oi]
theorem w_eB : wE (eB c) ls C Q ↔ wB c ls C fun x C => Q (bI x) C := by
  simp only [wE, wB, eB, bI, w_ob, w_os, w_on, w_oi]
theorem w_eIte : wE (eIte c a b) ls C Q ↔ wB c ls C fun x C => if x = true then wE a ls C Q else wE b ls C Q := by
  simp only [wE, wB, eIte, w_ob, w_os, w_on, w_oi]
theorem w_sSkip : wS sSkip ls C N R K ↔ N ls C := by
  simp only [wS, sSkip, w_ob, w_os, w_on, w_oi, wK]
theorem w_sRet : wS (sRet a) ls C N R K ↔ wE a ls C fun x C => R (some x) C := by
  simp only [wS, wE, sRet, w_ob, w_os, w_on, w_oi, wK]
theorem w_sRetZ : wS (sRetZ a) ls C N R K ↔ wE a ls C fun x C => w01 x ∧ R (some x) C := by
  simp only [wS, wE, sRetZ, w01, w_ob, w_os, w_on, w_oi, wK, w_ite]
theorem w_sRetV : wS sRetV ls C N R K ↔ R none C := by
  simp only [wS, sRetV, w_ob, w_os, w_on, w_oi, wK]
theorem w_sBrk : wS sBrk ls C N R K ↔ K false ls C := by
  simp only [wS, sBrk, w_ob, w_os, w_on, w_oi, wK]
theorem w_sCont : wS sCont ls C N R K ↔ K true ls C := by
  simp only [wS, sCont, w_ob, w_os, w_on, w_oi, wK]
theorem w_sIf : wS (sIf c S S2) ls C N R K ↔ wB c ls C fun x C => if x = true then wS S ls C N R K else wS S2 ls C N R K := by
  simp only [wS, wB, sIf, w_ob, w_os, w_on, w_oi]
theorem w_sSeq : wS (sSeq S S2) ls C N R K ↔ wS S ls C (fun l C => wS S2 l C N R K) R K := by
  simp only [wS, sSeq, w_ob]
  apply exists_congr; intro q
  apply and_congr_right; intro _
  rcases q with q | q | q
  · rfl
  · simp only [w_os, wK]
  · simp only [w_os, wK]
theorem w_sCaC : wS (sCaC S) ls C N R K ↔ wS S ls C N R (fun t l C => if t = true then N l C else K false l C) := by
  simp only [wS, sCaC, w_ob]
  apply exists_congr; intro q
  apply and_congr_right; intro _
  rcases q with q | q | ⟨_ | _, q⟩ <;> simp [wK]
theorem w_sCaB : wS (sCaB S) ls C N R K ↔ wS S ls C N R (fun t l C => if t = true then K true l C else N l C) := by
  simp only [wS, sCaB, w_ob]
  apply exists_congr; intro q
  apply and_congr_right; intro _
  rcases q with q | q | ⟨_ | _, q⟩ <;> simp [wK]
theorem w_sSw {g : Int32 → mSS} : wS (sSw a g) ls C N R K ↔ wE a ls C fun x C => wS (g x) ls C N R K := by
  simp only [wS, wE, sSw, w_ob]
theorem w_sCall : wS (sCall f t) ls C N R K ↔ wA t ls C fun as C => wF f as C fun o C => wN o (N ls C) := by
  simp only [wS, wA, wF, wN, sCall, w_ob]
  apply exists_congr; intro q
  apply and_congr_right; intro _
  apply exists_congr; intro q
  apply and_congr_right; intro _
  rcases q with ⟨_ | _, q⟩ <;> simp [wK]
theorem w_sPut {bb : Bool} : wS (sPut cs j bb r a) ls C N R K ↔ wR r ls C fun k C => wE a ls C fun x C => wIk cs j k ((bb = true → w01 x) ∧ N ls (mUp C k j x)) := by
  have e : ∀ x : Int32, ((!bb || x == 0 || x == 1) = true) = (bb = true → w01 x) := fun x => by cases bb <;> simp [w01]
  simp only [e, wS, wR, wE, wIk, sPut, w_ob, w_os, w_on, w_oi, w_ite, wK, Bool.and_eq_true, and_assoc]
theorem w_sPutOp {bb : Bool} : wS (sPutOp cs j bb g r a) ls C N R K ↔ wR r ls C fun k C => wIk cs j k (wLd C k j fun u => wE a ls C fun x D => wO2 g u x fun v => (bb = true → w01 v) ∧ N ls (mUp D k j v)) := by
  have e : ∀ x : Int32, ((!bb || x == 0 || x == 1) = true) = (bb = true → w01 x) := fun x => by cases bb <;> simp [w01]
  simp only [e, wS, wR, wE, wIk, wLd, wO2, sPutOp, w_ob, w_os, w_on, w_oi, w_ite, wK]
theorem w_sASt {e : mEI} : wS (sASt ty r a e) ls C N R K ↔ wR r ls C fun k C => wE a ls C fun x C => wE e ls C fun y C => wAk ty k x fun i => wO1 (mNar ty) y fun v => N ls (mUp C k i v) := by
  simp only [wS, wR, wE, wAk, wO1, sASt, w_ob, w_os, w_on, w_oi, w_ite, wK]
theorem w_sAOp {e : mEI} : wS (sAOp g r a e) ls C N R K ↔ wR r ls C fun k C => wE a ls C fun x C => wAk .int k x fun i => wLd C k i fun u => wE e ls C fun y D => wO2 g u y fun v => N ls (mUp D k i v) := by
  simp only [wS, wR, wE, wAk, wLd, wO2, sAOp, w_ob, w_os, w_on, w_oi, w_ite, wK]
theorem w_sADiv {e : mEI} : wS (sADiv r a e) ls C N R K ↔ wR r ls C fun k C => wE a ls C fun x C => wAk .int k x fun i => wLd C k i fun u => wE e ls C fun y D => wDv u y fun v => N ls (mUp D k i v) := by
  simp only [wS, wR, wE, wAk, wLd, wDv, sADiv, w_ob, w_os, w_on, w_oi, w_ite, w_itf, wK]
end
theorem w_eLoc0 {x : Int32} {l : List Value} {C : mMem} {Q : Int32 → mMem → Prop} : wE (eLoc 0) (.int x :: l) C Q ↔ Q x C := by
  show (∃ p, some (x, C) = some p ∧ Q p.1 p.2) ↔ Q x C
  rw [w_os]
theorem w_rLoc0 {x : Nat} {l : List Value} {C : mMem} {Q : Nat → mMem → Prop} : wR (rLoc 0) (.ref x :: l) C Q ↔ Q x C := by
  show (∃ p, some (x, C) = some p ∧ Q p.1 p.2) ↔ Q x C
  rw [w_os]
theorem w_sSet0 {u : Value} {l : List Value} {C : mMem} {a : mEI} {N : List Value → mMem → Prop} {R : Option Int32 → mMem → Prop} {K : Bool → List Value → mMem → Prop} : wS (sSet 0 a) (u :: l) C N R K ↔ wE a (u :: l) C fun x C => N (.int x :: l) C := by
  simp [wS, wE, sSet, w_ob, w_os, w_on, w_oi, wK]
theorem w_sSetR0 {u : Value} {l : List Value} {C : mMem} {a : mER} {N : List Value → mMem → Prop} {R : Option Int32 → mMem → Prop} {K : Bool → List Value → mMem → Prop} : wS (sSetR 0 a) (u :: l) C N R K ↔ wR a (u :: l) C fun x C => N (.ref x :: l) C := by
  simp [wS, wR, sSetR, w_ob, w_os, w_on, w_oi, wK]
theorem w_sInc0 {x v : Int32} {l : List Value} {C : mMem} {N : List Value → mMem → Prop} {R : Option Int32 → mMem → Prop} {K : Bool → List Value → mMem → Prop} : wS (sInc 0 v) (.int x :: l) C N R K ↔ N (.int (x + v) :: l) C := by
  show (∃ r, some (Sum.inl (.int (x + v) :: l, C)) = some r ∧ wK r N R K) ↔ _
  rw [w_os]; rfl
theorem w_eLoc1 {v0 : Value} {x : Int32} {l : List Value} {C : mMem} {Q : Int32 → mMem → Prop} : wE (eLoc 1) (v0 :: .int x :: l) C Q ↔ Q x C := by
  show (∃ p, some (x, C) = some p ∧ Q p.1 p.2) ↔ Q x C
  rw [w_os]
theorem w_rLoc1 {v0 : Value} {x : Nat} {l : List Value} {C : mMem} {Q : Nat → mMem → Prop} : wR (rLoc 1) (v0 :: .ref x :: l) C Q ↔ Q x C := by
  show (∃ p, some (x, C) = some p ∧ Q p.1 p.2) ↔ Q x C
  rw [w_os]
theorem w_sSet1 {v0 : Value} {u : Value} {l : List Value} {C : mMem} {a : mEI} {N : List Value → mMem → Prop} {R : Option Int32 → mMem → Prop} {K : Bool → List Value → mMem → Prop} : wS (sSet 1 a) (v0 :: u :: l) C N R K ↔ wE a (v0 :: u :: l) C fun x C => N (v0 :: .int x :: l) C := by
  simp [wS, wE, sSet, w_ob, w_os, w_on, w_oi, wK]
theorem w_sSetR1 {v0 : Value} {u : Value} {l : List Value} {C : mMem} {a : mER} {N : List Value → mMem → Prop} {R : Option Int32 → mMem → Prop} {K : Bool → List Value → mMem → Prop} : wS (sSetR 1 a) (v0 :: u :: l) C N R K ↔ wR a (v0 :: u :: l) C fun x C => N (v0 :: .ref x :: l) C := by
  simp [wS, wR, sSetR, w_ob, w_os, w_on, w_oi, wK]
theorem w_sInc1 {v0 : Value} {x v : Int32} {l : List Value} {C : mMem} {N : List Value → mMem → Prop} {R : Option Int32 → mMem → Prop} {K : Bool → List Value → mMem → Prop} : wS (sInc 1 v) (v0 :: .int x :: l) C N R K ↔ N (v0 :: .int (x + v) :: l) C := by
  show (∃ r, some (Sum.inl (v0 :: .int (x + v) :: l, C)) = some r ∧ wK r N R K) ↔ _
  rw [w_os]; rfl
theorem w_eLoc2 {v0 v1 : Value} {x : Int32} {l : List Value} {C : mMem} {Q : Int32 → mMem → Prop} : wE (eLoc 2) (v0 :: v1 :: .int x :: l) C Q ↔ Q x C := by
  show (∃ p, some (x, C) = some p ∧ Q p.1 p.2) ↔ Q x C
  rw [w_os]
theorem w_rLoc2 {v0 v1 : Value} {x : Nat} {l : List Value} {C : mMem} {Q : Nat → mMem → Prop} : wR (rLoc 2) (v0 :: v1 :: .ref x :: l) C Q ↔ Q x C := by
  show (∃ p, some (x, C) = some p ∧ Q p.1 p.2) ↔ Q x C
  rw [w_os]
theorem w_sSet2 {v0 v1 : Value} {u : Value} {l : List Value} {C : mMem} {a : mEI} {N : List Value → mMem → Prop} {R : Option Int32 → mMem → Prop} {K : Bool → List Value → mMem → Prop} : wS (sSet 2 a) (v0 :: v1 :: u :: l) C N R K ↔ wE a (v0 :: v1 :: u :: l) C fun x C => N (v0 :: v1 :: .int x :: l) C := by
  simp [wS, wE, sSet, w_ob, w_os, w_on, w_oi, wK]
theorem w_sSetR2 {v0 v1 : Value} {u : Value} {l : List Value} {C : mMem} {a : mER} {N : List Value → mMem → Prop} {R : Option Int32 → mMem → Prop} {K : Bool → List Value → mMem → Prop} : wS (sSetR 2 a) (v0 :: v1 :: u :: l) C N R K ↔ wR a (v0 :: v1 :: u :: l) C fun x C => N (v0 :: v1 :: .ref x :: l) C := by
  simp [wS, wR, sSetR, w_ob, w_os, w_on, w_oi, wK]
theorem w_sInc2 {v0 v1 : Value} {x v : Int32} {l : List Value} {C : mMem} {N : List Value → mMem → Prop} {R : Option Int32 → mMem → Prop} {K : Bool → List Value → mMem → Prop} : wS (sInc 2 v) (v0 :: v1 :: .int x :: l) C N R K ↔ N (v0 :: v1 :: .int (x + v) :: l) C := by
  show (∃ r, some (Sum.inl (v0 :: v1 :: .int (x + v) :: l, C)) = some r ∧ wK r N R K) ↔ _
  rw [w_os]; rfl
theorem w_eLoc3 {v0 v1 v2 : Value} {x : Int32} {l : List Value} {C : mMem} {Q : Int32 → mMem → Prop} : wE (eLoc 3) (v0 :: v1 :: v2 :: .int x :: l) C Q ↔ Q x C := by
  show (∃ p, some (x, C) = some p ∧ Q p.1 p.2) ↔ Q x C
  rw [w_os]
theorem w_rLoc3 {v0 v1 v2 : Value} {x : Nat} {l : List Value} {C : mMem} {Q : Nat → mMem → Prop} : wR (rLoc 3) (v0 :: v1 :: v2 :: .ref x :: l) C Q ↔ Q x C := by
  show (∃ p, some (x, C) = some p ∧ Q p.1 p.2) ↔ Q x C
  rw [w_os]
theorem w_sSet3 {v0 v1 v2 : Value} {u : Value} {l : List Value} {C : mMem} {a : mEI} {N : List Value → mMem → Prop} {R : Option Int32 → mMem → Prop} {K : Bool → List Value → mMem → Prop} : wS (sSet 3 a) (v0 :: v1 :: v2 :: u :: l) C N R K ↔ wE a (v0 :: v1 :: v2 :: u :: l) C fun x C => N (v0 :: v1 :: v2 :: .int x :: l) C := by
  simp [wS, wE, sSet, w_ob, w_os, w_on, w_oi, wK]
theorem w_sSetR3 {v0 v1 v2 : Value} {u : Value} {l : List Value} {C : mMem} {a : mER} {N : List Value → mMem → Prop} {R : Option Int32 → mMem → Prop} {K : Bool → List Value → mMem → Prop} : wS (sSetR 3 a) (v0 :: v1 :: v2 :: u :: l) C N R K ↔ wR a (v0 :: v1 :: v2 :: u :: l) C fun x C => N (v0 :: v1 :: v2 :: .ref x :: l) C := by
  simp [wS, wR, sSetR, w_ob, w_os, w_on, w_oi, wK]
theorem w_sInc3 {v0 v1 v2 : Value} {x v : Int32} {l : List Value} {C : mMem} {N : List Value → mMem → Prop} {R : Option Int32 → mMem → Prop} {K : Bool → List Value → mMem → Prop} : wS (sInc 3 v) (v0 :: v1 :: v2 :: .int x :: l) C N R K ↔ N (v0 :: v1 :: v2 :: .int (x + v) :: l) C := by
  show (∃ r, some (Sum.inl (v0 :: v1 :: v2 :: .int (x + v) :: l, C)) = some r ∧ wK r N R K) ↔ _
  rw [w_os]; rfl
theorem w_eLoc4 {v0 v1 v2 v3 : Value} {x : Int32} {l : List Value} {C : mMem} {Q : Int32 → mMem → Prop} : wE (eLoc 4) (v0 :: v1 :: v2 :: v3 :: .int x :: l) C Q ↔ Q x C := by
  show (∃ p, some (x, C) = some p ∧ Q p.1 p.2) ↔ Q x C
  rw [w_os]
theorem w_rLoc4 {v0 v1 v2 v3 : Value} {x : Nat} {l : List Value} {C : mMem} {Q : Nat → mMem → Prop} : wR (rLoc 4) (v0 :: v1 :: v2 :: v3 :: .ref x :: l) C Q ↔ Q x C := by
  show (∃ p, some (x, C) = some p ∧ Q p.1 p.2) ↔ Q x C
  rw [w_os]
theorem w_sSet4 {v0 v1 v2 v3 : Value} {u : Value} {l : List Value} {C : mMem} {a : mEI} {N : List Value → mMem → Prop} {R : Option Int32 → mMem → Prop} {K : Bool → List Value → mMem → Prop} : wS (sSet 4 a) (v0 :: v1 :: v2 :: v3 :: u :: l) C N R K ↔ wE a (v0 :: v1 :: v2 :: v3 :: u :: l) C fun x C => N (v0 :: v1 :: v2 :: v3 :: .int x :: l) C := by
  simp [wS, wE, sSet, w_ob, w_os, w_on, w_oi, wK]
theorem w_sSetR4 {v0 v1 v2 v3 : Value} {u : Value} {l : List Value} {C : mMem} {a : mER} {N : List Value → mMem → Prop} {R : Option Int32 → mMem → Prop} {K : Bool → List Value → mMem → Prop} : wS (sSetR 4 a) (v0 :: v1 :: v2 :: v3 :: u :: l) C N R K ↔ wR a (v0 :: v1 :: v2 :: v3 :: u :: l) C fun x C => N (v0 :: v1 :: v2 :: v3 :: .ref x :: l) C := by
  simp [wS, wR, sSetR, w_ob, w_os, w_on, w_oi, wK]
theorem w_sInc4 {v0 v1 v2 v3 : Value} {x v : Int32} {l : List Value} {C : mMem} {N : List Value → mMem → Prop} {R : Option Int32 → mMem → Prop} {K : Bool → List Value → mMem → Prop} : wS (sInc 4 v) (v0 :: v1 :: v2 :: v3 :: .int x :: l) C N R K ↔ N (v0 :: v1 :: v2 :: v3 :: .int (x + v) :: l) C := by
  show (∃ r, some (Sum.inl (v0 :: v1 :: v2 :: v3 :: .int (x + v) :: l, C)) = some r ∧ wK r N R K) ↔ _
  rw [w_os]; rfl
theorem w_eLoc5 {v0 v1 v2 v3 v4 : Value} {x : Int32} {l : List Value} {C : mMem} {Q : Int32 → mMem → Prop} : wE (eLoc 5) (v0 :: v1 :: v2 :: v3 :: v4 :: .int x :: l) C Q ↔ Q x C := by
  show (∃ p, some (x, C) = some p ∧ Q p.1 p.2) ↔ Q x C
  rw [w_os]
theorem w_rLoc5 {v0 v1 v2 v3 v4 : Value} {x : Nat} {l : List Value} {C : mMem} {Q : Nat → mMem → Prop} : wR (rLoc 5) (v0 :: v1 :: v2 :: v3 :: v4 :: .ref x :: l) C Q ↔ Q x C := by
  show (∃ p, some (x, C) = some p ∧ Q p.1 p.2) ↔ Q x C
  rw [w_os]
theorem w_sSet5 {v0 v1 v2 v3 v4 : Value} {u : Value} {l : List Value} {C : mMem} {a : mEI} {N : List Value → mMem → Prop} {R : Option Int32 → mMem → Prop} {K : Bool → List Value → mMem → Prop} : wS (sSet 5 a) (v0 :: v1 :: v2 :: v3 :: v4 :: u :: l) C N R K ↔ wE a (v0 :: v1 :: v2 :: v3 :: v4 :: u :: l) C fun x C => N (v0 :: v1 :: v2 :: v3 :: v4 :: .int x :: l) C := by
  simp [wS, wE, sSet, w_ob, w_os, w_on, w_oi, wK]
theorem w_sSetR5 {v0 v1 v2 v3 v4 : Value} {u : Value} {l : List Value} {C : mMem} {a : mER} {N : List Value → mMem → Prop} {R : Option Int32 → mMem → Prop} {K : Bool → List Value → mMem → Prop} : wS (sSetR 5 a) (v0 :: v1 :: v2 :: v3 :: v4 :: u :: l) C N R K ↔ wR a (v0 :: v1 :: v2 :: v3 :: v4 :: u :: l) C fun x C => N (v0 :: v1 :: v2 :: v3 :: v4 :: .ref x :: l) C := by
  simp [wS, wR, sSetR, w_ob, w_os, w_on, w_oi, wK]
theorem w_sInc5 {v0 v1 v2 v3 v4 : Value} {x v : Int32} {l : List Value} {C : mMem} {N : List Value → mMem → Prop} {R : Option Int32 → mMem → Prop} {K : Bool → List Value → mMem → Prop} : wS (sInc 5 v) (v0 :: v1 :: v2 :: v3 :: v4 :: .int x :: l) C N R K ↔ N (v0 :: v1 :: v2 :: v3 :: v4 :: .int (x + v) :: l) C := by
  show (∃ r, some (Sum.inl (v0 :: v1 :: v2 :: v3 :: v4 :: .int (x + v) :: l, C)) = some r ∧ wK r N R K) ↔ _
  rw [w_os]; rfl
theorem w_eLoc6 {v0 v1 v2 v3 v4 v5 : Value} {x : Int32} {l : List Value} {C : mMem} {Q : Int32 → mMem → Prop} : wE (eLoc 6) (v0 :: v1 :: v2 :: v3 :: v4 :: v5 :: .int x :: l) C Q ↔ Q x C := by
  show (∃ p, some (x, C) = some p ∧ Q p.1 p.2) ↔ Q x C
  rw [w_os]
theorem w_rLoc6 {v0 v1 v2 v3 v4 v5 : Value} {x : Nat} {l : List Value} {C : mMem} {Q : Nat → mMem → Prop} : wR (rLoc 6) (v0 :: v1 :: v2 :: v3 :: v4 :: v5 :: .ref x :: l) C Q ↔ Q x C := by
  show (∃ p, some (x, C) = some p ∧ Q p.1 p.2) ↔ Q x C
  rw [w_os]
theorem w_sSet6 {v0 v1 v2 v3 v4 v5 : Value} {u : Value} {l : List Value} {C : mMem} {a : mEI} {N : List Value → mMem → Prop} {R : Option Int32 → mMem → Prop} {K : Bool → List Value → mMem → Prop} : wS (sSet 6 a) (v0 :: v1 :: v2 :: v3 :: v4 :: v5 :: u :: l) C N R K ↔ wE a (v0 :: v1 :: v2 :: v3 :: v4 :: v5 :: u :: l) C fun x C => N (v0 :: v1 :: v2 :: v3 :: v4 :: v5 :: .int x :: l) C := by
  simp [wS, wE, sSet, w_ob, w_os, w_on, w_oi, wK]
theorem w_sSetR6 {v0 v1 v2 v3 v4 v5 : Value} {u : Value} {l : List Value} {C : mMem} {a : mER} {N : List Value → mMem → Prop} {R : Option Int32 → mMem → Prop} {K : Bool → List Value → mMem → Prop} : wS (sSetR 6 a) (v0 :: v1 :: v2 :: v3 :: v4 :: v5 :: u :: l) C N R K ↔ wR a (v0 :: v1 :: v2 :: v3 :: v4 :: v5 :: u :: l) C fun x C => N (v0 :: v1 :: v2 :: v3 :: v4 :: v5 :: .ref x :: l) C := by
  simp [wS, wR, sSetR, w_ob, w_os, w_on, w_oi, wK]
theorem w_sInc6 {v0 v1 v2 v3 v4 v5 : Value} {x v : Int32} {l : List Value} {C : mMem} {N : List Value → mMem → Prop} {R : Option Int32 → mMem → Prop} {K : Bool → List Value → mMem → Prop} : wS (sInc 6 v) (v0 :: v1 :: v2 :: v3 :: v4 :: v5 :: .int x :: l) C N R K ↔ N (v0 :: v1 :: v2 :: v3 :: v4 :: v5 :: .int (x + v) :: l) C := by
  show (∃ r, some (Sum.inl (v0 :: v1 :: v2 :: v3 :: v4 :: v5 :: .int (x + v) :: l, C)) = some r ∧ wK r N R K) ↔ _
  rw [w_os]; rfl
theorem w_eLoc7 {v0 v1 v2 v3 v4 v5 v6 : Value} {x : Int32} {l : List Value} {C : mMem} {Q : Int32 → mMem → Prop} : wE (eLoc 7) (v0 :: v1 :: v2 :: v3 :: v4 :: v5 :: v6 :: .int x :: l) C Q ↔ Q x C := by
  show (∃ p, some (x, C) = some p ∧ Q p.1 p.2) ↔ Q x C
  rw [w_os]
theorem w_rLoc7 {v0 v1 v2 v3 v4 v5 v6 : Value} {x : Nat} {l : List Value} {C : mMem} {Q : Nat → mMem → Prop} : wR (rLoc 7) (v0 :: v1 :: v2 :: v3 :: v4 :: v5 :: v6 :: .ref x :: l) C Q ↔ Q x C := by
  show (∃ p, some (x, C) = some p ∧ Q p.1 p.2) ↔ Q x C
  rw [w_os]
theorem w_sSet7 {v0 v1 v2 v3 v4 v5 v6 : Value} {u : Value} {l : List Value} {C : mMem} {a : mEI} {N : List Value → mMem → Prop} {R : Option Int32 → mMem → Prop} {K : Bool → List Value → mMem → Prop} : wS (sSet 7 a) (v0 :: v1 :: v2 :: v3 :: v4 :: v5 :: v6 :: u :: l) C N R K ↔ wE a (v0 :: v1 :: v2 :: v3 :: v4 :: v5 :: v6 :: u :: l) C fun x C => N (v0 :: v1 :: v2 :: v3 :: v4 :: v5 :: v6 :: .int x :: l) C := by
  simp [wS, wE, sSet, w_ob, w_os, w_on, w_oi, wK]
theorem w_sSetR7 {v0 v1 v2 v3 v4 v5 v6 : Value} {u : Value} {l : List Value} {C : mMem} {a : mER} {N : List Value → mMem → Prop} {R : Option Int32 → mMem → Prop} {K : Bool → List Value → mMem → Prop} : wS (sSetR 7 a) (v0 :: v1 :: v2 :: v3 :: v4 :: v5 :: v6 :: u :: l) C N R K ↔ wR a (v0 :: v1 :: v2 :: v3 :: v4 :: v5 :: v6 :: u :: l) C fun x C => N (v0 :: v1 :: v2 :: v3 :: v4 :: v5 :: v6 :: .ref x :: l) C := by
  simp [wS, wR, sSetR, w_ob, w_os, w_on, w_oi, wK]
theorem w_sInc7 {v0 v1 v2 v3 v4 v5 v6 : Value} {x v : Int32} {l : List Value} {C : mMem} {N : List Value → mMem → Prop} {R : Option Int32 → mMem → Prop} {K : Bool → List Value → mMem → Prop} : wS (sInc 7 v) (v0 :: v1 :: v2 :: v3 :: v4 :: v5 :: v6 :: .int x :: l) C N R K ↔ N (v0 :: v1 :: v2 :: v3 :: v4 :: v5 :: v6 :: .int (x + v) :: l) C := by
  show (∃ r, some (Sum.inl (v0 :: v1 :: v2 :: v3 :: v4 :: v5 :: v6 :: .int (x + v) :: l, C)) = some r ∧ wK r N R K) ↔ _
  rw [w_os]; rfl
theorem w_eLoc8 {v0 v1 v2 v3 v4 v5 v6 v7 : Value} {x : Int32} {l : List Value} {C : mMem} {Q : Int32 → mMem → Prop} : wE (eLoc 8) (v0 :: v1 :: v2 :: v3 :: v4 :: v5 :: v6 :: v7 :: .int x :: l) C Q ↔ Q x C := by
  show (∃ p, some (x, C) = some p ∧ Q p.1 p.2) ↔ Q x C
  rw [w_os]
theorem w_rLoc8 {v0 v1 v2 v3 v4 v5 v6 v7 : Value} {x : Nat} {l : List Value} {C : mMem} {Q : Nat → mMem → Prop} : wR (rLoc 8) (v0 :: v1 :: v2 :: v3 :: v4 :: v5 :: v6 :: v7 :: .ref x :: l) C Q ↔ Q x C := by
  show (∃ p, some (x, C) = some p ∧ Q p.1 p.2) ↔ Q x C
  rw [w_os]
theorem w_sSet8 {v0 v1 v2 v3 v4 v5 v6 v7 : Value} {u : Value} {l : List Value} {C : mMem} {a : mEI} {N : List Value → mMem → Prop} {R : Option Int32 → mMem → Prop} {K : Bool → List Value → mMem → Prop} : wS (sSet 8 a) (v0 :: v1 :: v2 :: v3 :: v4 :: v5 :: v6 :: v7 :: u :: l) C N R K ↔ wE a (v0 :: v1 :: v2 :: v3 :: v4 :: v5 :: v6 :: v7 :: u :: l) C fun x C => N (v0 :: v1 :: v2 :: v3 :: v4 :: v5 :: v6 :: v7 :: .int x :: l) C := by
  simp [wS, wE, sSet, w_ob, w_os, w_on, w_oi, wK]
theorem w_sSetR8 {v0 v1 v2 v3 v4 v5 v6 v7 : Value} {u : Value} {l : List Value} {C : mMem} {a : mER} {N : List Value → mMem → Prop} {R : Option Int32 → mMem → Prop} {K : Bool → List Value → mMem → Prop} : wS (sSetR 8 a) (v0 :: v1 :: v2 :: v3 :: v4 :: v5 :: v6 :: v7 :: u :: l) C N R K ↔ wR a (v0 :: v1 :: v2 :: v3 :: v4 :: v5 :: v6 :: v7 :: u :: l) C fun x C => N (v0 :: v1 :: v2 :: v3 :: v4 :: v5 :: v6 :: v7 :: .ref x :: l) C := by
  simp [wS, wR, sSetR, w_ob, w_os, w_on, w_oi, wK]
theorem w_sInc8 {v0 v1 v2 v3 v4 v5 v6 v7 : Value} {x v : Int32} {l : List Value} {C : mMem} {N : List Value → mMem → Prop} {R : Option Int32 → mMem → Prop} {K : Bool → List Value → mMem → Prop} : wS (sInc 8 v) (v0 :: v1 :: v2 :: v3 :: v4 :: v5 :: v6 :: v7 :: .int x :: l) C N R K ↔ N (v0 :: v1 :: v2 :: v3 :: v4 :: v5 :: v6 :: v7 :: .int (x + v) :: l) C := by
  show (∃ r, some (Sum.inl (v0 :: v1 :: v2 :: v3 :: v4 :: v5 :: v6 :: v7 :: .int (x + v) :: l, C)) = some r ∧ wK r N R K) ↔ _
  rw [w_os]; rfl
theorem w_eLoc9 {v0 v1 v2 v3 v4 v5 v6 v7 v8 : Value} {x : Int32} {l : List Value} {C : mMem} {Q : Int32 → mMem → Prop} : wE (eLoc 9) (v0 :: v1 :: v2 :: v3 :: v4 :: v5 :: v6 :: v7 :: v8 :: .int x :: l) C Q ↔ Q x C := by
  show (∃ p, some (x, C) = some p ∧ Q p.1 p.2) ↔ Q x C
  rw [w_os]
theorem w_rLoc9 {v0 v1 v2 v3 v4 v5 v6 v7 v8 : Value} {x : Nat} {l : List Value} {C : mMem} {Q : Nat → mMem → Prop} : wR (rLoc 9) (v0 :: v1 :: v2 :: v3 :: v4 :: v5 :: v6 :: v7 :: v8 :: .ref x :: l) C Q ↔ Q x C := by
  show (∃ p, some (x, C) = some p ∧ Q p.1 p.2) ↔ Q x C
  rw [w_os]
theorem w_sSet9 {v0 v1 v2 v3 v4 v5 v6 v7 v8 : Value} {u : Value} {l : List Value} {C : mMem} {a : mEI} {N : List Value → mMem → Prop} {R : Option Int32 → mMem → Prop} {K : Bool → List Value → mMem → Prop} : wS (sSet 9 a) (v0 :: v1 :: v2 :: v3 :: v4 :: v5 :: v6 :: v7 :: v8 :: u :: l) C N R K ↔ wE a (v0 :: v1 :: v2 :: v3 :: v4 :: v5 :: v6 :: v7 :: v8 :: u :: l) C fun x C => N (v0 :: v1 :: v2 :: v3 :: v4 :: v5 :: v6 :: v7 :: v8 :: .int x :: l) C := by
  simp [wS, wE, sSet, w_ob, w_os, w_on, w_oi, wK]
theorem w_sSetR9 {v0 v1 v2 v3 v4 v5 v6 v7 v8 : Value} {u : Value} {l : List Value} {C : mMem} {a : mER} {N : List Value → mMem → Prop} {R : Option Int32 → mMem → Prop} {K : Bool → List Value → mMem → Prop} : wS (sSetR 9 a) (v0 :: v1 :: v2 :: v3 :: v4 :: v5 :: v6 :: v7 :: v8 :: u :: l) C N R K ↔ wR a (v0 :: v1 :: v2 :: v3 :: v4 :: v5 :: v6 :: v7 :: v8 :: u :: l) C fun x C => N (v0 :: v1 :: v2 :: v3 :: v4 :: v5 :: v6 :: v7 :: v8 :: .ref x :: l) C := by
  simp [wS, wR, sSetR, w_ob, w_os, w_on, w_oi, wK]
theorem w_sInc9 {v0 v1 v2 v3 v4 v5 v6 v7 v8 : Value} {x v : Int32} {l : List Value} {C : mMem} {N : List Value → mMem → Prop} {R : Option Int32 → mMem → Prop} {K : Bool → List Value → mMem → Prop} : wS (sInc 9 v) (v0 :: v1 :: v2 :: v3 :: v4 :: v5 :: v6 :: v7 :: v8 :: .int x :: l) C N R K ↔ N (v0 :: v1 :: v2 :: v3 :: v4 :: v5 :: v6 :: v7 :: v8 :: .int (x + v) :: l) C := by
  show (∃ r, some (Sum.inl (v0 :: v1 :: v2 :: v3 :: v4 :: v5 :: v6 :: v7 :: v8 :: .int (x + v) :: l, C)) = some r ∧ wK r N R K) ↔ _
  rw [w_os]; rfl
theorem w_eLoc10 {v0 v1 v2 v3 v4 v5 v6 v7 v8 v9 : Value} {x : Int32} {l : List Value} {C : mMem} {Q : Int32 → mMem → Prop} : wE (eLoc 10) (v0 :: v1 :: v2 :: v3 :: v4 :: v5 :: v6 :: v7 :: v8 :: v9 :: .int x :: l) C Q ↔ Q x C := by
  show (∃ p, some (x, C) = some p ∧ Q p.1 p.2) ↔ Q x C
  rw [w_os]
theorem w_rLoc10 {v0 v1 v2 v3 v4 v5 v6 v7 v8 v9 : Value} {x : Nat} {l : List Value} {C : mMem} {Q : Nat → mMem → Prop} : wR (rLoc 10) (v0 :: v1 :: v2 :: v3 :: v4 :: v5 :: v6 :: v7 :: v8 :: v9 :: .ref x :: l) C Q ↔ Q x C := by
  show (∃ p, some (x, C) = some p ∧ Q p.1 p.2) ↔ Q x C
  rw [w_os]
theorem w_sSet10 {v0 v1 v2 v3 v4 v5 v6 v7 v8 v9 : Value} {u : Value} {l : List Value} {C : mMem} {a : mEI} {N : List Value → mMem → Prop} {R : Option Int32 → mMem → Prop} {K : Bool → List Value → mMem → Prop} : wS (sSet 10 a) (v0 :: v1 :: v2 :: v3 :: v4 :: v5 :: v6 :: v7 :: v8 :: v9 :: u :: l) C N R K ↔ wE a (v0 :: v1 :: v2 :: v3 :: v4 :: v5 :: v6 :: v7 :: v8 :: v9 :: u :: l) C fun x C => N (v0 :: v1 :: v2 :: v3 :: v4 :: v5 :: v6 :: v7 :: v8 :: v9 :: .int x :: l) C := by
  simp [wS, wE, sSet, w_ob, w_os, w_on, w_oi, wK]
theorem w_sSetR10 {v0 v1 v2 v3 v4 v5 v6 v7 v8 v9 : Value} {u : Value} {l : List Value} {C : mMem} {a : mER} {N : List Value → mMem → Prop} {R : Option Int32 → mMem → Prop} {K : Bool → List Value → mMem → Prop} : wS (sSetR 10 a) (v0 :: v1 :: v2 :: v3 :: v4 :: v5 :: v6 :: v7 :: v8 :: v9 :: u :: l) C N R K ↔ wR a (v0 :: v1 :: v2 :: v3 :: v4 :: v5 :: v6 :: v7 :: v8 :: v9 :: u :: l) C fun x C => N (v0 :: v1 :: v2 :: v3 :: v4 :: v5 :: v6 :: v7 :: v8 :: v9 :: .ref x :: l) C := by
  simp [wS, wR, sSetR, w_ob, w_os, w_on, w_oi, wK]
theorem w_sInc10 {v0 v1 v2 v3 v4 v5 v6 v7 v8 v9 : Value} {x v : Int32} {l : List Value} {C : mMem} {N : List Value → mMem → Prop} {R : Option Int32 → mMem → Prop} {K : Bool → List Value → mMem → Prop} : wS (sInc 10 v) (v0 :: v1 :: v2 :: v3 :: v4 :: v5 :: v6 :: v7 :: v8 :: v9 :: .int x :: l) C N R K ↔ N (v0 :: v1 :: v2 :: v3 :: v4 :: v5 :: v6 :: v7 :: v8 :: v9 :: .int (x + v) :: l) C := by
  show (∃ r, some (Sum.inl (v0 :: v1 :: v2 :: v3 :: v4 :: v5 :: v6 :: v7 :: v8 :: v9 :: .int (x + v) :: l, C)) = some r ∧ wK r N R K) ↔ _
  rw [w_os]; rfl
theorem w_eLoc11 {v0 v1 v2 v3 v4 v5 v6 v7 v8 v9 v10 : Value} {x : Int32} {l : List Value} {C : mMem} {Q : Int32 → mMem → Prop} : wE (eLoc 11) (v0 :: v1 :: v2 :: v3 :: v4 :: v5 :: v6 :: v7 :: v8 :: v9 :: v10 :: .int x :: l) C Q ↔ Q x C := by
  show (∃ p, some (x, C) = some p ∧ Q p.1 p.2) ↔ Q x C
  rw [w_os]
theorem w_rLoc11 {v0 v1 v2 v3 v4 v5 v6 v7 v8 v9 v10 : Value} {x : Nat} {l : List Value} {C : mMem} {Q : Nat → mMem → Prop} : wR (rLoc 11) (v0 :: v1 :: v2 :: v3 :: v4 :: v5 :: v6 :: v7 :: v8 :: v9 :: v10 :: .ref x :: l) C Q ↔ Q x C := by
  show (∃ p, some (x, C) = some p ∧ Q p.1 p.2) ↔ Q x C
  rw [w_os]
theorem w_sSet11 {v0 v1 v2 v3 v4 v5 v6 v7 v8 v9 v10 : Value} {u : Value} {l : List Value} {C : mMem} {a : mEI} {N : List Value → mMem → Prop} {R : Option Int32 → mMem → Prop} {K : Bool → List Value → mMem → Prop} : wS (sSet 11 a) (v0 :: v1 :: v2 :: v3 :: v4 :: v5 :: v6 :: v7 :: v8 :: v9 :: v10 :: u :: l) C N R K ↔ wE a (v0 :: v1 :: v2 :: v3 :: v4 :: v5 :: v6 :: v7 :: v8 :: v9 :: v10 :: u :: l) C fun x C => N (v0 :: v1 :: v2 :: v3 :: v4 :: v5 :: v6 :: v7 :: v8 :: v9 :: v10 :: .int x :: l) C := by
  simp [wS, wE, sSet, w_ob, w_os, w_on, w_oi, wK]
theorem w_sSetR11 {v0 v1 v2 v3 v4 v5 v6 v7 v8 v9 v10 : Value} {u : Value} {l : List Value} {C : mMem} {a : mER} {N : List Value → mMem → Prop} {R : Option Int32 → mMem → Prop} {K : Bool → List Value → mMem → Prop} : wS (sSetR 11 a) (v0 :: v1 :: v2 :: v3 :: v4 :: v5 :: v6 :: v7 :: v8 :: v9 :: v10 :: u :: l) C N R K ↔ wR a (v0 :: v1 :: v2 :: v3 :: v4 :: v5 :: v6 :: v7 :: v8 :: v9 :: v10 :: u :: l) C fun x C => N (v0 :: v1 :: v2 :: v3 :: v4 :: v5 :: v6 :: v7 :: v8 :: v9 :: v10 :: .ref x :: l) C := by
  simp [wS, wR, sSetR, w_ob, w_os, w_on, w_oi, wK]
theorem w_sInc11 {v0 v1 v2 v3 v4 v5 v6 v7 v8 v9 v10 : Value} {x v : Int32} {l : List Value} {C : mMem} {N : List Value → mMem → Prop} {R : Option Int32 → mMem → Prop} {K : Bool → List Value → mMem → Prop} : wS (sInc 11 v) (v0 :: v1 :: v2 :: v3 :: v4 :: v5 :: v6 :: v7 :: v8 :: v9 :: v10 :: .int x :: l) C N R K ↔ N (v0 :: v1 :: v2 :: v3 :: v4 :: v5 :: v6 :: v7 :: v8 :: v9 :: v10 :: .int (x + v) :: l) C := by
  show (∃ r, some (Sum.inl (v0 :: v1 :: v2 :: v3 :: v4 :: v5 :: v6 :: v7 :: v8 :: v9 :: v10 :: .int (x + v) :: l, C)) = some r ∧ wK r N R K) ↔ _
  rw [w_os]; rfl
theorem w_eLoc12 {v0 v1 v2 v3 v4 v5 v6 v7 v8 v9 v10 v11 : Value} {x : Int32} {l : List Value} {C : mMem} {Q : Int32 → mMem → Prop} : wE (eLoc 12) (v0 :: v1 :: v2 :: v3 :: v4 :: v5 :: v6 :: v7 :: v8 :: v9 :: v10 :: v11 :: .int x :: l) C Q ↔ Q x C := by
  show (∃ p, some (x, C) = some p ∧ Q p.1 p.2) ↔ Q x C
  rw [w_os]
theorem w_rLoc12 {v0 v1 v2 v3 v4 v5 v6 v7 v8 v9 v10 v11 : Value} {x : Nat} {l : List Value} {C : mMem} {Q : Nat → mMem → Prop} : wR (rLoc 12) (v0 :: v1 :: v2 :: v3 :: v4 :: v5 :: v6 :: v7 :: v8 :: v9 :: v10 :: v11 :: .ref x :: l) C Q ↔ Q x C := by
  show (∃ p, some (x, C) = some p ∧ Q p.1 p.2) ↔ Q x C
  rw [w_os]
theorem w_sSet12 {v0 v1 v2 v3 v4 v5 v6 v7 v8 v9 v10 v11 : Value} {u : Value} {l : List Value} {C : mMem} {a : mEI} {N : List Value → mMem → Prop} {R : Option Int32 → mMem → Prop} {K : Bool → List Value → mMem → Prop} : wS (sSet 12 a) (v0 :: v1 :: v2 :: v3 :: v4 :: v5 :: v6 :: v7 :: v8 :: v9 :: v10 :: v11 :: u :: l) C N R K ↔ wE a (v0 :: v1 :: v2 :: v3 :: v4 :: v5 :: v6 :: v7 :: v8 :: v9 :: v10 :: v11 :: u :: l) C fun x C => N (v0 :: v1 :: v2 :: v3 :: v4 :: v5 :: v6 :: v7 :: v8 :: v9 :: v10 :: v11 :: .int x :: l) C := by
  simp [wS, wE, sSet, w_ob, w_os, w_on, w_oi, wK]
theorem w_sSetR12 {v0 v1 v2 v3 v4 v5 v6 v7 v8 v9 v10 v11 : Value} {u : Value} {l : List Value} {C : mMem} {a : mER} {N : List Value → mMem → Prop} {R : Option Int32 → mMem → Prop} {K : Bool → List Value → mMem → Prop} : wS (sSetR 12 a) (v0 :: v1 :: v2 :: v3 :: v4 :: v5 :: v6 :: v7 :: v8 :: v9 :: v10 :: v11 :: u :: l) C N R K ↔ wR a (v0 :: v1 :: v2 :: v3 :: v4 :: v5 :: v6 :: v7 :: v8 :: v9 :: v10 :: v11 :: u :: l) C fun x C => N (v0 :: v1 :: v2 :: v3 :: v4 :: v5 :: v6 :: v7 :: v8 :: v9 :: v10 :: v11 :: .ref x :: l) C := by
  simp [wS, wR, sSetR, w_ob, w_os, w_on, w_oi, wK]
theorem w_sInc12 {v0 v1 v2 v3 v4 v5 v6 v7 v8 v9 v10 v11 : Value} {x v : Int32} {l : List Value} {C : mMem} {N : List Value → mMem → Prop} {R : Option Int32 → mMem → Prop} {K : Bool → List Value → mMem → Prop} : wS (sInc 12 v) (v0 :: v1 :: v2 :: v3 :: v4 :: v5 :: v6 :: v7 :: v8 :: v9 :: v10 :: v11 :: .int x :: l) C N R K ↔ N (v0 :: v1 :: v2 :: v3 :: v4 :: v5 :: v6 :: v7 :: v8 :: v9 :: v10 :: v11 :: .int (x + v) :: l) C := by
  show (∃ r, some (Sum.inl (v0 :: v1 :: v2 :: v3 :: v4 :: v5 :: v6 :: v7 :: v8 :: v9 :: v10 :: v11 :: .int (x + v) :: l, C)) = some r ∧ wK r N R K) ↔ _
  rw [w_os]; rfl
theorem w_eLoc13 {v0 v1 v2 v3 v4 v5 v6 v7 v8 v9 v10 v11 v12 : Value} {x : Int32} {l : List Value} {C : mMem} {Q : Int32 → mMem → Prop} : wE (eLoc 13) (v0 :: v1 :: v2 :: v3 :: v4 :: v5 :: v6 :: v7 :: v8 :: v9 :: v10 :: v11 :: v12 :: .int x :: l) C Q ↔ Q x C := by
  show (∃ p, some (x, C) = some p ∧ Q p.1 p.2) ↔ Q x C
  rw [w_os]
theorem w_rLoc13 {v0 v1 v2 v3 v4 v5 v6 v7 v8 v9 v10 v11 v12 : Value} {x : Nat} {l : List Value} {C : mMem} {Q : Nat → mMem → Prop} : wR (rLoc 13) (v0 :: v1 :: v2 :: v3 :: v4 :: v5 :: v6 :: v7 :: v8 :: v9 :: v10 :: v11 :: v12 :: .ref x :: l) C Q ↔ Q x C := by
  show (∃ p, some (x, C) = some p ∧ Q p.1 p.2) ↔ Q x C
  rw [w_os]
theorem w_sSet13 {v0 v1 v2 v3 v4 v5 v6 v7 v8 v9 v10 v11 v12 : Value} {u : Value} {l : List Value} {C : mMem} {a : mEI} {N : List Value → mMem → Prop} {R : Option Int32 → mMem → Prop} {K : Bool → List Value → mMem → Prop} : wS (sSet 13 a) (v0 :: v1 :: v2 :: v3 :: v4 :: v5 :: v6 :: v7 :: v8 :: v9 :: v10 :: v11 :: v12 :: u :: l) C N R K ↔ wE a (v0 :: v1 :: v2 :: v3 :: v4 :: v5 :: v6 :: v7 :: v8 :: v9 :: v10 :: v11 :: v12 :: u :: l) C fun x C => N (v0 :: v1 :: v2 :: v3 :: v4 :: v5 :: v6 :: v7 :: v8 :: v9 :: v10 :: v11 :: v12 :: .int x :: l) C := by
  simp [wS, wE, sSet, w_ob, w_os, w_on, w_oi, wK]
theorem w_sSetR13 {v0 v1 v2 v3 v4 v5 v6 v7 v8 v9 v10 v11 v12 : Value} {u : Value} {l : List Value} {C : mMem} {a : mER} {N : List Value → mMem → Prop} {R : Option Int32 → mMem → Prop} {K : Bool → List Value → mMem → Prop} : wS (sSetR 13 a) (v0 :: v1 :: v2 :: v3 :: v4 :: v5 :: v6 :: v7 :: v8 :: v9 :: v10 :: v11 :: v12 :: u :: l) C N R K ↔ wR a (v0 :: v1 :: v2 :: v3 :: v4 :: v5 :: v6 :: v7 :: v8 :: v9 :: v10 :: v11 :: v12 :: u :: l) C fun x C => N (v0 :: v1 :: v2 :: v3 :: v4 :: v5 :: v6 :: v7 :: v8 :: v9 :: v10 :: v11 :: v12 :: .ref x :: l) C := by
  simp [wS, wR, sSetR, w_ob, w_os, w_on, w_oi, wK]
theorem w_sInc13 {v0 v1 v2 v3 v4 v5 v6 v7 v8 v9 v10 v11 v12 : Value} {x v : Int32} {l : List Value} {C : mMem} {N : List Value → mMem → Prop} {R : Option Int32 → mMem → Prop} {K : Bool → List Value → mMem → Prop} : wS (sInc 13 v) (v0 :: v1 :: v2 :: v3 :: v4 :: v5 :: v6 :: v7 :: v8 :: v9 :: v10 :: v11 :: v12 :: .int x :: l) C N R K ↔ N (v0 :: v1 :: v2 :: v3 :: v4 :: v5 :: v6 :: v7 :: v8 :: v9 :: v10 :: v11 :: v12 :: .int (x + v) :: l) C := by
  show (∃ r, some (Sum.inl (v0 :: v1 :: v2 :: v3 :: v4 :: v5 :: v6 :: v7 :: v8 :: v9 :: v10 :: v11 :: v12 :: .int (x + v) :: l, C)) = some r ∧ wK r N R K) ↔ _
  rw [w_os]; rfl
theorem wE_mono {e : mEI} {ls : List Value} {C : mMem} {Q Q' : Int32 → mMem → Prop} (h : wE e ls C Q) (hq : ∀ x D, Q x D → Q' x D) : wE e ls C Q' := by
  obtain ⟨p, h1, h2⟩ := h; exact ⟨p, h1, hq _ _ h2⟩
theorem wB_mono {e : mEB} {ls : List Value} {C : mMem} {Q Q' : Bool → mMem → Prop} (h : wB e ls C Q) (hq : ∀ x D, Q x D → Q' x D) : wB e ls C Q' := by
  obtain ⟨p, h1, h2⟩ := h; exact ⟨p, h1, hq _ _ h2⟩
theorem wF_mono {f : mSem} {ls : List Value} {C : mMem} {Q Q' : Option Int32 → mMem → Prop} (h : wF f ls C Q) (hq : ∀ x D, Q x D → Q' x D) : wF f ls C Q' := by
  obtain ⟨p, h1, h2⟩ := h; exact ⟨p, h1, hq _ _ h2⟩
theorem wF_eq {f : mSem} {as : List Value} {C D : mMem} {r : Option Int32} {Q : Option Int32 → mMem → Prop} (h : f as C = some (r, D)) : wF f as C Q ↔ Q r D := by
  simp only [wF, h, w_os]
theorem wF_to {f : mSem} {as : List Value} {C D : mMem} {r : Option Int32} (h : wF f as C (fun o E => o = r ∧ E = D)) : f as C = some (r, D) := by
  obtain ⟨p, h1, h2, h3⟩ := h
  rw [h1]; cases p; cases h2; cases h3; rfl
theorem wF_of {f : mSem} {as : List Value} {C : mMem} {P : Option Int32 → mMem → Prop} (h : wF f as C P) : ∃ r D, f as C = some (r, D) ∧ P r D := by
  obtain ⟨p, h1, h2⟩ := h; exact ⟨p.1, p.2, h1, h2⟩
theorem wS_mono {S : mSS} {ls : List Value} {C : mMem} {N N' : List Value → mMem → Prop} {R R' : Option Int32 → mMem → Prop} {K K' : Bool → List Value → mMem → Prop} (h : wS S ls C N R K) (hN : ∀ l D, N l D → N' l D) (hR : ∀ o D, R o D → R' o D) (hK : ∀ t l D, K t l D → K' t l D) : wS S ls C N' R' K' := by
  obtain ⟨r, h1, h2⟩ := h
  refine ⟨r, h1, ?_⟩
  rcases r with q | q | q
  · exact hN _ _ h2
  · exact hR _ _ h2
  · exact hK _ _ _ h2
theorem wS_cut {S : mSS} {ls : List Value} {C : mMem} {N : List Value → mMem → Prop} {R : Option Int32 → mMem → Prop} {K : Bool → List Value → mMem → Prop} (N' : List Value → mMem → Prop) (h : wS S ls C N' R K) (hN : ∀ l D, N' l D → N l D) : wS S ls C N R K := wS_mono h hN (fun _ _ h => h) (fun _ _ _ h => h)
/-- a loop: something gets less -/
theorem wS_wh {c : mEB} {b : mSS} {N : List Value → mMem → Prop} {R : Option Int32 → mMem → Prop} {K : Bool → List Value → mMem → Prop} (I : Nat → List Value → mMem → Prop) (hs : ∀ n l D, I n l D → wB c l D (fun t E => if t = true then wS b l E (fun l' E' => ∃ m, m < n ∧ I m l' E') R (fun k l' E' => if k = true then ∃ m, m < n ∧ I m l' E' else N l' E') else N l E)) : ∀ (n : Nat) (ls : List Value) (C : mMem), I n ls C → wS (sWh c b) ls C N R K := by
  have key : ∀ (n : Nat) (ls : List Value) (C : mMem), I n ls C → ∃ r, (∃ f, sWhF f c b ls C = some r) ∧ wK r N R K := by
    intro n
    induction n using Nat.strongRecOn with
    | ind n ih =>
      intro ls C hI
      obtain ⟨p, h1, h2⟩ := hs n ls C hI
      by_cases ht : p.1 = true
      · rw [if_pos ht] at h2
        obtain ⟨r, h3, h4⟩ := h2
        rcases r with q | q | ⟨_ | _, q⟩
        · obtain ⟨m, hm, hI'⟩ := h4
          obtain ⟨r, ⟨f, hf⟩, hr⟩ := ih m hm _ _ hI'
          exact ⟨r, ⟨f + 1, by simp only [sWhF, h1, Option.bind_some, ht, if_true, h3]; exact hf⟩, hr⟩
        · exact ⟨.inr (.inl q), ⟨1, by simp only [sWhF, h1, Option.bind_some, ht, if_true, h3]⟩, h4⟩
        · exact ⟨.inl q, ⟨1, by simp only [sWhF, h1, Option.bind_some, ht, if_true, h3]⟩, by simpa [wK] using h4⟩
        · have h4 : ∃ m, m < n ∧ I m q.1 q.2 := by simpa [wK] using h4
          obtain ⟨m, hm, hI'⟩ := h4
          obtain ⟨r, ⟨f, hf⟩, hr⟩ := ih m hm _ _ hI'
          exact ⟨r, ⟨f + 1, by simp only [sWhF, h1, Option.bind_some, ht, if_true, h3]; exact hf⟩, hr⟩
      · rw [if_neg ht] at h2
        exact ⟨.inl (ls, p.2), ⟨1, by simp [sWhF, h1, ht]⟩, h2⟩
  intro n ls C hI
  obtain ⟨r, ⟨f, hf⟩, hr⟩ := key n ls C hI
  exact ⟨r, sWh_iff.mpr ⟨f, hf⟩, hr⟩
/-- a loop that counts up to M -/
theorem wS_up {c : mEB} {b : mSS} {N : List Value → mMem → Prop} {R : Option Int32 → mMem → Prop} {K : Bool → List Value → mMem → Prop} (M : Nat) (I : Nat → List Value → mMem → Prop) (hs : ∀ p l D, p ≤ M → I p l D → wB c l D (fun t E => if t = true then p < M ∧ wS b l E (I (p + 1)) R (fun k l' E' => if k = true then I (p + 1) l' E' else N l' E') else N l E)) {p : Nat} (hp : p ≤ M) {ls : List Value} {C : mMem} (h0 : I p ls C) : wS (sWh c b) ls C N R K := by
  refine wS_wh (fun n l D => ∃ p, p ≤ M ∧ n = M - p ∧ I p l D) ?_ (M - p) ls C ⟨p, hp, rfl, h0⟩
  rintro n l D ⟨p, hp, rfl, hI⟩
  refine wB_mono (hs p l D hp hI) (fun t E h => ?_)
  by_cases ht : t = true
  · rw [if_pos ht] at h ⊢
    obtain ⟨h1, h2⟩ := h
    refine wS_mono h2 (fun l' E' h => ⟨M - (p + 1), by omega, p + 1, by omega, rfl, h⟩) (fun _ _ h => h) (fun k l' E' h => ?_)
    by_cases hk : k = true
    · rw [if_pos hk] at h ⊢
      exact ⟨M - (p + 1), by omega, p + 1, by omega, rfl, h⟩
    · rw [if_neg hk] at h ⊢
      exact h
  · rw [if_neg ht] at h ⊢
    exact h
theorem w_rcv {cs : List Nat} {f : mSem} {k : Nat} {as : List Value} {C : mMem} {Q : Option Int32 → mMem → Prop} : wF (rcv cs f) (.ref k :: as) C Q ↔ wOk cs k (wF f (.ref k :: as) C Q) := by
  simp only [wF, rcv, wOk, w_oi, w_on, w_ite]
theorem w_bodyI {nL : Nat} {S : mSS} {as : List Value} {C : mMem} {Q : Option Int32 → mMem → Prop} : wF (mBodyI nL S) as C Q ↔ as.length ≤ nL ∧ wS S (as ++ List.replicate (nL - as.length) .null) C (fun _ _ => False) (fun o C => wX o fun x => Q (some x) C) (fun _ _ _ => False) := by
  simp only [wF, wX, mBodyI, mBody, wS, w_ob, w_oi, w_on, w_ite]
  apply and_congr_right; intro _
  apply exists_congr; intro r
  apply and_congr_right; intro _
  rcases r with q | ⟨_ | _, q⟩ | q <;> simp [wK]
theorem w_bodyZ {nL : Nat} {S : mSS} {as : List Value} {C : mMem} {Q : Option Int32 → mMem → Prop} : wF (mBodyZ nL S) as C Q ↔ as.length ≤ nL ∧ wS S (as ++ List.replicate (nL - as.length) .null) C (fun _ _ => False) (fun o C => wX o fun x => w01 x ∧ Q (some x) C) (fun _ _ _ => False) := by
  simp only [wF, wX, w01, mBodyZ, mBody, wS, w_ob, w_oi, w_on, w_ite]
  apply and_congr_right; intro _
  apply exists_congr; intro r
  apply and_congr_right; intro _
  rcases r with q | ⟨_ | x, q⟩ | q
  · simp [wK]
  · simp [wK]
  · simp only [wK, w_os]
    constructor
    · rintro ⟨p, h, hp⟩
      by_cases hx : (x == 0 || x == 1) = true
      · rw [if_pos hx] at h
        cases h
        exact ⟨hx, hp⟩
      · rw [if_neg hx] at h
        cases h
    · rintro ⟨h1, h2⟩
      exact ⟨_, if_pos h1, h2⟩
  · simp [wK]
theorem w_bodyV {nL : Nat} {S : mSS} {as : List Value} {C : mMem} {Q : Option Int32 → mMem → Prop} : wF (mBodyV nL S) as C Q ↔ as.length ≤ nL ∧ wS S (as ++ List.replicate (nL - as.length) .null) C (fun _ _ => False) (fun o C => wN o (Q none C)) (fun _ _ _ => False) := by
  simp only [wF, wN, mBodyV, mBody, wS, w_ob, w_oi, w_on, w_ite]
  apply and_congr_right; intro _
  apply exists_congr; intro r
  apply and_congr_right; intro _
  rcases r with q | ⟨_ | _, q⟩ | q <;> simp [wK]

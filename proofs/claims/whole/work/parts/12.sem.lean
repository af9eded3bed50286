/-! THE SHAPE of the memory: the cells that the two constructors make, in their order (by program, out of the listing) -/
def SH : List mSh := [
.inr (.inr (9, [some 1, none, some 2, some 6, some 11, some 18, some 62, none, some 106, some 125, some 126, some 127, some 133])),
  .inl (.byte, 400),
  .inr (.inr (6, [some 3, some 4, some 5, none, none, none, none, none, none])),
  .inl (.int, 401),
  .inl (.int, 401),
  .inl (.int, 401),
  .inr (.inr (4, [none, none, none, none, some 7, some 8, some 9, some 10])),
  .inl (.int, 17),
  .inl (.int, 16),
  .inl (.int, 400),
  .inl (.int, 24),
  .inr (.inr (7, [none, none, none, some 12, some 13, some 14, some 15, some 16, some 17])),
  .inl (.int, 4),
  .inl (.int, 4),
  .inl (.int, 4),
  .inl (.int, 4),
  .inl (.int, 4),
  .inl (.boolean, 320),
  .inr (.inr (8, [some 19, some 26, some 42, some 43, none])),
  .inr (.inr (7, [none, none, none, some 20, some 21, some 22, some 23, some 24, some 25])),
  .inl (.int, 4),
  .inl (.int, 4),
  .inl (.int, 4),
  .inl (.int, 4),
  .inl (.int, 4),
  .inl (.boolean, 320),
  .inr (.inl ("FourCars$Rule", [27, 32, 37])),
  .inr (.inr (4, [none, none, none, none, some 28, some 29, some 30, some 31])),
  .inl (.int, 17),
  .inl (.int, 16),
  .inl (.int, 400),
  .inl (.int, 24),
  .inr (.inr (4, [none, none, none, none, some 33, some 34, some 35, some 36])),
  .inl (.int, 17),
  .inl (.int, 16),
  .inl (.int, 400),
  .inl (.int, 24),
  .inr (.inr (4, [none, none, none, none, some 38, some 39, some 40, some 41])),
  .inl (.int, 17),
  .inl (.int, 16),
  .inl (.int, 400),
  .inl (.int, 24),
  .inl (.int, 80),
  .inr (.inr (5, [some 19, some 44, some 52, some 61, none, none, none, none, none])),
  .inr (.inr (3, [none, none, none, none, some 45, some 46, some 47, some 48, some 49, some 50, some 51])),
  .inl (.int, 60),
  .inl (.int, 60),
  .inl (.int, 60),
  .inl (.int, 60),
  .inl (.int, 60),
  .inl (.int, 60),
  .inl (.int, 60),
  .inr (.inr (0, [some 53, some 54, some 55, some 56, some 57, some 58, some 59, some 60])),
  .inl (.int, 4),
  .inl (.int, 4),
  .inl (.int, 4),
  .inl (.int, 4),
  .inl (.int, 4),
  .inl (.int, 4),
  .inl (.int, 4),
  .inl (.boolean, 4),
  .inl (.int, 10),
  .inr (.inr (8, [some 63, some 70, some 86, some 87, none])),
  .inr (.inr (7, [none, none, none, some 64, some 65, some 66, some 67, some 68, some 69])),
  .inl (.int, 4),
  .inl (.int, 4),
  .inl (.int, 4),
  .inl (.int, 4),
  .inl (.int, 4),
  .inl (.boolean, 320),
  .inr (.inl ("FourCars$Rule", [71, 76, 81])),
  .inr (.inr (4, [none, none, none, none, some 72, some 73, some 74, some 75])),
  .inl (.int, 17),
  .inl (.int, 16),
  .inl (.int, 400),
  .inl (.int, 24),
  .inr (.inr (4, [none, none, none, none, some 77, some 78, some 79, some 80])),
  .inl (.int, 17),
  .inl (.int, 16),
  .inl (.int, 400),
  .inl (.int, 24),
  .inr (.inr (4, [none, none, none, none, some 82, some 83, some 84, some 85])),
  .inl (.int, 17),
  .inl (.int, 16),
  .inl (.int, 400),
  .inl (.int, 24),
  .inl (.int, 80),
  .inr (.inr (5, [some 63, some 88, some 96, some 105, none, none, none, none, none])),
  .inr (.inr (3, [none, none, none, none, some 89, some 90, some 91, some 92, some 93, some 94, some 95])),
  .inl (.int, 60),
  .inl (.int, 60),
  .inl (.int, 60),
  .inl (.int, 60),
  .inl (.int, 60),
  .inl (.int, 60),
  .inl (.int, 60),
  .inr (.inr (0, [some 97, some 98, some 99, some 100, some 101, some 102, some 103, some 104])),
  .inl (.int, 4),
  .inl (.int, 4),
  .inl (.int, 4),
  .inl (.int, 4),
  .inl (.int, 4),
  .inl (.int, 4),
  .inl (.int, 4),
  .inl (.boolean, 4),
  .inl (.int, 10),
  .inr (.inr (5, [some 19, some 107, some 115, some 124, none, none, none, none, none])),
  .inr (.inr (3, [none, none, none, none, some 108, some 109, some 110, some 111, some 112, some 113, some 114])),
  .inl (.int, 60),
  .inl (.int, 60),
  .inl (.int, 60),
  .inl (.int, 60),
  .inl (.int, 60),
  .inl (.int, 60),
  .inl (.int, 60),
  .inr (.inr (0, [some 116, some 117, some 118, some 119, some 120, some 121, some 122, some 123])),
  .inl (.int, 4),
  .inl (.int, 4),
  .inl (.int, 4),
  .inl (.int, 4),
  .inl (.int, 4),
  .inl (.int, 4),
  .inl (.int, 4),
  .inl (.boolean, 4),
  .inl (.int, 10),
  .inl (.int, 192),
  .inl (.int, 3),
  .inr (.inr (1, [some 128, some 129, some 130, some 131, some 132, none])),
  .inl (.int, 4),
  .inl (.int, 81),
  .inl (.int, 81),
  .inl (.int, 324),
  .inl (.int, 324),
  .inr (.inr (2, [some 134, some 135, some 136, some 137, some 138, none, none, none])),
  .inl (.int, 4),
  .inl (.int, 81),
  .inl (.int, 81),
  .inl (.int, 324),
  .inl (.int, 324),
  .inr (.inr (10, [some 140, some 141, some 142, none, some 143, some 144, some 145, some 146, some 147, some 148, some 149, none, none, none, none, none, none, none, none, none, none, none, none, none, none, none, none, some 150, none, none, none, none, some 151, none, some 152, some 153, some 154, some 155, none])),
  .inl (.int, 3970),
  .inl (.int, 3970),
  .inl (.int, 1300),
  .inl (.int, 64),
  .inl (.int, 820),
  .inl (.int, 40),
  .inl (.int, 400),
  .inl (.int, 420),
  .inl (.int, 11),
  .inl (.boolean, 320),
  .inl (.int, 60),
  .inl (.int, 60),
  .inl (.int, 320),
  .inl (.int, 4),
  .inl (.int, 4),
  .inl (.int, 4)]

/-! WORDS for programs over that memory -/
abbrev mEI : Type := List Value → mMem → Option (Int32 × mMem)
abbrev mER : Type := List Value → mMem → Option (Nat × mMem)
abbrev mEB : Type := List Value → mMem → Option (Bool × mMem)
abbrev mAS : Type := List Value → mMem → Option (List Value × mMem)
abbrev mSR : Type := (List Value × mMem) ⊕ ((Option Int32 × mMem) ⊕ (Bool × List Value × mMem))
abbrev mSS : Type := List Value → mMem → Option mSR
/-- the class numbers cs, an int field j of cell k -/
def mI (cs : List Nat) (j k : Nat) : Bool := match SH[k]? with
  | some (.inr (.inr q)) => cs.contains q.1 && (q.2[j]? == some none)
  | _ => false
def mR (cs : List Nat) (j k : Nat) : Option Nat := match SH[k]? with
  | some (.inr (.inr q)) => if cs.contains q.1 then (match q.2[j]? with | some (some t) => some t | _ => none) else none
  | _ => none
/-- the length of cell k, a row of ints of that type -/
def mA (ty : FieldType) (k : Nat) : Option Nat := match SH[k]? with
  | some (.inl q) => if q.1 = ty then some q.2 else none
  | _ => none
def mQ (k : Nat) : Option (List Nat) := match SH[k]? with
  | some (.inr (.inl q)) => some q.2
  | _ => none
def mIn (i : Int32) (n : Nat) : Bool := decide (0 ≤ i.toInt) && decide (i.toInt < n)
theorem mIn_vp {i : Int32} {n : Nat} (h : mIn i n = true) : vp_in i n := by
  simp only [mIn, Bool.and_eq_true, decide_eq_true_eq] at h
  exact vp_in_iff.mpr h
def mNar (ty : FieldType) (x : Int32) : Int32 := match ty with
  | .byte => vp_nar .byte x
  | .boolean => vp_nar .boolean x
  | _ => x
def eInt (v : Int32) : mEI := fun _ C => some (v, C)
def eLoc (i : Nat) : mEI := fun ls C => match ls[i]? with
  | some (.int x) => some (x, C)
  | _ => none
def rLoc (i : Nat) : mER := fun ls C => match ls[i]? with
  | some (.ref x) => some (x, C)
  | _ => none
def rStr (k : Nat) : mER := fun _ C => some (k, C)
def eBin (f : Int32 → Int32 → Int32) (a b : mEI) : mEI := fun ls C => (a ls C).bind fun p => (b ls p.2).bind fun q => some (f p.1 q.1, q.2)
def eDiv (a b : mEI) : mEI := fun ls C => (a ls C).bind fun p => (b ls p.2).bind fun q => if q.1 = 0 then none else some (p.1 / q.1, q.2)
def eRem (a b : mEI) : mEI := fun ls C => (a ls C).bind fun p => (b ls p.2).bind fun q => if q.1 = 0 then none else some (p.1 - p.1 / q.1 * q.1, q.2)
def eUn (f : Int32 → Int32) (a : mEI) : mEI := fun ls C => (a ls C).bind fun p => some (f p.1, p.2)
def eFld (cs : List Nat) (j : Nat) (r : mER) : mEI := fun ls C => (r ls C).bind fun p => if mI cs j p.1 then some (p.2 p.1 j, p.2) else none
def rFld (cs : List Nat) (j : Nat) (r : mER) : mER := fun ls C => (r ls C).bind fun p => (mR cs j p.1).bind fun t => some (t, p.2)
def eALd (ty : FieldType) (a : mER) (i : mEI) : mEI := fun ls C => (a ls C).bind fun p => (i ls p.2).bind fun q => (mA ty p.1).bind fun n => if mIn q.1 n then some (q.2 p.1 q.1.toNatClampNeg, q.2) else none
def rALd (a : mER) (i : mEI) : mER := fun ls C => (a ls C).bind fun p => (i ls p.2).bind fun q => (mQ p.1).bind fun ts => if mIn q.1 ts.length then (ts[q.1.toNatClampNeg]?).bind (fun t => some (t, q.2)) else none
def eALen (ty : FieldType) (a : mER) : mEI := fun ls C => (a ls C).bind fun p => (mA ty p.1).bind fun n => some (Int32.ofNat n, p.2)
def aNil : mAS := fun _ C => some ([], C)
def aI (e : mEI) (t : mAS) : mAS := fun ls C => (e ls C).bind fun p => (t ls p.2).bind fun q => some (.int p.1 :: q.1, q.2)
def aR (e : mER) (t : mAS) : mAS := fun ls C => (e ls C).bind fun p => (t ls p.2).bind fun q => some (.ref p.1 :: q.1, q.2)
def eCall (f : mSem) (a : mAS) : mEI := fun ls C => (a ls C).bind fun p => (f p.1 p.2).bind fun q => q.1.bind fun x => some (x, q.2)
def bCmp (cd : ClassFile.Cond) (a b : mEI) : mEB := fun ls C => (a ls C).bind fun p => (b ls p.2).bind fun q => some (cz cd p.1 q.1, q.2)
def bZ (cd : ClassFile.Cond) (a : mEI) : mEB := fun ls C => (a ls C).bind fun p => some (cz cd p.1 0, p.2)
def bAnd (a b : mEB) : mEB := fun ls C => (a ls C).bind fun p => if p.1 then b ls p.2 else some (false, p.2)
def bOr (a b : mEB) : mEB := fun ls C => (a ls C).bind fun p => if p.1 then some (true, p.2) else b ls p.2
def bNot (a : mEB) : mEB := fun ls C => (a ls C).bind fun p => some (!p.1, p.2)
def eB (b : mEB) : mEI := fun ls C => (b ls C).bind fun p => some (if p.1 then 1 else 0, p.2)
def eIte (c : mEB) (a b : mEI) : mEI := fun ls C => (c ls C).bind fun p => if p.1 then a ls p.2 else b ls p.2
def sSet (i : Nat) (e : mEI) : mSS := fun ls C => (e ls C).bind fun p => if i < ls.length then some (.inl (ls.set i (.int p.1), p.2)) else none
def sSetR (i : Nat) (e : mER) : mSS := fun ls C => (e ls C).bind fun p => if i < ls.length then some (.inl (ls.set i (.ref p.1), p.2)) else none
def sInc (i : Nat) (v : Int32) : mSS := fun ls C => match ls[i]? with
  | some (.int x) => some (.inl (ls.set i (.int (x + v)), C))
  | _ => none
def sPut (cs : List Nat) (j : Nat) (b : Bool) (r : mER) (e : mEI) : mSS := fun ls C => (r ls C).bind fun p => (e ls p.2).bind fun q => if mI cs j p.1 && (!b || q.1 == 0 || q.1 == 1) then some (.inl (ls, mUp q.2 p.1 j q.1)) else none
def sPutOp (cs : List Nat) (j : Nat) (b : Bool) (f : Int32 → Int32 → Int32) (r : mER) (e : mEI) : mSS := fun ls C => (r ls C).bind fun p => if mI cs j p.1 then (e ls p.2).bind fun q => if !b || f (p.2 p.1 j) q.1 == 0 || f (p.2 p.1 j) q.1 == 1 then some (.inl (ls, mUp q.2 p.1 j (f (p.2 p.1 j) q.1))) else none else none
def sASt (ty : FieldType) (a : mER) (i : mEI) (e : mEI) : mSS := fun ls C => (a ls C).bind fun p => (i ls p.2).bind fun q => (e ls q.2).bind fun r => (mA ty p.1).bind fun n => if mIn q.1 n then some (.inl (ls, mUp r.2 p.1 q.1.toNatClampNeg (mNar ty r.1))) else none
def sAOp (f : Int32 → Int32 → Int32) (a : mER) (i : mEI) (e : mEI) : mSS := fun ls C => (a ls C).bind fun p => (i ls p.2).bind fun q => (mA .int p.1).bind fun n => if mIn q.1 n then (e ls q.2).bind fun r => some (.inl (ls, mUp r.2 p.1 q.1.toNatClampNeg (f (q.2 p.1 q.1.toNatClampNeg) r.1))) else none
def sADiv (a : mER) (i : mEI) (e : mEI) : mSS := fun ls C => (a ls C).bind fun p => (i ls p.2).bind fun q => (mA .int p.1).bind fun n => if mIn q.1 n then (e ls q.2).bind fun r => if r.1 = 0 then none else some (.inl (ls, mUp r.2 p.1 q.1.toNatClampNeg (q.2 p.1 q.1.toNatClampNeg / r.1))) else none
def sCall (f : mSem) (a : mAS) : mSS := fun ls C => (a ls C).bind fun p => (f p.1 p.2).bind fun q => match q.1 with
  | none => some (.inl (ls, q.2))
  | some _ => none
def sSkip : mSS := fun ls C => some (.inl (ls, C))
def sSeq (a b : mSS) : mSS := fun ls C => (a ls C).bind fun r => match r with
  | .inl q => b q.1 q.2
  | .inr o => some (.inr o)
def sIf (c : mEB) (a b : mSS) : mSS := fun ls C => (c ls C).bind fun p => if p.1 then a ls p.2 else b ls p.2
def sRet (e : mEI) : mSS := fun ls C => (e ls C).bind fun p => some (.inr (.inl (some p.1, p.2)))
def sRetZ (e : mEI) : mSS := fun ls C => (e ls C).bind fun p => if p.1 == 0 || p.1 == 1 then some (.inr (.inl (some p.1, p.2))) else none
def sRetV : mSS := fun _ C => some (.inr (.inl (none, C)))
def sBrk : mSS := fun ls C => some (.inr (.inr (false, ls, C)))
def sCont : mSS := fun ls C => some (.inr (.inr (true, ls, C)))
def sCaC (a : mSS) : mSS := fun ls C => (a ls C).bind fun r => match r with
  | .inr (.inr (true, l, D)) => some (.inl (l, D))
  | r => some r
def sCaB (a : mSS) : mSS := fun ls C => (a ls C).bind fun r => match r with
  | .inr (.inr (false, l, D)) => some (.inl (l, D))
  | r => some r
def sSw (e : mEI) (g : Int32 → mSS) : mSS := fun ls C => (e ls C).bind fun p => g p.1 ls p.2
def sWhF : Nat → mEB → mSS → mSS
  | 0, _, _ => fun _ _ => none
  | n + 1, c, b => fun ls C => (c ls C).bind fun p => if p.1 then (b ls p.2).bind fun r => match r with
      | .inl q => sWhF n c b q.1 q.2
      | .inr (.inr (true, l, D)) => sWhF n c b l D
      | .inr (.inr (false, l, D)) => some (.inl (l, D))
      | .inr (.inl o) => some (.inr (.inl o))
    else some (.inl (ls, p.2))
theorem sWhF_mono (c : mEB) (b : mSS) : ∀ (n : Nat) (ls : List Value) (C : mMem) (r : mSR), sWhF n c b ls C = some r → sWhF (n + 1) c b ls C = some r := by
  intro n
  induction n with
  | zero => intro ls C r h; cases h
  | succ n ih =>
    intro ls C r h
    rw [sWhF] at h ⊢
    dsimp only at h ⊢
    obtain ⟨p, hp, h⟩ := Option.bind_eq_some_iff.mp h
    rw [hp, Option.bind_some]
    by_cases ht : p.1 = true
    · rw [if_pos ht] at h ⊢
      obtain ⟨q, hq, h⟩ := Option.bind_eq_some_iff.mp h
      rw [hq, Option.bind_some]
      rcases q with q | q | ⟨_ | _, q⟩
      · exact ih _ _ _ h
      · exact h
      · exact h
      · exact ih _ _ _ h
    · rw [if_neg ht] at h ⊢
      exact h
theorem sWhF_le (c : mEB) (b : mSS) {n m : Nat} (h : n ≤ m) {ls : List Value} {C : mMem} {r : mSR} (hr : sWhF n c b ls C = some r) : sWhF m c b ls C = some r := by
  induction h with
  | refl => exact hr
  | step _ ih => exact sWhF_mono c b _ ls C r ih
noncomputable def sWh (c : mEB) (b : mSS) : mSS := fun ls C => @dite _ (∃ r, ∃ n, sWhF n c b ls C = some r) (Classical.propDecidable _) (fun h => some (Classical.choose h)) (fun _ => none)
theorem sWh_iff {c : mEB} {b : mSS} {ls : List Value} {C : mMem} {r : mSR} : sWh c b ls C = some r ↔ ∃ n, sWhF n c b ls C = some r := by
  unfold sWh
  by_cases h : ∃ r, ∃ n, sWhF n c b ls C = some r
  · rw [dif_pos h]
    obtain ⟨n, hn⟩ := Classical.choose_spec h
    constructor
    · intro e
      exact ⟨n, by rw [hn]; exact e⟩
    · rintro ⟨m, hm⟩
      have h1 := sWhF_le c b (Nat.le_max_left n m) hn
      have h2 := sWhF_le c b (Nat.le_max_right n m) hm
      rw [← h1, h2]
  · rw [dif_neg h]
    constructor
    · intro e; cases e
    · rintro ⟨m, hm⟩; exact absurd ⟨r, m, hm⟩ h
/-- a method of nL locals -/
def mBody (nL : Nat) (S : mSS) : mSem := fun as C => if as.length ≤ nL then (S (as ++ List.replicate (nL - as.length) .null) C).bind fun r => match r with
  | .inr (.inl q) => some q
  | _ => none
  else none
/-- .. that answers an int -/
def mBodyI (nL : Nat) (S : mSS) : mSem := fun as C => (mBody nL S as C).bind fun q => match q.1 with
  | some _ => some q
  | none => none
/-- .. that answers nothing -/
def mBodyV (nL : Nat) (S : mSS) : mSem := fun as C => (mBody nL S as C).bind fun q => match q.1 with
  | some _ => none
  | none => some q
/-- .. that answers true or false -/
def mBodyZ (nL : Nat) (S : mSS) : mSem := fun as C => (mBody nL S as C).bind fun q => match q.1 with
  | some x => if x == 0 || x == 1 then some q else none
  | none => none
/-- cell k is an object of one of these classes -/
def mO (cs : List Nat) (k : Nat) : Bool := match SH[k]? with
  | some (.inr (.inr q)) => cs.contains q.1
  | _ => false
/-- a method of an object -/
def rcv (cs : List Nat) (f : mSem) : mSem := fun as C => match as with
  | .ref k :: _ => if mO cs k then f as C else none
  | _ => none


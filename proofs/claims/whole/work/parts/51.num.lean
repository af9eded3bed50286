/-! NUMBERS: ints of 32 bits by the integers that they stand for -/
def iz (a : Int) : Int32 := Int32.ofInt a
theorem iz_lit {n : Nat} : (@OfNat.ofNat Int32 n Int32.instOfNat) = iz (@OfNat.ofNat Int n _) := Int32.ofInt_eq_ofNat.symm
theorem iz_ofNat {n : Nat} : Int32.ofNat n = iz (n : Int) := Int32.ofInt_eq_ofNat.symm
theorem iz_nI {n : Nat} : nI n = iz (n : Int) := Int32.ofInt_eq_ofNat.symm
theorem iz_add {a b : Int} : iz a + iz b = iz (a + b) := (Int32.ofInt_add a b).symm
theorem iz_sub {a b : Int} : iz a - iz b = iz (a - b) := (Int32.ofInt_sub a b).symm
theorem iz_mul {a b : Int} : iz a * iz b = iz (a * b) := (Int32.ofInt_mul a b).symm
theorem iz_neg {a : Int} : - iz a = iz (- a) := (Int32.ofInt_neg a).symm
theorem iz_self (x : Int32) : iz x.toInt = x := Int32.ofInt_toInt x
theorem iz_int {a : Int} (h : -2147483648 ≤ a ∧ a < 2147483648) : (iz a).toInt = a := Int32.toInt_ofInt_of_le (by omega) (by omega)
theorem iz_inj {a b : Int} (h : (-2147483648 ≤ a ∧ a < 2147483648) ∧ -2147483648 ≤ b ∧ b < 2147483648) : iz a = iz b ↔ a = b := by
  rw [← Int32.toInt_inj, iz_int h.1, iz_int h.2]
theorem iz_lt {a b : Int} (h : (-2147483648 ≤ a ∧ a < 2147483648) ∧ -2147483648 ≤ b ∧ b < 2147483648) : iz a < iz b ↔ a < b := by
  rw [Int32.lt_iff_toInt_lt, iz_int h.1, iz_int h.2]
theorem iz_le {a b : Int} (h : (-2147483648 ≤ a ∧ a < 2147483648) ∧ -2147483648 ≤ b ∧ b < 2147483648) : iz a ≤ iz b ↔ a ≤ b := by
  rw [Int32.le_iff_toInt_le, iz_int h.1, iz_int h.2]
theorem iz_nat {a : Int} (h : -2147483648 ≤ a ∧ a < 2147483648) : (iz a).toNatClampNeg = a.toNat := Int32.toNatClampNeg_ofInt_of_le (by omega) (by omega)
theorem cz_lt {a b : Int} (h : (-2147483648 ≤ a ∧ a < 2147483648) ∧ -2147483648 ≤ b ∧ b < 2147483648) : cz .lt (iz a) (iz b) = decide (a < b) := by simp [cz, iz_lt h]
theorem cz_le {a b : Int} (h : (-2147483648 ≤ a ∧ a < 2147483648) ∧ -2147483648 ≤ b ∧ b < 2147483648) : cz .le (iz a) (iz b) = decide (a ≤ b) := by simp [cz, iz_le h]
theorem cz_gt {a b : Int} (h : (-2147483648 ≤ a ∧ a < 2147483648) ∧ -2147483648 ≤ b ∧ b < 2147483648) : cz .gt (iz a) (iz b) = decide (b < a) := by simp [cz, iz_lt ⟨h.2, h.1⟩]
theorem cz_ge {a b : Int} (h : (-2147483648 ≤ a ∧ a < 2147483648) ∧ -2147483648 ≤ b ∧ b < 2147483648) : cz .ge (iz a) (iz b) = decide (b ≤ a) := by simp [cz, iz_le ⟨h.2, h.1⟩]
theorem cz_eq {a b : Int} (h : (-2147483648 ≤ a ∧ a < 2147483648) ∧ -2147483648 ≤ b ∧ b < 2147483648) : cz .eq (iz a) (iz b) = decide (a = b) := by simp [cz, iz_inj h]
theorem cz_ne {a b : Int} (h : (-2147483648 ≤ a ∧ a < 2147483648) ∧ -2147483648 ≤ b ∧ b < 2147483648) : cz .ne (iz a) (iz b) = !decide (a = b) := by simp [cz, iz_inj h]
theorem mIn_iz {a : Int} {n : Nat} (h : 0 ≤ a ∧ a < n ∧ n ≤ 2147483648) : mIn (iz a) n = true := by
  simp only [mIn, iz_int (a := a) (by omega), Bool.and_eq_true, decide_eq_true_eq]
  omega
theorem iz_div {a b : Int} (h : (-2147483648 ≤ a ∧ a < 2147483648) ∧ 0 < b ∧ b < 2147483648) : iz a / iz b = iz (a.tdiv b) := by
  apply Int32.toInt_inj.mp
  rw [Int32.toInt_div_of_ne_right _ _ (fun e => by
    have := congrArg Int32.toInt e
    rw [iz_int (by omega)] at this
    have e1 : ((-1 : Int32)).toInt = -1 := by decide
    omega), iz_int h.1, iz_int (by omega)]
  symm
  apply iz_int
  have key : ∀ c : Int, 0 ≤ c → 0 ≤ c.tdiv b ∧ c.tdiv b ≤ c := fun c hc => by
    rw [Int.tdiv_eq_ediv_of_nonneg hc]
    exact ⟨Int.ediv_nonneg hc (by omega), Int.ediv_le_self _ hc⟩
  rcases Int.le_total 0 a with h0 | h0
  · have := key a h0
    omega
  · have h1 := key (-a) (by omega)
    rw [Int.neg_tdiv] at h1
    omega
theorem w01_i0 : w01 (iz 0) := w01_0
theorem w01_i1 : w01 (iz 1) := w01_1
theorem bI_ne' {t : Bool} : cz .ne (bI t) (iz 0) = t := bI_ne
theorem bI_eq' {t : Bool} : cz .eq (bI t) (iz 0) = !t := bI_eq
theorem bI_iz {t : Bool} : bI t = iz (if t = true then 1 else 0) := by cases t <;> rfl
theorem iz_rg (x : Int32) : -2147483648 ≤ x.toInt ∧ x.toInt < 2147483648 := by
  have h1 := Int32.le_toInt x
  have h2 := Int32.toInt_lt x
  omega
theorem up_at {C : mMem} {k j : Nat} {x : Int32} : mUp C k j x k j = x := by simp [mUp, upd]
theorem up_j {C : mMem} {k j i : Nat} {x : Int32} (h : i ≠ j) : mUp C k j x k i = C k i := by simp [mUp, upd, h]
theorem up_k {C : mMem} {k j a : Nat} {x : Int32} (h : a ≠ k) : mUp C k j x a = C a := by simp [mUp, h]
theorem up_ap {C : mMem} {k j a i : Nat} {x : Int32} : mUp C k j x a i = if a = k then (if i = j then x else C a i) else C a i := by
  by_cases h : a = k <;> simp [mUp, upd, h]
theorem wIk_of {cs : List Nat} {j k : Nat} {P : Prop} (h : mI cs j k = true) : wIk cs j k P ↔ P := by simp [wIk, h]
theorem wRk_of {cs : List Nat} {j k t : Nat} {P : Nat → Prop} (h : mR cs j k = some t) : wRk cs j k P ↔ P t := by simp [wRk, h]
theorem wAk_of {ty : FieldType} {k n : Nat} {x : Int32} {P : Prop} (h : mA ty k = some n) : wAk ty k x P ↔ mIn x n = true ∧ P := by simp [wAk, h]
theorem wNk_of {ty : FieldType} {k n : Nat} {P : Int32 → Prop} (h : mA ty k = some n) : wNk ty k P ↔ P (iz n) := by simp [wNk, h, iz_ofNat]
theorem wOk_of {cs : List Nat} {k : Nat} {P : Prop} (h : mO cs k = true) : wOk cs k P ↔ P := by simp [wOk, h]
theorem tO_0 {P : Prop} : wOk [9] 0 P ↔ P := wOk_of rfl
theorem tR_0_0 {P : Nat → Prop} : wRk [9] 0 0 P ↔ P 1 := wRk_of rfl
theorem tI_0_1 {P : Prop} : wIk [9] 1 0 P ↔ P := wIk_of rfl
theorem tR_0_2 {P : Nat → Prop} : wRk [9] 2 0 P ↔ P 2 := wRk_of rfl
theorem tR_0_3 {P : Nat → Prop} : wRk [9] 3 0 P ↔ P 6 := wRk_of rfl
theorem tR_0_4 {P : Nat → Prop} : wRk [9] 4 0 P ↔ P 11 := wRk_of rfl
theorem tR_0_5 {P : Nat → Prop} : wRk [9] 5 0 P ↔ P 18 := wRk_of rfl
theorem tR_0_6 {P : Nat → Prop} : wRk [9] 6 0 P ↔ P 62 := wRk_of rfl
theorem tI_0_7 {P : Prop} : wIk [9] 7 0 P ↔ P := wIk_of rfl
theorem tR_0_8 {P : Nat → Prop} : wRk [9] 8 0 P ↔ P 106 := wRk_of rfl
theorem tR_0_9 {P : Nat → Prop} : wRk [9] 9 0 P ↔ P 125 := wRk_of rfl
theorem tR_0_10 {P : Nat → Prop} : wRk [9] 10 0 P ↔ P 126 := wRk_of rfl
theorem tR_0_11 {P : Nat → Prop} : wRk [9] 11 0 P ↔ P 127 := wRk_of rfl
theorem tR_0_12 {P : Nat → Prop} : wRk [9] 12 0 P ↔ P 133 := wRk_of rfl
theorem tA_1 {x : Int32} {P : Prop} : wAk .byte 1 x P ↔ mIn x 400 = true ∧ P := wAk_of rfl
theorem tN_1 {P : Int32 → Prop} : wNk .byte 1 P ↔ P (iz 400) := wNk_of rfl
theorem tO_2 {P : Prop} : wOk [6] 2 P ↔ P := wOk_of rfl
theorem tR_2_0 {P : Nat → Prop} : wRk [6] 0 2 P ↔ P 3 := wRk_of rfl
theorem tR_2_1 {P : Nat → Prop} : wRk [6] 1 2 P ↔ P 4 := wRk_of rfl
theorem tR_2_2 {P : Nat → Prop} : wRk [6] 2 2 P ↔ P 5 := wRk_of rfl
theorem tI_2_3 {P : Prop} : wIk [6] 3 2 P ↔ P := wIk_of rfl
theorem tI_2_4 {P : Prop} : wIk [6] 4 2 P ↔ P := wIk_of rfl
theorem tI_2_5 {P : Prop} : wIk [6] 5 2 P ↔ P := wIk_of rfl
theorem tI_2_6 {P : Prop} : wIk [6] 6 2 P ↔ P := wIk_of rfl
theorem tI_2_7 {P : Prop} : wIk [6] 7 2 P ↔ P := wIk_of rfl
theorem tI_2_8 {P : Prop} : wIk [6] 8 2 P ↔ P := wIk_of rfl
theorem tA_3 {x : Int32} {P : Prop} : wAk .int 3 x P ↔ mIn x 401 = true ∧ P := wAk_of rfl
theorem tN_3 {P : Int32 → Prop} : wNk .int 3 P ↔ P (iz 401) := wNk_of rfl
theorem tA_4 {x : Int32} {P : Prop} : wAk .int 4 x P ↔ mIn x 401 = true ∧ P := wAk_of rfl
theorem tN_4 {P : Int32 → Prop} : wNk .int 4 P ↔ P (iz 401) := wNk_of rfl
theorem tA_5 {x : Int32} {P : Prop} : wAk .int 5 x P ↔ mIn x 401 = true ∧ P := wAk_of rfl
theorem tN_5 {P : Int32 → Prop} : wNk .int 5 P ↔ P (iz 401) := wNk_of rfl
theorem tO_6 {P : Prop} : wOk [4] 6 P ↔ P := wOk_of rfl
theorem tI_6_0 {P : Prop} : wIk [4] 0 6 P ↔ P := wIk_of rfl
theorem tI_6_1 {P : Prop} : wIk [4] 1 6 P ↔ P := wIk_of rfl
theorem tI_6_2 {P : Prop} : wIk [4] 2 6 P ↔ P := wIk_of rfl
theorem tI_6_3 {P : Prop} : wIk [4] 3 6 P ↔ P := wIk_of rfl
theorem tR_6_4 {P : Nat → Prop} : wRk [4] 4 6 P ↔ P 7 := wRk_of rfl
theorem tR_6_5 {P : Nat → Prop} : wRk [4] 5 6 P ↔ P 8 := wRk_of rfl
theorem tR_6_6 {P : Nat → Prop} : wRk [4] 6 6 P ↔ P 9 := wRk_of rfl
theorem tR_6_7 {P : Nat → Prop} : wRk [4] 7 6 P ↔ P 10 := wRk_of rfl
theorem tA_7 {x : Int32} {P : Prop} : wAk .int 7 x P ↔ mIn x 17 = true ∧ P := wAk_of rfl
theorem tN_7 {P : Int32 → Prop} : wNk .int 7 P ↔ P (iz 17) := wNk_of rfl
theorem tA_8 {x : Int32} {P : Prop} : wAk .int 8 x P ↔ mIn x 16 = true ∧ P := wAk_of rfl
theorem tN_8 {P : Int32 → Prop} : wNk .int 8 P ↔ P (iz 16) := wNk_of rfl
theorem tA_9 {x : Int32} {P : Prop} : wAk .int 9 x P ↔ mIn x 400 = true ∧ P := wAk_of rfl
theorem tN_9 {P : Int32 → Prop} : wNk .int 9 P ↔ P (iz 400) := wNk_of rfl
theorem tA_10 {x : Int32} {P : Prop} : wAk .int 10 x P ↔ mIn x 24 = true ∧ P := wAk_of rfl
theorem tN_10 {P : Int32 → Prop} : wNk .int 10 P ↔ P (iz 24) := wNk_of rfl
theorem tO_11 {P : Prop} : wOk [7] 11 P ↔ P := wOk_of rfl
theorem tI_11_0 {P : Prop} : wIk [7] 0 11 P ↔ P := wIk_of rfl
theorem tI_11_1 {P : Prop} : wIk [7] 1 11 P ↔ P := wIk_of rfl
theorem tI_11_2 {P : Prop} : wIk [7] 2 11 P ↔ P := wIk_of rfl
theorem tR_11_3 {P : Nat → Prop} : wRk [7] 3 11 P ↔ P 12 := wRk_of rfl
theorem tR_11_4 {P : Nat → Prop} : wRk [7] 4 11 P ↔ P 13 := wRk_of rfl
theorem tR_11_5 {P : Nat → Prop} : wRk [7] 5 11 P ↔ P 14 := wRk_of rfl
theorem tR_11_6 {P : Nat → Prop} : wRk [7] 6 11 P ↔ P 15 := wRk_of rfl
theorem tR_11_7 {P : Nat → Prop} : wRk [7] 7 11 P ↔ P 16 := wRk_of rfl
theorem tR_11_8 {P : Nat → Prop} : wRk [7] 8 11 P ↔ P 17 := wRk_of rfl
theorem tA_12 {x : Int32} {P : Prop} : wAk .int 12 x P ↔ mIn x 4 = true ∧ P := wAk_of rfl
theorem tN_12 {P : Int32 → Prop} : wNk .int 12 P ↔ P (iz 4) := wNk_of rfl
theorem tA_13 {x : Int32} {P : Prop} : wAk .int 13 x P ↔ mIn x 4 = true ∧ P := wAk_of rfl
theorem tN_13 {P : Int32 → Prop} : wNk .int 13 P ↔ P (iz 4) := wNk_of rfl
theorem tA_14 {x : Int32} {P : Prop} : wAk .int 14 x P ↔ mIn x 4 = true ∧ P := wAk_of rfl
theorem tN_14 {P : Int32 → Prop} : wNk .int 14 P ↔ P (iz 4) := wNk_of rfl
theorem tA_15 {x : Int32} {P : Prop} : wAk .int 15 x P ↔ mIn x 4 = true ∧ P := wAk_of rfl
theorem tN_15 {P : Int32 → Prop} : wNk .int 15 P ↔ P (iz 4) := wNk_of rfl
theorem tA_16 {x : Int32} {P : Prop} : wAk .int 16 x P ↔ mIn x 4 = true ∧ P := wAk_of rfl
theorem tN_16 {P : Int32 → Prop} : wNk .int 16 P ↔ P (iz 4) := wNk_of rfl
theorem tA_17 {x : Int32} {P : Prop} : wAk .boolean 17 x P ↔ mIn x 320 = true ∧ P := wAk_of rfl
theorem tN_17 {P : Int32 → Prop} : wNk .boolean 17 P ↔ P (iz 320) := wNk_of rfl
theorem tO_18 {P : Prop} : wOk [8] 18 P ↔ P := wOk_of rfl
theorem tR_18_0 {P : Nat → Prop} : wRk [8] 0 18 P ↔ P 19 := wRk_of rfl
theorem tR_18_1 {P : Nat → Prop} : wRk [8] 1 18 P ↔ P 26 := wRk_of rfl
theorem tR_18_2 {P : Nat → Prop} : wRk [8] 2 18 P ↔ P 42 := wRk_of rfl
theorem tR_18_3 {P : Nat → Prop} : wRk [8] 3 18 P ↔ P 43 := wRk_of rfl
theorem tI_18_4 {P : Prop} : wIk [8] 4 18 P ↔ P := wIk_of rfl
theorem tO_19 {P : Prop} : wOk [7] 19 P ↔ P := wOk_of rfl
theorem tI_19_0 {P : Prop} : wIk [7] 0 19 P ↔ P := wIk_of rfl
theorem tI_19_1 {P : Prop} : wIk [7] 1 19 P ↔ P := wIk_of rfl
theorem tI_19_2 {P : Prop} : wIk [7] 2 19 P ↔ P := wIk_of rfl
theorem tR_19_3 {P : Nat → Prop} : wRk [7] 3 19 P ↔ P 20 := wRk_of rfl
theorem tR_19_4 {P : Nat → Prop} : wRk [7] 4 19 P ↔ P 21 := wRk_of rfl
theorem tR_19_5 {P : Nat → Prop} : wRk [7] 5 19 P ↔ P 22 := wRk_of rfl
theorem tR_19_6 {P : Nat → Prop} : wRk [7] 6 19 P ↔ P 23 := wRk_of rfl
theorem tR_19_7 {P : Nat → Prop} : wRk [7] 7 19 P ↔ P 24 := wRk_of rfl
theorem tR_19_8 {P : Nat → Prop} : wRk [7] 8 19 P ↔ P 25 := wRk_of rfl
theorem tA_20 {x : Int32} {P : Prop} : wAk .int 20 x P ↔ mIn x 4 = true ∧ P := wAk_of rfl
theorem tN_20 {P : Int32 → Prop} : wNk .int 20 P ↔ P (iz 4) := wNk_of rfl
theorem tA_21 {x : Int32} {P : Prop} : wAk .int 21 x P ↔ mIn x 4 = true ∧ P := wAk_of rfl
theorem tN_21 {P : Int32 → Prop} : wNk .int 21 P ↔ P (iz 4) := wNk_of rfl
theorem tA_22 {x : Int32} {P : Prop} : wAk .int 22 x P ↔ mIn x 4 = true ∧ P := wAk_of rfl
theorem tN_22 {P : Int32 → Prop} : wNk .int 22 P ↔ P (iz 4) := wNk_of rfl
theorem tA_23 {x : Int32} {P : Prop} : wAk .int 23 x P ↔ mIn x 4 = true ∧ P := wAk_of rfl
theorem tN_23 {P : Int32 → Prop} : wNk .int 23 P ↔ P (iz 4) := wNk_of rfl
theorem tA_24 {x : Int32} {P : Prop} : wAk .int 24 x P ↔ mIn x 4 = true ∧ P := wAk_of rfl
theorem tN_24 {P : Int32 → Prop} : wNk .int 24 P ↔ P (iz 4) := wNk_of rfl
theorem tA_25 {x : Int32} {P : Prop} : wAk .boolean 25 x P ↔ mIn x 320 = true ∧ P := wAk_of rfl
theorem tN_25 {P : Int32 → Prop} : wNk .boolean 25 P ↔ P (iz 320) := wNk_of rfl
theorem tO_27 {P : Prop} : wOk [4] 27 P ↔ P := wOk_of rfl
theorem tI_27_0 {P : Prop} : wIk [4] 0 27 P ↔ P := wIk_of rfl
theorem tI_27_1 {P : Prop} : wIk [4] 1 27 P ↔ P := wIk_of rfl
theorem tI_27_2 {P : Prop} : wIk [4] 2 27 P ↔ P := wIk_of rfl
theorem tI_27_3 {P : Prop} : wIk [4] 3 27 P ↔ P := wIk_of rfl
theorem tR_27_4 {P : Nat → Prop} : wRk [4] 4 27 P ↔ P 28 := wRk_of rfl
theorem tR_27_5 {P : Nat → Prop} : wRk [4] 5 27 P ↔ P 29 := wRk_of rfl
theorem tR_27_6 {P : Nat → Prop} : wRk [4] 6 27 P ↔ P 30 := wRk_of rfl
theorem tR_27_7 {P : Nat → Prop} : wRk [4] 7 27 P ↔ P 31 := wRk_of rfl
theorem tA_28 {x : Int32} {P : Prop} : wAk .int 28 x P ↔ mIn x 17 = true ∧ P := wAk_of rfl
theorem tN_28 {P : Int32 → Prop} : wNk .int 28 P ↔ P (iz 17) := wNk_of rfl
theorem tA_29 {x : Int32} {P : Prop} : wAk .int 29 x P ↔ mIn x 16 = true ∧ P := wAk_of rfl
theorem tN_29 {P : Int32 → Prop} : wNk .int 29 P ↔ P (iz 16) := wNk_of rfl
theorem tA_30 {x : Int32} {P : Prop} : wAk .int 30 x P ↔ mIn x 400 = true ∧ P := wAk_of rfl
theorem tN_30 {P : Int32 → Prop} : wNk .int 30 P ↔ P (iz 400) := wNk_of rfl
theorem tA_31 {x : Int32} {P : Prop} : wAk .int 31 x P ↔ mIn x 24 = true ∧ P := wAk_of rfl
theorem tN_31 {P : Int32 → Prop} : wNk .int 31 P ↔ P (iz 24) := wNk_of rfl
theorem tO_32 {P : Prop} : wOk [4] 32 P ↔ P := wOk_of rfl
theorem tI_32_0 {P : Prop} : wIk [4] 0 32 P ↔ P := wIk_of rfl
theorem tI_32_1 {P : Prop} : wIk [4] 1 32 P ↔ P := wIk_of rfl
theorem tI_32_2 {P : Prop} : wIk [4] 2 32 P ↔ P := wIk_of rfl
theorem tI_32_3 {P : Prop} : wIk [4] 3 32 P ↔ P := wIk_of rfl
theorem tR_32_4 {P : Nat → Prop} : wRk [4] 4 32 P ↔ P 33 := wRk_of rfl
theorem tR_32_5 {P : Nat → Prop} : wRk [4] 5 32 P ↔ P 34 := wRk_of rfl
theorem tR_32_6 {P : Nat → Prop} : wRk [4] 6 32 P ↔ P 35 := wRk_of rfl
theorem tR_32_7 {P : Nat → Prop} : wRk [4] 7 32 P ↔ P 36 := wRk_of rfl
theorem tA_33 {x : Int32} {P : Prop} : wAk .int 33 x P ↔ mIn x 17 = true ∧ P := wAk_of rfl
theorem tN_33 {P : Int32 → Prop} : wNk .int 33 P ↔ P (iz 17) := wNk_of rfl
theorem tA_34 {x : Int32} {P : Prop} : wAk .int 34 x P ↔ mIn x 16 = true ∧ P := wAk_of rfl
theorem tN_34 {P : Int32 → Prop} : wNk .int 34 P ↔ P (iz 16) := wNk_of rfl
theorem tA_35 {x : Int32} {P : Prop} : wAk .int 35 x P ↔ mIn x 400 = true ∧ P := wAk_of rfl
theorem tN_35 {P : Int32 → Prop} : wNk .int 35 P ↔ P (iz 400) := wNk_of rfl
theorem tA_36 {x : Int32} {P : Prop} : wAk .int 36 x P ↔ mIn x 24 = true ∧ P := wAk_of rfl
theorem tN_36 {P : Int32 → Prop} : wNk .int 36 P ↔ P (iz 24) := wNk_of rfl
theorem tO_37 {P : Prop} : wOk [4] 37 P ↔ P := wOk_of rfl
theorem tI_37_0 {P : Prop} : wIk [4] 0 37 P ↔ P := wIk_of rfl
theorem tI_37_1 {P : Prop} : wIk [4] 1 37 P ↔ P := wIk_of rfl
theorem tI_37_2 {P : Prop} : wIk [4] 2 37 P ↔ P := wIk_of rfl
theorem tI_37_3 {P : Prop} : wIk [4] 3 37 P ↔ P := wIk_of rfl
theorem tR_37_4 {P : Nat → Prop} : wRk [4] 4 37 P ↔ P 38 := wRk_of rfl
theorem tR_37_5 {P : Nat → Prop} : wRk [4] 5 37 P ↔ P 39 := wRk_of rfl
theorem tR_37_6 {P : Nat → Prop} : wRk [4] 6 37 P ↔ P 40 := wRk_of rfl
theorem tR_37_7 {P : Nat → Prop} : wRk [4] 7 37 P ↔ P 41 := wRk_of rfl
theorem tA_38 {x : Int32} {P : Prop} : wAk .int 38 x P ↔ mIn x 17 = true ∧ P := wAk_of rfl
theorem tN_38 {P : Int32 → Prop} : wNk .int 38 P ↔ P (iz 17) := wNk_of rfl
theorem tA_39 {x : Int32} {P : Prop} : wAk .int 39 x P ↔ mIn x 16 = true ∧ P := wAk_of rfl
theorem tN_39 {P : Int32 → Prop} : wNk .int 39 P ↔ P (iz 16) := wNk_of rfl
theorem tA_40 {x : Int32} {P : Prop} : wAk .int 40 x P ↔ mIn x 400 = true ∧ P := wAk_of rfl
theorem tN_40 {P : Int32 → Prop} : wNk .int 40 P ↔ P (iz 400) := wNk_of rfl
theorem tA_41 {x : Int32} {P : Prop} : wAk .int 41 x P ↔ mIn x 24 = true ∧ P := wAk_of rfl
theorem tN_41 {P : Int32 → Prop} : wNk .int 41 P ↔ P (iz 24) := wNk_of rfl
theorem tA_42 {x : Int32} {P : Prop} : wAk .int 42 x P ↔ mIn x 80 = true ∧ P := wAk_of rfl
theorem tN_42 {P : Int32 → Prop} : wNk .int 42 P ↔ P (iz 80) := wNk_of rfl
theorem tO_43 {P : Prop} : wOk [5] 43 P ↔ P := wOk_of rfl
theorem tR_43_0 {P : Nat → Prop} : wRk [5] 0 43 P ↔ P 19 := wRk_of rfl
theorem tR_43_1 {P : Nat → Prop} : wRk [5] 1 43 P ↔ P 44 := wRk_of rfl
theorem tR_43_2 {P : Nat → Prop} : wRk [5] 2 43 P ↔ P 52 := wRk_of rfl
theorem tR_43_3 {P : Nat → Prop} : wRk [5] 3 43 P ↔ P 61 := wRk_of rfl
theorem tI_43_4 {P : Prop} : wIk [5] 4 43 P ↔ P := wIk_of rfl
theorem tI_43_5 {P : Prop} : wIk [5] 5 43 P ↔ P := wIk_of rfl
theorem tI_43_6 {P : Prop} : wIk [5] 6 43 P ↔ P := wIk_of rfl
theorem tI_43_7 {P : Prop} : wIk [5] 7 43 P ↔ P := wIk_of rfl
theorem tI_43_8 {P : Prop} : wIk [5] 8 43 P ↔ P := wIk_of rfl
theorem tO_44 {P : Prop} : wOk [3] 44 P ↔ P := wOk_of rfl
theorem tI_44_0 {P : Prop} : wIk [3] 0 44 P ↔ P := wIk_of rfl
theorem tI_44_1 {P : Prop} : wIk [3] 1 44 P ↔ P := wIk_of rfl
theorem tI_44_2 {P : Prop} : wIk [3] 2 44 P ↔ P := wIk_of rfl
theorem tI_44_3 {P : Prop} : wIk [3] 3 44 P ↔ P := wIk_of rfl
theorem tR_44_4 {P : Nat → Prop} : wRk [3] 4 44 P ↔ P 45 := wRk_of rfl
theorem tR_44_5 {P : Nat → Prop} : wRk [3] 5 44 P ↔ P 46 := wRk_of rfl
theorem tR_44_6 {P : Nat → Prop} : wRk [3] 6 44 P ↔ P 47 := wRk_of rfl
theorem tR_44_7 {P : Nat → Prop} : wRk [3] 7 44 P ↔ P 48 := wRk_of rfl
theorem tR_44_8 {P : Nat → Prop} : wRk [3] 8 44 P ↔ P 49 := wRk_of rfl
theorem tR_44_9 {P : Nat → Prop} : wRk [3] 9 44 P ↔ P 50 := wRk_of rfl
theorem tR_44_10 {P : Nat → Prop} : wRk [3] 10 44 P ↔ P 51 := wRk_of rfl
theorem tA_45 {x : Int32} {P : Prop} : wAk .int 45 x P ↔ mIn x 60 = true ∧ P := wAk_of rfl
theorem tN_45 {P : Int32 → Prop} : wNk .int 45 P ↔ P (iz 60) := wNk_of rfl
theorem tA_46 {x : Int32} {P : Prop} : wAk .int 46 x P ↔ mIn x 60 = true ∧ P := wAk_of rfl
theorem tN_46 {P : Int32 → Prop} : wNk .int 46 P ↔ P (iz 60) := wNk_of rfl
theorem tA_47 {x : Int32} {P : Prop} : wAk .int 47 x P ↔ mIn x 60 = true ∧ P := wAk_of rfl
theorem tN_47 {P : Int32 → Prop} : wNk .int 47 P ↔ P (iz 60) := wNk_of rfl
theorem tA_48 {x : Int32} {P : Prop} : wAk .int 48 x P ↔ mIn x 60 = true ∧ P := wAk_of rfl
theorem tN_48 {P : Int32 → Prop} : wNk .int 48 P ↔ P (iz 60) := wNk_of rfl
theorem tA_49 {x : Int32} {P : Prop} : wAk .int 49 x P ↔ mIn x 60 = true ∧ P := wAk_of rfl
theorem tN_49 {P : Int32 → Prop} : wNk .int 49 P ↔ P (iz 60) := wNk_of rfl
theorem tA_50 {x : Int32} {P : Prop} : wAk .int 50 x P ↔ mIn x 60 = true ∧ P := wAk_of rfl
theorem tN_50 {P : Int32 → Prop} : wNk .int 50 P ↔ P (iz 60) := wNk_of rfl
theorem tA_51 {x : Int32} {P : Prop} : wAk .int 51 x P ↔ mIn x 60 = true ∧ P := wAk_of rfl
theorem tN_51 {P : Int32 → Prop} : wNk .int 51 P ↔ P (iz 60) := wNk_of rfl
theorem tO_52 {P : Prop} : wOk [0] 52 P ↔ P := wOk_of rfl
theorem tR_52_0 {P : Nat → Prop} : wRk [0] 0 52 P ↔ P 53 := wRk_of rfl
theorem tR_52_1 {P : Nat → Prop} : wRk [0] 1 52 P ↔ P 54 := wRk_of rfl
theorem tR_52_2 {P : Nat → Prop} : wRk [0] 2 52 P ↔ P 55 := wRk_of rfl
theorem tR_52_3 {P : Nat → Prop} : wRk [0] 3 52 P ↔ P 56 := wRk_of rfl
theorem tR_52_4 {P : Nat → Prop} : wRk [0] 4 52 P ↔ P 57 := wRk_of rfl
theorem tR_52_5 {P : Nat → Prop} : wRk [0] 5 52 P ↔ P 58 := wRk_of rfl
theorem tR_52_6 {P : Nat → Prop} : wRk [0] 6 52 P ↔ P 59 := wRk_of rfl
theorem tR_52_7 {P : Nat → Prop} : wRk [0] 7 52 P ↔ P 60 := wRk_of rfl
theorem tA_53 {x : Int32} {P : Prop} : wAk .int 53 x P ↔ mIn x 4 = true ∧ P := wAk_of rfl
theorem tN_53 {P : Int32 → Prop} : wNk .int 53 P ↔ P (iz 4) := wNk_of rfl
theorem tA_54 {x : Int32} {P : Prop} : wAk .int 54 x P ↔ mIn x 4 = true ∧ P := wAk_of rfl
theorem tN_54 {P : Int32 → Prop} : wNk .int 54 P ↔ P (iz 4) := wNk_of rfl
theorem tA_55 {x : Int32} {P : Prop} : wAk .int 55 x P ↔ mIn x 4 = true ∧ P := wAk_of rfl
theorem tN_55 {P : Int32 → Prop} : wNk .int 55 P ↔ P (iz 4) := wNk_of rfl
theorem tA_56 {x : Int32} {P : Prop} : wAk .int 56 x P ↔ mIn x 4 = true ∧ P := wAk_of rfl
theorem tN_56 {P : Int32 → Prop} : wNk .int 56 P ↔ P (iz 4) := wNk_of rfl
theorem tA_57 {x : Int32} {P : Prop} : wAk .int 57 x P ↔ mIn x 4 = true ∧ P := wAk_of rfl
theorem tN_57 {P : Int32 → Prop} : wNk .int 57 P ↔ P (iz 4) := wNk_of rfl
theorem tA_58 {x : Int32} {P : Prop} : wAk .int 58 x P ↔ mIn x 4 = true ∧ P := wAk_of rfl
theorem tN_58 {P : Int32 → Prop} : wNk .int 58 P ↔ P (iz 4) := wNk_of rfl
theorem tA_59 {x : Int32} {P : Prop} : wAk .int 59 x P ↔ mIn x 4 = true ∧ P := wAk_of rfl
theorem tN_59 {P : Int32 → Prop} : wNk .int 59 P ↔ P (iz 4) := wNk_of rfl
theorem tA_60 {x : Int32} {P : Prop} : wAk .boolean 60 x P ↔ mIn x 4 = true ∧ P := wAk_of rfl
theorem tN_60 {P : Int32 → Prop} : wNk .boolean 60 P ↔ P (iz 4) := wNk_of rfl
theorem tA_61 {x : Int32} {P : Prop} : wAk .int 61 x P ↔ mIn x 10 = true ∧ P := wAk_of rfl
theorem tN_61 {P : Int32 → Prop} : wNk .int 61 P ↔ P (iz 10) := wNk_of rfl
theorem tO_62 {P : Prop} : wOk [8] 62 P ↔ P := wOk_of rfl
theorem tR_62_0 {P : Nat → Prop} : wRk [8] 0 62 P ↔ P 63 := wRk_of rfl
theorem tR_62_1 {P : Nat → Prop} : wRk [8] 1 62 P ↔ P 70 := wRk_of rfl
theorem tR_62_2 {P : Nat → Prop} : wRk [8] 2 62 P ↔ P 86 := wRk_of rfl
theorem tR_62_3 {P : Nat → Prop} : wRk [8] 3 62 P ↔ P 87 := wRk_of rfl
theorem tI_62_4 {P : Prop} : wIk [8] 4 62 P ↔ P := wIk_of rfl
theorem tO_63 {P : Prop} : wOk [7] 63 P ↔ P := wOk_of rfl
theorem tI_63_0 {P : Prop} : wIk [7] 0 63 P ↔ P := wIk_of rfl
theorem tI_63_1 {P : Prop} : wIk [7] 1 63 P ↔ P := wIk_of rfl
theorem tI_63_2 {P : Prop} : wIk [7] 2 63 P ↔ P := wIk_of rfl
theorem tR_63_3 {P : Nat → Prop} : wRk [7] 3 63 P ↔ P 64 := wRk_of rfl
theorem tR_63_4 {P : Nat → Prop} : wRk [7] 4 63 P ↔ P 65 := wRk_of rfl
theorem tR_63_5 {P : Nat → Prop} : wRk [7] 5 63 P ↔ P 66 := wRk_of rfl
theorem tR_63_6 {P : Nat → Prop} : wRk [7] 6 63 P ↔ P 67 := wRk_of rfl
theorem tR_63_7 {P : Nat → Prop} : wRk [7] 7 63 P ↔ P 68 := wRk_of rfl
theorem tR_63_8 {P : Nat → Prop} : wRk [7] 8 63 P ↔ P 69 := wRk_of rfl
theorem tA_64 {x : Int32} {P : Prop} : wAk .int 64 x P ↔ mIn x 4 = true ∧ P := wAk_of rfl
theorem tN_64 {P : Int32 → Prop} : wNk .int 64 P ↔ P (iz 4) := wNk_of rfl
theorem tA_65 {x : Int32} {P : Prop} : wAk .int 65 x P ↔ mIn x 4 = true ∧ P := wAk_of rfl
theorem tN_65 {P : Int32 → Prop} : wNk .int 65 P ↔ P (iz 4) := wNk_of rfl
theorem tA_66 {x : Int32} {P : Prop} : wAk .int 66 x P ↔ mIn x 4 = true ∧ P := wAk_of rfl
theorem tN_66 {P : Int32 → Prop} : wNk .int 66 P ↔ P (iz 4) := wNk_of rfl
theorem tA_67 {x : Int32} {P : Prop} : wAk .int 67 x P ↔ mIn x 4 = true ∧ P := wAk_of rfl
theorem tN_67 {P : Int32 → Prop} : wNk .int 67 P ↔ P (iz 4) := wNk_of rfl
theorem tA_68 {x : Int32} {P : Prop} : wAk .int 68 x P ↔ mIn x 4 = true ∧ P := wAk_of rfl
theorem tN_68 {P : Int32 → Prop} : wNk .int 68 P ↔ P (iz 4) := wNk_of rfl
theorem tA_69 {x : Int32} {P : Prop} : wAk .boolean 69 x P ↔ mIn x 320 = true ∧ P := wAk_of rfl
theorem tN_69 {P : Int32 → Prop} : wNk .boolean 69 P ↔ P (iz 320) := wNk_of rfl
theorem tO_71 {P : Prop} : wOk [4] 71 P ↔ P := wOk_of rfl
theorem tI_71_0 {P : Prop} : wIk [4] 0 71 P ↔ P := wIk_of rfl
theorem tI_71_1 {P : Prop} : wIk [4] 1 71 P ↔ P := wIk_of rfl
theorem tI_71_2 {P : Prop} : wIk [4] 2 71 P ↔ P := wIk_of rfl
theorem tI_71_3 {P : Prop} : wIk [4] 3 71 P ↔ P := wIk_of rfl
theorem tR_71_4 {P : Nat → Prop} : wRk [4] 4 71 P ↔ P 72 := wRk_of rfl
theorem tR_71_5 {P : Nat → Prop} : wRk [4] 5 71 P ↔ P 73 := wRk_of rfl
theorem tR_71_6 {P : Nat → Prop} : wRk [4] 6 71 P ↔ P 74 := wRk_of rfl
theorem tR_71_7 {P : Nat → Prop} : wRk [4] 7 71 P ↔ P 75 := wRk_of rfl
theorem tA_72 {x : Int32} {P : Prop} : wAk .int 72 x P ↔ mIn x 17 = true ∧ P := wAk_of rfl
theorem tN_72 {P : Int32 → Prop} : wNk .int 72 P ↔ P (iz 17) := wNk_of rfl
theorem tA_73 {x : Int32} {P : Prop} : wAk .int 73 x P ↔ mIn x 16 = true ∧ P := wAk_of rfl
theorem tN_73 {P : Int32 → Prop} : wNk .int 73 P ↔ P (iz 16) := wNk_of rfl
theorem tA_74 {x : Int32} {P : Prop} : wAk .int 74 x P ↔ mIn x 400 = true ∧ P := wAk_of rfl
theorem tN_74 {P : Int32 → Prop} : wNk .int 74 P ↔ P (iz 400) := wNk_of rfl
theorem tA_75 {x : Int32} {P : Prop} : wAk .int 75 x P ↔ mIn x 24 = true ∧ P := wAk_of rfl
theorem tN_75 {P : Int32 → Prop} : wNk .int 75 P ↔ P (iz 24) := wNk_of rfl
theorem tO_76 {P : Prop} : wOk [4] 76 P ↔ P := wOk_of rfl
theorem tI_76_0 {P : Prop} : wIk [4] 0 76 P ↔ P := wIk_of rfl
theorem tI_76_1 {P : Prop} : wIk [4] 1 76 P ↔ P := wIk_of rfl
theorem tI_76_2 {P : Prop} : wIk [4] 2 76 P ↔ P := wIk_of rfl
theorem tI_76_3 {P : Prop} : wIk [4] 3 76 P ↔ P := wIk_of rfl
theorem tR_76_4 {P : Nat → Prop} : wRk [4] 4 76 P ↔ P 77 := wRk_of rfl
theorem tR_76_5 {P : Nat → Prop} : wRk [4] 5 76 P ↔ P 78 := wRk_of rfl
theorem tR_76_6 {P : Nat → Prop} : wRk [4] 6 76 P ↔ P 79 := wRk_of rfl
theorem tR_76_7 {P : Nat → Prop} : wRk [4] 7 76 P ↔ P 80 := wRk_of rfl
theorem tA_77 {x : Int32} {P : Prop} : wAk .int 77 x P ↔ mIn x 17 = true ∧ P := wAk_of rfl
theorem tN_77 {P : Int32 → Prop} : wNk .int 77 P ↔ P (iz 17) := wNk_of rfl
theorem tA_78 {x : Int32} {P : Prop} : wAk .int 78 x P ↔ mIn x 16 = true ∧ P := wAk_of rfl
theorem tN_78 {P : Int32 → Prop} : wNk .int 78 P ↔ P (iz 16) := wNk_of rfl
theorem tA_79 {x : Int32} {P : Prop} : wAk .int 79 x P ↔ mIn x 400 = true ∧ P := wAk_of rfl
theorem tN_79 {P : Int32 → Prop} : wNk .int 79 P ↔ P (iz 400) := wNk_of rfl
theorem tA_80 {x : Int32} {P : Prop} : wAk .int 80 x P ↔ mIn x 24 = true ∧ P := wAk_of rfl
theorem tN_80 {P : Int32 → Prop} : wNk .int 80 P ↔ P (iz 24) := wNk_of rfl
theorem tO_81 {P : Prop} : wOk [4] 81 P ↔ P := wOk_of rfl
theorem tI_81_0 {P : Prop} : wIk [4] 0 81 P ↔ P := wIk_of rfl
theorem tI_81_1 {P : Prop} : wIk [4] 1 81 P ↔ P := wIk_of rfl
theorem tI_81_2 {P : Prop} : wIk [4] 2 81 P ↔ P := wIk_of rfl
theorem tI_81_3 {P : Prop} : wIk [4] 3 81 P ↔ P := wIk_of rfl
theorem tR_81_4 {P : Nat → Prop} : wRk [4] 4 81 P ↔ P 82 := wRk_of rfl
theorem tR_81_5 {P : Nat → Prop} : wRk [4] 5 81 P ↔ P 83 := wRk_of rfl
theorem tR_81_6 {P : Nat → Prop} : wRk [4] 6 81 P ↔ P 84 := wRk_of rfl
theorem tR_81_7 {P : Nat → Prop} : wRk [4] 7 81 P ↔ P 85 := wRk_of rfl
theorem tA_82 {x : Int32} {P : Prop} : wAk .int 82 x P ↔ mIn x 17 = true ∧ P := wAk_of rfl
theorem tN_82 {P : Int32 → Prop} : wNk .int 82 P ↔ P (iz 17) := wNk_of rfl
theorem tA_83 {x : Int32} {P : Prop} : wAk .int 83 x P ↔ mIn x 16 = true ∧ P := wAk_of rfl
theorem tN_83 {P : Int32 → Prop} : wNk .int 83 P ↔ P (iz 16) := wNk_of rfl
theorem tA_84 {x : Int32} {P : Prop} : wAk .int 84 x P ↔ mIn x 400 = true ∧ P := wAk_of rfl
theorem tN_84 {P : Int32 → Prop} : wNk .int 84 P ↔ P (iz 400) := wNk_of rfl
theorem tA_85 {x : Int32} {P : Prop} : wAk .int 85 x P ↔ mIn x 24 = true ∧ P := wAk_of rfl
theorem tN_85 {P : Int32 → Prop} : wNk .int 85 P ↔ P (iz 24) := wNk_of rfl
theorem tA_86 {x : Int32} {P : Prop} : wAk .int 86 x P ↔ mIn x 80 = true ∧ P := wAk_of rfl
theorem tN_86 {P : Int32 → Prop} : wNk .int 86 P ↔ P (iz 80) := wNk_of rfl
theorem tO_87 {P : Prop} : wOk [5] 87 P ↔ P := wOk_of rfl
theorem tR_87_0 {P : Nat → Prop} : wRk [5] 0 87 P ↔ P 63 := wRk_of rfl
theorem tR_87_1 {P : Nat → Prop} : wRk [5] 1 87 P ↔ P 88 := wRk_of rfl
theorem tR_87_2 {P : Nat → Prop} : wRk [5] 2 87 P ↔ P 96 := wRk_of rfl
theorem tR_87_3 {P : Nat → Prop} : wRk [5] 3 87 P ↔ P 105 := wRk_of rfl
theorem tI_87_4 {P : Prop} : wIk [5] 4 87 P ↔ P := wIk_of rfl
theorem tI_87_5 {P : Prop} : wIk [5] 5 87 P ↔ P := wIk_of rfl
theorem tI_87_6 {P : Prop} : wIk [5] 6 87 P ↔ P := wIk_of rfl
theorem tI_87_7 {P : Prop} : wIk [5] 7 87 P ↔ P := wIk_of rfl
theorem tI_87_8 {P : Prop} : wIk [5] 8 87 P ↔ P := wIk_of rfl
theorem tO_88 {P : Prop} : wOk [3] 88 P ↔ P := wOk_of rfl
theorem tI_88_0 {P : Prop} : wIk [3] 0 88 P ↔ P := wIk_of rfl
theorem tI_88_1 {P : Prop} : wIk [3] 1 88 P ↔ P := wIk_of rfl
theorem tI_88_2 {P : Prop} : wIk [3] 2 88 P ↔ P := wIk_of rfl
theorem tI_88_3 {P : Prop} : wIk [3] 3 88 P ↔ P := wIk_of rfl
theorem tR_88_4 {P : Nat → Prop} : wRk [3] 4 88 P ↔ P 89 := wRk_of rfl
theorem tR_88_5 {P : Nat → Prop} : wRk [3] 5 88 P ↔ P 90 := wRk_of rfl
theorem tR_88_6 {P : Nat → Prop} : wRk [3] 6 88 P ↔ P 91 := wRk_of rfl
theorem tR_88_7 {P : Nat → Prop} : wRk [3] 7 88 P ↔ P 92 := wRk_of rfl
theorem tR_88_8 {P : Nat → Prop} : wRk [3] 8 88 P ↔ P 93 := wRk_of rfl
theorem tR_88_9 {P : Nat → Prop} : wRk [3] 9 88 P ↔ P 94 := wRk_of rfl
theorem tR_88_10 {P : Nat → Prop} : wRk [3] 10 88 P ↔ P 95 := wRk_of rfl
theorem tA_89 {x : Int32} {P : Prop} : wAk .int 89 x P ↔ mIn x 60 = true ∧ P := wAk_of rfl
theorem tN_89 {P : Int32 → Prop} : wNk .int 89 P ↔ P (iz 60) := wNk_of rfl
theorem tA_90 {x : Int32} {P : Prop} : wAk .int 90 x P ↔ mIn x 60 = true ∧ P := wAk_of rfl
theorem tN_90 {P : Int32 → Prop} : wNk .int 90 P ↔ P (iz 60) := wNk_of rfl
theorem tA_91 {x : Int32} {P : Prop} : wAk .int 91 x P ↔ mIn x 60 = true ∧ P := wAk_of rfl
theorem tN_91 {P : Int32 → Prop} : wNk .int 91 P ↔ P (iz 60) := wNk_of rfl
theorem tA_92 {x : Int32} {P : Prop} : wAk .int 92 x P ↔ mIn x 60 = true ∧ P := wAk_of rfl
theorem tN_92 {P : Int32 → Prop} : wNk .int 92 P ↔ P (iz 60) := wNk_of rfl
theorem tA_93 {x : Int32} {P : Prop} : wAk .int 93 x P ↔ mIn x 60 = true ∧ P := wAk_of rfl
theorem tN_93 {P : Int32 → Prop} : wNk .int 93 P ↔ P (iz 60) := wNk_of rfl
theorem tA_94 {x : Int32} {P : Prop} : wAk .int 94 x P ↔ mIn x 60 = true ∧ P := wAk_of rfl
theorem tN_94 {P : Int32 → Prop} : wNk .int 94 P ↔ P (iz 60) := wNk_of rfl
theorem tA_95 {x : Int32} {P : Prop} : wAk .int 95 x P ↔ mIn x 60 = true ∧ P := wAk_of rfl
theorem tN_95 {P : Int32 → Prop} : wNk .int 95 P ↔ P (iz 60) := wNk_of rfl
theorem tO_96 {P : Prop} : wOk [0] 96 P ↔ P := wOk_of rfl
theorem tR_96_0 {P : Nat → Prop} : wRk [0] 0 96 P ↔ P 97 := wRk_of rfl
theorem tR_96_1 {P : Nat → Prop} : wRk [0] 1 96 P ↔ P 98 := wRk_of rfl
theorem tR_96_2 {P : Nat → Prop} : wRk [0] 2 96 P ↔ P 99 := wRk_of rfl
theorem tR_96_3 {P : Nat → Prop} : wRk [0] 3 96 P ↔ P 100 := wRk_of rfl
theorem tR_96_4 {P : Nat → Prop} : wRk [0] 4 96 P ↔ P 101 := wRk_of rfl
theorem tR_96_5 {P : Nat → Prop} : wRk [0] 5 96 P ↔ P 102 := wRk_of rfl
theorem tR_96_6 {P : Nat → Prop} : wRk [0] 6 96 P ↔ P 103 := wRk_of rfl
theorem tR_96_7 {P : Nat → Prop} : wRk [0] 7 96 P ↔ P 104 := wRk_of rfl
theorem tA_97 {x : Int32} {P : Prop} : wAk .int 97 x P ↔ mIn x 4 = true ∧ P := wAk_of rfl
theorem tN_97 {P : Int32 → Prop} : wNk .int 97 P ↔ P (iz 4) := wNk_of rfl
theorem tA_98 {x : Int32} {P : Prop} : wAk .int 98 x P ↔ mIn x 4 = true ∧ P := wAk_of rfl
theorem tN_98 {P : Int32 → Prop} : wNk .int 98 P ↔ P (iz 4) := wNk_of rfl
theorem tA_99 {x : Int32} {P : Prop} : wAk .int 99 x P ↔ mIn x 4 = true ∧ P := wAk_of rfl
theorem tN_99 {P : Int32 → Prop} : wNk .int 99 P ↔ P (iz 4) := wNk_of rfl
theorem tA_100 {x : Int32} {P : Prop} : wAk .int 100 x P ↔ mIn x 4 = true ∧ P := wAk_of rfl
theorem tN_100 {P : Int32 → Prop} : wNk .int 100 P ↔ P (iz 4) := wNk_of rfl
theorem tA_101 {x : Int32} {P : Prop} : wAk .int 101 x P ↔ mIn x 4 = true ∧ P := wAk_of rfl
theorem tN_101 {P : Int32 → Prop} : wNk .int 101 P ↔ P (iz 4) := wNk_of rfl
theorem tA_102 {x : Int32} {P : Prop} : wAk .int 102 x P ↔ mIn x 4 = true ∧ P := wAk_of rfl
theorem tN_102 {P : Int32 → Prop} : wNk .int 102 P ↔ P (iz 4) := wNk_of rfl
theorem tA_103 {x : Int32} {P : Prop} : wAk .int 103 x P ↔ mIn x 4 = true ∧ P := wAk_of rfl
theorem tN_103 {P : Int32 → Prop} : wNk .int 103 P ↔ P (iz 4) := wNk_of rfl
theorem tA_104 {x : Int32} {P : Prop} : wAk .boolean 104 x P ↔ mIn x 4 = true ∧ P := wAk_of rfl
theorem tN_104 {P : Int32 → Prop} : wNk .boolean 104 P ↔ P (iz 4) := wNk_of rfl
theorem tA_105 {x : Int32} {P : Prop} : wAk .int 105 x P ↔ mIn x 10 = true ∧ P := wAk_of rfl
theorem tN_105 {P : Int32 → Prop} : wNk .int 105 P ↔ P (iz 10) := wNk_of rfl
theorem tO_106 {P : Prop} : wOk [5] 106 P ↔ P := wOk_of rfl
theorem tR_106_0 {P : Nat → Prop} : wRk [5] 0 106 P ↔ P 19 := wRk_of rfl
theorem tR_106_1 {P : Nat → Prop} : wRk [5] 1 106 P ↔ P 107 := wRk_of rfl
theorem tR_106_2 {P : Nat → Prop} : wRk [5] 2 106 P ↔ P 115 := wRk_of rfl
theorem tR_106_3 {P : Nat → Prop} : wRk [5] 3 106 P ↔ P 124 := wRk_of rfl
theorem tI_106_4 {P : Prop} : wIk [5] 4 106 P ↔ P := wIk_of rfl
theorem tI_106_5 {P : Prop} : wIk [5] 5 106 P ↔ P := wIk_of rfl
theorem tI_106_6 {P : Prop} : wIk [5] 6 106 P ↔ P := wIk_of rfl
theorem tI_106_7 {P : Prop} : wIk [5] 7 106 P ↔ P := wIk_of rfl
theorem tI_106_8 {P : Prop} : wIk [5] 8 106 P ↔ P := wIk_of rfl
theorem tO_107 {P : Prop} : wOk [3] 107 P ↔ P := wOk_of rfl
theorem tI_107_0 {P : Prop} : wIk [3] 0 107 P ↔ P := wIk_of rfl
theorem tI_107_1 {P : Prop} : wIk [3] 1 107 P ↔ P := wIk_of rfl
theorem tI_107_2 {P : Prop} : wIk [3] 2 107 P ↔ P := wIk_of rfl
theorem tI_107_3 {P : Prop} : wIk [3] 3 107 P ↔ P := wIk_of rfl
theorem tR_107_4 {P : Nat → Prop} : wRk [3] 4 107 P ↔ P 108 := wRk_of rfl
theorem tR_107_5 {P : Nat → Prop} : wRk [3] 5 107 P ↔ P 109 := wRk_of rfl
theorem tR_107_6 {P : Nat → Prop} : wRk [3] 6 107 P ↔ P 110 := wRk_of rfl
theorem tR_107_7 {P : Nat → Prop} : wRk [3] 7 107 P ↔ P 111 := wRk_of rfl
theorem tR_107_8 {P : Nat → Prop} : wRk [3] 8 107 P ↔ P 112 := wRk_of rfl
theorem tR_107_9 {P : Nat → Prop} : wRk [3] 9 107 P ↔ P 113 := wRk_of rfl
theorem tR_107_10 {P : Nat → Prop} : wRk [3] 10 107 P ↔ P 114 := wRk_of rfl
theorem tA_108 {x : Int32} {P : Prop} : wAk .int 108 x P ↔ mIn x 60 = true ∧ P := wAk_of rfl
theorem tN_108 {P : Int32 → Prop} : wNk .int 108 P ↔ P (iz 60) := wNk_of rfl
theorem tA_109 {x : Int32} {P : Prop} : wAk .int 109 x P ↔ mIn x 60 = true ∧ P := wAk_of rfl
theorem tN_109 {P : Int32 → Prop} : wNk .int 109 P ↔ P (iz 60) := wNk_of rfl
theorem tA_110 {x : Int32} {P : Prop} : wAk .int 110 x P ↔ mIn x 60 = true ∧ P := wAk_of rfl
theorem tN_110 {P : Int32 → Prop} : wNk .int 110 P ↔ P (iz 60) := wNk_of rfl
theorem tA_111 {x : Int32} {P : Prop} : wAk .int 111 x P ↔ mIn x 60 = true ∧ P := wAk_of rfl
theorem tN_111 {P : Int32 → Prop} : wNk .int 111 P ↔ P (iz 60) := wNk_of rfl
theorem tA_112 {x : Int32} {P : Prop} : wAk .int 112 x P ↔ mIn x 60 = true ∧ P := wAk_of rfl
theorem tN_112 {P : Int32 → Prop} : wNk .int 112 P ↔ P (iz 60) := wNk_of rfl
theorem tA_113 {x : Int32} {P : Prop} : wAk .int 113 x P ↔ mIn x 60 = true ∧ P := wAk_of rfl
theorem tN_113 {P : Int32 → Prop} : wNk .int 113 P ↔ P (iz 60) := wNk_of rfl
theorem tA_114 {x : Int32} {P : Prop} : wAk .int 114 x P ↔ mIn x 60 = true ∧ P := wAk_of rfl
theorem tN_114 {P : Int32 → Prop} : wNk .int 114 P ↔ P (iz 60) := wNk_of rfl
theorem tO_115 {P : Prop} : wOk [0] 115 P ↔ P := wOk_of rfl
theorem tR_115_0 {P : Nat → Prop} : wRk [0] 0 115 P ↔ P 116 := wRk_of rfl
theorem tR_115_1 {P : Nat → Prop} : wRk [0] 1 115 P ↔ P 117 := wRk_of rfl
theorem tR_115_2 {P : Nat → Prop} : wRk [0] 2 115 P ↔ P 118 := wRk_of rfl
theorem tR_115_3 {P : Nat → Prop} : wRk [0] 3 115 P ↔ P 119 := wRk_of rfl
theorem tR_115_4 {P : Nat → Prop} : wRk [0] 4 115 P ↔ P 120 := wRk_of rfl
theorem tR_115_5 {P : Nat → Prop} : wRk [0] 5 115 P ↔ P 121 := wRk_of rfl
theorem tR_115_6 {P : Nat → Prop} : wRk [0] 6 115 P ↔ P 122 := wRk_of rfl
theorem tR_115_7 {P : Nat → Prop} : wRk [0] 7 115 P ↔ P 123 := wRk_of rfl
theorem tA_116 {x : Int32} {P : Prop} : wAk .int 116 x P ↔ mIn x 4 = true ∧ P := wAk_of rfl
theorem tN_116 {P : Int32 → Prop} : wNk .int 116 P ↔ P (iz 4) := wNk_of rfl
theorem tA_117 {x : Int32} {P : Prop} : wAk .int 117 x P ↔ mIn x 4 = true ∧ P := wAk_of rfl
theorem tN_117 {P : Int32 → Prop} : wNk .int 117 P ↔ P (iz 4) := wNk_of rfl
theorem tA_118 {x : Int32} {P : Prop} : wAk .int 118 x P ↔ mIn x 4 = true ∧ P := wAk_of rfl
theorem tN_118 {P : Int32 → Prop} : wNk .int 118 P ↔ P (iz 4) := wNk_of rfl
theorem tA_119 {x : Int32} {P : Prop} : wAk .int 119 x P ↔ mIn x 4 = true ∧ P := wAk_of rfl
theorem tN_119 {P : Int32 → Prop} : wNk .int 119 P ↔ P (iz 4) := wNk_of rfl
theorem tA_120 {x : Int32} {P : Prop} : wAk .int 120 x P ↔ mIn x 4 = true ∧ P := wAk_of rfl
theorem tN_120 {P : Int32 → Prop} : wNk .int 120 P ↔ P (iz 4) := wNk_of rfl
theorem tA_121 {x : Int32} {P : Prop} : wAk .int 121 x P ↔ mIn x 4 = true ∧ P := wAk_of rfl
theorem tN_121 {P : Int32 → Prop} : wNk .int 121 P ↔ P (iz 4) := wNk_of rfl
theorem tA_122 {x : Int32} {P : Prop} : wAk .int 122 x P ↔ mIn x 4 = true ∧ P := wAk_of rfl
theorem tN_122 {P : Int32 → Prop} : wNk .int 122 P ↔ P (iz 4) := wNk_of rfl
theorem tA_123 {x : Int32} {P : Prop} : wAk .boolean 123 x P ↔ mIn x 4 = true ∧ P := wAk_of rfl
theorem tN_123 {P : Int32 → Prop} : wNk .boolean 123 P ↔ P (iz 4) := wNk_of rfl
theorem tA_124 {x : Int32} {P : Prop} : wAk .int 124 x P ↔ mIn x 10 = true ∧ P := wAk_of rfl
theorem tN_124 {P : Int32 → Prop} : wNk .int 124 P ↔ P (iz 10) := wNk_of rfl
theorem tA_125 {x : Int32} {P : Prop} : wAk .int 125 x P ↔ mIn x 192 = true ∧ P := wAk_of rfl
theorem tN_125 {P : Int32 → Prop} : wNk .int 125 P ↔ P (iz 192) := wNk_of rfl
theorem tA_126 {x : Int32} {P : Prop} : wAk .int 126 x P ↔ mIn x 3 = true ∧ P := wAk_of rfl
theorem tN_126 {P : Int32 → Prop} : wNk .int 126 P ↔ P (iz 3) := wNk_of rfl
theorem tO_127 {P : Prop} : wOk [1] 127 P ↔ P := wOk_of rfl
theorem tR_127_0 {P : Nat → Prop} : wRk [1] 0 127 P ↔ P 128 := wRk_of rfl
theorem tR_127_1 {P : Nat → Prop} : wRk [1] 1 127 P ↔ P 129 := wRk_of rfl
theorem tR_127_2 {P : Nat → Prop} : wRk [1] 2 127 P ↔ P 130 := wRk_of rfl
theorem tR_127_3 {P : Nat → Prop} : wRk [1] 3 127 P ↔ P 131 := wRk_of rfl
theorem tR_127_4 {P : Nat → Prop} : wRk [1] 4 127 P ↔ P 132 := wRk_of rfl
theorem tI_127_5 {P : Prop} : wIk [1] 5 127 P ↔ P := wIk_of rfl
theorem tO_127c {P : Prop} : wOk [1, 2] 127 P ↔ P := wOk_of rfl
theorem tR_127_0c {P : Nat → Prop} : wRk [1, 2] 0 127 P ↔ P 128 := wRk_of rfl
theorem tR_127_1c {P : Nat → Prop} : wRk [1, 2] 1 127 P ↔ P 129 := wRk_of rfl
theorem tR_127_2c {P : Nat → Prop} : wRk [1, 2] 2 127 P ↔ P 130 := wRk_of rfl
theorem tR_127_3c {P : Nat → Prop} : wRk [1, 2] 3 127 P ↔ P 131 := wRk_of rfl
theorem tR_127_4c {P : Nat → Prop} : wRk [1, 2] 4 127 P ↔ P 132 := wRk_of rfl
theorem tI_127_5c {P : Prop} : wIk [1, 2] 5 127 P ↔ P := wIk_of rfl
theorem tA_128 {x : Int32} {P : Prop} : wAk .int 128 x P ↔ mIn x 4 = true ∧ P := wAk_of rfl
theorem tN_128 {P : Int32 → Prop} : wNk .int 128 P ↔ P (iz 4) := wNk_of rfl
theorem tA_129 {x : Int32} {P : Prop} : wAk .int 129 x P ↔ mIn x 81 = true ∧ P := wAk_of rfl
theorem tN_129 {P : Int32 → Prop} : wNk .int 129 P ↔ P (iz 81) := wNk_of rfl
theorem tA_130 {x : Int32} {P : Prop} : wAk .int 130 x P ↔ mIn x 81 = true ∧ P := wAk_of rfl
theorem tN_130 {P : Int32 → Prop} : wNk .int 130 P ↔ P (iz 81) := wNk_of rfl
theorem tA_131 {x : Int32} {P : Prop} : wAk .int 131 x P ↔ mIn x 324 = true ∧ P := wAk_of rfl
theorem tN_131 {P : Int32 → Prop} : wNk .int 131 P ↔ P (iz 324) := wNk_of rfl
theorem tA_132 {x : Int32} {P : Prop} : wAk .int 132 x P ↔ mIn x 324 = true ∧ P := wAk_of rfl
theorem tN_132 {P : Int32 → Prop} : wNk .int 132 P ↔ P (iz 324) := wNk_of rfl
theorem tO_133 {P : Prop} : wOk [2] 133 P ↔ P := wOk_of rfl
theorem tR_133_0 {P : Nat → Prop} : wRk [2] 0 133 P ↔ P 134 := wRk_of rfl
theorem tR_133_1 {P : Nat → Prop} : wRk [2] 1 133 P ↔ P 135 := wRk_of rfl
theorem tR_133_2 {P : Nat → Prop} : wRk [2] 2 133 P ↔ P 136 := wRk_of rfl
theorem tR_133_3 {P : Nat → Prop} : wRk [2] 3 133 P ↔ P 137 := wRk_of rfl
theorem tR_133_4 {P : Nat → Prop} : wRk [2] 4 133 P ↔ P 138 := wRk_of rfl
theorem tI_133_5 {P : Prop} : wIk [2] 5 133 P ↔ P := wIk_of rfl
theorem tI_133_6 {P : Prop} : wIk [2] 6 133 P ↔ P := wIk_of rfl
theorem tI_133_7 {P : Prop} : wIk [2] 7 133 P ↔ P := wIk_of rfl
theorem tO_133c {P : Prop} : wOk [1, 2] 133 P ↔ P := wOk_of rfl
theorem tR_133_0c {P : Nat → Prop} : wRk [1, 2] 0 133 P ↔ P 134 := wRk_of rfl
theorem tR_133_1c {P : Nat → Prop} : wRk [1, 2] 1 133 P ↔ P 135 := wRk_of rfl
theorem tR_133_2c {P : Nat → Prop} : wRk [1, 2] 2 133 P ↔ P 136 := wRk_of rfl
theorem tR_133_3c {P : Nat → Prop} : wRk [1, 2] 3 133 P ↔ P 137 := wRk_of rfl
theorem tR_133_4c {P : Nat → Prop} : wRk [1, 2] 4 133 P ↔ P 138 := wRk_of rfl
theorem tI_133_5c {P : Prop} : wIk [1, 2] 5 133 P ↔ P := wIk_of rfl
theorem tI_133_6c {P : Prop} : wIk [1, 2] 6 133 P ↔ P := wIk_of rfl
theorem tI_133_7c {P : Prop} : wIk [1, 2] 7 133 P ↔ P := wIk_of rfl
theorem tA_134 {x : Int32} {P : Prop} : wAk .int 134 x P ↔ mIn x 4 = true ∧ P := wAk_of rfl
theorem tN_134 {P : Int32 → Prop} : wNk .int 134 P ↔ P (iz 4) := wNk_of rfl
theorem tA_135 {x : Int32} {P : Prop} : wAk .int 135 x P ↔ mIn x 81 = true ∧ P := wAk_of rfl
theorem tN_135 {P : Int32 → Prop} : wNk .int 135 P ↔ P (iz 81) := wNk_of rfl
theorem tA_136 {x : Int32} {P : Prop} : wAk .int 136 x P ↔ mIn x 81 = true ∧ P := wAk_of rfl
theorem tN_136 {P : Int32 → Prop} : wNk .int 136 P ↔ P (iz 81) := wNk_of rfl
theorem tA_137 {x : Int32} {P : Prop} : wAk .int 137 x P ↔ mIn x 324 = true ∧ P := wAk_of rfl
theorem tN_137 {P : Int32 → Prop} : wNk .int 137 P ↔ P (iz 324) := wNk_of rfl
theorem tA_138 {x : Int32} {P : Prop} : wAk .int 138 x P ↔ mIn x 324 = true ∧ P := wAk_of rfl
theorem tN_138 {P : Int32 → Prop} : wNk .int 138 P ↔ P (iz 324) := wNk_of rfl
theorem tO_139 {P : Prop} : wOk [10] 139 P ↔ P := wOk_of rfl
theorem tR_139_0 {P : Nat → Prop} : wRk [10] 0 139 P ↔ P 140 := wRk_of rfl
theorem tR_139_1 {P : Nat → Prop} : wRk [10] 1 139 P ↔ P 141 := wRk_of rfl
theorem tR_139_2 {P : Nat → Prop} : wRk [10] 2 139 P ↔ P 142 := wRk_of rfl
theorem tI_139_3 {P : Prop} : wIk [10] 3 139 P ↔ P := wIk_of rfl
theorem tR_139_4 {P : Nat → Prop} : wRk [10] 4 139 P ↔ P 143 := wRk_of rfl
theorem tR_139_5 {P : Nat → Prop} : wRk [10] 5 139 P ↔ P 144 := wRk_of rfl
theorem tR_139_6 {P : Nat → Prop} : wRk [10] 6 139 P ↔ P 145 := wRk_of rfl
theorem tR_139_7 {P : Nat → Prop} : wRk [10] 7 139 P ↔ P 146 := wRk_of rfl
theorem tR_139_8 {P : Nat → Prop} : wRk [10] 8 139 P ↔ P 147 := wRk_of rfl
theorem tR_139_9 {P : Nat → Prop} : wRk [10] 9 139 P ↔ P 148 := wRk_of rfl
theorem tR_139_10 {P : Nat → Prop} : wRk [10] 10 139 P ↔ P 149 := wRk_of rfl
theorem tI_139_11 {P : Prop} : wIk [10] 11 139 P ↔ P := wIk_of rfl
theorem tI_139_12 {P : Prop} : wIk [10] 12 139 P ↔ P := wIk_of rfl
theorem tI_139_13 {P : Prop} : wIk [10] 13 139 P ↔ P := wIk_of rfl
theorem tI_139_14 {P : Prop} : wIk [10] 14 139 P ↔ P := wIk_of rfl
theorem tI_139_15 {P : Prop} : wIk [10] 15 139 P ↔ P := wIk_of rfl
theorem tI_139_16 {P : Prop} : wIk [10] 16 139 P ↔ P := wIk_of rfl
theorem tI_139_17 {P : Prop} : wIk [10] 17 139 P ↔ P := wIk_of rfl
theorem tI_139_18 {P : Prop} : wIk [10] 18 139 P ↔ P := wIk_of rfl
theorem tI_139_19 {P : Prop} : wIk [10] 19 139 P ↔ P := wIk_of rfl
theorem tI_139_20 {P : Prop} : wIk [10] 20 139 P ↔ P := wIk_of rfl
theorem tI_139_21 {P : Prop} : wIk [10] 21 139 P ↔ P := wIk_of rfl
theorem tI_139_22 {P : Prop} : wIk [10] 22 139 P ↔ P := wIk_of rfl
theorem tI_139_23 {P : Prop} : wIk [10] 23 139 P ↔ P := wIk_of rfl
theorem tI_139_24 {P : Prop} : wIk [10] 24 139 P ↔ P := wIk_of rfl
theorem tI_139_25 {P : Prop} : wIk [10] 25 139 P ↔ P := wIk_of rfl
theorem tI_139_26 {P : Prop} : wIk [10] 26 139 P ↔ P := wIk_of rfl
theorem tR_139_27 {P : Nat → Prop} : wRk [10] 27 139 P ↔ P 150 := wRk_of rfl
theorem tI_139_28 {P : Prop} : wIk [10] 28 139 P ↔ P := wIk_of rfl
theorem tI_139_29 {P : Prop} : wIk [10] 29 139 P ↔ P := wIk_of rfl
theorem tI_139_30 {P : Prop} : wIk [10] 30 139 P ↔ P := wIk_of rfl
theorem tI_139_31 {P : Prop} : wIk [10] 31 139 P ↔ P := wIk_of rfl
theorem tR_139_32 {P : Nat → Prop} : wRk [10] 32 139 P ↔ P 151 := wRk_of rfl
theorem tI_139_33 {P : Prop} : wIk [10] 33 139 P ↔ P := wIk_of rfl
theorem tR_139_34 {P : Nat → Prop} : wRk [10] 34 139 P ↔ P 152 := wRk_of rfl
theorem tR_139_35 {P : Nat → Prop} : wRk [10] 35 139 P ↔ P 153 := wRk_of rfl
theorem tR_139_36 {P : Nat → Prop} : wRk [10] 36 139 P ↔ P 154 := wRk_of rfl
theorem tR_139_37 {P : Nat → Prop} : wRk [10] 37 139 P ↔ P 155 := wRk_of rfl
theorem tI_139_38 {P : Prop} : wIk [10] 38 139 P ↔ P := wIk_of rfl
theorem tA_140 {x : Int32} {P : Prop} : wAk .int 140 x P ↔ mIn x 3970 = true ∧ P := wAk_of rfl
theorem tN_140 {P : Int32 → Prop} : wNk .int 140 P ↔ P (iz 3970) := wNk_of rfl
theorem tA_141 {x : Int32} {P : Prop} : wAk .int 141 x P ↔ mIn x 3970 = true ∧ P := wAk_of rfl
theorem tN_141 {P : Int32 → Prop} : wNk .int 141 P ↔ P (iz 3970) := wNk_of rfl
theorem tA_142 {x : Int32} {P : Prop} : wAk .int 142 x P ↔ mIn x 1300 = true ∧ P := wAk_of rfl
theorem tN_142 {P : Int32 → Prop} : wNk .int 142 P ↔ P (iz 1300) := wNk_of rfl
theorem tA_143 {x : Int32} {P : Prop} : wAk .int 143 x P ↔ mIn x 64 = true ∧ P := wAk_of rfl
theorem tN_143 {P : Int32 → Prop} : wNk .int 143 P ↔ P (iz 64) := wNk_of rfl
theorem tA_144 {x : Int32} {P : Prop} : wAk .int 144 x P ↔ mIn x 820 = true ∧ P := wAk_of rfl
theorem tN_144 {P : Int32 → Prop} : wNk .int 144 P ↔ P (iz 820) := wNk_of rfl
theorem tA_145 {x : Int32} {P : Prop} : wAk .int 145 x P ↔ mIn x 40 = true ∧ P := wAk_of rfl
theorem tN_145 {P : Int32 → Prop} : wNk .int 145 P ↔ P (iz 40) := wNk_of rfl
theorem tA_146 {x : Int32} {P : Prop} : wAk .int 146 x P ↔ mIn x 400 = true ∧ P := wAk_of rfl
theorem tN_146 {P : Int32 → Prop} : wNk .int 146 P ↔ P (iz 400) := wNk_of rfl
theorem tA_147 {x : Int32} {P : Prop} : wAk .int 147 x P ↔ mIn x 420 = true ∧ P := wAk_of rfl
theorem tN_147 {P : Int32 → Prop} : wNk .int 147 P ↔ P (iz 420) := wNk_of rfl
theorem tA_148 {x : Int32} {P : Prop} : wAk .int 148 x P ↔ mIn x 11 = true ∧ P := wAk_of rfl
theorem tN_148 {P : Int32 → Prop} : wNk .int 148 P ↔ P (iz 11) := wNk_of rfl
theorem tA_149 {x : Int32} {P : Prop} : wAk .boolean 149 x P ↔ mIn x 320 = true ∧ P := wAk_of rfl
theorem tN_149 {P : Int32 → Prop} : wNk .boolean 149 P ↔ P (iz 320) := wNk_of rfl
theorem tA_150 {x : Int32} {P : Prop} : wAk .int 150 x P ↔ mIn x 60 = true ∧ P := wAk_of rfl
theorem tN_150 {P : Int32 → Prop} : wNk .int 150 P ↔ P (iz 60) := wNk_of rfl
theorem tA_151 {x : Int32} {P : Prop} : wAk .int 151 x P ↔ mIn x 60 = true ∧ P := wAk_of rfl
theorem tN_151 {P : Int32 → Prop} : wNk .int 151 P ↔ P (iz 60) := wNk_of rfl
theorem tA_152 {x : Int32} {P : Prop} : wAk .int 152 x P ↔ mIn x 320 = true ∧ P := wAk_of rfl
theorem tN_152 {P : Int32 → Prop} : wNk .int 152 P ↔ P (iz 320) := wNk_of rfl
theorem tA_153 {x : Int32} {P : Prop} : wAk .int 153 x P ↔ mIn x 4 = true ∧ P := wAk_of rfl
theorem tN_153 {P : Int32 → Prop} : wNk .int 153 P ↔ P (iz 4) := wNk_of rfl
theorem tA_154 {x : Int32} {P : Prop} : wAk .int 154 x P ↔ mIn x 4 = true ∧ P := wAk_of rfl
theorem tN_154 {P : Int32 → Prop} : wNk .int 154 P ↔ P (iz 4) := wNk_of rfl
theorem tA_155 {x : Int32} {P : Prop} : wAk .int 155 x P ↔ mIn x 4 = true ∧ P := wAk_of rfl
theorem tN_155 {P : Int32 → Prop} : wNk .int 155 P ↔ P (iz 4) := wNk_of rfl

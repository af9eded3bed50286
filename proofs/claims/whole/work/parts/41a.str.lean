/-! FROM THE LAW'S ENTRY to its loop: the start's facts, the two objects -/
def tmS (i : Nat) : Term := match STT[i]? with
  | some q => .string q.1 q.2.1
  | none => .null
def flS : List Jvm.Cond := flatC (Jvm.Cond.and given_1 narrow_1)
theorem st_len : ∀ i : Nat, i < 19 → LENS.getD i 0 < 2 ^ 31 := by decide +kernel
theorem st_ex : ∀ i : Nat, i < 19 → Jvm.Cond.exactly (tmS i) "java/lang/String" ∈ flS := by decide +kernel
theorem st_co : ∀ i : Nat, i < 19 → Jvm.Cond.eq (.field (tmS i) "java/lang/String" "coder" "B") (.int 0) ∈ flS := by decide +kernel
theorem st_ar : ∀ i : Nat, i < 19 → Jvm.Cond.arrayOf (.field (tmS i) "java/lang/String" "value" "[B") .byte ∈ flS := by decide +kernel
theorem st_le : ∀ i : Nat, i < 19 → Jvm.Cond.eq (.length (.field (tmS i) "java/lang/String" "value" "[B")) (.int (Int32.ofNat (LENS.getD i 0))) ∈ flS := by decide +kernel

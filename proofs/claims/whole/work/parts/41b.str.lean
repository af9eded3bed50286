/-! texts of the start -/
theorem sub_in {ws : List Jvm.Cond} (h : ws.isSublist flS = true) : ∀ w ∈ ws, w ∈ flS := fun w hw => (List.isSublist_iff_sublist.mp h).subset hw
def elS (i : Nat) : List Jvm.Cond := (List.range (LENS.getD i 0)).map (fun j => Jvm.Cond.eq (.elem (.field (tmS i) "java/lang/String" "value" "[B") (.int (Int32.ofNat j))) (.int ((BYTS.getD i []).getD j 0)))
theorem el_0 : (elS 0).isSublist flS = true := by decide +kernel
theorem el_1 : (elS 1).isSublist flS = true := by decide +kernel
theorem el_2 : (elS 2).isSublist flS = true := by decide +kernel
theorem el_3 : (elS 3).isSublist flS = true := by decide +kernel
theorem el_4 : (elS 4).isSublist flS = true := by decide +kernel
theorem el_5 : (elS 5).isSublist flS = true := by decide +kernel
theorem el_6 : (elS 6).isSublist flS = true := by decide +kernel
theorem el_7 : (elS 7).isSublist flS = true := by decide +kernel
theorem el_8 : (elS 8).isSublist flS = true := by decide +kernel
theorem el_9 : (elS 9).isSublist flS = true := by decide +kernel

/-! texts of the start -/
theorem el_10 : (elS 10).isSublist flS = true := by decide +kernel
theorem el_11 : (elS 11).isSublist flS = true := by decide +kernel
theorem el_12 : (elS 12).isSublist flS = true := by decide +kernel
theorem el_13 : (elS 13).isSublist flS = true := by decide +kernel
theorem el_14 : (elS 14).isSublist flS = true := by decide +kernel
theorem el_15 : (elS 15).isSublist flS = true := by decide +kernel
theorem el_16 : (elS 16).isSublist flS = true := by decide +kernel
theorem el_17 : (elS 17).isSublist flS = true := by decide +kernel
theorem el_18 : (elS 18).isSublist flS = true := by decide +kernel
theorem st_el : ∀ i : Nat, i < 19 → ∀ j : Nat, j < LENS.getD i 0 → Jvm.Cond.eq (.elem (.field (tmS i) "java/lang/String" "value" "[B") (.int (Int32.ofNat j))) (.int ((BYTS.getD i []).getD j 0)) ∈ flS := by
  intro i hi j hj
  have hm : Jvm.Cond.eq (.elem (.field (tmS i) "java/lang/String" "value" "[B") (.int (Int32.ofNat j))) (.int ((BYTS.getD i []).getD j 0)) ∈ elS i := List.mem_map.mpr ⟨j, List.mem_range.mpr hj, rfl⟩
  match i, hi, hm with
  | 0, _, hm => exact sub_in el_0 _ hm
  | 1, _, hm => exact sub_in el_1 _ hm
  | 2, _, hm => exact sub_in el_2 _ hm
  | 3, _, hm => exact sub_in el_3 _ hm
  | 4, _, hm => exact sub_in el_4 _ hm
  | 5, _, hm => exact sub_in el_5 _ hm
  | 6, _, hm => exact sub_in el_6 _ hm
  | 7, _, hm => exact sub_in el_7 _ hm
  | 8, _, hm => exact sub_in el_8 _ hm
  | 9, _, hm => exact sub_in el_9 _ hm
  | 10, _, hm => exact sub_in el_10 _ hm
  | 11, _, hm => exact sub_in el_11 _ hm
  | 12, _, hm => exact sub_in el_12 _ hm
  | 13, _, hm => exact sub_in el_13 _ hm
  | 14, _, hm => exact sub_in el_14 _ hm
  | 15, _, hm => exact sub_in el_15 _ hm
  | 16, _, hm => exact sub_in el_16 _ hm
  | 17, _, hm => exact sub_in el_17 _ hm
  | 18, _, hm => exact sub_in el_18 _ hm
  | (k + 19), h, _ => exact absurd h (by omega)

/-! THE MACHINE keeps the runs of constructors -/
def RN (d mc ms : Nat) : Room := { frames := d, cells := mc, slots := ms, locals := 40 * d }
theorem mP_x {ad ad' : Nat → Nat} {n : Nat} {ls : List Value} (h : ∀ v ∈ ls, nOKv n v) (hag : ∀ k, k < n → ad' k = ad k) : ∀ {lsA : Array Slot} {nL : Nat}, lv_has lsA nL (mP ad ls) → lv_has lsA nL (mP ad' ls) := by
  intro lsA nL hl
  refine ⟨hl.1, hl.2.1, fun q hq => hl.2.2 q ?_⟩
  obtain ⟨v, h1, h2, h3⟩ := mP_mem.mp hq
  exact mP_mem.mpr ⟨v, h1, h2, by rw [h3, mV_x (h v (List.mem_of_getElem? h1)) hag]⟩
theorem st_x {ad ad' : Nat → Nat} {n : Nat} {st : List Value} (h : ∀ v ∈ st, nOKv n v) (hag : ∀ k, k < n → ad' k = ad k) : st.map (mV ad') = st.map (mV ad) := List.map_congr_left (fun v hv => mV_x (h v hv) hag)
/-- the words on nest mates, and on the row of rules: they go along with the state -/
def nXt (nq : List (String × Nat × MethodName × String)) (U : State) : Prop := (∀ q ∈ nq, va_Nw (.methodLinkNest q.1 q.2.1 q.2.2.1 q.2.2.2) U) ∧ va_AO "FourCars$Rule" U
def nPre (nq : List (String × Nat × MethodName × String)) (D : va_G) (tys : List (ClassId × FieldType)) (ad : Nat → Nat) (cA : Nat → ClassId) (M : nM) (sz : Nat) (U : State) : Prop := U.heap.size = sz ∧ va_P D clsL (nW ad cA M) U.heap ∧ va_K D clsL tys U ∧ (∀ i j, i < M.length → j < M.length → ad i = ad j → i = j) ∧ nT cA tys M ∧ nOK M ∧ nXt nq U
theorem nPre_blind {nq : List (String × Nat × MethodName × String)} {D : va_G} {tys : List (ClassId × FieldType)} {ad : Nat → Nat} {cA : Nat → ClassId} {M : nM} {sz : Nat} {av : List Value} : FrameBlind (va_Pc av (nPre nq D tys ad cA M sz)) := by
  intro a U g mk q
  obtain ⟨q0, q1, q2, q3, q4, q5, q6, q7, q8⟩ := q
  exact ⟨q0, q1, q2, va_K.moved (u := U) (U := U.calling g mk a) (Vm.Alike.refl U.vm) q3, q4, q5, q6, fun w hw => va_tabs (u := U) (U := U.calling g mk a) rfl rfl (q7 w hw), va_AO.moved (u := U) (U := U.calling g mk a) (Vm.Alike.refl U.vm) q8⟩
def nPost (D : va_G) (ad : Nat → Nat) (M : nM) (sz : Nat) (M1 : nM) : Array Value → State → Outcome → State → Prop :=
  va_Qv (fun (u : (Nat → Nat) × (Nat → ClassId) × List (ClassId × FieldType)) => (∀ k, k < M.length → u.1 k = ad k) ∧ (∀ i j, i < M1.length → j < M1.length → u.1 i = u.1 j → i = j) ∧ nT u.2.1 u.2.2 M1 ∧ nOK M1 ∧ (∀ k, M.length ≤ k → k < M1.length → sz ≤ u.1 k))
    (fun u t => va_P D clsL (nW u.1 u.2.1 M1) t.heap ∧ va_K D clsL u.2.2 t) (nA ad M.length sz)
/-- a constructor y makes M1 of M -/
def nMet (l : Launch) (nq : List (String × Nat × MethodName × String)) (d : Nat) (y : MethodName) (b : ByteArray) (nL : Nat) (as : List Value) (M M1 : nM) : Prop :=
  ∀ (D : va_G) (tys : List (ClassId × FieldType)) (ad : Nat → Nat) (cA : Nat → ClassId) (sz : Nat), (∀ v ∈ as, nOKv M.length v) →
    Met l y (wY y b nL none) (RN d (M1.length - M.length) (nSlots M1 - nSlots M)) (va_Pc (as.map (mV ad)) (nPre nq D tys ad cA M sz)) (nPost D ad M sz M1) (M1.length - M.length) (nSlots M1 - nSlots M) (nA ad M.length sz)
/-- what the tables say of a step -/
def nAok (nq : List (String × Nat × MethodName × String)) (ct : Nat → Option (MethodName × ByteArray × Nat)) (own : String) (ins : Instr) (len kd : Nat) (v : Int) (j : Nat) : Prop := match kd with
  | 0 => ∃ jj : Fin 4, ins = .aload_n jj ∧ len = 1 ∧ (jj : Nat) = j
  | 1 => (ins = .iconst v ∧ len = 1) ∨ (ins = .bipush v ∧ len = 2 ∧ (Int8.ofInt v).toInt32 = Int32.ofInt v) ∨ (ins = .sipush v ∧ len = 3 ∧ (Int16.ofInt v).toInt32 = Int32.ofInt v)
  | 2 => ∃ (ix : Nat) (Cn : String) (T : u_T) (N : Nat) (ty : Nat → FieldType), ins = .new ix ∧ len = 3 ∧ clsL[j]? = some (Cn, T, N) ∧ clsT[j]? = some (ty, N) ∧ (∀ w ∈ u_ws Cn T N, w ∈ gT) ∧ (∀ k, k < N → parseFieldDescriptor (T k).2.2.1 = some (ty k)) ∧ Jvm.Cond.classLink own ix Cn ∈ gT ∧ Jvm.Cond.instantiable Cn N ∈ gT ∧ Jvm.Cond.initialized Cn ∈ gT ∧ (∀ x ∈ nDf j, x = .null ∨ x = .int 0)
  | 3 => ins = .dup ∧ len = 1
  | 4 => ∃ atype : ArrayType, ins = .newarray atype ∧ len = 2 ∧ newarray.typeOf atype = nTy j ∧ Jvm.Cond.arrayClass (nTy j) ∈ gT
  | 5 => ∃ ix : Nat, ins = .anewarray ix ∧ len = 3 ∧ Jvm.Cond.classLink own ix "FourCars$Rule" ∈ gT
  | 6 => ∃ ix : Nat, ins = .putfield ix ∧ len = 3 ∧ ∀ ci, nCk v ci = true → ∃ (Cn : String) (T : u_T) (N : Nat) (ty : Nat → FieldType), clsL[ci]? = some (Cn, T, N) ∧ clsT[ci]? = some (ty, N) ∧ (∀ w ∈ u_ws Cn T N, w ∈ gT) ∧ (∀ k, k < N → parseFieldDescriptor (T k).2.2.1 = some (ty k)) ∧ (∀ a, a < N → ∀ b, b < N → a ≠ b → (T a).2.1 ≠ (T b).2.1) ∧ Jvm.Cond.fieldLink own ix (T j).1 (T j).2.1 (T j).2.2.1 ∈ gT ∧ (T j).1 = own
  | 7 => ∃ ix : Nat, ins = .getfield ix ∧ len = 3 ∧ ∀ ci, nCk v ci = true → fWd own (ix, ci, j)
  | 8 => ins = .aastore ∧ len = 1
  | 9 => ∃ (ix : Nat) (y : MethodName) (b : ByteArray) (nL : Nat), ins = .invokespecial ix ∧ len = 3 ∧ ct j = some (y, b, nL) ∧ y.name = "<init>" ∧ Jvm.Cond.instanceMethod y ∈ gT ∧ Jvm.Cond.initialized y.cls ∈ gT ∧ Jvm.Cond.code y b nL none ∈ gT ∧ nL ≤ 21 ∧ (y.cls ≠ "java/lang/invoke/MethodHandle" ∧ y.cls ≠ "java/lang/invoke/VarHandle" ∧ (parseMethodDescriptor y.desc).map (fun d => d.parameters.length) = some v.toNat) ∧ (Jvm.Cond.methodLink own ix y ∈ gT ∨ (own, ix, y, "FourCars") ∈ nq)
  | 10 => ∃ ix : Nat, ins = .invokespecial ix ∧ len = 3 ∧ Jvm.Cond.methodLink own ix Lib.objectInit ∈ gT
  | 11 => ins = .return_ ∧ len = 1
  | _ => False
/-- the steps lie in the bytes from pc on -/
def nLay (nq : List (String × Nat × MethodName × String)) (ct : Nat → Option (MethodName × ByteArray × Nat)) (own : String) (cc : ByteArray) : Nat → List nI3 → Prop
  | _, [] => True
  | pc, q :: t => q.1 = pc ∧ decode cc q.1 = .ok (q.2.1, q.2.2.1) ∧ nAok nq ct own q.2.1 q.2.2.1 q.2.2.2.1 q.2.2.2.2.1 q.2.2.2.2.2 ∧ nLay nq ct own cc (pc + q.2.2.1) t
theorem wc_obj : Jvm.Cond.instanceMethod Lib.objectInit ∈ gT ∧ Jvm.Cond.code Lib.objectInit ⟨#[0xb1]⟩ 1 none ∈ gT := ⟨gt1 26 rfl rfl, gt1 27 rfl rfl⟩
theorem nNar {ty : FieldType} {v : Value} {N j ci : Nat} {tf : Nat → FieldType} (hc : clsT[ci]? = some (tf, N)) (hp : nPut ci j v = true) (hty : tf j = ty) : j < N ∧ narrow ty v = v ∧ ∀ ad : Nat → Nat, narrow ty (mV ad v) = mV ad v ∧ fits ty (mV ad v) = true := by
  unfold nPut at hp
  rw [hc] at hp
  dsimp only at hp
  by_cases hj : j < N
  · rw [if_pos hj] at hp
    refine ⟨hj, ?_⟩
    subst hty
    split at hp
    · next h1 => rw [h1]; exact ⟨rfl, fun ad => ⟨rfl, rfl⟩⟩
    · next x h1 =>
      rw [h1]
      simp only [Bool.or_eq_true, beq_iff_eq] at hp
      rcases hp with rfl | rfl
      · exact ⟨by decide +kernel, fun ad => ⟨by show narrow .boolean (.int 0) = .int 0; decide +kernel, by show fits .boolean (.int 0) = true; decide +kernel⟩⟩
      · exact ⟨by decide +kernel, fun ad => ⟨by show narrow .boolean (.int 1) = .int 1; decide +kernel, by show fits .boolean (.int 1) = true; decide +kernel⟩⟩
    · next h1 => rw [h1]; exact ⟨rfl, fun ad => ⟨rfl, rfl⟩⟩
    · next h1 => rw [h1]; exact ⟨rfl, fun ad => ⟨rfl, rfl⟩⟩
    · cases hp
  · rw [if_neg hj] at hp
    cases hp

/-! every constructor meets its run; what the two make -/
theorem new_of {l : Launch} {nq : List (String × Nat × MethodName × String)} {ct : Nat → Option (MethodName × ByteArray × Nat)} {call : Nat → List Value → nM → Option nM} {d : Nat} {y : MethodName} {b : ByteArray} {nL : Nat} {code : List nI3} {as : List Value} {M M1 : nM} (hpl : plainName y.cls = true) (hnm : y.name = "<init>") (hlay : nLay nq ct y.cls b 0 code) (hlen : as.length ≤ nL) (hxi : xi call code (as ++ List.replicate (nL - as.length) .null) [] M = some M1)
    (hcm : ∀ j as M M2, call j as M = some M2 → M.length ≤ M2.length ∧ nSlots M ≤ nSlots M2) (hcall : ∀ j as M M2 y b k, call j as M = some M2 → ct j = some (y, b, k) → nMet l nq d y b k as M M2) : nMet l nq (d + 1) y b nL as M M1 := by
  intro D tys ad cA sz hargs
  refine Met.ofW (cc := b) (maxL := nL) (ret := none) hpl rfl ?_
  intro p e s m args below meth c s₁ B hml hv
  obtain ⟨rfl, hsz, hP, hK, hinj, hT, hOK, hxt⟩ := hv
  have hx := B.exec
  have hb := B.bytes
  have hr := B.returns
  have htsw := atoms_spec (ws := wY y b nL none) B.pre
  have hown : s.vm.findClass y.cls = some m.cls := findClass_of_methodNamed B.named
  have hlocks := B.notSynchronized
  have hin : meth.name = "<init>" := (name_of_methodNamed B.named B.method).1.trans hnm
  subst hsz
  obtain ⟨hm1, hm2⟩ := xi_mono hcm _ _ _ _ _ hxi
  have hcat2 : ∀ v ∈ as.map (mV ad), v.category = 1 := by
    intro v hv
    obtain ⟨w, hw, rfl⟩ := List.mem_map.mp hv
    rw [mV_cat]
    exact (hargs w hw).1
  have hl := lv_entry (as.map (mV ad)) (n := nL) (by rw [lg_sl_len _ hcat2, List.length_map]; exact hlen)
  rw [lg_entry_eq]
  generalize (lg_sl (as.map (mV ad)) ++ List.replicate (nL - (lg_sl (as.map (mV ad))).length) Slot.unset).toArray = lsA at hl ⊢
  refine xi_ok (d' := d) (M0 := M) (ad0 := ad) (nL := nL) (own := y.cls) (w0 := Jvm.Cond.code y b nL none) hx hb hml hown htsw hr hlocks hin hxt (Nat.le_refl _) hcm hcall code 0 _ [] M hlay hxi ad cA tys s.heap [] lsA 0 0 ⟨hP, hK, hinj, fun k hk => Or.inl ⟨k, hk, rfl⟩, hT, hOK, fun v hv => ?_, (fun v hv => by cases hv), Nat.le_refl _, fun k _ => rfl, va_S.rf, hl.1, hl.2.1, fun q hq => hl.2.2 q ?_⟩ (by omega) (by omega)
  · rcases List.mem_append.mp hv with h | h
    · exact hargs v h
    · rw [List.eq_of_mem_replicate h]; exact ⟨rfl, fun t ht => by cases ht⟩
  · obtain ⟨v, h1, h2, h3⟩ := mP_mem.mp hq
    have hi : q.1 < as.length := by
      rcases Nat.lt_or_ge q.1 as.length with z | z
      · exact z
      · rw [List.getElem?_append_right z] at h1
        exact absurd (List.eq_of_mem_replicate (List.mem_of_getElem? h1)) h2
    rw [List.getElem?_append_left hi] at h1
    have h4 := lv_args_mem (as.map (mV ad)) 0 q.1 (mV ad v) hcat2 (by rw [List.getElem?_map, h1]; rfl)
    rw [Nat.zero_add, ← h3] at h4
    exact h4
theorem xr_met (l : Launch) : ∀ (n j : Nat) (as : List Value) (M M1 : nM) (y : MethodName) (b : ByteArray) (k : Nat), xr n j as M = some M1 → ctF j = some (y, b, k) → nMet l nestQ n y b k as M M1 := by
  intro n
  induction n with
  | zero => intro j as M M1 y b k h; cases h
  | succ n ih =>
    intro j as M M1 y b k h hc
    rw [xr] at h
    split at h
    · next q hq =>
      split at h
      · next hlen =>
        obtain ⟨rfl, h2, h3, h4⟩ := lay_all j y b k q hc hq
        exact new_of h3 h2 h4 hlen h (xr_mono n) (fun j as M M2 y b k => ih j as M M2 y b k)
      · cases h
    · cases h
def nDecC : DecidableEq nC := inferInstance
def nDecL : DecidableEq nM := @instDecidableEqList _ nDecC
def nDec (a b : Option nM) : Decidable (a = b) := match a, b with
  | none, none => isTrue rfl
  | some x, some y => match nDecL x y with
    | isTrue h => isTrue (congrArg some h)
    | isFalse h => isFalse (fun z => h (Option.some.inj z))
  | none, some _ => isFalse (fun z => by cases z)
  | some _, none => isFalse (fun z => by cases z)
theorem of_decM {a b : Option nM} (h : @decide (a = b) (nDec a b) = true) : a = b := @of_decide_eq_true _ (nDec a b) h
def NEW1 : nM := [
  .inr (.inr (9, [.ref 1, .int 0, .ref 2, .ref 6, .ref 11, .ref 18, .ref 62, .int 0, .ref 106, .ref 125, .ref 126, .ref 127, .ref 133])),
  .inl (.byte, 400),
  .inr (.inr (6, [.ref 3, .ref 4, .ref 5, .int 0, .int 0, .int 0, .int 0, .int 0, .int (-1)])),
  .inl (.int, 401),
  .inl (.int, 401),
  .inl (.int, 401),
  .inr (.inr (4, [.int 0, .int 0, .int 0, .int 0, .ref 7, .ref 8, .ref 9, .ref 10])),
  .inl (.int, 17),
  .inl (.int, 16),
  .inl (.int, 400),
  .inl (.int, 24),
  .inr (.inr (7, [.int 0, .int 0, .int 0, .ref 12, .ref 13, .ref 14, .ref 15, .ref 16, .ref 17])),
  .inl (.int, 4),
  .inl (.int, 4),
  .inl (.int, 4),
  .inl (.int, 4),
  .inl (.int, 4),
  .inl (.boolean, 320),
  .inr (.inr (8, [.ref 19, .ref 26, .ref 42, .ref 43, .int 0])),
  .inr (.inr (7, [.int 0, .int 0, .int 0, .ref 20, .ref 21, .ref 22, .ref 23, .ref 24, .ref 25])),
  .inl (.int, 4),
  .inl (.int, 4),
  .inl (.int, 4),
  .inl (.int, 4),
  .inl (.int, 4),
  .inl (.boolean, 320),
  .inr (.inl ("FourCars$Rule", [some 27, some 32, some 37])),
  .inr (.inr (4, [.int 0, .int 0, .int 0, .int 0, .ref 28, .ref 29, .ref 30, .ref 31])),
  .inl (.int, 17),
  .inl (.int, 16),
  .inl (.int, 400),
  .inl (.int, 24),
  .inr (.inr (4, [.int 0, .int 0, .int 0, .int 0, .ref 33, .ref 34, .ref 35, .ref 36])),
  .inl (.int, 17),
  .inl (.int, 16),
  .inl (.int, 400),
  .inl (.int, 24),
  .inr (.inr (4, [.int 0, .int 0, .int 0, .int 0, .ref 38, .ref 39, .ref 40, .ref 41])),
  .inl (.int, 17),
  .inl (.int, 16),
  .inl (.int, 400),
  .inl (.int, 24),
  .inl (.int, 80),
  .inr (.inr (5, [.ref 19, .ref 44, .ref 52, .ref 61, .int 0, .int (-1), .int (-1), .int (-1), .int 0])),
  .inr (.inr (3, [.int 0, .int 0, .int 0, .int 0, .ref 45, .ref 46, .ref 47, .ref 48, .ref 49, .ref 50, .ref 51])),
  .inl (.int, 60),
  .inl (.int, 60),
  .inl (.int, 60),
  .inl (.int, 60),
  .inl (.int, 60),
  .inl (.int, 60),
  .inl (.int, 60),
  .inr (.inr (0, [.ref 53, .ref 54, .ref 55, .ref 56, .ref 57, .ref 58, .ref 59, .ref 60])),
  .inl (.int, 4),
  .inl (.int, 4),
  .inl (.int, 4),
  .inl (.int, 4),
  .inl (.int, 4),
  .inl (.int, 4),
  .inl (.int, 4),
  .inl (.boolean, 4),
  .inl (.int, 10),
  .inr (.inr (8, [.ref 63, .ref 70, .ref 86, .ref 87, .int 0])),
  .inr (.inr (7, [.int 0, .int 0, .int 0, .ref 64, .ref 65, .ref 66, .ref 67, .ref 68, .ref 69])),
  .inl (.int, 4),
  .inl (.int, 4),
  .inl (.int, 4),
  .inl (.int, 4),
  .inl (.int, 4),
  .inl (.boolean, 320),
  .inr (.inl ("FourCars$Rule", [some 71, some 76, some 81])),
  .inr (.inr (4, [.int 0, .int 0, .int 0, .int 0, .ref 72, .ref 73, .ref 74, .ref 75])),
  .inl (.int, 17),
  .inl (.int, 16),
  .inl (.int, 400),
  .inl (.int, 24),
  .inr (.inr (4, [.int 0, .int 0, .int 0, .int 0, .ref 77, .ref 78, .ref 79, .ref 80])),
  .inl (.int, 17),
  .inl (.int, 16),
  .inl (.int, 400),
  .inl (.int, 24),
  .inr (.inr (4, [.int 0, .int 0, .int 0, .int 0, .ref 82, .ref 83, .ref 84, .ref 85])),
  .inl (.int, 17),
  .inl (.int, 16),
  .inl (.int, 400),
  .inl (.int, 24),
  .inl (.int, 80),
  .inr (.inr (5, [.ref 63, .ref 88, .ref 96, .ref 105, .int 0, .int (-1), .int (-1), .int (-1), .int 0])),
  .inr (.inr (3, [.int 0, .int 0, .int 0, .int 0, .ref 89, .ref 90, .ref 91, .ref 92, .ref 93, .ref 94, .ref 95])),
  .inl (.int, 60),
  .inl (.int, 60),
  .inl (.int, 60),
  .inl (.int, 60),
  .inl (.int, 60),
  .inl (.int, 60),
  .inl (.int, 60),
  .inr (.inr (0, [.ref 97, .ref 98, .ref 99, .ref 100, .ref 101, .ref 102, .ref 103, .ref 104])),
  .inl (.int, 4),
  .inl (.int, 4),
  .inl (.int, 4),
  .inl (.int, 4),
  .inl (.int, 4),
  .inl (.int, 4),
  .inl (.int, 4),
  .inl (.boolean, 4),
  .inl (.int, 10),
  .inr (.inr (5, [.ref 19, .ref 107, .ref 115, .ref 124, .int 0, .int (-1), .int (-1), .int (-1), .int 0])),
  .inr (.inr (3, [.int 0, .int 0, .int 0, .int 0, .ref 108, .ref 109, .ref 110, .ref 111, .ref 112, .ref 113, .ref 114])),
  .inl (.int, 60),
  .inl (.int, 60),
  .inl (.int, 60),
  .inl (.int, 60),
  .inl (.int, 60),
  .inl (.int, 60),
  .inl (.int, 60),
  .inr (.inr (0, [.ref 116, .ref 117, .ref 118, .ref 119, .ref 120, .ref 121, .ref 122, .ref 123])),
  .inl (.int, 4),
  .inl (.int, 4),
  .inl (.int, 4),
  .inl (.int, 4),
  .inl (.int, 4),
  .inl (.int, 4),
  .inl (.int, 4),
  .inl (.boolean, 4),
  .inl (.int, 10),
  .inl (.int, 192),
  .inl (.int, 3),
  .inr (.inr (1, [.ref 128, .ref 129, .ref 130, .ref 131, .ref 132, .int 0])),
  .inl (.int, 4),
  .inl (.int, 81),
  .inl (.int, 81),
  .inl (.int, 324),
  .inl (.int, 324),
  .inr (.inr (2, [.ref 134, .ref 135, .ref 136, .ref 137, .ref 138, .int 0, .int 0, .int 0])),
  .inl (.int, 4),
  .inl (.int, 81),
  .inl (.int, 81),
  .inl (.int, 324),
  .inl (.int, 324)]
def NEW2 : nM := [
  .inr (.inr (10, [.ref 140, .ref 141, .ref 142, .int 0, .ref 143, .ref 144, .ref 145, .ref 146, .ref 147, .ref 148, .ref 149, .int 0, .int 0, .int 0, .int 0, .int 0, .int 0, .int 0, .int 0, .int 0, .int 0, .int 0, .int 0, .int 0, .int 0, .int (-1), .int 0, .ref 150, .int 0, .int (-1), .int 0, .int 0, .ref 151, .int 0, .ref 152, .ref 153, .ref 154, .ref 155, .int 0])),
  .inl (.int, 3970),
  .inl (.int, 3970),
  .inl (.int, 1300),
  .inl (.int, 64),
  .inl (.int, 820),
  .inl (.int, 40),
  .inl (.int, 400),
  .inl (.int, 420),
  .inl (.int, 11),
  .inl (.boolean, 320),
  .inl (.int, 60),
  .inl (.int, 60),
  .inl (.int, 320),
  .inl (.int, 4),
  .inl (.int, 4),
  .inl (.int, 4)]
set_option maxRecDepth 100000 in
set_option maxHeartbeats 4000000 in
theorem xr_1 : xr 5 10 [.ref 0] [.inr (.inr (9, nDf 9))] = some NEW1 := of_decM (by decide +kernel)
set_option maxRecDepth 100000 in
set_option maxHeartbeats 4000000 in
theorem xr_2 : xr 5 11 [.ref 139] (NEW1 ++ [.inr (.inr (10, nDf 10))]) = some (NEW1 ++ NEW2) := of_decM (by decide +kernel)
/-- the memory at first -/
def mNeg : List (Nat × Nat) := [(2, 8), (43, 5), (43, 6), (43, 7), (87, 5), (87, 6), (87, 7), (106, 5), (106, 6), (106, 7), (139, 25), (139, 29)]
def mC0 : mMem := fun k j => if mNeg.contains (k, j) then -1 else 0
/-- a cell of the shape, as it is at first -/
def nOf (k : Nat) (e : mSh) : nC := match e with
  | .inl q => .inl q
  | .inr (.inl q) => .inr (.inl (q.1, q.2.map some))
  | .inr (.inr q) => .inr (.inr (q.1, q.2.mapIdx (fun j f => match f with | none => .int (mC0 k j) | some t => .ref t)))
theorem NEW_SH : NEW1 ++ NEW2 = SH.mapIdx nOf := Option.some.inj (of_decM (by decide +kernel))
theorem mC0_arr : ∀ k, k < 156 → (match SH[k]? with | some (.inl _) => (mNeg.all (fun q => q.1 != k)) | _ => true) = true := by decide +kernel
theorem nE_of (ad : Nat → Nat) (cA : Nat → ClassId) {k : Nat} {e : mSh} (h : SH[k]? = some e) : nE ad cA k (nOf k e) = mE ad cA mC0 k e := by
  rcases e with q | q | q
  · have hk : k < 156 := (List.getElem?_eq_some_iff.mp h).1
    have h1 := mC0_arr k hk
    rw [h] at h1
    have h2 : mC0 k = fun _ => 0 := by
      funext j
      simp only [mC0]
      rw [if_neg]
      intro z
      rw [List.contains_iff_mem] at z
      have h3 := List.all_eq_true.mp h1 _ z
      simp at h3
    simp only [nOf, nE, mE, h2]
  · have hf : (fun (j : Nat) => (((q.2.map some)[j]?).join).map ad) = fun (j : Nat) => (q.2[j]?).map ad := by
      funext j
      rw [List.getElem?_map]
      cases q.2[j]? <;> rfl
    simp only [nOf, nE, mE, List.length_map, hf]
  · have hf : (q.2.mapIdx (fun j f => match f with | none => Value.int (mC0 k j) | some t => Value.ref t)).map (mV ad) = q.2.mapIdx (fun j f => mF ad mC0 k j f) := by
      apply List.ext_getElem?
      intro j
      simp only [List.getElem?_map, List.getElem?_mapIdx]
      cases q.2[j]? with
      | none => rfl
      | some f => cases f <;> rfl
    simp only [nOf, nE, mE, hf]
theorem NEW_W (ad : Nat → Nat) (cA : Nat → ClassId) : nW ad cA (NEW1 ++ NEW2) = mW SH ad cA mC0 := by
  rw [NEW_SH]
  apply List.ext_getElem?
  intro i
  simp only [nW, mW, List.getElem?_mapIdx]
  cases h : SH[i]? with
  | none => rfl
  | some e => simp only [Option.map_some]; rw [nE_of ad cA h]
theorem NEW_T {cA : Nat → ClassId} {tys : List (ClassId × FieldType)} (h : nT cA tys (NEW1 ++ NEW2)) : mT SH cA tys := by
  rw [NEW_SH] at h
  intro k e he
  have h1 := h k (nOf k e) (by rw [List.getElem?_mapIdx, he]; rfl)
  rcases e with q | q | q
  · exact h1
  · exact h1
  · trivial

/-! .. step by step -/
section XOK
variable {p : Program} {l : Launch} {e : Env} {s : State} {m : MethodId} {args : Array Value} {below : List Frame} {meth : Method} {c : Code} {D : va_G} {cc : ByteArray} {nL : Nat} {own : String} {w0 : Jvm.Cond} {nq : List (String × Nat × MethodName × String)} {ct : Nat → Option (MethodName × ByteArray × Nat)} {call : Nat → List Value → nM → Option nM} {d d' mc ms : Nat} {ad0 : Nat → Nat} {M0 M1 : nM}
theorem nok_cat {n : Nat} {st : List Value} (h : ∀ v ∈ st, nOKv n v) : ∀ v ∈ st, v.category = 1 := fun v hv => (h v hv).1
theorem sum_cat {ad : Nat → Nat} {st : List Value} (h : ∀ v ∈ st, v.category = 1) : ((st.map (mV ad)).map fun v => v.category).sum = st.length := by
  induction st with
  | nil => rfl
  | cons a t ih =>
    rw [List.map_cons, List.map_cons, List.sum_cons, ih (fun v hv => h v (List.mem_cons_of_mem _ hv)), mV_cat, h a List.mem_cons_self, List.length_cons]
    omega
def nTe (tys : List (ClassId × FieldType)) (a : ClassId) (x : nC) : Prop := match x with
  | .inl q => (a, q.1) ∈ tys
  | .inr (.inl q) => (a, FieldType.object q.1) ∈ tys
  | .inr (.inr _) => True
theorem nSlots_set {M : nM} {k : Nat} {x x0 : nC} (h0 : M[k]? = some x0) (hz : nSz x = nSz x0) : nSlots (M.set k x) = nSlots M := by
  have hk : k < M.length := (List.getElem?_eq_some_iff.mp h0).1
  have : (M.set k x).map nSz = M.map nSz := by
    apply List.ext_getElem?
    intro i
    rw [List.getElem?_map, List.getElem?_map]
    by_cases hi : i = k
    · subst hi
      rw [List.getElem?_set_self hk, h0]
      simp [hz]
    · rw [List.getElem?_set_ne (fun z => hi z.symm)]
  simp only [nSlots, this]
/-- what holds at a step -/
def nSt (D : va_G) (s : State) (nL : Nat) (ad0 : Nat → Nat) (n0 : Nat) (ls st : List Value) (M : nM) (ad : Nat → Nat) (cA : Nat → ClassId) (tys : List (ClassId × FieldType)) (H : Heap) (locs : List Loc) (lsA : Array Slot) : Prop :=
  va_P D clsL (nW ad cA M) H ∧ va_K D clsL tys s ∧ (∀ i j, i < M.length → j < M.length → ad i = ad j → i = j) ∧ (∀ k, k < M.length → nA ad0 n0 s.heap.size (ad k)) ∧ nT cA tys M ∧ nOK M ∧ (∀ v ∈ ls, nOKv M.length v) ∧ (∀ v ∈ st, nOKv M.length v) ∧ n0 ≤ M.length ∧ (∀ k, k < n0 → ad k = ad0 k) ∧ va_S (nA ad0 n0 s.heap.size) s.heap H locs ∧ lv_has lsA nL (mP ad ls)
theorem nSt_stack {ls st st' : List Value} {M : nM} {ad : Nat → Nat} {cA : Nat → ClassId} {tys : List (ClassId × FieldType)} {H : Heap} {locs : List Loc} {lsA : Array Slot} (h : nSt D s nL ad0 M0.length ls st M ad cA tys H locs lsA) (h' : ∀ v ∈ st', nOKv M.length v) : nSt D s nL ad0 M0.length ls st' M ad cA tys H locs lsA :=
  ⟨h.1, h.2.1, h.2.2.1, h.2.2.2.1, h.2.2.2.2.1, h.2.2.2.2.2.1, h.2.2.2.2.2.2.1, h', h.2.2.2.2.2.2.2.2⟩
/-- a new cell -/
theorem nSt_push {ls st : List Value} {M : nM} {ad : Nat → Nat} {cA : Nat → ClassId} {tys tys' : List (ClassId × FieldType)} {H H1 : Heap} {locs : List Loc} {lsA : Array Slot} {q : Nat} {a : ClassId} {x : nC} {r : List Value} (h : nSt D s nL ad0 M0.length ls st M ad cA tys H locs lsA) (hr : ∀ v ∈ r, nOKv M.length v)
    (hP : va_P D clsL (nW ad cA M ++ [(q, nE (adx ad M.length q) (adx cA M.length a) M.length x)]) H1) (hD : va_D (nA ad0 M0.length s.heap.size) (nW ad cA M ++ [(q, nE (adx ad M.length q) (adx cA M.length a) M.length x)])) (hS : va_S (nA ad0 M0.length s.heap.size) s.heap H1 locs) (hK : va_K D clsL tys' s) (hsub : ∀ z ∈ tys, z ∈ tys') (hx : nOKc (M.length + 1) x)
    (he : nTe tys' a x) : nSt D s nL ad0 M0.length ls (.ref M.length :: r) (M ++ [x]) (adx ad M.length q) (adx cA M.length a) tys' H1 locs lsA := by
  obtain ⟨h1, h2, h3, h4, h5, h6, h7, h8, h9, h10, h11, h12⟩ := h
  obtain ⟨f1, f2⟩ := nW_fresh hD
  have hl : (M ++ [x]).length = M.length + 1 := by simp
  have hle : M.length ≤ (M ++ [x]).length := by omega
  refine ⟨by rw [nW_push h6]; exact hP, hK, ?_, ?_, nT_push h5 hsub he, nOK_push h6 hx, fun v hv => nOKv_le (h7 v hv) hle, ?_, by omega, ?_, hS, mP_x h7 (fun k hk => adx_lt hk) h12⟩
  · intro i j hi hj hij
    rw [hl] at hi hj
    rcases Nat.lt_or_ge i M.length with a1 | a1 <;> rcases Nat.lt_or_ge j M.length with a2 | a2
    · rw [adx_lt a1, adx_lt a2] at hij
      exact h3 i j a1 a2 hij
    · have : j = M.length := by omega
      subst this
      rw [adx_lt a1, adx_at] at hij
      exact absurd hij (f2 i a1)
    · have : i = M.length := by omega
      subst this
      rw [adx_lt a2, adx_at] at hij
      exact absurd hij.symm (f2 j a2)
    · omega
  · intro k hk
    rw [hl] at hk
    rcases Nat.lt_or_ge k M.length with a1 | a1
    · rw [adx_lt a1]; exact h4 k a1
    · have : k = M.length := by omega
      subst this
      rw [adx_at]; exact f1
  · intro v hv
    rcases List.mem_cons.mp hv with rfl | hv
    · exact ⟨rfl, fun t ht => by cases ht; rw [hl]; exact Nat.lt_succ_self _⟩
    · exact nOKv_le (hr v hv) hle
  · intro k hk
    have hk' : k < M.length := Nat.lt_of_lt_of_le hk h9
    rw [adx_lt hk']; exact h10 k hk
/-- a cell is set -/
theorem nSt_set {ls st r : List Value} {M : nM} {ad : Nat → Nat} {cA : Nat → ClassId} {tys : List (ClassId × FieldType)} {H H1 : Heap} {locs locs1 : List Loc} {lsA : Array Slot} {k : Nat} {x : nC} (h : nSt D s nL ad0 M0.length ls st M ad cA tys H locs lsA) (hr : ∀ v ∈ r, nOKv M.length v) (hk : k < M.length)
    (hP : va_P D clsL ((nW ad cA M).set k (ad k, nE ad cA k x)) H1) (hS : va_S (nA ad0 M0.length s.heap.size) s.heap H1 locs1) (hx : nOKc M.length x) (he : nTe tys (cA k) x) : nSt D s nL ad0 M0.length ls r (M.set k x) ad cA tys H1 locs1 lsA := by
  obtain ⟨h1, h2, h3, h4, h5, h6, h7, h8, h9, h10, h11, h12⟩ := h
  have hl : (M.set k x).length = M.length := List.length_set
  refine ⟨by rw [← nW_set hk]; exact hP, h2, by rw [hl]; exact h3, by rw [hl]; exact h4, nT_set h5 he, nOK_set h6 hx, by rw [hl]; exact h7, by rw [hl]; exact hr, by rw [hl]; exact h9, h10, hS, h12⟩
set_option maxHeartbeats 8000000 in
theorem xi_ok (hx : p.tables.exec = Jvm.exec) (hb : c.code = cc) (hml : c.maxLocals = nL) (hown : s.vm.findClass own = some m.cls) (hts : ∀ w ∈ w0 :: gT, w.before args s = true) (hr : meth.sig.returnType = none) (hlocks : meth.locks = false) (hin : meth.name = "<init>") (hxt : nXt nq s) (hd : d' + 1 ≤ d)
    (hcm : ∀ j as M M2, call j as M = some M2 → M.length ≤ M2.length ∧ nSlots M ≤ nSlots M2)
    (hcall : ∀ j as M M2 y b k, call j as M = some M2 → ct j = some (y, b, k) → nMet l nq d' y b k as M M2) :
    ∀ (t : List nI3) (pc : Nat) (ls st : List Value) (M : nM), nLay nq ct own cc pc t → xi call t ls st M = some M1 → ∀ (ad : Nat → Nat) (cA : Nat → ClassId) (tys : List (ClassId × FieldType)) (H : Heap) (locs : List Loc) (lsA : Array Slot) (cells slots : Nat), nSt D s nL ad0 M0.length ls st M ad cA tys H locs lsA → cells + M1.length ≤ mc + M.length → slots + nSlots M1 ≤ ms + nSlots M →
      W p l e (RN d mc ms) s m args below meth c H locs cells slots (MQ below (nPost D ad0 M0 s.heap.size M1) args s mc ms (nA ad0 M0.length s.heap.size)) (F0 m pc lsA (st.map (mV ad))) := by
  have hT0 : ∀ w ∈ gT, w.before args s = true := fun w h => hts w (List.mem_cons_of_mem _ h)
  have hA : ∀ q : Nat, s.heap.size ≤ q → nA ad0 M0.length s.heap.size q := fun q h => Or.inr h
  intro t
  induction t with
  | nil => intro pc ls st M _ h; cases h
  | cons q t ih =>
    intro pc ls st M hlay h ad cA tys H locs lsA cells slots hN hcells hslots
    obtain ⟨pc', ins, len, kd, v, j⟩ := q
    obtain ⟨rfl, hdec, haok, hlay⟩ := hlay
    rw [xi] at h
    dsimp only at h hdec haok hlay
    have hmono := fun (ls' st' : List Value) (M' : nM) (h' : xi call t ls' st' M' = some M1) => xi_mono hcm t ls' st' M' M1 h'
    obtain ⟨hP, hK, hinj, hAd, hT, hOK, hls, hst, hn0, hag, hS, hL⟩ := id hN
    have hD : va_D (nA ad0 M0.length s.heap.size) (nW ad cA M) := nW_D hinj hAd
    have tl : ∀ {y : Value} {r : List Value}, (∀ v ∈ y :: r, nOKv M.length v) → ∀ v ∈ r, nOKv M.length v := fun hh v hv => hh v (List.mem_cons_of_mem _ hv)
    unfold xk at h
    split at h
    · obtain ⟨jj, rfl, rfl, rfl⟩ := haok
      split at h
      · next x hx1 =>
        refine lv_aload_n hx hb hdec rfl (mP_at hL hx1 (by simp)) ?_
        refine ih _ ls (.ref x :: st) M hlay h ad cA tys H locs lsA cells slots (nSt_stack hN (fun w hw => ?_)) hcells hslots
        rcases List.mem_cons.mp hw with rfl | hw
        · exact hls _ (List.mem_of_getElem? hx1)
        · exact hst w hw
      · cases h
    · have hn : nSt D s nL ad0 M0.length ls (.int (Int32.ofInt v) :: st) M ad cA tys H locs lsA := nSt_stack hN (fun w hw => by
        rcases List.mem_cons.mp hw with rfl | hw
        · exact ⟨rfl, fun t ht => by cases ht⟩
        · exact hst w hw)
      rcases haok with ⟨rfl, rfl⟩ | ⟨rfl, rfl, he⟩ | ⟨rfl, rfl, he⟩
      · exact lv_iconst hx hb hdec rfl (ih _ ls (.int (Int32.ofInt v) :: st) M hlay h ad cA tys H locs lsA cells slots hn hcells hslots)
      · exact lv_bipush hx hb hdec he (ih _ ls (.int (Int32.ofInt v) :: st) M hlay h ad cA tys H locs lsA cells slots hn hcells hslots)
      · exact lv_sipush hx hb hdec he (ih _ ls (.int (Int32.ofInt v) :: st) M hlay h ad cA tys H locs lsA cells slots hn hcells hslots)
    · obtain ⟨ix, Cn, T, N, ty, rfl, rfl, g1, g2, g3, g4, g5, g6, g7, g8⟩ := haok
      have hm := hmono _ _ _ h
      rw [nSlots_push] at hm
      simp only [List.length_append, List.length_cons, List.length_nil] at hm
      have hlen : (nDf j).length = N := by simp [nDf, g2]
      have hz : nSz (.inr (.inr (j, nDf j))) = N := hlen
      rw [hz] at hm
      have hmv : ∀ ad' : Nat → Nat, (nDf j).map (mV ad') = nDf j := by
        intro ad'
        refine (List.map_congr_left (fun y hy => ?_)).trans (List.map_id _)
        rcases g8 y hy with rfl | rfl <;> rfl
      refine va_new (R := RN d mc ms) (ci := j) (fs := nDf j) hx hb hT0 g3 ty g4 hown (hT0 _ g5) (hT0 _ g6) (hT0 _ g7) hK hP hD hS hA g1 ?_ (by show cells + 1 ≤ mc; omega) (by show slots + N ≤ ms; omega) hdec (fun q H1 hP1 hD1 hS1 => ?_)
      · intro i hi
        simp [nDf, g2, vp_V, hi]
      · have hst2 : (st.map (mV ad)) = st.map (mV (adx ad M.length q)) := (st_x hst (fun k hk => adx_lt hk)).symm
        have e0 : nE (adx ad M.length q) (adx cA M.length (cA M.length)) M.length (.inr (.inr (j, nDf j))) = .inr (j, nDf j) := by simp only [nE, hmv]
        have hn : nSt D s nL ad0 M0.length ls (.ref M.length :: st) (M ++ [.inr (.inr (j, nDf j))]) (adx ad M.length q) (adx cA M.length (cA M.length)) tys H1 locs lsA := nSt_push hN hst (by rw [e0]; exact hP1) (by rw [e0]; exact hD1) hS1 hK (fun z hz => hz) (fun y hy => by rcases g8 y hy with rfl | rfl <;> exact ⟨rfl, fun t ht => by cases ht⟩) trivial
        have := ih _ ls (.ref M.length :: st) _ hlay h _ _ tys H1 locs lsA (cells + 1) (slots + N) hn (by simp; omega) (by rw [nSlots_push, hz]; omega)
        rw [List.map_cons, mV, adx_at, ← hst2] at this
        exact this
    · obtain ⟨rfl, rfl⟩ := haok
      split at h
      · next x r =>
        have hc1 := (hst x List.mem_cons_self).1
        refine lv_dup hx hb hdec (by rw [mV_cat]; exact hc1) ?_
        refine ih _ ls (x :: x :: r) M hlay h ad cA tys H locs lsA cells slots (nSt_stack hN (fun w hw => ?_)) hcells hslots
        rcases List.mem_cons.mp hw with rfl | hw
        · exact hst _ List.mem_cons_self
        · exact hst w hw
      · cases h
    · obtain ⟨atype, rfl, rfl, g1, g2⟩ := haok
      split at h
      · next n r =>
        split at h
        · next hc =>
          have hm := hmono _ _ _ h
          rw [nSlots_push] at hm
          simp only [List.length_append, List.length_cons, List.length_nil, nSz] at hm
          have hcb : componentBytes (nTy j) ≤ 8 := by unfold nTy; split <;> decide
          refine va_newa (R := RN d mc ms) (a0 := (n.toNatClampNeg, .inl (fun _ => 0))) (N' := n.toNatClampNeg) hx hb (by rw [g1]; exact hT0 _ g2) g1 hK hP hD hS hA (fun cA' => ?_) (Int32.not_lt.mpr hc.1) rfl ?_ (by show cells + 1 ≤ mc; omega) (by show slots + n.toNatClampNeg ≤ ms; omega) hdec (fun q a H1 hK1 hP1 hD1 hS1 => ?_)
          · unfold nTy; split <;> rfl
          · calc n.toNatClampNeg * componentBytes (nTy j) ≤ 5000 * 8 := Nat.mul_le_mul hc.2 hcb
              _ ≤ 536870912 := by decide
          · have hst' := tl hst
            have hst2 : (r.map (mV ad)) = r.map (mV (adx ad M.length q)) := (st_x hst' (fun k hk => adx_lt hk)).symm
            have e0 : nE (adx ad M.length q) (adx cA M.length a) M.length (.inl (nTy j, n.toNatClampNeg)) = .inl (a, n.toNatClampNeg, .inl (fun _ => 0)) := by simp only [nE, adx_at]
            have hn : nSt D s nL ad0 M0.length ls (.ref M.length :: r) (M ++ [.inl (nTy j, n.toNatClampNeg)]) (adx ad M.length q) (adx cA M.length a) (tys ++ [(a, nTy j)]) H1 locs lsA := nSt_push hN hst' (by rw [e0]; exact hP1) (by rw [e0]; exact hD1) hS1 hK1 (fun z hz => List.mem_append_left _ hz) trivial (List.mem_append_right _ List.mem_cons_self)
            have := ih _ ls (.ref M.length :: r) _ hlay h _ _ _ H1 locs lsA (cells + 1) (slots + n.toNatClampNeg) hn (by simp; omega) (by rw [nSlots_push]; simp only [nSz]; omega)
            rw [List.map_cons, mV, adx_at, ← hst2] at this
            exact this
        · cases h
      · cases h
    · obtain ⟨ix, rfl, rfl, g1⟩ := haok
      split at h
      · next n r =>
        split at h
        · next hc =>
          have hm := hmono _ _ _ h
          rw [nSlots_push] at hm
          simp only [List.length_append, List.length_cons, List.length_nil, nSz, List.length_replicate] at hm
          refine va_newq (R := RN d mc ms) (N' := n.toNatClampNeg) hx hb hown (hT0 _ g1) hxt.2 hK hP hD hS hA (Int32.not_lt.mpr hc.1) rfl ?_ (by show cells + 1 ≤ mc; omega) (by show slots + n.toNatClampNeg ≤ ms; omega) hdec (fun q a H1 hK1 hP1 hD1 hS1 => ?_)
          · calc n.toNatClampNeg * 4 ≤ 5000 * 4 := Nat.mul_le_mul hc.2 (Nat.le_refl _)
              _ ≤ 536870912 := by decide
          · have hst' := tl hst
            have hst2 : (r.map (mV ad)) = r.map (mV (adx ad M.length q)) := (st_x hst' (fun k hk => adx_lt hk)).symm
            have e0 : nE (adx ad M.length q) (adx cA M.length a) M.length (.inr (.inl ("FourCars$Rule", List.replicate n.toNatClampNeg none))) = .inl (a, n.toNatClampNeg, .inr (.inr (.inr (.inr (fun _ => none))))) := by
              have hf : (fun (i : Nat) => (((List.replicate n.toNatClampNeg (none : Option Nat))[i]?).join).map (adx ad M.length q)) = fun _ => none := by
                funext i
                rw [List.getElem?_replicate]
                split <;> rfl
              simp only [nE, adx_at, List.length_replicate, hf]
            have hn : nSt D s nL ad0 M0.length ls (.ref M.length :: r) (M ++ [.inr (.inl ("FourCars$Rule", List.replicate n.toNatClampNeg none))]) (adx ad M.length q) (adx cA M.length a) (tys ++ [(a, .object "FourCars$Rule")]) H1 locs lsA := nSt_push hN hst' (by rw [e0]; exact hP1) (by rw [e0]; exact hD1) hS1 hK1 (fun z hz => List.mem_append_left _ hz) (fun t ht => by cases List.eq_of_mem_replicate ht) (List.mem_append_right _ List.mem_cons_self)
            have := ih _ ls (.ref M.length :: r) _ hlay h _ _ _ H1 locs lsA (cells + 1) (slots + n.toNatClampNeg) hn (by simp; omega) (by rw [nSlots_push]; simp only [nSz, List.length_replicate]; omega)
            rw [List.map_cons, mV, adx_at, ← hst2] at this
            exact this
        · cases h
      · cases h
    · obtain ⟨ix, rfl, rfl, g⟩ := haok
      split at h
      · next x k r =>
        split at h
        · next ci fs hk =>
          split at h
          · next hc =>
            obtain ⟨Cn, T, N, ty, g1, g2, g3, g4, g5, g6, g7⟩ := g ci hc.1
            obtain ⟨hj, -, hnar⟩ := nNar g2 hc.2.1 rfl
            have hk' : k < M.length := (List.getElem?_eq_some_iff.mp hk).1
            have hxv : nOKv M.length x := hst x List.mem_cons_self
            have hfs : ∀ v ∈ fs, nOKv M.length v := hOK k _ hk
            have kk : ∀ (H1 : Heap) (locs1 : List Loc), va_P D clsL ((nW ad cA M).set k (ad k, .inr (ci, (fs.map (mV ad)).set j (mV ad x)))) H1 → va_D (nA ad0 M0.length s.heap.size) ((nW ad cA M).set k (ad k, .inr (ci, (fs.map (mV ad)).set j (mV ad x)))) → va_S (nA ad0 M0.length s.heap.size) s.heap H1 locs1 → W p l e (RN d mc ms) s m args below meth c H1 locs1 cells slots (MQ below (nPost D ad0 M0 s.heap.size M1) args s mc ms (nA ad0 M0.length s.heap.size)) (F0 m (pc' + 3) lsA (r.map (mV ad))) := by
              intro H1 locs1 hP1 _ hS1
              have e2 : (nE ad cA k (.inr (.inr (ci, fs.set j x)))) = .inr (ci, (fs.map (mV ad)).set j (mV ad x)) := by simp [nE, List.map_set]
              have hn : nSt D s nL ad0 M0.length ls r (M.set k (.inr (.inr (ci, fs.set j x)))) ad cA tys H1 locs1 lsA := nSt_set hN (tl (tl hst)) hk' (by rw [e2]; exact hP1) hS1 (fun v hv => by
                rcases List.mem_or_eq_of_mem_set hv with z | z
                · exact hfs v z
                · rw [z]; exact hxv) trivial
              exact ih _ ls r _ hlay h ad cA tys H1 locs1 lsA cells slots hn (by rw [List.length_set]; exact hcells) (by rw [nSlots_set hk (by simp [nSz])]; exact hslots)
            by_cases hf : (T j).2.2.2 = true
            · exact va_putF (v := mV ad x) (ty := ty j) hx hb hT0 g3 ty g4 g5 hown hK hP hD hS k (nW_at hk) g1 j hj (hT0 _ g6) (fun _ z => z) hf hin g7 (g4 j hj) (hnar ad).1 (hnar ad).2 (by rw [List.length_map]; exact hc.2.2) hdec kk
            · exact va_put (v := mV ad x) (ty := ty j) hx hb hT0 g3 ty g4 g5 hown hK hP hD hS k (nW_at hk) g1 j hj (hT0 _ g6) (fun _ z => z) (Bool.not_eq_true _ ▸ hf) (g4 j hj) (hnar ad).1 (hnar ad).2 (by rw [List.length_map]; exact hc.2.2) hdec kk
          · cases h
        · cases h
      · cases h
    · obtain ⟨ix, rfl, rfl, g⟩ := haok
      split at h
      · next k r =>
        split at h
        · next ci fs hk =>
          split at h
          · next hc =>
            split at h
            · next x hx1 =>
              obtain ⟨Cn, T, N, ref, g1, g2, g3, g4, g5⟩ := fWd_ok (g ci hc) args s hT0
              refine va_get (v := mV ad (.ref x)) hx hb hT0 g2 hown hK hP k (nW_at hk) g1 j g3 g4 g5 (by rw [List.getElem?_map, hx1]; rfl) hdec ?_
              refine ih _ ls (.ref x :: r) M hlay h ad cA tys H locs lsA cells slots (nSt_stack hN (fun w hw => ?_)) hcells hslots
              rcases List.mem_cons.mp hw with rfl | hw
              · exact hOK k _ hk _ (List.mem_of_getElem? hx1)
              · exact tl hst w hw
            · cases h
          · cases h
        · cases h
      · cases h
    · obtain ⟨rfl, rfl⟩ := haok
      split at h
      · next x i k r =>
        split at h
        · next Cn ts ci fs hk hx1 =>
          split at h
          · next hc =>
            obtain ⟨rfl, rfl, hi⟩ := hc
            have hk' : k < M.length := (List.getElem?_eq_some_iff.mp hk).1
            obtain ⟨t0, ht0⟩ := List.getElem?_of_mem (hT k _ hk)
            obtain ⟨u, hu, rfl⟩ : ∃ u : Nat, u < ts.length ∧ i.toNatClampNeg = u := by
              refine ⟨_, ?_, rfl⟩
              exact Nat.not_le.mp fun z => mIn_vp hi (Or.inr z)
            refine va_astq (r := ("FourCars$Rule", TF_Ru, 8)) hx hb hK hP hD hS k t0 x 4 (nW_at hk) ht0 (nW_at hx1) rfl (mIn_vp hi) hdec (fun H1 locs1 hP1 _ hS1 => ?_)
            have e2 : (nE ad cA k (.inr (.inl ("FourCars$Rule", ts.set i.toNatClampNeg (some x))))) = .inl (cA k, ts.length, .inr (.inr (.inr (.inr (va_up (fun j => ((ts[j]?).join).map ad) i.toNatClampNeg (some (ad x))))))) := by
              have hf : (fun (j : Nat) => (((ts.set i.toNatClampNeg (some x))[j]?).join).map ad) = va_up (fun j => ((ts[j]?).join).map ad) i.toNatClampNeg (some (ad x)) := by
                funext j
                by_cases hj : j = i.toNatClampNeg
                · subst hj
                  rw [List.getElem?_set_self hu]
                  simp [va_up]
                · rw [List.getElem?_set_ne (fun z => hj z.symm)]
                  simp [va_up, hj]
              simp only [nE, List.length_set, hf]
            have hxl : x < M.length := (List.getElem?_eq_some_iff.mp hx1).1
            have hn : nSt D s nL ad0 M0.length ls r (M.set k (.inr (.inl ("FourCars$Rule", ts.set i.toNatClampNeg (some x))))) ad cA tys H1 locs1 lsA := nSt_set hN (tl (tl (tl hst))) hk' (by rw [e2]; exact hP1) hS1 (fun t ht => by
              rcases List.mem_or_eq_of_mem_set ht with z | z
              · exact hOK k _ hk t z
              · cases z; exact hxl) (hT k _ hk)
            exact ih _ ls r _ hlay h ad cA tys H1 locs1 lsA cells slots hn (by rw [List.length_set]; exact hcells) (by rw [nSlots_set hk (by simp [nSz])]; exact hslots)
          · cases h
        · cases h
      · cases h
    · obtain ⟨ix, y, b, nLy, rfl, rfl, g1, g2, g3, g4, g5, g6, g7, g8⟩ := haok
      have key : ∀ (bs r : List Value) (k : Nat) (M2 : nM), bs.length = v.toNat → r.length ≤ 8 → (∀ w ∈ .ref k :: bs, nOKv M.length w) → (∀ w ∈ r, nOKv M.length w) → call j (.ref k :: bs) M = some M2 → xi call t ls r M2 = some M1 → W p l e (RN d mc ms) s m args below meth c H locs cells slots (MQ below (nPost D ad0 M0 s.heap.size M1) args s mc ms (nA ad0 M0.length s.heap.size)) (F0 m pc' lsA ((bs.map (mV ad)).reverse ++ .ref (ad k) :: r.map (mV ad))) := by
        intro bs r k M2 hbs hr8 hargs hr' hc h'
        obtain ⟨hc1, hc2⟩ := hcm _ _ _ _ hc
        obtain ⟨hm1, hm2⟩ := hmono _ _ _ h'
        have hM := hcall j _ M M2 y b nLy hc g1 D tys ad cA H.size hargs
        have hG : GoodIn (w0 :: gT) (wY y b nLy none) := gT_goodIn (wY_in g5)
        have hsum : ((r.map (mV ad)).map fun v => v.category).sum ≤ 8 := by rw [sum_cat (nok_cat hr')]; exact hr8
        have hpre : ∀ U : State, U.heap = H → s.WarmedH U.vm → va_Pc ((Value.ref k :: bs).map (mV ad)) (nPre nq D tys ad cA M H.size) (Value.ref (ad k) :: bs.map (mV ad)).toArray U := fun U hU hW => ⟨rfl, by rw [hU], by rw [hU]; exact hP, va_K.moved hW.alike hK, hinj, hT, hOK, fun w hw => va_Nw.warmM hW (hxt.1 w hw), va_AO.moved hW.alike hxt.2⟩
        have run : va_Run p l e (RN d mc ms) s m args below meth c H locs cells slots (M2.length - M.length) (nSlots M2 - nSlots M) (F0 m pc' lsA ((bs.map (mV ad)).reverse ++ .ref (ad k) :: r.map (mV ad))) (r.map (mV ad)) (nPost D ad M H.size M2 (Value.ref (ad k) :: bs.map (mV ad)).toArray) (nA ad M.length H.size) := by
          rcases g8 with g8 | g8
          · exact va_runI (As := bs.map (mV ad)) (rest := r.map (mV ad)) (b := ad k) ⟨hx, hb, hml, hown, hts⟩ hM (cwI v.toNat hts hG rfl rfl rfl (hT0 _ g4) (hT0 _ g8) (hT0 _ g3) g2 g7 ⟨hd, by show 8 + (nLy + 11) + 40 * d' ≤ 40 * d; omega⟩) ⟨nPre_blind, hpre⟩ rfl (by rw [List.length_map]; exact hbs) hL.1 rfl (lv_room hsum) hdec ⟨by show cells + (M2.length - M.length) ≤ mc; omega, by show slots + (nSlots M2 - nSlots M) ≤ ms; omega⟩
          · exact va_runIN (host := "FourCars") (As := bs.map (mV ad)) (rest := r.map (mV ad)) (b := ad k) ⟨hx, hb, hml, hown, hts⟩ hM ⟨va_cnB v.toNat hts hG rfl rfl rfl (hxt.1 _ g8) (hT0 _ g4) g7 ⟨hd, by show 8 + (nLy + 11) + 40 * d' ≤ 40 * d; omega⟩, g2, hT0 _ g3⟩ ⟨nPre_blind, hpre⟩ rfl (by rw [List.length_map]; exact hbs) hL.1 rfl (lv_room hsum) hdec ⟨by show cells + (M2.length - M.length) ≤ mc; omega, by show slots + (nSlots M2 - nSlots M) ≤ ms; omega⟩
        have hAA : ∀ q, nA ad M.length H.size q → nA ad0 M0.length s.heap.size q := by
          intro q hq
          rcases hq with ⟨k', h1, rfl⟩ | h1
          · exact hAd k' h1
          · exact Or.inr (Nat.le_trans hS.1 h1)
        refine va_callv (a := (Value.ref (ad k) :: bs.map (mV ad)).toArray) run hS (fun q _ hq => hAA q hq) hAA (fun u tt H1 locs1 ht hvm hw hB hz1 hk1 hS1 => ?_)
        obtain ⟨w1, w2, w3, w4, w5⟩ := hw
        have hn : nSt D s nL ad0 M0.length ls r M2 u.1 u.2.1 u.2.2 H1 locs1 lsA := by
          refine ⟨by rw [← ht]; exact hB.1, va_K.moved hvm.symm hB.2, w2, fun k' hk' => ?_, w3, w4, fun v hv => nOKv_le (hls v hv) hc1, fun v hv => nOKv_le (hr' v hv) hc1, Nat.le_trans hn0 hc1, fun k' hk' => by rw [w1 k' (Nat.lt_of_lt_of_le hk' hn0)]; exact hag k' hk', hS1, mP_x hls w1 hL⟩
          rcases Nat.lt_or_ge k' M.length with z | z
          · rw [w1 k' z]; exact hAd k' z
          · exact Or.inr (Nat.le_trans hS.1 (w5 k' z hk'))
        have := ih _ ls r M2 hlay h' u.1 u.2.1 u.2.2 H1 locs1 lsA (cells + (M2.length - M.length)) (slots + (nSlots M2 - nSlots M)) hn (by omega) (by omega)
        rw [st_x hr' w1] at this
        exact this
      split at h
      · next k r =>
        split at h
        · next h8 =>
          obtain ⟨M2, h2, h3⟩ := Option.bind_eq_some_iff.mp h
          exact key [] r k M2 rfl h8 (fun w hw => hst w (by rcases List.mem_cons.mp hw with rfl | hw; exact List.mem_cons_self; cases hw)) (tl hst) h2 h3
        · cases h
      · next a k r =>
        split at h
        · next h8 =>
          obtain ⟨M2, h2, h3⟩ := Option.bind_eq_some_iff.mp h
          exact key [.ref a] r k M2 rfl h8 (fun w hw => hst w (by
            rcases List.mem_cons.mp hw with rfl | hw
            · exact List.mem_cons_of_mem _ List.mem_cons_self
            · rcases List.mem_singleton.mp hw with rfl
              exact List.mem_cons_self)) (tl (tl hst)) h2 h3
        · cases h
      · cases h
    · obtain ⟨ix, rfl, rfl, g1⟩ := haok
      split at h
      · next k r =>
        split at h
        · next h8 =>
          refine W.objInit hx hb hown (hT0 _ g1) (hT0 _ wc_obj.1) (hT0 _ wc_obj.2) rfl (by rw [hml]; exact hL.1) rfl hdec (by show 1 ≤ d; omega) ?_ ?_
          · show 2 * 0 + ((r.map (mV ad)).map fun v => v.category).sum + 12 ≤ 40 * d
            rw [sum_cat (nok_cat (tl hst))]
            omega
          · refine W.eq (g2 := F0 m (pc' + 3) lsA (r.map (mV ad))) rfl ?_
            exact ih _ ls r M hlay h ad cA tys H locs lsA cells slots (nSt_stack hN (tl hst)) hcells hslots
        · cases h
      · cases h
    · obtain ⟨rfl, rfl⟩ := haok
      split at h
      · cases h
        refine W.widen (k := mc) (n := ms) (by omega) (by omega) ?_
        refine W.vret hx hb hr (fun t ht hW => ⟨⟨(ad, cA, tys), rfl, ⟨hag, hinj, hT, hOK, fun k h1 h2 => ?_⟩, by show va_P D clsL (nW ad cA M1) t.heap; rw [ht]; exact hP, va_K.moved hW.alike hK⟩, hS.F ht⟩) hS.2.2 hdec
        rcases hAd k h2 with ⟨k', h3, h4⟩ | h3
        · rw [← hag k' h3] at h4
          have := hinj k k' h2 (by omega) h4
          omega
        · exact h3
      · cases h
    · cases h
end XOK

/-! CONSTRUCTORS: cells in the making, and a run of the constructors' code over them -/
abbrev nC : Type := (FieldType × Nat) ⊕ (String × List (Option Nat)) ⊕ (Nat × List Value)
abbrev nM : Type := List nC
def nE (ad : Nat → Nat) (cA : Nat → ClassId) (k : Nat) (e : nC) : va_E := match e with
  | .inl q => .inl (cA k, q.2, .inl (fun _ => 0))
  | .inr (.inl q) => .inl (cA k, q.2.length, .inr (.inr (.inr (.inr (fun j => ((q.2[j]?).join).map ad)))))
  | .inr (.inr q) => .inr (q.1, q.2.map (mV ad))
def nW (ad : Nat → Nat) (cA : Nat → ClassId) (M : nM) : va_W := M.mapIdx (fun k e => (ad k, nE ad cA k e))
def nSz (e : nC) : Nat := match e with
  | .inl q => q.2
  | .inr (.inl q) => q.2.length
  | .inr (.inr q) => q.2.length
def nSlots (M : nM) : Nat := (M.map nSz).sum
def nT (cA : Nat → ClassId) (tys : List (ClassId × FieldType)) (M : nM) : Prop := ∀ (k : Nat) (e : nC), M[k]? = some e → match e with
  | .inl q => (cA k, q.1) ∈ tys
  | .inr (.inl q) => (cA k, FieldType.object q.1) ∈ tys
  | .inr (.inr _) => True
def nOKv (n : Nat) (v : Value) : Prop := v.category = 1 ∧ ∀ t, v = .ref t → t < n
def nOKc (n : Nat) (e : nC) : Prop := match e with
  | .inl _ => True
  | .inr (.inl q) => ∀ t, some t ∈ q.2 → t < n
  | .inr (.inr q) => ∀ v ∈ q.2, nOKv n v
def nOK (M : nM) : Prop := ∀ (k : Nat) (e : nC), M[k]? = some e → nOKc M.length e
def adx {α : Type} (f : Nat → α) (n : Nat) (q : α) : Nat → α := fun k => if k = n then q else f k
theorem adx_at {α : Type} {f : Nat → α} {n : Nat} {q : α} : adx f n q n = q := by simp [adx]
theorem adx_lt {α : Type} {f : Nat → α} {n k : Nat} {q : α} (h : k < n) : adx f n q k = f k := by simp [adx, Nat.ne_of_lt h]
theorem nOKv_le {n m : Nat} {v : Value} (h : nOKv n v) (hm : n ≤ m) : nOKv m v := ⟨h.1, fun t e => Nat.lt_of_lt_of_le (h.2 t e) hm⟩
theorem nOKc_le {n m : Nat} {e : nC} (h : nOKc n e) (hm : n ≤ m) : nOKc m e := by
  rcases e with q | q | q
  · trivial
  · exact fun t ht => Nat.lt_of_lt_of_le (h t ht) hm
  · exact fun v hv => nOKv_le (h v hv) hm
theorem mV_x {ad ad' : Nat → Nat} {n : Nat} {v : Value} (h : nOKv n v) (hag : ∀ k, k < n → ad' k = ad k) : mV ad' v = mV ad v := by
  cases v with
  | ref t => exact congrArg Value.ref (hag t (h.2 t rfl))
  | _ => rfl
theorem nE_x {ad ad' : Nat → Nat} {cA cA' : Nat → ClassId} {n k : Nat} {e : nC} (hk : k < n) (h : nOKc n e) (hag : ∀ k, k < n → ad' k = ad k) (hc : ∀ k, k < n → cA' k = cA k) : nE ad' cA' k e = nE ad cA k e := by
  rcases e with q | q | q
  · simp [nE, hc k hk]
  · have hf : (fun (j : Nat) => ((q.2[j]?).join).map ad') = (fun (j : Nat) => ((q.2[j]?).join).map ad) := by
      funext j
      cases hj : q.2[j]? with
      | none => rfl
      | some o =>
        cases o with
        | none => rfl
        | some t => exact congrArg some (hag t (h t (List.mem_of_getElem? hj)))
    simp only [nE, hf, hc k hk]
  · have hf : q.2.map (mV ad') = q.2.map (mV ad) := List.map_congr_left (fun v hv => mV_x (h v hv) hag)
    simp only [nE, hf]
theorem nW_at {ad : Nat → Nat} {cA : Nat → ClassId} {M : nM} {k : Nat} {e : nC} (h : M[k]? = some e) : (nW ad cA M)[k]? = some (ad k, nE ad cA k e) := by
  simp [nW, List.getElem?_mapIdx, h]
theorem nW_len {ad : Nat → Nat} {cA : Nat → ClassId} {M : nM} : (nW ad cA M).length = M.length := by simp [nW]
theorem nW_push {ad : Nat → Nat} {cA : Nat → ClassId} {M : nM} {e : nC} {q : Nat} {a : ClassId} (hM : nOK M) : nW (adx ad M.length q) (adx cA M.length a) (M ++ [e]) = nW ad cA M ++ [(q, nE (adx ad M.length q) (adx cA M.length a) M.length e)] := by
  apply List.ext_getElem?
  intro i
  rcases Nat.lt_trichotomy i M.length with hi | hi | hi
  · rw [List.getElem?_append_left (by rw [nW_len]; exact hi)]
    obtain ⟨x, hx⟩ : ∃ x, M[i]? = some x := ⟨M[i], List.getElem?_eq_getElem hi⟩
    rw [nW_at (e := x) (by rw [List.getElem?_append_left hi]; exact hx), nW_at hx, adx_lt hi, nE_x hi (hM i x hx) (fun k h => adx_lt h) (fun k h => adx_lt h)]
  · subst hi
    rw [nW_at (e := e) (by simp), adx_at, List.getElem?_append_right (by rw [nW_len]; exact Nat.le_refl _), nW_len, Nat.sub_self]
    rfl
  · rw [List.getElem?_eq_none (by rw [nW_len]; simp; omega), List.getElem?_eq_none (by simp [nW_len]; omega)]
theorem nW_set {ad : Nat → Nat} {cA : Nat → ClassId} {M : nM} {k : Nat} {e : nC} (h : k < M.length) : (nW ad cA M).set k (ad k, nE ad cA k e) = nW ad cA (M.set k e) := by
  apply List.ext_getElem?
  intro i
  by_cases hi : i = k
  · subst hi
    rw [List.getElem?_set_self (by rw [nW_len]; exact h), nW_at (e := e) (List.getElem?_set_self h)]
  · rw [List.getElem?_set_ne (fun q => hi q.symm)]
    simp only [nW, List.getElem?_mapIdx, List.getElem?_set_ne (fun q => hi q.symm)]
def nA (ad : Nat → Nat) (n sz : Nat) : Nat → Prop := fun q => (∃ k, k < n ∧ q = ad k) ∨ sz ≤ q
theorem nW_D {A : Nat → Prop} {ad : Nat → Nat} {cA : Nat → ClassId} {M : nM} (hinj : ∀ i j, i < M.length → j < M.length → ad i = ad j → i = j) (hA : ∀ k, k < M.length → A (ad k)) : va_D A (nW ad cA M) := by
  have key : ∀ (k : Nat) (q : Nat × va_E), (nW ad cA M)[k]? = some q → k < M.length ∧ q.1 = ad k := by
    intro k q hq
    simp only [nW, List.getElem?_mapIdx] at hq
    cases he : M[k]? with
    | none => rw [he] at hq; cases hq
    | some e =>
      rw [he] at hq
      cases hq
      exact ⟨(List.getElem?_eq_some_iff.mp he).1, rfl⟩
  refine ⟨fun i j p q hp hq hpq => ?_, fun k q hq => ?_⟩
  · obtain ⟨h1, h2⟩ := key i p hp
    obtain ⟨h3, h4⟩ := key j q hq
    exact hinj i j h1 h3 (by rw [← h2, ← h4]; exact hpq)
  · obtain ⟨h1, h2⟩ := key k q hq
    rw [h2]
    exact hA k h1
theorem nW_fresh {A : Nat → Prop} {ad : Nat → Nat} {cA : Nat → ClassId} {M : nM} {q : Nat} {e : va_E} (h : va_D A (nW ad cA M ++ [(q, e)])) : A q ∧ ∀ k, k < M.length → ad k ≠ q := by
  have hq : (nW ad cA M ++ [(q, e)])[M.length]? = some (q, e) := by
    rw [List.getElem?_append_right (by rw [nW_len]; exact Nat.le_refl _), nW_len, Nat.sub_self]; rfl
  refine ⟨h.2 _ _ hq, fun k hk z => ?_⟩
  have hk' : (nW ad cA M ++ [(q, e)])[k]? = some (ad k, nE ad cA k M[k]) := by
    rw [List.getElem?_append_left (by rw [nW_len]; exact hk)]
    exact nW_at (List.getElem?_eq_getElem hk)
  have := h.1 k M.length _ _ hk' hq z
  omega
theorem nOK_push {M : nM} {e : nC} (hM : nOK M) (he : nOKc (M.length + 1) e) : nOK (M ++ [e]) := by
  intro k x hx
  have hl : (M ++ [e]).length = M.length + 1 := by simp
  rw [hl]
  rcases Nat.lt_or_ge k M.length with hk | hk
  · rw [List.getElem?_append_left hk] at hx
    exact nOKc_le (hM k x hx) (Nat.le_succ _)
  · rw [List.getElem?_append_right hk] at hx
    have h1 : x ∈ [e] := List.mem_of_getElem? hx
    rw [List.mem_singleton.mp h1]
    exact he
theorem nOK_set {M : nM} {k : Nat} {e : nC} (hM : nOK M) (he : nOKc M.length e) : nOK (M.set k e) := by
  intro i x hx
  rw [List.length_set]
  by_cases hi : i = k
  · subst hi
    have hl : i < (M.set i e).length := (List.getElem?_eq_some_iff.mp hx).1
    rw [List.length_set] at hl
    rw [List.getElem?_set_self hl] at hx
    cases hx
    exact he
  · rw [List.getElem?_set_ne (fun q => hi q.symm)] at hx
    exact hM i x hx
theorem nT_push {cA : Nat → ClassId} {tys : List (ClassId × FieldType)} {M : nM} {e : nC} {a : ClassId} {tys' : List (ClassId × FieldType)} (hT : nT cA tys M) (hs : ∀ x ∈ tys, x ∈ tys') (he : match e with | .inl q => (a, q.1) ∈ tys' | .inr (.inl q) => (a, FieldType.object q.1) ∈ tys' | .inr (.inr _) => True) : nT (adx cA M.length a) tys' (M ++ [e]) := by
  intro k x hx
  rcases Nat.lt_or_ge k M.length with hk | hk
  · rw [List.getElem?_append_left hk] at hx
    have h1 := hT k x hx
    rcases x with q | q | q
    · exact (adx_lt (f := cA) (q := a) hk) ▸ hs _ h1
    · exact (adx_lt (f := cA) (q := a) hk) ▸ hs _ h1
    · trivial
  · have hl : k < (M ++ [e]).length := (List.getElem?_eq_some_iff.mp hx).1
    simp only [List.length_append, List.length_cons, List.length_nil] at hl
    have : k = M.length := by omega
    subst this
    rw [List.getElem?_append_right (Nat.le_refl _), Nat.sub_self] at hx
    cases hx
    rcases e with q | q | q
    · show (adx cA M.length a M.length, q.1) ∈ tys'
      rw [adx_at]; exact he
    · show (adx cA M.length a M.length, FieldType.object q.1) ∈ tys'
      rw [adx_at]; exact he
    · trivial
theorem nT_set {cA : Nat → ClassId} {tys : List (ClassId × FieldType)} {M : nM} {k : Nat} {e : nC} (hT : nT cA tys M) (he : match e with | .inl q => (cA k, q.1) ∈ tys | .inr (.inl q) => (cA k, FieldType.object q.1) ∈ tys | .inr (.inr _) => True) : nT cA tys (M.set k e) := by
  intro i x hx
  by_cases hi : i = k
  · subst hi
    have hl : i < (M.set i e).length := (List.getElem?_eq_some_iff.mp hx).1
    rw [List.length_set] at hl
    rw [List.getElem?_set_self hl] at hx
    cases hx
    exact he
  · rw [List.getElem?_set_ne (fun q => hi q.symm)] at hx
    exact hT i x hx
theorem nSlots_push {M : nM} {e : nC} : nSlots (M ++ [e]) = nSlots M + nSz e := by simp [nSlots]

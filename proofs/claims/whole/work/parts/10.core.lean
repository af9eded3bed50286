/-! THE MINI-MACHINE: memory of fixed shape (cells by number, places of ints), configurations, and their rows over the kit -/
abbrev mMem : Type := Nat → Nat → Int32
/-- a cell's shape: a row of ints (bytes, booleans), a row of cells, an object (class number; each field an int or a cell) -/
abbrev mSh : Type := (FieldType × Nat) ⊕ (String × List Nat) ⊕ (Nat × List (Option Nat))
def mUp (C : mMem) (k j : Nat) (x : Int32) : mMem := fun a => if a = k then upd (C a) j x else C a
def mV (ad : Nat → Nat) (v : Value) : Value := match v with
  | .ref k => .ref (ad k)
  | w => w
def mF (ad : Nat → Nat) (C : mMem) (k j : Nat) (f : Option Nat) : Value := match f with
  | none => .int (C k j)
  | some t => .ref (ad t)
def mE (ad : Nat → Nat) (cA : Nat → ClassId) (C : mMem) (k : Nat) (e : mSh) : va_E := match e with
  | .inl q => .inl (cA k, q.2, .inl (C k))
  | .inr (.inl q) => .inl (cA k, q.2.length, .inr (.inr (.inr (.inr (fun j => (q.2[j]?).map ad)))))
  | .inr (.inr q) => .inr (q.1, q.2.mapIdx (fun j f => mF ad C k j f))
def mW (sh : List mSh) (ad : Nat → Nat) (cA : Nat → ClassId) (C : mMem) : va_W := sh.mapIdx (fun k e => (ad k, mE ad cA C k e))
theorem mW_at {sh : List mSh} {ad : Nat → Nat} {cA : Nat → ClassId} {C : mMem} {k : Nat} {e : mSh} (h : sh[k]? = some e) : (mW sh ad cA C)[k]? = some (ad k, mE ad cA C k e) := by
  simp [mW, List.getElem?_mapIdx, h]
theorem mE_off {ad : Nat → Nat} {cA : Nat → ClassId} {C C' : mMem} {k : Nat} (e : mSh) (h : C' k = C k) : mE ad cA C' k e = mE ad cA C k e := by
  rcases e with q | q | q
  · simp [mE, h]
  · rfl
  · have hf : (fun j f => mF ad C' k j f) = (fun j f => mF ad C k j f) := by
      funext j f
      cases f <;> simp [mF, h]
    simp only [mE, hf]
theorem mW_set {sh : List mSh} {ad : Nat → Nat} {cA : Nat → ClassId} {C C' : mMem} {k : Nat} {e : mSh} (h : sh[k]? = some e) (hC : ∀ a, a ≠ k → C' a = C a) : (mW sh ad cA C).set k (ad k, mE ad cA C' k e) = mW sh ad cA C' := by
  apply List.ext_getElem?
  intro i
  have hl : k < (mW sh ad cA C).length := (List.getElem?_eq_some_iff.mp (mW_at h)).1
  by_cases hi : i = k
  · subst hi
    rw [List.getElem?_set_self hl, mW_at h]
  · rw [List.getElem?_set_ne (fun q => hi q.symm)]
    simp only [mW, List.getElem?_mapIdx]
    cases sh[i]? with
    | none => rfl
    | some e' => simp only [Option.map_some]; rw [mE_off e' (hC i hi)]
theorem mUp_off {C : mMem} {k j : Nat} {x : Int32} : ∀ a, a ≠ k → mUp C k j x a = C a := fun a h => by simp [mUp, h]
theorem mUp_at {C : mMem} {k j : Nat} {x : Int32} : mUp C k j x k = upd (C k) j x := by simp [mUp]
theorem mF_map {ad : Nat → Nat} {C : mMem} {k j : Nat} {x : Int32} {fs : List (Option Nat)} (h : fs[j]? = some none) : (fs.mapIdx (fun j f => mF ad C k j f)).set j (.int x) = fs.mapIdx (fun i f => mF ad (mUp C k j x) k i f) := by
  apply List.ext_getElem?
  intro i
  by_cases hi : i = j
  · subst hi
    have hl : i < (fs.mapIdx (fun j f => mF ad C k j f)).length := by
      rw [List.length_mapIdx]; exact (List.getElem?_eq_some_iff.mp h).1
    rw [List.getElem?_set_self hl]
    simp [List.getElem?_mapIdx, h, mF, mUp, upd]
  · rw [List.getElem?_set_ne (fun q => hi q.symm)]
    simp only [List.getElem?_mapIdx]
    cases fs[i]? with
    | none => rfl
    | some f => cases f <;> simp [mF, mUp, upd, hi]
/-- the locals that are set, by their places -/
def mP (ad : Nat → Nat) (ls : List Value) : List (Nat × Value) := (ls.mapIdx (fun i v => (i, v))).filterMap (fun q => if q.2 = Value.null then none else some (q.1, mV ad q.2))
theorem mP_mem {ad : Nat → Nat} {ls : List Value} {q : Nat × Value} : q ∈ mP ad ls ↔ ∃ v, ls[q.1]? = some v ∧ v ≠ .null ∧ q.2 = mV ad v := by
  simp only [mP, List.mem_filterMap, List.mem_mapIdx]
  constructor
  · rintro ⟨a, ⟨i, hi, rfl⟩, h⟩
    by_cases hn : ls[i] = Value.null
    · simp [hn] at h
    · simp only [hn, if_false] at h
      cases h
      exact ⟨ls[i], List.getElem?_eq_getElem hi, hn, rfl⟩
  · rintro ⟨v, h1, h2, h3⟩
    obtain ⟨hi, hv⟩ := List.getElem?_eq_some_iff.mp h1
    refine ⟨(q.1, v), ⟨q.1, hi, by rw [hv]⟩, ?_⟩
    simp only [h2, if_false]
    rw [← h3]
theorem mV_cat (ad : Nat → Nat) (v : Value) : (mV ad v).category = v.category := by cases v <;> rfl
theorem mP_at {ad : Nat → Nat} {ls : List Value} {lsA : Array Slot} {nL i : Nat} {v : Value} (h : lv_has lsA nL (mP ad ls)) (hv : ls[i]? = some v) (hn : v ≠ .null) : lsA[i]? = some (.val (mV ad v)) :=
  h.2.2 (i, mV ad v) (mP_mem.mpr ⟨v, hv, hn, rfl⟩)
theorem mP_set {ad : Nat → Nat} {ls : List Value} {lsA : Array Slot} {nL i : Nat} {v : Value} (hc : ∀ w ∈ ls, w.category = 1) (h : lv_has lsA nL ((i, mV ad v) :: (mP ad ls).filter (fun q => !(q.1 == i) && !(q.1 + 1 == i && q.2.category == 2)))) : lv_has lsA nL (mP ad (ls.set i v)) := by
  refine ⟨h.1, h.2.1, fun q hq => h.2.2 q ?_⟩
  obtain ⟨w, h1, h2, h3⟩ := mP_mem.mp hq
  by_cases hi : q.1 = i
  · have hl : q.1 < (ls.set i v).length := (List.getElem?_eq_some_iff.mp h1).1
    rw [List.length_set] at hl
    rw [← hi, List.getElem?_set_self hl] at h1
    cases h1
    refine List.mem_cons.mpr (Or.inl ?_)
    exact Prod.ext hi h3
  · rw [List.getElem?_set_ne (fun z => hi z.symm)] at h1
    refine List.mem_cons.mpr (Or.inr (List.mem_filter.mpr ⟨mP_mem.mpr ⟨w, h1, h2, h3⟩, ?_⟩))
    have hw := hc w (List.mem_of_getElem? h1)
    have : q.2.category = 1 := by rw [h3, mV_cat]; exact hw
    simp [hi, this]
theorem mem_set_cat {ls : List Value} {i : Nat} {v : Value} (h : ∀ w ∈ ls, w.category = 1) (hv : v.category = 1) : ∀ w ∈ ls.set i v, w.category = 1 := by
  intro w hw
  rcases List.mem_or_eq_of_mem_set hw with z | z
  · exact h w z
  · rw [z]; exact hv
def cz (cd : ClassFile.Cond) (x y : Int32) : Bool := match cd with
  | .eq => decide (x = y)
  | .ne => !decide (x = y)
  | .lt => decide (x < y)
  | .ge => decide (y ≤ x)
  | .gt => decide (y < x)
  | .le => decide (x ≤ y)
abbrev mSem : Type := List Value → mMem → Option (Option Int32 × mMem)
/-- the array's type that a cell of ints has -/
def mT (sh : List mSh) (cA : Nat → ClassId) (tys : List (ClassId × FieldType)) : Prop := ∀ (k : Nat) (e : mSh), sh[k]? = some e → match e with
  | .inl q => (cA k, q.1) ∈ tys
  | .inr (.inl q) => (cA k, FieldType.object q.1) ∈ tys
  | .inr (.inr _) => True

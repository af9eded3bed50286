/-! A RUN of a constructor: kinds of step 0 load, 1 number, 2 new object, 3 dup, 4 new row, 5 new row of cells, 6 field is set, 7 field is read, 8 place of a row of cells is set, 9 constructor, 10 Object's, 11 end -/
abbrev nI3 : Type := Nat × Instr × Nat × Nat × Int × Nat
/-- the classes' field types and how many -/
def clsT : List ((Nat → FieldType) × Nat) := [(tyF_Ca, 8), (tyF_Ga, 6), (tyF_Pa, 8), (tyF_Pe, 11), (tyF_Ru, 8), (tyF_Sc, 9), (tyF_Tk, 9), (tyF_Tw, 9), (tyF_Wo, 5), (tyF_F, 13), (tyF_M, 39)]
/-- a value that may stand in field j of class ci -/
def nPut (ci j : Nat) (v : Value) : Bool := match clsT[ci]? with
  | some q => if j < q.2 then (match q.1 j, v with
    | .int, .int _ => true
    | .boolean, .int x => x == 0 || x == 1
    | .object _, .ref _ => true
    | .array _, .ref _ => true
    | _, _ => false) else false
  | none => false
/-- the class that an instruction may meet: a number; -1: either heir of the abstract one -/
def nCk (v : Int) (ci : Nat) : Bool := v == (ci : Int) || (v == -1 && (ci == 1 || ci == 2))
def nTy (j : Nat) : FieldType := match j with
  | 0 => .int
  | 1 => .byte
  | _ => .boolean
def nDf (j : Nat) : List Value := match clsT[j]? with
  | some q => (List.range q.2).map (fun i => defaultValue (q.1 i))
  | none => []
/-- one step; 'go' is what comes behind it -/
def xk (call : Nat → List Value → nM → Option nM) (go : List Value → List Value → nM → Option nM) (kd : Nat) (v : Int) (j : Nat) (ls st : List Value) (M : nM) : Option nM := match kd with
  | 0 => match ls[j]? with
    | some (.ref x) => go ls (.ref x :: st) M
    | _ => none
  | 1 => go ls (.int (Int32.ofInt v) :: st) M
  | 2 => go ls (.ref M.length :: st) (M ++ [.inr (.inr (j, nDf j))])
  | 3 => match st with
    | x :: r => go ls (x :: x :: r) M
    | _ => none
  | 4 => match st with
    | .int n :: r => if 0 ≤ n ∧ n.toNatClampNeg ≤ 5000 then go ls (.ref M.length :: r) (M ++ [.inl (nTy j, n.toNatClampNeg)]) else none
    | _ => none
  | 5 => match st with
    | .int n :: r => if 0 ≤ n ∧ n.toNatClampNeg ≤ 5000 then go ls (.ref M.length :: r) (M ++ [.inr (.inl ("FourCars$Rule", List.replicate n.toNatClampNeg none))]) else none
    | _ => none
  | 6 => match st with
    | x :: .ref k :: r => match M[k]? with
      | some (.inr (.inr (ci, fs))) => if nCk v ci = true ∧ nPut ci j x = true ∧ j < fs.length then go ls r (M.set k (.inr (.inr (ci, fs.set j x)))) else none
      | _ => none
    | _ => none
  | 7 => match st with
    | .ref k :: r => match M[k]? with
      | some (.inr (.inr (ci, fs))) => if nCk v ci = true then (match fs[j]? with
        | some (.ref x) => go ls (.ref x :: r) M
        | _ => none) else none
      | _ => none
    | _ => none
  | 8 => match st with
    | .ref x :: .int i :: .ref k :: r => match M[k]?, M[x]? with
      | some (.inr (.inl (Cn, ts))), some (.inr (.inr (ci, _))) => if Cn = "FourCars$Rule" ∧ ci = 4 ∧ mIn i ts.length = true then go ls r (M.set k (.inr (.inl (Cn, ts.set i.toNatClampNeg (some x))))) else none
      | _, _ => none
    | _ => none
  | 9 => match v, st with
    | 0, .ref k :: r => if r.length ≤ 8 then (call j [.ref k] M).bind fun M1 => go ls r M1 else none
    | 1, .ref a :: .ref k :: r => if r.length ≤ 8 then (call j [.ref k, .ref a] M).bind fun M1 => go ls r M1 else none
    | _, _ => none
  | 10 => match st with
    | .ref _ :: r => if r.length ≤ 8 then go ls r M else none
    | _ => none
  | 11 => match st with
    | [] => some M
    | _ => none
  | _ => none
def xi (call : Nat → List Value → nM → Option nM) : List nI3 → List Value → List Value → nM → Option nM
  | [] => fun _ _ _ => none
  | q :: t => fun ls st M => xk call (xi call t) q.2.2.2.1 q.2.2.2.2.1 q.2.2.2.2.2 ls st M
theorem xi_mono {call : Nat → List Value → nM → Option nM} (hc : ∀ j as M M1, call j as M = some M1 → M.length ≤ M1.length ∧ nSlots M ≤ nSlots M1) : ∀ (t : List nI3) (ls st : List Value) (M M1 : nM), xi call t ls st M = some M1 → M.length ≤ M1.length ∧ nSlots M ≤ nSlots M1 := by
  intro t
  induction t with
  | nil => intro ls st M M1 h; cases h
  | cons q t ih =>
    intro ls st M M1 h
    have push : ∀ (e : nC) (st' : List Value), xi call t ls st' (M ++ [e]) = some M1 → M.length ≤ M1.length ∧ nSlots M ≤ nSlots M1 := by
      intro e st' h'
      have h1 := ih _ _ _ _ h'
      rw [nSlots_push] at h1
      simp only [List.length_append, List.length_cons, List.length_nil] at h1
      omega
    have sett : ∀ (k : Nat) (e e0 : nC) (st' : List Value), M[k]? = some e0 → nSz e = nSz e0 → xi call t ls st' (M.set k e) = some M1 → M.length ≤ M1.length ∧ nSlots M ≤ nSlots M1 := by
      intro k e e0 st' h0 hz h'
      have h1 := ih _ _ _ _ h'
      rw [List.length_set] at h1
      have h2 : nSlots (M.set k e) = nSlots M := by
        have hk : k < M.length := (List.getElem?_eq_some_iff.mp h0).1
        have : (M.set k e).map nSz = M.map nSz := by
          apply List.ext_getElem?
          intro i
          rw [List.getElem?_map, List.getElem?_map]
          by_cases hi : i = k
          · subst hi
            rw [List.getElem?_set_self hk, h0]
            simp [hz]
          · rw [List.getElem?_set_ne (fun z => hi z.symm)]
        simp only [nSlots, this]
      rw [h2] at h1
      exact h1
    obtain ⟨pc, ins, len, kd, v, j⟩ := q
    rw [xi] at h
    dsimp only at h
    unfold xk at h
    split at h
    · split at h
      · exact ih _ _ _ _ h
      · cases h
    · exact ih _ _ _ _ h
    · exact push _ _ h
    · split at h
      · exact ih _ _ _ _ h
      · cases h
    · split at h
      · split at h
        · exact push _ _ h
        · cases h
      · cases h
    · split at h
      · split at h
        · exact push _ _ h
        · cases h
      · cases h
    · split at h
      · split at h
        · next hm =>
          split at h
          · exact sett _ _ _ _ hm (by simp [nSz]) h
          · cases h
        · cases h
      · cases h
    · split at h
      · split at h
        · split at h
          · split at h
            · exact ih _ _ _ _ h
            · cases h
          · cases h
        · cases h
      · cases h
    · split at h
      · split at h
        · next hm _ =>
          split at h
          · exact sett _ _ _ _ hm (by simp [nSz]) h
          · cases h
        · cases h
      · cases h
    · split at h
      · split at h
        · obtain ⟨M2, h2, h⟩ := Option.bind_eq_some_iff.mp h
          have h1 := hc _ _ _ _ h2
          have h3 := ih _ _ _ _ h
          omega
        · cases h
      · split at h
        · obtain ⟨M2, h2, h⟩ := Option.bind_eq_some_iff.mp h
          have h1 := hc _ _ _ _ h2
          have h3 := ih _ _ _ _ h
          omega
        · cases h
      · cases h
    · split at h
      · split at h
        · exact ih _ _ _ _ h
        · cases h
      · cases h
    · split at h
      · cases h; exact ⟨Nat.le_refl _, Nat.le_refl _⟩
      · cases h
    · cases h

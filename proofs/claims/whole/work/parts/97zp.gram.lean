/-! texts: what a rule's text comes to, by its tokens: steps laid down, or a fault -/
abbrev Rz : Type := Sum (Nat × List (Int × Int)) (Nat × Int)
def pre (o : List (Int × Int)) : Rz → Rz
  | .inl (j, p) => .inl (j, o ++ p)
  | .inr x => .inr x
theorem pre_nil (r : Rz) : pre [] r = r := by rcases r with ⟨j, p⟩ | x <;> rfl
theorem pre_pre (o p : List (Int × Int)) (r : Rz) : pre o (pre p r) = pre (o ++ p) r := by
  rcases r with ⟨j, q⟩ | x
  · simp only [pre, List.append_assoc]
  · rfl
/-- what comes first, then the rest -/
def sq (r : Rz) (t : Nat → Rz) : Rz := match r with
  | .inl (j, o) => pre o (t j)
  | .inr x => .inr x
def tl (cond : Nat → Bool) (step : Nat → Rz) (op : Nat → List (Int × Int)) : Nat → Nat → Rz
  | 0, j => .inl (j, [])
  | f + 1, j => if cond j = true then sq (step j) (fun q => pre (op j) (tl cond step op f q)) else .inl (j, [])
/-- a reader goes on -/
def Prog (s : Nat → Rz) : Prop := ∀ j q o, s j = .inl (q, o) → j < q ∧ j + o.length ≤ q
section
variable {cond : Nat → Bool} {step : Nat → Rz} {op : Nat → List (Int × Int)} {n : Nat}
theorem tl_eq (hc : ∀ j, n ≤ j → cond j = false) (hs : ∀ j q o, cond j = true → step j = .inl (q, o) → j < q) (f : Nat) : ∀ g j, n ≤ j + f → n ≤ j + g → tl cond step op f j = tl cond step op g j := by
  induction f with
  | zero =>
    intro g j h1 h2
    have := hc j (by omega)
    cases g with
    | zero => rfl
    | succ g => rw [tl, tl, this, if_neg (by simp)]
  | succ f ih =>
    intro g j h1 h2
    cases g with
    | zero =>
      have := hc j (by omega)
      rw [tl, tl, this, if_neg (by simp)]
    | succ g =>
      rw [tl, tl]
      by_cases z : cond j = true
      · rw [if_pos z, if_pos z]
        rcases e : step j with ⟨q, o⟩ | x
        · have := hs j q o z e
          have := ih g q (by omega) (by omega)
          simp only [sq, this]
        · rfl
      · rw [if_neg z, if_neg z]
def TL (cond : Nat → Bool) (step : Nat → Rz) (op : Nat → List (Int × Int)) (j : Nat) : Rz := tl cond step op 401 j
theorem TL_eq (hc : ∀ j, n ≤ j → cond j = false) (hs : ∀ j q o, cond j = true → step j = .inl (q, o) → j < q) (hn : n ≤ 400) (j : Nat) : TL cond step op j = if cond j = true then sq (step j) (fun q => pre (op j) (TL cond step op q)) else .inl (j, []) := by
  unfold TL
  rw [tl]
  have : ∀ q, tl cond step op 400 q = tl cond step op 401 q := fun q => tl_eq hc hs 400 401 q (by omega) (by omega)
  simp only [this]
theorem tl_ok (h : ∀ j q o, cond j = true → step j = .inl (q, o) → j + o.length + (op j).length ≤ q) (f : Nat) : ∀ j q o, tl cond step op f j = .inl (q, o) → j + o.length ≤ q := by
  induction f with
  | zero => intro j q o e; rw [tl] at e; simp only [Sum.inl.injEq, Prod.mk.injEq] at e; obtain ⟨rfl, rfl⟩ := e; exact Nat.le_refl _
  | succ f ih =>
    intro j q o e
    rw [tl] at e
    by_cases z : cond j = true
    · rw [if_pos z] at e
      rcases es : step j with ⟨q1, o1⟩ | x
      · rw [es] at e
        have h1 := h j q1 o1 z es
        simp only [sq] at e
        rcases et : tl cond step op f q1 with ⟨q2, o2⟩ | x
        · rw [et] at e
          simp only [pre, Sum.inl.injEq, Prod.mk.injEq] at e
          obtain ⟨rfl, rfl⟩ := e
          have := ih q1 q2 o2 et
          simp only [List.length_append]
          omega
        · rw [et] at e; simp [pre] at e
      · rw [es] at e; simp [sq] at e
    · rw [if_neg z] at e; simp only [Sum.inl.injEq, Prod.mk.injEq] at e; obtain ⟨rfl, rfl⟩ := e; exact Nat.le_refl _
end
section
variable (K V : Nat → Int)
def unF (j : Nat) : Rz := if K j = 1 then .inl (j + 1, [(0, V j)]) else if 262 ≤ K j ∧ K j ≤ 271 then .inl (j + 1, [(K j - 261, 0)]) else .inr (j, 1)
theorem unF_c (j : Nat) : (K j = 1 ∧ unF K V j = .inl (j + 1, [(0, V j)])) ∨ (262 ≤ K j ∧ K j ≤ 271 ∧ unF K V j = .inl (j + 1, [(K j - 261, 0)])) ∨ (¬ K j = 1 ∧ ¬ (262 ≤ K j ∧ K j ≤ 271) ∧ unF K V j = .inr (j, 1)) := by
  unfold unF
  by_cases a : K j = 1
  · exact Or.inl ⟨a, by rw [if_pos a]⟩
  · by_cases c : 262 ≤ K j ∧ K j ≤ 271
    · exact Or.inr (Or.inl ⟨c.1, c.2, by rw [if_neg a, if_pos c]⟩)
    · exact Or.inr (Or.inr ⟨a, c, by rw [if_neg a, if_neg c]⟩)
def ptF (j : Nat) : Rz := if K j ≠ 1 then .inr (j, 1) else if V j = 0 then .inr (j, 2) else .inl (j + 1, [(16, V j)])
def prC (j : Nat) : Bool := decide (K j = 42 ∨ K j = 47)
def prS (j : Nat) : Rz := if K j = 42 then unF K V (j + 1) else ptF K V (j + 1)
def prO (j : Nat) : List (Int × Int) := if K j = 42 then [(15, 0)] else []
def prT : Nat → Rz := TL (prC K) (prS K V) (prO K)
def prF (j : Nat) : Rz := sq (unF K V j) (prT K V)
def suC (j : Nat) : Bool := decide (K j = 43 ∨ K j = 45)
def suT : Nat → Rz := TL (suC K) (fun j => prF K V (j + 1)) (fun j => [(if K j = 43 then 13 else 14, 0)])
def suF (j : Nat) : Rz := sq (prF K V j) (suT K V)
def cmT (q : Nat) : Rz := if K q = 60 ∨ K q = 61 ∨ K q = 62 then sq (suF K V (q + 1)) (fun s => .inl (s, [(if K q = 60 then 17 else if K q = 61 then 18 else 19, 0)])) else .inr (q, 1)
def cmF (j : Nat) : Rz := sq (suF K V j) (cmT K V)
def evT (T : Nat → Rz) : Nat → Rz := TL (fun j => decide (K j = 260)) (fun j => T (j + 1)) (fun _ => [(21, 0)])
def evF (T : Nat → Rz) (j : Nat) : Rz := sq (T j) (evT K T)
def anT (T : Nat → Rz) : Nat → Rz := TL (fun j => decide (K j = 259)) (fun j => evF K T (j + 1)) (fun _ => [(22, 0)])
def anF (T : Nat → Rz) (j : Nat) : Rz := sq (evF K T j) (anT K T)
/-- a test, r more may be begun inside -/
def tsF : Nat → Nat → Rz
  | 0, j => if K j = 261 ∨ K j = 40 then .inr (j, 3) else cmF K V j
  | r + 1, j => if K j = 261 then sq (tsF r (j + 1)) (fun q => .inl (q, [(20, 0)])) else if K j = 40 then sq (anF K (tsF r) (j + 1)) (fun q => if K q = 41 then .inl (q + 1, []) else .inr (q, 1)) else cmF K V j
end
section
variable {K V : Nat → Int} {n : Nat}
theorem sq_ok {r : Rz} {t : Nat → Rz} {q : Nat} {o : List (Int × Int)} (h : sq r t = .inl (q, o)) : ∃ j p s, r = .inl (j, p) ∧ t j = .inl (q, s) ∧ o = p ++ s := by
  rcases r with ⟨j, p⟩ | x
  · simp only [sq] at h
    rcases e : t j with ⟨q2, s⟩ | x
    · rw [e] at h
      simp only [pre, Sum.inl.injEq, Prod.mk.injEq] at h
      obtain ⟨rfl, rfl⟩ := h
      exact ⟨j, p, s, rfl, e, rfl⟩
    · rw [e] at h; simp [pre] at h
  · simp [sq] at h
theorem un_pr : Prog (unF K V) := by
  intro j q o h
  rcases unF_c K V j with ⟨a, e⟩ | ⟨a, c, e⟩ | ⟨a, c, e⟩ <;> rw [e] at h
  · simp only [Sum.inl.injEq, Prod.mk.injEq] at h; obtain ⟨rfl, rfl⟩ := h; exact ⟨by omega, Nat.le_refl _⟩
  · simp only [Sum.inl.injEq, Prod.mk.injEq] at h; obtain ⟨rfl, rfl⟩ := h; exact ⟨by omega, Nat.le_refl _⟩
  · simp at h
theorem pt_pr : Prog (ptF K V) := by
  intro j q o h
  unfold ptF at h
  split at h
  · simp at h
  · split at h
    · simp at h
    · simp only [Sum.inl.injEq, Prod.mk.injEq] at h; obtain ⟨rfl, rfl⟩ := h; exact ⟨by omega, Nat.le_refl _⟩
theorem prS_ok {j q : Nat} {o : List (Int × Int)} (h : prS K V j = .inl (q, o)) : j < q ∧ j + o.length + (prO K j).length ≤ q := by
  unfold prS at h
  unfold prO
  by_cases z : K j = 42
  · rw [if_pos z] at h ⊢
    have := un_pr _ _ _ h
    simp only [List.length_singleton]
    omega
  · rw [if_neg z] at h ⊢
    have := pt_pr _ _ _ h
    simp only [List.length_nil]
    omega
theorem pr_pr : Prog (prF K V) := by
  intro j q o h
  obtain ⟨x, p, s, h1, h2, rfl⟩ := sq_ok h
  have a := un_pr _ _ _ h1
  have c := tl_ok (cond := prC K) (step := prS K V) (op := prO K) (fun j q o _ e => (prS_ok e).2) 401 x q s h2
  rw [List.length_append]
  omega
theorem prT_eq (hK : ∀ j, n ≤ j → K j = 0) (hn : n ≤ 400) (j : Nat) : prT K V j = if K j = 42 ∨ K j = 47 then sq (prS K V j) (fun q => pre (prO K j) (prT K V q)) else .inl (j, []) := by
  have := TL_eq (n := n) (cond := prC K) (step := prS K V) (op := prO K) (fun j hj => by unfold prC; rw [hK j hj]; decide) (fun j q o _ e => (prS_ok e).1) hn j
  unfold prT
  rw [this]
  unfold prC
  by_cases z : K j = 42 ∨ K j = 47
  · rw [if_pos (decide_eq_true z), if_pos z]
  · rw [if_neg (by simp [z]), if_neg z]
theorem suT_eq (hK : ∀ j, n ≤ j → K j = 0) (hn : n ≤ 400) (j : Nat) : suT K V j = if K j = 43 ∨ K j = 45 then sq (prF K V (j + 1)) (fun q => pre [(if K j = 43 then 13 else 14, 0)] (suT K V q)) else .inl (j, []) := by
  have := TL_eq (n := n) (cond := suC K) (step := fun j => prF K V (j + 1)) (op := fun j => [(if K j = 43 then 13 else 14, 0)]) (fun j hj => by unfold suC; rw [hK j hj]; decide) (fun j q o _ e => by have := pr_pr _ _ _ e; omega) hn j
  unfold suT
  rw [this]
  unfold suC
  by_cases z : K j = 43 ∨ K j = 45
  · rw [if_pos (decide_eq_true z), if_pos z]
  · rw [if_neg (by simp [z]), if_neg z]
theorem su_pr : Prog (suF K V) := by
  intro j q o h
  obtain ⟨x, p, s, h1, h2, rfl⟩ := sq_ok h
  have a := pr_pr _ _ _ h1
  have c := tl_ok (cond := suC K) (step := fun j => prF K V (j + 1)) (op := fun j => [(if K j = 43 then 13 else 14, 0)]) (fun j q o _ e => by have := pr_pr _ _ _ e; simp only [List.length_singleton]; omega) 401 x q s h2
  rw [List.length_append]
  omega
theorem cm_pr : Prog (cmF K V) := by
  intro j q o h
  obtain ⟨x, p, s, h1, h2, rfl⟩ := sq_ok h
  have a := su_pr _ _ _ h1
  unfold cmT at h2
  split at h2
  · obtain ⟨y, p', s', h3, h4, rfl⟩ := sq_ok h2
    have c := su_pr _ _ _ h3
    simp only [Sum.inl.injEq, Prod.mk.injEq] at h4
    obtain ⟨rfl, rfl⟩ := h4
    simp only [List.length_append, List.length_singleton]
    omega
  · simp at h2
theorem ev_pr {T : Nat → Rz} (hT : Prog T) : Prog (evF K T) := by
  intro j q o h
  obtain ⟨x, p, s, h1, h2, rfl⟩ := sq_ok h
  have a := hT _ _ _ h1
  have c := tl_ok (cond := fun j => decide (K j = 260)) (step := fun j => T (j + 1)) (op := fun _ => [(21, 0)]) (fun j q o _ e => by have := hT _ _ _ e; simp only [List.length_singleton]; omega) 401 x q s h2
  rw [List.length_append]
  omega
theorem an_pr {T : Nat → Rz} (hT : Prog T) : Prog (anF K T) := by
  intro j q o h
  obtain ⟨x, p, s, h1, h2, rfl⟩ := sq_ok h
  have a := ev_pr hT _ _ _ h1
  have c := tl_ok (cond := fun j => decide (K j = 259)) (step := fun j => evF K T (j + 1)) (op := fun _ => [(22, 0)]) (fun j q o _ e => by have := ev_pr hT _ _ _ e; simp only [List.length_singleton]; omega) 401 x q s h2
  rw [List.length_append]
  omega
theorem ts_pr (r : Nat) : Prog (tsF K V r) := by
  induction r with
  | zero =>
    intro j q o h
    rw [tsF] at h
    split at h
    · simp at h
    · exact cm_pr _ _ _ h
  | succ r ih =>
    intro j q o h
    rw [tsF] at h
    split at h
    · obtain ⟨x, p, s, h1, h2, rfl⟩ := sq_ok h
      have a := ih _ _ _ h1
      simp only [Sum.inl.injEq, Prod.mk.injEq] at h2
      obtain ⟨rfl, rfl⟩ := h2
      simp only [List.length_append, List.length_singleton]
      omega
    · split at h
      · obtain ⟨x, p, s, h1, h2, rfl⟩ := sq_ok h
        have a := an_pr ih _ _ _ h1
        split at h2
        · simp only [Sum.inl.injEq, Prod.mk.injEq] at h2
          obtain ⟨rfl, rfl⟩ := h2
          simp only [List.append_nil]
          omega
        · simp at h2
      · exact cm_pr _ _ _ h
theorem evT_eq {T : Nat → Rz} (hT : Prog T) (hK : ∀ j, n ≤ j → K j = 0) (hn : n ≤ 400) (j : Nat) : evT K T j = if K j = 260 then sq (T (j + 1)) (fun q => pre [(21, 0)] (evT K T q)) else .inl (j, []) := by
  have := TL_eq (n := n) (cond := fun j => decide (K j = 260)) (step := fun j => T (j + 1)) (op := fun _ => [(21, 0)]) (fun j hj => by rw [hK j hj]; decide) (fun j q o _ e => by have := hT _ _ _ e; omega) hn j
  unfold evT
  rw [this]
  by_cases z : K j = 260
  · rw [if_pos (decide_eq_true z), if_pos z]
  · rw [if_neg (by simp [z]), if_neg z]
theorem anT_eq {T : Nat → Rz} (hT : Prog T) (hK : ∀ j, n ≤ j → K j = 0) (hn : n ≤ 400) (j : Nat) : anT K T j = if K j = 259 then sq (evF K T (j + 1)) (fun q => pre [(22, 0)] (anT K T q)) else .inl (j, []) := by
  have := TL_eq (n := n) (cond := fun j => decide (K j = 259)) (step := fun j => evF K T (j + 1)) (op := fun _ => [(22, 0)]) (fun j hj => by rw [hK j hj]; decide) (fun j q o _ e => by have := ev_pr hT _ _ _ e; omega) hn j
  unfold anT
  rw [this]
  by_cases z : K j = 259
  · rw [if_pos (decide_eq_true z), if_pos z]
  · rw [if_neg (by simp [z]), if_neg z]
end

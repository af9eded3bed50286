/-! texts: the steps that a text comes to are sound -/
noncomputable section
def tp (t : Nat) (x : Int × Int) : Nat := if x.1 < 13 then t + 1 else if x.1 = 16 ∨ x.1 = 20 then t else t - 1
def vp (fx : Int → Int) (t : Nat) (f : Nat → Int32) (x : Int × Int) : Nat → Int32 :=
  if x.1 < 13 then fU f t (if x.1 = 0 then iz x.2 else iz (fx x.1))
  else if x.1 = 16 then fU f (t - 1) (f (t - 1) / iz x.2)
  else if x.1 = 20 then fU f (t - 1) (iz 1 - f (t - 1))
  else fU f (t - 2) (rB x.1 (f (t - 2)) (f (t - 1)))
def xOk (t : Nat) (x : Int × Int) : Prop := t ≤ 22 ∧ (x.1 = 0 ∨ x.1 = 16 → 0 ≤ x.2 ∧ x.2 ≤ 9999) ∧ ((0 ≤ x.1 ∧ x.1 ≤ 10) ∨ (x.1 = 16 ∧ 1 ≤ t ∧ 1 ≤ x.2) ∨ (x.1 = 20 ∧ 1 ≤ t) ∨ (2 ≤ t ∧ (x.1 = 13 ∨ x.1 = 14 ∨ x.1 = 15 ∨ x.1 = 17 ∨ x.1 = 18 ∨ x.1 = 19 ∨ x.1 = 21 ∨ x.1 = 22)))
def okL : Nat → List (Int × Int) → Prop
  | _, [] => True
  | t, x :: o => xOk t x ∧ okL (tp t x) o
def eh : Nat → List (Int × Int) → Nat
  | t, [] => t
  | t, x :: o => eh (tp t x) o
def rnL (fx : Int → Int) : (Nat → Int32) → Nat → List (Int × Int) → (Nat → Int32)
  | f, _, [] => f
  | f, t, x :: o => rnL fx (vp fx t f x) (tp t x) o
theorem eh_app (o p : List (Int × Int)) : ∀ t, eh t (o ++ p) = eh (eh t o) p := by
  induction o with
  | nil => intro t; rfl
  | cons x o ih => intro t; exact ih (tp t x)
theorem okL_app (o p : List (Int × Int)) : ∀ t, okL t (o ++ p) ↔ okL t o ∧ okL (eh t o) p := by
  induction o with
  | nil => intro t; exact ⟨fun h => ⟨trivial, h⟩, fun h => h.2⟩
  | cons x o ih =>
    intro t
    have := ih (tp t x)
    show xOk t x ∧ okL (tp t x) (o ++ p) ↔ (xOk t x ∧ okL (tp t x) o) ∧ okL (eh (tp t x) o) p
    rw [this, and_assoc]
theorem rnL_app (fx : Int → Int) (o p : List (Int × Int)) : ∀ f t, rnL fx f t (o ++ p) = rnL fx (rnL fx f t o) (eh t o) p := by
  induction o with
  | nil => intro f t; rfl
  | cons x o ih => intro f t; exact ih (vp fx t f x) (tp t x)
theorem okL_get (o : List (Int × Int)) : ∀ t n x, okL t o → o[n]? = some x → xOk (eh t (o.take n)) x := by
  induction o with
  | nil => intro t n x _ h; simp at h
  | cons y o ih =>
    intro t n x h hx
    cases n with
    | zero =>
      simp only [List.getElem?_cons_zero, Option.some.injEq] at hx
      subst hx
      exact h.1
    | succ n =>
      have := ih (tp t y) n x h.2 (by simpa using hx)
      simpa [eh] using this
def Gd (c : Bool) (h : Nat) (o : List (Int × Int)) : Prop := ∀ t, t + h ≤ 22 → okL t o ∧ eh t o = t + 1 ∧ ∀ fx f, (∀ i, i < t → rnL fx f t o i = f i) ∧ (c = true → rnL fx f t o t = iz 0 ∨ rnL fx f t o t = iz 1)
theorem gd_mono {c : Bool} {h k : Nat} {o : List (Int × Int)} (g : Gd c h o) (hk : h ≤ k) : Gd c k o := fun t ht => g t (by omega)
theorem gd_one {x : Int × Int} (h : 0 ≤ x.1 ∧ x.1 ≤ 10) (hv : x.1 = 0 → 0 ≤ x.2 ∧ x.2 ≤ 9999) : Gd false 0 [x] := by
  intro t ht
  have t1 : tp t x = t + 1 := by unfold tp; rw [if_pos (by omega)]
  refine ⟨⟨⟨by omega, fun z => hv (by omega), Or.inl h⟩, trivial⟩, t1, fun fx f => ⟨fun i hi => ?_, fun z => by simp at z⟩⟩
  show vp fx t f x i = f i
  unfold vp fU
  rw [if_pos (by omega), if_neg (by omega)]
theorem gd_part {h : Nat} {o : List (Int × Int)} {v : Int} (g : Gd false h o) (h1 : 1 ≤ h) (hv : 1 ≤ v ∧ v ≤ 9999) : Gd false h (o ++ [(16, v)]) := by
  intro t ht
  obtain ⟨g1, g2, g3⟩ := g t ht
  have t1 : tp (t + 1) (16, v) = t + 1 := by unfold tp; rw [if_neg (by show ¬ (16 : Int) < 13; decide), if_pos (Or.inl rfl)]
  refine ⟨?_, ?_, fun fx f => ⟨fun i hi => ?_, fun z => by simp at z⟩⟩
  · rw [okL_app, g2]
    exact ⟨g1, ⟨by omega, fun _ => by show 0 ≤ v ∧ v ≤ 9999; omega, Or.inr (Or.inl ⟨rfl, by omega, hv.1⟩)⟩, trivial⟩
  · rw [eh_app, g2]; exact t1
  · rw [rnL_app, g2]
    show vp fx (t + 1) (rnL fx f t o) (16, v) i = f i
    rw [← (g3 fx f).1 i hi]
    unfold vp fU
    rw [if_neg (by show ¬ (16 : Int) < 13; decide), if_pos rfl, if_neg (by omega)]
theorem gd_not {h : Nat} {o : List (Int × Int)} (g : Gd true h o) (h1 : 1 ≤ h) : Gd true h (o ++ [(20, 0)]) := by
  intro t ht
  obtain ⟨g1, g2, g3⟩ := g t ht
  have t1 : tp (t + 1) (20, 0) = t + 1 := by unfold tp; rw [if_neg (by decide), if_pos (by decide)]
  have e : ∀ fx f, rnL fx f t (o ++ [(20, 0)]) = fU (rnL fx f t o) t (iz 1 - rnL fx f t o t) := by
    intro fx f
    rw [rnL_app, g2]
    show vp fx (t + 1) (rnL fx f t o) (20, 0) = _
    unfold vp
    rw [if_neg (by decide), if_neg (by decide), if_pos rfl]
    rfl
  refine ⟨?_, ?_, fun fx f => ⟨fun i hi => ?_, fun _ => ?_⟩⟩
  · rw [okL_app, g2]
    exact ⟨g1, ⟨by omega, fun z => by simp at z, Or.inr (Or.inr (Or.inl ⟨rfl, by omega⟩))⟩, trivial⟩
  · rw [eh_app, g2]; exact t1
  · rw [e, ← (g3 fx f).1 i hi]
    unfold fU
    rw [if_neg (by omega)]
  · rw [e]
    unfold fU
    rw [if_pos rfl]
    rcases (g3 fx f).2 rfl with z | z <;> rw [z]
    · right; decide
    · left; decide
theorem rB_01 {s : Int} {x y : Int32} (h : s = 17 ∨ s = 18 ∨ s = 19 ∨ ((s = 21 ∨ s = 22) ∧ (x = iz 0 ∨ x = iz 1) ∧ (y = iz 0 ∨ y = iz 1))) : rB s x y = iz 0 ∨ rB s x y = iz 1 := by
  have hb : ∀ t : Bool, bI t = iz 0 ∨ bI t = iz 1 := fun t => by cases t <;> decide
  rcases h with rfl | rfl | rfl | ⟨rfl | rfl, rfl | rfl, rfl | rfl⟩
  · exact hb _
  · exact hb _
  · exact hb _
  all_goals decide
theorem gd_bin {c c1 c2 : Bool} {h k : Nat} {o p : List (Int × Int)} {s : Int} (g : Gd c1 h o) (g' : Gd c2 k p) (hk : k + 1 ≤ h) (h2 : 2 ≤ h) (hs : s = 13 ∨ s = 14 ∨ s = 15 ∨ s = 17 ∨ s = 18 ∨ s = 19 ∨ s = 21 ∨ s = 22) (hc : c = true → s = 17 ∨ s = 18 ∨ s = 19 ∨ ((s = 21 ∨ s = 22) ∧ c1 = true ∧ c2 = true)) : Gd c h (o ++ p ++ [(s, 0)]) := by
  intro t ht
  obtain ⟨g1, g2, g3⟩ := g t ht
  obtain ⟨f1, f2, f3⟩ := g' (t + 1) (by omega)
  have t1 : tp (t + 1 + 1) (s, 0) = t + 1 := by
    unfold tp
    rw [if_neg (by show ¬ s < 13; omega), if_neg (by show ¬ (s = 16 ∨ s = 20); omega)]
    rfl
  have e2 : eh t (o ++ p) = t + 1 + 1 := by rw [eh_app, g2, f2]
  have e : ∀ fx f, rnL fx f t (o ++ p ++ [(s, 0)]) = fU (rnL fx (rnL fx f t o) (t + 1) p) t (rB s (rnL fx (rnL fx f t o) (t + 1) p t) (rnL fx (rnL fx f t o) (t + 1) p (t + 1))) := by
    intro fx f
    rw [rnL_app, e2, rnL_app, g2]
    show vp fx (t + 1 + 1) (rnL fx (rnL fx f t o) (t + 1) p) (s, 0) = _
    unfold vp
    rw [if_neg (by show ¬ s < 13; omega), if_neg (by show ¬ s = 16; omega), if_neg (by show ¬ s = 20; omega)]
    rfl
  refine ⟨?_, ?_, fun fx f => ⟨fun i hi => ?_, fun z => ?_⟩⟩
  · rw [okL_app, okL_app, e2, g2]
    exact ⟨⟨g1, f1⟩, ⟨by omega, fun z => by have : s = 0 ∨ s = 16 := z; omega, Or.inr (Or.inr (Or.inr ⟨by omega, hs⟩))⟩, trivial⟩
  · rw [eh_app, e2]; exact t1
  · rw [e]
    unfold fU
    rw [if_neg (by omega), (f3 fx _).1 i (by omega), (g3 fx f).1 i hi]
  · rw [e]
    unfold fU
    rw [if_pos rfl]
    refine rB_01 ?_
    rcases hc z with a | a | a | ⟨a, b1, b2⟩
    · exact Or.inl a
    · exact Or.inr (Or.inl a)
    · exact Or.inr (Or.inr (Or.inl a))
    · refine Or.inr (Or.inr (Or.inr ⟨a, ?_, (f3 fx _).2 b2⟩))
      rw [(f3 fx _).1 t (by omega)]
      exact (g3 fx f).2 b1
section
variable {cond : Nat → Bool} {step : Nat → Rz} {op : Nat → List (Int × Int)}
theorem tl_P (P : List (Int × Int) → Prop) (hs : ∀ j q o p, cond j = true → step j = .inl (q, o) → P p → P (p ++ o ++ op j)) (f : Nat) : ∀ j p q o, P p → tl cond step op f j = .inl (q, o) → P (p ++ o) := by
  induction f with
  | zero => intro j p q o hp e; rw [tl] at e; simp only [Sum.inl.injEq, Prod.mk.injEq] at e; obtain ⟨rfl, rfl⟩ := e; rw [List.append_nil]; exact hp
  | succ f ih =>
    intro j p q o hp e
    rw [tl] at e
    by_cases z : cond j = true
    · rw [if_pos z] at e
      rcases es : step j with ⟨q1, o1⟩ | x
      · rw [es] at e
        have h1 := hs j q1 o1 p z es hp
        simp only [sq] at e
        rcases et : tl cond step op f q1 with ⟨q2, o2⟩ | x
        · rw [et] at e
          simp only [pre, Sum.inl.injEq, Prod.mk.injEq] at e
          obtain ⟨rfl, rfl⟩ := e
          have := ih q1 _ q2 o2 h1 et
          rw [List.append_assoc, List.append_assoc] at this
          exact this
        · rw [et] at e; simp [pre] at e
      · rw [es] at e; simp [sq] at e
    · rw [if_neg z] at e; simp only [Sum.inl.injEq, Prod.mk.injEq] at e; obtain ⟨rfl, rfl⟩ := e; rw [List.append_nil]; exact hp
end
section
variable {K V : Nat → Int}
theorem gd_un (hV : ∀ j, 0 ≤ V j ∧ V j ≤ 9999) {j q : Nat} {o : List (Int × Int)} (h : unF K V j = .inl (q, o)) : Gd false 0 o := by
  rcases unF_c K V j with ⟨a, e⟩ | ⟨a, c, e⟩ | ⟨a, c, e⟩ <;> rw [e] at h
  · simp only [Sum.inl.injEq, Prod.mk.injEq] at h
    obtain ⟨rfl, rfl⟩ := h
    exact gd_one ⟨by show (0 : Int) ≤ 0; decide, by show (0 : Int) ≤ 10; decide⟩ (fun _ => hV j)
  · simp only [Sum.inl.injEq, Prod.mk.injEq] at h
    obtain ⟨rfl, rfl⟩ := h
    refine gd_one ⟨?_, ?_⟩ (fun z => ?_)
    · show 0 ≤ K j - 261; omega
    · show K j - 261 ≤ 10; omega
    · have z : K j - 261 = 0 := z
      omega
  · simp at h
theorem gd_pr (hV : ∀ j, 0 ≤ V j ∧ V j ≤ 9999) {j q : Nat} {o : List (Int × Int)} (h : prF K V j = .inl (q, o)) : Gd false 2 o := by
  obtain ⟨x, p, s, h1, h2, rfl⟩ := sq_ok h
  refine tl_P (cond := prC K) (step := prS K V) (op := prO K) (Gd false 2) ?_ 401 x p q s (gd_mono (gd_un hV h1) (by omega)) h2
  intro j q o p hc hst hp
  unfold prS at hst
  unfold prO
  by_cases z : K j = 42
  · rw [if_pos z] at hst ⊢
    exact gd_bin hp (gd_un hV hst) (by omega) (by omega) (by decide) (fun z => by simp at z)
  · rw [if_neg z] at hst ⊢
    rw [List.append_nil]
    unfold ptF at hst
    split at hst
    · simp at hst
    · split at hst
      · simp at hst
      · rename_i z2
        simp only [Sum.inl.injEq, Prod.mk.injEq] at hst
        obtain ⟨rfl, rfl⟩ := hst
        have := hV (j + 1)
        exact gd_part hp (by omega) (by omega)
theorem gd_su (hV : ∀ j, 0 ≤ V j ∧ V j ≤ 9999) {j q : Nat} {o : List (Int × Int)} (h : suF K V j = .inl (q, o)) : Gd false 3 o := by
  obtain ⟨x, p, s, h1, h2, rfl⟩ := sq_ok h
  refine tl_P (cond := suC K) (step := fun j => prF K V (j + 1)) (op := fun j => [(if K j = 43 then 13 else 14, 0)]) (Gd false 3) ?_ 401 x p q s (gd_mono (gd_pr hV h1) (by omega)) h2
  intro j q o p hc hst hp
  refine gd_bin hp (gd_pr hV hst) (by omega) (by omega) ?_ (fun z => by simp at z)
  split <;> decide
theorem gd_cm (hV : ∀ j, 0 ≤ V j ∧ V j ≤ 9999) {j q : Nat} {o : List (Int × Int)} (h : cmF K V j = .inl (q, o)) : Gd true 4 o := by
  obtain ⟨x, p, s, h1, h2, rfl⟩ := sq_ok h
  unfold cmT at h2
  split at h2
  · obtain ⟨y, p', s', h3, h4, rfl⟩ := sq_ok h2
    simp only [Sum.inl.injEq, Prod.mk.injEq] at h4
    obtain ⟨rfl, rfl⟩ := h4
    rw [← List.append_assoc]
    refine gd_bin (gd_mono (gd_su hV h1) (by omega)) (gd_su hV h3) (by omega) (by omega) ?_ (fun _ => ?_)
    · split
      · decide
      · split <;> decide
    · split
      · exact Or.inl rfl
      · split
        · exact Or.inr (Or.inl rfl)
        · exact Or.inr (Or.inr (Or.inl rfl))
  · simp at h2
theorem gd_ev {T : Nat → Rz} {k : Nat} (hT : ∀ j q o, T j = .inl (q, o) → Gd true k o) (hk : 1 ≤ k) {j q : Nat} {o : List (Int × Int)} (h : evF K T j = .inl (q, o)) : Gd true (k + 1) o := by
  obtain ⟨x, p, s, h1, h2, rfl⟩ := sq_ok h
  refine tl_P (cond := fun j => decide (K j = 260)) (step := fun j => T (j + 1)) (op := fun _ => [(21, 0)]) (Gd true (k + 1)) ?_ 401 x p q s (gd_mono (hT _ _ _ h1) (by omega)) h2
  intro j q o p hc hst hp
  exact gd_bin hp (hT _ _ _ hst) (by omega) (by omega) (by decide) (fun _ => Or.inr (Or.inr (Or.inr ⟨Or.inl rfl, rfl, rfl⟩)))
theorem gd_an {T : Nat → Rz} {k : Nat} (hT : ∀ j q o, T j = .inl (q, o) → Gd true k o) (hk : 1 ≤ k) {j q : Nat} {o : List (Int × Int)} (h : anF K T j = .inl (q, o)) : Gd true (k + 2) o := by
  obtain ⟨x, p, s, h1, h2, rfl⟩ := sq_ok h
  refine tl_P (cond := fun j => decide (K j = 259)) (step := fun j => evF K T (j + 1)) (op := fun _ => [(22, 0)]) (Gd true (k + 2)) ?_ 401 x p q s (gd_mono (gd_ev hT hk h1) (by omega)) h2
  intro j q o p hc hst hp
  exact gd_bin hp (gd_ev hT hk hst) (by omega) (by omega) (by decide) (fun _ => Or.inr (Or.inr (Or.inr ⟨Or.inr rfl, rfl, rfl⟩)))
theorem gd_ts (hV : ∀ j, 0 ≤ V j ∧ V j ≤ 9999) (r : Nat) : ∀ j q o, tsF K V r j = .inl (q, o) → Gd true (4 + 2 * r) o := by
  induction r with
  | zero =>
    intro j q o h
    rw [tsF] at h
    split at h
    · simp at h
    · exact gd_cm hV h
  | succ r ih =>
    intro j q o h
    rw [tsF] at h
    split at h
    · obtain ⟨x, p, s, h1, h2, rfl⟩ := sq_ok h
      simp only [Sum.inl.injEq, Prod.mk.injEq] at h2
      obtain ⟨rfl, rfl⟩ := h2
      exact gd_not (gd_mono (ih _ _ _ h1) (by omega)) (by omega)
    · split at h
      · obtain ⟨x, p, s, h1, h2, rfl⟩ := sq_ok h
        split at h2
        · simp only [Sum.inl.injEq, Prod.mk.injEq] at h2
          obtain ⟨rfl, rfl⟩ := h2
          rw [List.append_nil]
          exact gd_mono (gd_an ih (by omega) h1) (by omega)
        · simp at h2
      · exact gd_mono (gd_cm hV h) (by omega)
theorem gd_cond (hV : ∀ j, 0 ≤ V j ∧ V j ≤ 9999) {j q : Nat} {o : List (Int × Int)} (h : anF K (tsF K V 8) j = .inl (q, o)) : Gd true 22 o := gd_an (gd_ts hV 8) (by omega) h
end
/-- a stretch of a rule holds these steps -/
def Sg (R : aS) (b : Nat) (o : List (Int × Int)) : Prop := ∀ (i : Nat) (x : Int × Int), o[i]? = some x → R 5 (b + i : Nat) = x.1 ∧ (x.1 = 0 ∨ x.1 = 16 → R 6 (b + i : Nat) = x.2)
theorem sg_run {R : aS} {b : Nat} {o : List (Int × Int)} (h : Sg R b o) (n : Nat) : n ≤ o.length → rT R b n = eh 0 (o.take n) ∧ ∀ fx, rF R fx b n = rnL fx (fun _ => 0) 0 (o.take n) := by
  induction n with
  | zero => intro _; rw [List.take_zero]; exact ⟨rfl, fun _ => rfl⟩
  | succ n ih =>
    intro hn
    obtain ⟨i1, i2⟩ := ih (by omega)
    have hx : o[n]? = some o[n] := List.getElem?_eq_getElem (by omega)
    have tk : o.take (n + 1) = o.take n ++ [o[n]] := by rw [List.take_succ, hx]; rfl
    obtain ⟨s5, s6⟩ := h n _ hx
    generalize o[n] = x at *
    rw [tk, eh_app]
    refine ⟨?_, fun fx => ?_⟩
    · show rT R b (n + 1) = tp (eh 0 (o.take n)) x
      rw [rT, s5, i1]; rfl
    · rw [rnL_app, ← i2 fx, ← i1]
      show rF R fx b (n + 1) = vp fx (rT R b n) (rF R fx b n) x
      rw [rF, s5]
      unfold vp
      by_cases g1 : x.1 < 13
      · rw [if_pos g1, if_pos g1]
        by_cases g2 : x.1 = 0
        · rw [if_pos g2, if_pos g2, s6 (Or.inl g2)]
        · rw [if_neg g2, if_neg g2]
      · rw [if_neg g1, if_neg g1]
        by_cases g2 : x.1 = 16
        · rw [if_pos g2, if_pos g2, s6 (Or.inr g2)]
        · rw [if_neg g2, if_neg g2]
theorem sg_seg {R : aS} {b : Nat} {o : List (Int × Int)} {c : Bool} {k : Nat} (h : Sg R b o) (g : Gd c k o) (hk : k ≤ 22) (hR : ((b + o.length : Nat) : Int) ≤ R 0 1) : rSeg R b (b + o.length) ∧ (c = true → ∀ fx, rV R fx (b : Nat) ((b + o.length : Nat) : Int) = iz 0 ∨ rV R fx (b : Nat) ((b + o.length : Nat) : Int) = iz 1) := by
  obtain ⟨g1, g2, g3⟩ := g 0 (by omega)
  have hlen : 0 < o.length := by
    cases o with
    | nil => simp [eh] at g2
    | cons x o => simp
  have e : b + o.length - b = o.length := by omega
  refine ⟨⟨by omega, hR, fun n hn => ?_, ?_⟩, fun z fx => ?_⟩
  · have hn : n < o.length := by omega
    have hx : o[n]? = some o[n] := List.getElem?_eq_getElem hn
    obtain ⟨s5, s6⟩ := h n _ hx
    have ok := okL_get o 0 n _ g1 hx
    rw [← (sg_run h n (by omega)).1] at ok
    generalize o[n] = x at *
    unfold rOk
    rw [s5]
    obtain ⟨k1, k2, k3⟩ := ok
    refine ⟨k1, fun z => by rw [s6 z]; exact k2 z, ?_⟩
    rcases k3 with k3 | k3 | k3 | k3
    · exact Or.inl k3
    · exact Or.inr (Or.inl ⟨k3.1, k3.2.1, by rw [s6 (Or.inr k3.1)]; exact k3.2.2⟩)
    · exact Or.inr (Or.inr (Or.inl k3))
    · exact Or.inr (Or.inr (Or.inr k3))
  · rw [e, (sg_run h o.length (Nat.le_refl _)).1, List.take_length]; exact g2
  · unfold rV
    rw [Int.toNat_natCast, Int.toNat_natCast, e, (sg_run h o.length (Nat.le_refl _)).2, List.take_length]
    exact (g3 fx _).2 z
end

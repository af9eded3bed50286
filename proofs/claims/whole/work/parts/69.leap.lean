/-! seconds that only count: the picture -/
def aIt (ch : aS → Int → Int) (A : aS) : Nat → aS
  | 0 => A
  | n + 1 => aSec ch (aIt ch A n)
theorem aIt_add (ch : aS → Int → Int) (A : aS) (m n : Nat) : aIt ch (aIt ch A m) n = aIt ch A (m + n) := by
  induction n with
  | zero => rfl
  | succ n ih => rw [aIt, ih]; rfl
theorem aSec_r {ch : aS → Int → Int} {A : aS} {k p : Int} (h : k ≠ 3 ∧ k ≠ 4 ∧ k ≠ 5 ∧ k ≠ 6 ∧ k ≠ 10 ∧ k ≠ 11 ∧ k ≠ 12 ∧ k ≠ 13 ∧ (k ≠ 32 ∨ p ≠ 0) ∧ (k ≠ 30 ∨ p ≠ 3)) : aSec ch A k p = A k p := by
  unfold aSec
  by_cases e : k = 30
  · rw [aUp_i (by omega), aCars_r (by omega), aGv_r (by omega), aCome_r (by omega)]
  · rw [aUp_k e, aCars_r (by omega), aGv_r (by omega), aCome_r (by omega)]
theorem aSec_now {ch : aS → Int → Int} {A : aS} : aSec ch A 30 3 = A 30 3 + 1 := by unfold aSec; rw [aUp_at]
theorem aIt_r {ch : aS → Int → Int} {A : aS} {n : Nat} {k p : Int} (h : k ≠ 3 ∧ k ≠ 4 ∧ k ≠ 5 ∧ k ≠ 6 ∧ k ≠ 10 ∧ k ≠ 11 ∧ k ≠ 12 ∧ k ≠ 13 ∧ (k ≠ 32 ∨ p ≠ 0) ∧ (k ≠ 30 ∨ p ≠ 3)) : aIt ch A n k p = A k p := by
  induction n with
  | zero => rfl
  | succ n ih => rw [aIt, aSec_r h, ih]
theorem aIt_now {ch : aS → Int → Int} {A : aS} {n : Nat} : aIt ch A n 30 3 = A 30 3 + n := by
  induction n with
  | zero => show A 30 3 = A 30 3 + 0; omega
  | succ n ih => rw [aIt, aSec_now, ih]; omega
theorem WfA_it {ch : aS → Int → Int} {A : aS} (hch : ChR ch) (hw : WfA A) (n : Nat) (hn : A 30 3 + n ≤ 30000) : WfA (aIt ch A n) := by
  induction n with
  | zero => exact hw
  | succ n ih => rw [aIt]; exact WfA_sec hch (ih (by omega)) (by rw [aIt_now]; omega)
def aDj (A : aS) (q : Int) (n : Nat) : aS := fun k c => if k = 13 ∧ 0 ≤ c ∧ c < n ∧ A 14 c ≠ 1 ∧ A 12 c ≠ 0 then A 13 c - q else A k c
def aDn (A : aS) (q : Int) : aS := aUp (aDj A q (A 30 1).toNat) 30 3 (A 30 3 + q)
theorem aDj_r {A : aS} {q : Int} {n : Nat} {k c : Int} (h : k ≠ 13) : aDj A q n k c = A k c := by unfold aDj; rw [if_neg (by omega)]
theorem aDn_r {A : aS} {q : Int} {k c : Int} (h : k ≠ 13 ∧ (k ≠ 30 ∨ c ≠ 3)) : aDn A q k c = A k c := by
  unfold aDn aUp; rw [if_neg (by omega), aDj_r h.1]
theorem aDn_now {A : aS} {q : Int} : aDn A q 30 3 = A 30 3 + q := by unfold aDn; rw [aUp_at]
theorem aDn_13 {A : aS} {q c : Int} (hc : 0 ≤ c ∧ c < A 30 1) : aDn A q 13 c = if A 14 c ≠ 1 ∧ A 12 c ≠ 0 then A 13 c - q else A 13 c := by
  unfold aDn
  rw [aUp_k (by omega)]
  unfold aDj
  split
  · rw [if_pos (by omega)]
  · rw [if_neg (by omega)]
theorem aDn_out {A : aS} {q c : Int} (hc : ¬ (0 ≤ c ∧ c < A 30 1)) : aDn A q 13 c = A 13 c := by
  unfold aDn
  rw [aUp_k (by omega)]
  unfold aDj
  rw [if_neg (by omega)]
theorem aDn_0 {A : aS} : aDn A 0 = A := by
  funext k c
  unfold aDn aUp aDj
  split
  · rename_i e; rw [e.1, e.2]; omega
  · split
    · rename_i e; rw [e.1]; omega
    · rfl
theorem aDn_dn {A : aS} {a b : Int} : aDn (aDn A a) b = aDn A (a + b) := by
  funext k c
  by_cases e : k = 30 ∧ c = 3
  · rw [e.1, e.2, aDn_now, aDn_now, aDn_now]; omega
  · by_cases e2 : k = 13
    · subst e2
      by_cases e3 : 0 ≤ c ∧ c < A 30 1
      · rw [aDn_13 (by rw [aDn_r (by omega)]; exact e3), aDn_13 e3, aDn_13 e3, aDn_r (by omega), aDn_r (by omega)]
        split <;> omega
      · rw [aDn_out (by rw [aDn_r (by omega)]; exact e3), aDn_out e3, aDn_out e3]
    · rw [aDn_r (by omega), aDn_r (by omega), aDn_r (by omega)]
def evNW (ev : aEv) : Prop := ∀ f g : Int → Int, (∀ i, i ≠ 9 → f i = g i) → ev f = ev g
theorem chs_same {ev : aEv} (hn : evNW ev) {A B : aS} (h : ∀ k q : Int, k ≠ 13 → (k ≠ 30 ∨ q ≠ 3) → B k q = A k q) (p : Int) (n : Nat) : aChs ev B p n = aChs ev A p n := by
  induction n with
  | zero => rfl
  | succ n ih =>
    rw [aChs, aChs, ih]
    have r1 : B 1 p = A 1 p := h _ _ (by omega) (by omega)
    have r2 : B 2 p = A 2 p := h _ _ (by omega) (by omega)
    have e : ev (aFact B p n) = ev (aFact A p n) := by
      apply hn
      intro i hi
      have hw : aWay B p = aWay A p := by unfold aWay; rw [r1, r2]
      have hr : aRid B n = aRid A n := by unfold aRid; simp (disch := omega) only [h]
      have hg : aGiv B n = aGiv A n := by unfold aGiv; simp (disch := omega) only [h]
      unfold aFact
      rw [hw, hr, hg, r1, h 10 n (by omega) (by omega), h 11 n (by omega) (by omega), h 12 n (by omega) (by omega)]
      simp only [hi, if_false]
    unfold aAsk
    rw [e, h 14 n (by omega) (by omega), h (40 + n) _ (by omega) (by omega), h (40 + n) _ (by omega) (by omega), r1, r2]
theorem aCome_id {A : aS} {n : Nat} (h : ∀ i : Nat, i < n → ¬ (A 3 i = 0 ∧ A 0 i = A 30 3)) : aCome A n = A := by
  induction n with
  | zero => exact aCome_zero
  | succ n ih => rw [aCome_no (h n (by omega)), ih (fun i hi => h i (by omega))]
theorem aGv_id {ch : aS → Int → Int} {A : aS} {n : Nat} (h : ∀ i : Nat, i < n → A 3 i = 1 → A 4 i = -1 → ch A i = -1) : aGv ch A n = A := by
  induction n with
  | zero => rfl
  | succ n ih =>
    rw [aGv, ih (fun i hi => h i (by omega))]
    split
    · rename_i e
      exact aUp_id (by rw [h n (by omega) e.1 e.2, e.2])
    · rfl
theorem stirG_no {ch : aS → Int → Int} {A : aS} {n : Nat} (h : aStirG ch A n = false) : aGv ch A n = A ∧ ∀ i : Nat, i < n → A 3 i = 1 → A 4 i = -1 → ch A i = -1 := by
  induction n with
  | zero => exact ⟨rfl, fun i hi => by omega⟩
  | succ n ih =>
    rw [aStirG, Bool.or_eq_false_iff] at h
    obtain ⟨h1, h2⟩ := ih h.1
    have h3 := h.2
    rw [h1] at h3
    simp only [decide_eq_false_iff_not] at h3
    have h4 : A 3 n = 1 → A 4 n = -1 → ch A n = -1 := by
      intro a b
      by_cases e : ch A n = -1
      · exact e
      · exact absurd ⟨⟨a, b⟩, e⟩ h3
    refine ⟨?_, fun i hi a b => ?_⟩
    · rw [aGv, h1]
      split
      · rename_i e; exact aUp_id (by rw [h4 e.1 e.2, e.2])
      · rfl
    · by_cases e : i = n
      · subst e; exact h4 a b
      · exact h2 i (by omega) a b
theorem quiet_step {ch : aS → Int → Int} {A : aS} (hw : WfA A)
    (h1 : ∀ p, 0 ≤ p → p < A 30 2 → A 3 p = 0 → A 30 3 < A 0 p)
    (h2 : ∀ p, 0 ≤ p → p < A 30 2 → A 3 p = 1 → A 4 p = -1 → ch A p = -1)
    (h3 : ∀ c, 0 ≤ c → c < A 30 1 → A 14 c ≠ 1 → A 12 c = 0 → aSl A c)
    (h4 : ∀ c, 0 ≤ c → c < A 30 1 → A 14 c ≠ 1 → A 12 c ≠ 0 → 2 ≤ A 13 c) : aSec ch A = aDn A 1 := by
  have e1 : aCome A (A 30 2).toNat = A := aCome_id (fun i hi e => by have := h1 i (by omega) (by omega) e.1; omega)
  have e2 : aGv ch A (A 30 2).toNat = A := aGv_id (fun i hi a b => h2 i (by omega) (by omega) a b)
  have e3 : ∀ n, n ≤ (A 30 1).toNat → aStirC A n = false := by
    intro n
    induction n with
    | zero => intro _; rfl
    | succ n ih =>
      intro hn
      have i1 := ih (by omega)
      have i2 := cars_aDl hw n (by omega) i1
      rw [aStirC, i1, Bool.false_or]
      have q14 : aCars A n 14 n = A 14 n := aCars_r (by omega)
      have q12 : aCars A n 12 n = A 12 n := aCars_r (by omega)
      have q13 : aCars A n 13 n = A 13 n := aCars_r (by omega)
      simp only [aStr, decide_eq_false_iff_not]
      rintro ⟨a, b⟩
      rw [q14] at a
      rw [q12, q13] at b
      by_cases g : A 12 n = 0
      · rw [if_pos g] at b
        have sl := h3 n (by omega) (by omega) a g
        have sl2 : aSl (aCars A n) n := by
          rw [i2]
          refine aSl_i sl (aDl_r (by omega)) (fun p _ _ _ => aDl_r (by omega)) (fun p => aDl_r (by omega)) (Or.inl (aDl_r (by omega))) (fun k k1 k2 => ?_)
          unfold aDl; rw [if_neg (by omega)]
        rw [aSl_look sl2, q12] at b
        exact b g
      · rw [if_neg g] at b
        have := h4 n (by omega) (by omega) a g
        omega
  have e4 := cars_aDl hw _ (Nat.le_refl _) (e3 _ (Nat.le_refl _))
  unfold aSec
  rw [e1, e2, e4]
  rfl
theorem quiet_it {ch : aS → Int → Int} {A : aS} (hch : ChR ch) (hw : WfA A) (q : Nat) (hq : A 30 3 + q ≤ 30000)
    (h1 : ∀ p, 0 ≤ p → p < A 30 2 → A 3 p = 0 → A 30 3 + q ≤ A 0 p)
    (h2 : ∀ p, 0 ≤ p → p < A 30 2 → A 3 p = 1 → A 4 p = -1 → ∀ j, ch (aDn A j) p = -1)
    (h3 : ∀ c, 0 ≤ c → c < A 30 1 → A 14 c ≠ 1 → A 12 c = 0 → aSl A c)
    (h4 : ∀ c, 0 ≤ c → c < A 30 1 → A 14 c ≠ 1 → A 12 c ≠ 0 → q + 1 ≤ A 13 c) (j : Nat) (hj : j ≤ q) : aIt ch A j = aDn A j := by
  induction j with
  | zero => rw [aIt]; exact aDn_0.symm
  | succ j ih =>
    have i1 := ih (by omega)
    have w := WfA_it hch hw j (by omega)
    rw [i1] at w
    rw [aIt, i1, quiet_step w, aDn_dn]
    · rfl
    · intro p p0 p1 p2
      rw [aDn_r (by omega)] at p1 p2
      rw [aDn_now, aDn_r (by omega)]
      have := h1 p p0 p1 p2
      omega
    · intro p p0 p1 p2 p3
      rw [aDn_r (by omega)] at p1 p2 p3
      exact h2 p p0 p1 p2 p3 j
    · intro c c0 c1 c2 c3
      rw [aDn_r (by omega)] at c1 c2 c3
      refine aSl_i (h3 c c0 c1 c2 c3) (aDn_r (by omega)) (fun p _ _ _ => aDn_r (by omega)) (fun p => aDn_r (by omega)) (Or.inl (aDn_r (by omega))) (fun k k1 k2 => ?_)
      by_cases e : k = 13
      · subst e
        rw [aDn_13 ⟨c0, c1⟩, if_neg (fun g => g.2 c3)]
      · exact aDn_r (by omega)
    · intro c c0 c1 c2 c3
      rw [aDn_r (by omega)] at c1 c2 c3
      rw [aDn_13 ⟨c0, c1⟩, if_pos ⟨c2, c3⟩]
      have := h4 c c0 c1 c2 c3
      omega
theorem nostir_ch {ev : aEv} (hn : evNW ev) {A : aS} (hw : WfA A) (h : aStir (aCh1 ev) A = false) (p : Int) (p0 : 0 ≤ p) (p1 : p < A 30 2) (s3 : aSec (aCh1 ev) A 3 p = 1) (s4 : aSec (aCh1 ev) A 4 p = -1) (j : Int) : aCh1 ev (aDn (aSec (aCh1 ev) A) j) p = -1 := by
  unfold aStir at h
  rw [Bool.or_eq_false_iff] at h
  obtain ⟨h1, h2⟩ := h
  have w1 := WfA_come hw (A 30 2).toNat
  obtain ⟨g1, g2⟩ := stirG_no h1
  rw [g1] at h2
  have q1 : aCome A (A 30 2).toNat 30 1 = A 30 1 := aCome_r (by omega)
  have q2 : aCome A (A 30 2).toNat 30 2 = A 30 2 := aCome_r (by omega)
  have e4 := cars_aDl w1 (A 30 1).toNat (by omega) h2
  have hsec : aSec (aCh1 ev) A = aUp (aDl (aCome A (A 30 2).toNat) (A 30 1).toNat) 30 3 (A 30 3 + 1) := by
    unfold aSec; rw [g1, e4]
  rw [hsec] at s3 s4 ⊢
  generalize aCome A (A 30 2).toNat = B at *
  rw [aUp_k (by omega), aDl_r (by omega)] at s3 s4
  have hsame : ∀ k q : Int, k ≠ 13 → (k ≠ 30 ∨ q ≠ 3) → aDn (aUp (aDl B (A 30 1).toNat) 30 3 (A 30 3 + 1)) j k q = B k q := by
    intro k q k1 k2
    rw [aDn_r ⟨k1, k2⟩]
    unfold aUp
    rw [if_neg (by omega), aDl_r k1]
  have := g2 p.toNat (by omega) (by rw [Int.toNat_of_nonneg p0]; exact s3) (by rw [Int.toNat_of_nonneg p0]; exact s4)
  rw [Int.toNat_of_nonneg p0] at this
  unfold aCh1 at this ⊢
  rw [chs_same hn hsame, hsame _ _ (by omega) (by omega)]
  exact this

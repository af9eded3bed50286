/-! best: the picture of a group with one car -/
noncomputable section
def aPre (A : aS) : aS := fun r p => if r = 30 ∧ (p = 1 ∨ p = 2) then 0 else A r p
def aPl (A : aS) (m : Nat) : Nat → aS
  | 0 => aPre A
  | p + 1 => if m.testBit p = true then (if A 3 p = 1 then aUp (aOne (aPl A m p) (A 0 p) (A 1 p) (A 2 p)) 3 (aPl A m p 30 2) 1 else aOne (aPl A m p) (A 0 p) (A 1 p) (A 2 p)) else aPl A m p
def gBt (m : Nat) : Int → Bool := fun p => m.testBit p.toNat
theorem gBt_n {m q : Nat} : gBt m q = m.testBit q := by unfold gBt; rw [Int.toNat_natCast]
def aPart (A : aS) (c : Int) (m n : Nat) : aS := fun r p => if r = 30 ∧ p = 1 then A 30 1 else if r = 14 ∧ 0 ≤ p ∧ p < 4 then (if p = c then 0 else 1) else aPl A m n r p
section
variable {A : aS} {m n : Nat} {c : Int}
theorem aPl_n (j : Nat) : aPl A m j 30 2 = (gK (gBt m) j : Int) := by
  induction j with
  | zero => unfold aPl aPre; rw [if_pos (by omega)]; rfl
  | succ j ih =>
    rw [aPl]
    by_cases g : m.testBit j = true
    · rw [if_pos g, gK_t (by rw [gBt_n]; exact g)]
      split
      · rw [aUp_k (by omega), aOne_n, ih]; omega
      · rw [aOne_n, ih]; omega
    · rw [if_neg g, gK_f (by rw [gBt_n]; simpa using g)]; exact ih
theorem aPl_r (j : Nat) {r p : Int} (h : (r < 0 ∨ 6 < r) ∧ (r ≠ 30 ∨ (p ≠ 1 ∧ p ≠ 2))) : aPl A m j r p = A r p := by
  induction j with
  | zero => unfold aPl aPre; rw [if_neg (by omega)]
  | succ j ih =>
    rw [aPl]
    split
    · split
      · rw [aUp_k (by omega), aOne_r (by omega)]; exact ih
      · rw [aOne_r (by omega)]; exact ih
    · exact ih
theorem aPl_1 (j : Nat) : aPl A m j 30 1 = 0 := by
  induction j with
  | zero => unfold aPl aPre; rw [if_pos (by omega)]
  | succ j ih =>
    rw [aPl]
    split
    · split
      · rw [aUp_k (by omega), aOne_r (by omega)]; exact ih
      · rw [aOne_r (by omega)]; exact ih
    · exact ih
/-- all not there yet, or waiting and given to none -/
def Loose (A : aS) : Prop := ∀ p, 0 ≤ p → p < A 30 2 → (A 3 p = 0 ∨ A 3 p = 1) ∧ A 4 p = -1
theorem loose_p (hw : Wf A) (hl : Loose A) {p : Int} (p0 : 0 ≤ p) (p1 : p < A 30 2) : (A 3 p = 0 ∨ A 3 p = 1) ∧ A 4 p = -1 ∧ A 5 p = -1 ∧ A 6 p = -1 := by
  have h := hl p p0 p1
  have hp := hw.2.1 p p0 p1
  unfold WfP at hp
  omega
theorem aPl_p (hw : Wf A) (hl : Loose A) (j : Nat) (hj : (j : Int) ≤ A 30 2) (q : Nat) (hq : q < j) (g : gBt m q = true) (k : Int) (k0 : 0 ≤ k) (k1 : k ≤ 6) : aPl A m j k (gK (gBt m) q) = A k q := by
  induction j with
  | zero => omega
  | succ j ih =>
    rw [aPl]
    by_cases e : q = j
    · subst e
      rw [if_pos (by rw [← gBt_n]; exact g)]
      obtain ⟨p3, p4, p5, p6⟩ := loose_p hw hl (p := q) (by omega) (by omega)
      rw [← aPl_n (A := A) (m := m) q]
      obtain ⟨o0, o1, o2, o3, o4, o5, o6⟩ := aOne_p (A := aPl A m q) (t := A 0 q) (f := A 1 q) (g := A 2 q)
      by_cases w : A 3 q = 1
      · rw [if_pos w]
        by_cases e3 : k = 3
        · subst e3; rw [aUp_at, w]
        · rw [aUp_k e3]
          rcases (by omega : k = 0 ∨ k = 1 ∨ k = 2 ∨ k = 4 ∨ k = 5 ∨ k = 6) with rfl | rfl | rfl | rfl | rfl | rfl
          · exact o0
          · exact o1
          · exact o2
          · rw [o4, p4]
          · rw [o5, p5]
          · rw [o6, p6]
      · rw [if_neg w]
        rcases (by omega : k = 0 ∨ k = 1 ∨ k = 2 ∨ k = 3 ∨ k = 4 ∨ k = 5 ∨ k = 6) with rfl | rfl | rfl | rfl | rfl | rfl | rfl
        · exact o0
        · exact o1
        · exact o2
        · rw [o3]; omega
        · rw [o4, p4]
        · rw [o5, p5]
        · rw [o6, p6]
    · have i := ih (by omega) (by omega)
      have lt := gK_lt (n := j) (by omega) g
      have n2 := aPl_n (A := A) (m := m) j
      split
      · split
        · rw [aUp_i (by omega), aOne_r (by omega)]; exact i
        · rw [aOne_r (by omega)]; exact i
      · exact i
theorem aPart_1 : aPart A c m n 30 1 = A 30 1 := by unfold aPart; rw [if_pos (by omega)]
theorem aPart_2 : aPart A c m n 30 2 = (gK (gBt m) n : Int) := by unfold aPart; rw [if_neg (by omega), if_neg (by omega)]; exact aPl_n n
theorem aPart_14 {d : Int} (h : 0 ≤ d ∧ d < 4) : aPart A c m n 14 d = if d = c then 0 else 1 := by unfold aPart; rw [if_neg (by omega), if_pos (by omega)]
theorem aPart_r {r p : Int} (h : (r < 0 ∨ 6 < r) ∧ (r ≠ 30 ∨ p ≠ 2) ∧ r ≠ 14) : aPart A c m n r p = A r p := by
  unfold aPart
  by_cases e : r = 30 ∧ p = 1
  · rw [if_pos e, e.1, e.2]
  · rw [if_neg e, if_neg (by omega), aPl_r n (by omega)]
theorem aPart_p (hw : Wf A) (hl : Loose A) (hn : (n : Int) = A 30 2) (q : Nat) (hq : q < n) (g : gBt m q = true) (k : Int) (k0 : 0 ≤ k) (k1 : k ≤ 6) : aPart A c m n k (gK (gBt m) q) = A k q := by
  unfold aPart
  rw [if_neg (by omega), if_neg (by omega)]
  exact aPl_p hw hl n (by omega) q hq g k k0 k1
theorem WfA_part (hw : WfA A) (hl : Loose A) (hn : (n : Int) = A 30 2) (h1 : A 32 1 = -1) : WfA (aPart A c m n) := by
  obtain ⟨⟨hG, hP, hC, hS, hF⟩, hD⟩ := hw
  have gn := gK_ofnat (G := gBt m) (n := n)
  refine ⟨⟨?_, fun q q0 q1 => ?_, fun d d0 d1 => ?_, fun d f a b e g => ?_, fun q q0 q1 q2 => ?_⟩, fun d d0 d1 => ?_⟩
  · unfold WfG at hG ⊢
    rw [aPart_2]
    simp (disch := omega) only [aPart_r]
    omega
  · rw [aPart_2] at q1
    obtain ⟨p, p1, p2, p3⟩ := gK_on (G := gBt m) (n := n) (j := q.toNat) (by omega)
    have e : ∀ k, 0 ≤ k → k ≤ 6 → aPart A c m n k q = A k p := fun k k0 k1 => by
      have := aPart_p (c := c) ⟨hG, hP, hC, hS, hF⟩ hl hn p p1 p2 k k0 k1
      rw [p3, show ((q.toNat : Nat) : Int) = q by omega] at this
      exact this
    have := hP p (by omega) (by omega)
    unfold WfP at this ⊢
    rw [e 0 (by omega) (by omega), e 1 (by omega) (by omega), e 2 (by omega) (by omega), e 3 (by omega) (by omega), e 4 (by omega) (by omega), e 5 (by omega) (by omega), e 6 (by omega) (by omega)]
    simp (disch := omega) only [aPart_r]
    exact this
  · rw [aPart_1] at d1
    have hq := hC d d0 d1
    have e14 : 0 ≤ aPart A c m n 14 d ∧ aPart A c m n 14 d ≤ 1 := by
      unfold WfG at hG
      rw [aPart_14 (by omega)]
      split <;> omega
    unfold WfC at hq ⊢
    simp (disch := omega) only [aPart_r]
    omega
  · rw [aPart_r (by omega)]
    exact hS d f a b e g
  · rw [aPart_r (by omega), h1] at q2; omega
  · rw [aPart_1] at d1
    exact WfD_i (fun k k1 k2 => aPart_r (by omega)) (aPart_r (by omega)) (hD d d0 d1)
theorem part_inv {t : Int → Int} (hw : WfA A) (hl : Loose A) (hn : (n : Int) = A 30 2) (h0 : A 32 0 = -1) (h1 : A 32 1 = -1) (hc : 0 ≤ c ∧ c < A 30 1) (ho : A 14 c = 0) (ht : ∀ q : Nat, q < n → (0 ≤ t q ∧ t q < A 30 1) ∧ gBt m q = decide (t q = c)) (hs : ∀ q : Nat, q < n → t q = c → A (40 + c) (A 1 q) = 1 ∧ A (40 + c) (A 2 q) = 1) : VInv A (aPart A c m n) c (gBt m) t := by
  have hg := hw.1.1
  unfold WfG at hg
  have hg1 : 0 ≤ A 30 1 ∧ A 30 1 ≤ 4 ∧ 0 ≤ A 30 2 := by omega
  clear hg
  have hnt : (A 30 2).toNat = n := by omega
  refine ⟨⟨hc.1, hg1.2.2, ?_, ?_, fun k k0 k1 => ?_, h0, h1, ?_, ?_, fun p hp g k k0 k1 => ?_, fun p hp g => ?_⟩, fun q hq => ?_, fun q hq => ht q (by omega), aPart_1, hc.2, hg1.1, fun d d0 d1 d2 => ?_, ?_, fun q hq => ?_⟩
  · rw [aPart_2, hnt]
  · rw [aPart_r (by omega)]
  · by_cases e : k = 14
    · subst e; rw [aPart_14 (by omega), if_pos rfl, ho]
    · rw [aPart_r (by omega)]
  · rw [aPart_r (by omega)]; exact h0
  · rw [aPart_r (by omega)]; exact h1
  · exact aPart_p hw.1 hl hn p (by omega) g k k0 k1
  · have := (hl p (by omega) hp).2; omega
  · exact Or.inl (hl q (by omega) hq).2
  · rw [aPart_1] at d1
    rw [aPart_14 (by omega), if_neg d2]
  · rw [aPart_14 (by omega), if_pos rfl]; omega
  · rw [aPart_2] at hq
    obtain ⟨p, p1, p2, p3⟩ := gK_on (G := gBt m) (n := n) (j := q) (by omega)
    have e1 := aPart_p (c := c) hw.1 hl hn p p1 p2 1 (by omega) (by omega)
    have e2 := aPart_p (c := c) hw.1 hl hn p p1 p2 2 (by omega) (by omega)
    rw [p3] at e1 e2
    rw [e1, e2, aPart_r (by omega), aPart_r (by omega)]
    refine hs p p1 ?_
    rw [(ht p p1).2] at p2
    exact of_decide_eq_true p2
end
end

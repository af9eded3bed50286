/-! one who comes -/
/-- one person more, of number A 30 2 -/
def aOne (A : aS) (t f g : Int) : aS := aUp (aUp (aUp (aUp (aUp (aUp (aUp (aUp A 0 (A 30 2) t) 1 (A 30 2) f) 2 (A 30 2) g) 3 (A 30 2) 0) 4 (A 30 2) (-1)) 5 (A 30 2) (-1)) 6 (A 30 2) (-1)) 30 2 (A 30 2 + 1)
theorem aOne_r {A : aS} {t f g k q : Int} (h : (k < 0 ∨ 6 < k ∨ q ≠ A 30 2) ∧ (k ≠ 30 ∨ q ≠ 2)) : aOne A t f g k q = A k q := by
  unfold aOne
  simp only [aUp]
  rw [if_neg (by omega), if_neg (by omega), if_neg (by omega), if_neg (by omega), if_neg (by omega), if_neg (by omega), if_neg (by omega), if_neg (by omega)]
theorem aOne_n {A : aS} {t f g : Int} : aOne A t f g 30 2 = A 30 2 + 1 := by unfold aOne; rw [aUp_at]
theorem aOne_p {A : aS} {t f g : Int} : aOne A t f g 0 (A 30 2) = t ∧ aOne A t f g 1 (A 30 2) = f ∧ aOne A t f g 2 (A 30 2) = g ∧ aOne A t f g 3 (A 30 2) = 0 ∧ aOne A t f g 4 (A 30 2) = -1 ∧ aOne A t f g 5 (A 30 2) = -1 ∧ aOne A t f g 6 (A 30 2) = -1 := by
  unfold aOne
  refine ⟨?_, ?_, ?_, ?_, ?_, ?_, ?_⟩ <;> simp (disch := omega) only [aUp_k, aUp_at]
theorem WfA_one {A : aS} {t f g : Int} (hw : WfA A) (h32 : A 32 1 = -1) (hn : A 30 2 < 60) (ht : A 30 3 ≤ t ∧ t ≤ 9999) (hf : 0 ≤ f ∧ f < A 30 0) (hg : 0 ≤ g ∧ g < A 30 0) (hfg : f ≠ g) : WfA (aOne A t f g) := by
  obtain ⟨⟨hG, hP, hC, hS, hF⟩, hD⟩ := hw
  obtain ⟨p0, p1, p2, p3, p4, p5, p6⟩ := aOne_p (A := A) (t := t) (f := f) (g := g)
  refine ⟨⟨?_, fun q h0 h1 => ?_, fun d h0 h1 => ?_, fun d f' => ?_, fun q h0' h1 h2 h3 => ?_⟩, fun c h0 h1 => ?_⟩
  · unfold WfG at hG ⊢
    simp (disch := omega) only [aOne_r, aOne_n]
    omega
  · rw [aOne_n] at h1
    by_cases e : q = A 30 2
    · subst e
      unfold WfP
      unfold WfG at hG
      rw [p0, p1, p2, p3, p4, p5, p6, aOne_r (by omega), aOne_r (by omega), aOne_r (by omega)]
      omega
    · have hq := hP q h0 (by omega)
      unfold WfP at hq ⊢
      simp (disch := omega) only [aOne_r]
      exact hq
  · rw [aOne_r (by omega)] at h1
    have hq := hC d h0 h1
    unfold WfC at hq ⊢
    simp (disch := omega) only [aOne_r]
    exact hq
  · intro a b e g
    rw [aOne_r (by omega)]
    exact hS d f' a b e g
  · rw [aOne_r (by omega)] at h2; omega
  · rw [aOne_r (by omega)] at h1
    exact WfD_i (fun k k1 k2 => aOne_r (by omega)) (aOne_r (by omega)) (hD c h0 h1)
theorem cnt_more {A B : aS} {n : Nat} (P : Int → Int → Bool) (h : ∀ q : Int, q < n → B 3 q = A 3 q ∧ B 4 q = A 4 q) : cnt (fun p => P (B 3 p) (B 4 p)) (n + 1) = cnt (fun p => P (A 3 p) (A 4 p)) n + (if P (B 3 n) (B 4 n) = true then 1 else 0) := by
  rw [cnt, cnt_eq (f := fun p => P (B 3 p) (B 4 p)) (g := fun p => P (A 3 p) (A 4 p)) (fun i hi => by rw [(h i (by omega)).1, (h i (by omega)).2])]
theorem rs_add {C : mMem} {A : aS} {t f g : Int} (h : RelS C 43 A) (hw : Wf A) : RelS (mUp (mUp (mUp (mUp (mUp (mUp (mUp (mUp (mUp C 45 (A 30 2).toNat (iz t)) 46 (A 30 2).toNat (iz f)) 47 (A 30 2).toNat (iz g)) 48 (A 30 2).toNat (iz 0)) 49 (A 30 2).toNat (iz (-1))) 50 (A 30 2).toNat (iz (-1))) 51 (A 30 2).toNat (iz (-1))) 44 0 (iz (A 30 2 + 1))) 44 1 (iz (aCmg A + 1))) 43 (aOne A t f g) := by
  have hgr : 0 ≤ A 30 2 ∧ A 30 2 ≤ 60 := by
    have hg := hw.1
    unfold WfG at hg
    omega
  obtain ⟨p0, p1, p2, p3, p4, p5, p6⟩ := aOne_p (A := A) (t := t) (f := f) (g := g)
  obtain ⟨a1, a2, a3, a4, aP, aK, a5, a6, a7, a8⟩ := h
  simp only [Nat.reduceAdd] at a1 a2 a3 a4
  have eN : (aOne A t f g 30 2).toNat = (A 30 2).toNat + 1 := by rw [aOne_n]; omega
  have eC : ((A 30 2).toNat : Int) = A 30 2 := by omega
  have hag : ∀ q : Int, q < (A 30 2).toNat → aOne A t f g 3 q = A 3 q ∧ aOne A t f g 4 q = A 4 q := fun q hq => ⟨aOne_r (by omega), aOne_r (by omega)⟩
  have n1 : aCmg (aOne A t f g) = aCmg A + 1 := by
    unfold aCmg
    rw [eN, cnt_more (A := A) (fun x _ => decide (x = 0)) hag, eC, p3]; simp
  have n2 : aLse (aOne A t f g) = aLse A := by
    unfold aLse
    rw [eN, cnt_more (A := A) (fun x y => decide (x = 1 ∧ y = -1)) hag, eC, p3]; simp
  have n3 : aThr (aOne A t f g) = aThr A := by
    unfold aThr
    rw [eN, cnt_more (A := A) (fun x _ => decide (x = 3)) hag, eC, p3]; simp
  have n4 : ∀ c, aRid (aOne A t f g) c = aRid A c := fun c => by
    unfold aRid
    rw [eN, cnt_more (A := A) (fun x y => decide (x = 2 ∧ y = c)) hag, eC, p3]; simp
  have n5 : ∀ c, aGiv (aOne A t f g) c = aGiv A c := fun c => by
    unfold aGiv
    rw [eN, cnt_more (A := A) (fun x y => decide (x = 1 ∧ y = c)) hag, eC, p3]; simp
  refine ⟨?_, ?_, ?_, ?_, fun p q0 q1 => ?_, fun c c0 c1 => ?_, ?_, ?_, ?_, ?_⟩
  · rw [aOne_n]; simp (disch := omega) only [Nat.reduceAdd, up_j, up_at]
  · rw [n1]; simp (disch := omega) only [Nat.reduceAdd, up_at]
  · rw [n2]; simp (disch := omega) only [Nat.reduceAdd, up_j, up_k]; exact a3
  · rw [n3]; simp (disch := omega) only [Nat.reduceAdd, up_j, up_k]; exact a4
  · rw [aOne_n] at q1
    by_cases e : p = A 30 2
    · subst e
      unfold RelP aWt aRd
      rw [p0, p1, p2, p3, p4, p5, p6]
      simp (disch := omega) only [Nat.reduceAdd, up_k, up_at, if_true, and_self]
    · have := aP p q0 (by omega)
      unfold RelP aWt aRd at this ⊢
      simp (disch := omega) only [aOne_r, Nat.reduceAdd, up_k, up_j] at this ⊢
      exact this
  · rw [aOne_r (by omega)] at c1
    have := aK c c0 c1
    unfold RelK at this ⊢
    rw [n4, n5]
    simp (disch := omega) only [aOne_r, Nat.reduceAdd, up_k] at this ⊢
    exact this
  · rw [aOne_r (by omega)]; simp (disch := omega) only [up_k]; exact a5
  · rw [aOne_r (by omega)]; simp (disch := omega) only [up_k]; exact a6
  · rw [aOne_r (by omega)]; simp (disch := omega) only [up_k]; exact a7
  · rw [aOne_r (by omega), aOne_r (by omega), aOne_r (by omega)]; simp (disch := omega) only [up_k]; exact a8

/-! quiet seconds -/
theorem aUp_id {A : aS} {k i v : Int} (h : A k i = v) : aUp A k i v = A := by
  funext a b
  unfold aUp
  split
  · rename_i e; rw [e.1, e.2, h]
  · rfl
theorem aOut_id {A : aS} {c : Int} {n : Nat} (h : ∀ i : Nat, i < n → aLv A c i = false) : aOut A c n = A := by
  induction n with
  | zero => exact aOut_zero
  | succ n ih => rw [aOut_no (h n (by omega)), ih (fun i hi => h i (by omega))]
theorem aIn_id {A : aS} {c r : Int} {n : Nat} (h : ∀ i : Nat, i < n → aEnt A c r i = false) : aIn A c r n = A := by
  induction n with
  | zero => exact aIn_zero
  | succ n ih => rw [aIn_no (h n (by omega)), ih (fun i hi => h i (by omega))]
theorem aNr_neg {A : aS} {c w : Int} {n : Nat} (h : aNr A c w n = -1) (i : Nat) (hi : i < n) (ht : aTg A c i ≠ -1) : (aTg A c i - A 10 c) * w ≤ 0 := by
  induction n with
  | zero => omega
  | succ n ih =>
    rw [aNr] at h
    have key : ∀ d : Int, (if 0 < d ∧ (aNr A c w n = -1 ∨ d < aNr A c w n) then d else aNr A c w n) = -1 → aNr A c w n = -1 ∧ d ≤ 0 := by
      intro d hd
      split at hd <;> omega
    have h := key _ h
    by_cases g : i = n
    · subst g
      rw [if_neg ht] at h
      exact h.2
    · exact ih h.1 (by omega)
theorem aNear_neg {A : aS} {c w : Int} (h : aNear A c w = -1) : aNr A c w (A 30 2).toNat = -1 ∧ (A 32 0 = c → (A 32 2 - A 10 c) * w ≤ 0) := by
  unfold aNear at h
  have key : ∀ d : Int, (if 0 < d ∧ (aNr A c w (A 30 2).toNat = -1 ∨ d < aNr A c w (A 30 2).toNat) then d else aNr A c w (A 30 2).toNat) = -1 → aNr A c w (A 30 2).toNat = -1 ∧ d ≤ 0 := by
    intro d hd
    split at hd <;> omega
  have h := key _ h
  refine ⟨h.1, fun hc => ?_⟩
  rw [if_pos hc] at h
  exact h.2
theorem aFst_neg {A : aS} {c : Int} {n : Nat} (h : aFst A c n = -1) (i : Nat) (hi : i < n) : ¬ (A 3 i = 1 ∧ A 4 i = c ∧ A 1 i = A 10 c) := by
  induction n with
  | zero => omega
  | succ n ih =>
    rw [aFst] at h
    by_cases e : aFst A c n = -1
    · rw [if_pos e] at h
      by_cases g : i = n
      · subst g
        intro hh
        rw [if_pos hh] at h
        omega
      · exact ih e (by omega)
    · rw [if_neg e] at h; exact absurd h e
def aSl (A : aS) (c : Int) : Prop := (∀ p, 0 ≤ p → p < A 30 2 → A 4 p = c → A 3 p ≠ 1 ∧ A 3 p ≠ 2) ∧ A 32 0 ≠ c ∧ A 11 c = 0 ∧ A 12 c = 0 ∧ A 13 c = 0 ∧ (A 15 c = -1 ∨ A 15 c = A 10 c)
theorem aSl_look {A : aS} {c : Int} (h : aSl A c) : aLook A c = A := by
  obtain ⟨hp, hf, h11, h12, h13, h15⟩ := h
  have hl : ∀ i : Nat, i < (A 30 2).toNat → aLv A c i = false := fun i hi => by
    cases e : aLv A c i
    · rfl
    · have := aLv_is e
      have := hp i (by omega) (by omega) this.2.1
      omega
  have hN : aLvN A c = 0 := cnt_no hl
  have hB : aOutN A c = A := aOut_id hl
  have ht : ∀ i : Nat, i < (A 30 2).toNat → aTg A c i = -1 := fun i hi => by
    have := hp i (by omega) (by omega)
    unfold aTg
    repeat' split
    all_goals omega
  have hne : ∀ w, aNear A c w = -1 := fun w => by
    unfold aNear
    rw [if_neg hf, aNr_no _ ht]
    simp
  have hfs : aFst A c (A 30 2).toNat = -1 := aFst_no _ (fun i hi e => by
    have := hp i (by omega) (by omega) e.2
    omega)
  have hwy : aWy A c = 0 := by
    unfold aWy aNew
    rw [if_pos (Or.inl h11), if_pos hfs, if_pos ⟨hne _, hne _⟩, if_pos h15]
  have hT : aTurn A c = A := by unfold aTurn; rw [hwy]; exact aUp_id h11
  have he : ∀ i : Nat, i < (A 30 2).toNat → aEnt A c (aRid A c) i = false := fun i hi => by
    cases e : aEnt A c (aRid A c) i
    · rfl
    · have := aEnt_brd e
      have := hp i (by omega) (by omega) this.2.1
      omega
  have hI : aInN A c = A := aIn_id he
  have hE : aEnN A c = 0 := by unfold aEnN; rw [aEn_eq]; exact cnt_no he
  unfold aLook
  rw [hB, hT, hI, hN, hE]
  have hFn : aFn A c = A := by unfold aFn; rw [if_neg (fun h => hf h.1)]
  have hD : aDo A c (0 + 0) = 0 := by unfold aDo; rw [if_neg (by omega), if_pos h11]
  have hL : aLf A c (0 + 0) = 0 := by unfold aLf; rw [if_neg (by omega), if_pos h11]
  unfold aDone
  rw [hFn, hD, hL, aUp_id h12, aUp_id h13]
theorem look_aSl {A : aS} {c : Int} (hw : Wf A) (hc : 0 ≤ c ∧ c < A 30 1) (h : aLook A c 12 c = 0) : aLook A c = aUp (aUp (aUp A 11 c 0) 12 c 0) 13 c 0 ∧ aSl (aLook A c) c := by
  have hg := hw.1
  unfold WfG at hg
  have hl0 := cnt_rg (aLv A c) (A 30 2).toNat
  have hl0 : 0 ≤ aLvN A c := hl0.1
  have hm := aEn_rg (aTurn (aOutN A c) c) c (aRid (aTurn (aOutN A c) c) c) (aTurn (aOutN A c) c 30 2).toNat
  have hm : 0 ≤ aEnN (aTurn (aOutN A c) c) c := hm.1
  have d12 : aLook A c 12 c = aDo (aInN (aTurn (aOutN A c) c) c) c (aLvN A c + aEnN (aTurn (aOutN A c) c) c) := by
    unfold aLook aDone; rw [aUp_k (by omega), aUp_at]
  rw [d12] at h
  have hdo : ¬ 0 < aLvN A c + aEnN (aTurn (aOutN A c) c) c ∧ ¬ (aInN (aTurn (aOutN A c) c) c 32 0 = c ∧ aInN (aTurn (aOutN A c) c) c 32 2 = aInN (aTurn (aOutN A c) c) c 10 c) ∧ aInN (aTurn (aOutN A c) c) c 11 c = 0 := by
    unfold aDo at h
    split at h
    · omega
    · rename_i e
      split at h
      · rename_i e2; exact ⟨fun g => e (Or.inl g), fun g => e (Or.inr g), e2⟩
      · omega
  obtain ⟨hn, hfun, h11⟩ := hdo
  have hN : aLvN A c = 0 := by omega
  have hE : aEnN (aTurn (aOutN A c) c) c = 0 := by omega
  have hl : ∀ i : Nat, i < (A 30 2).toNat → aLv A c i = false := fun i hi => cnt_0 (by show aLvN A c ≤ 0; omega) i hi
  have hB : aOutN A c = A := aOut_id hl
  rw [hB] at hE hfun h11
  have hI : aInN (aTurn A c) c = aTurn A c := by
    unfold aInN
    apply aIn_id
    intro i hi
    refine cnt_0 (n := (aTurn A c 30 2).toNat) ?_ i hi
    have : aEnN (aTurn A c) c ≤ 0 := by omega
    unfold aEnN at this
    rw [aEn_eq] at this
    exact this
  rw [hI] at hfun h11
  have hwy : aWy A c = 0 := by
    have : aTurn A c 11 c = aWy A c := by unfold aTurn; rw [aUp_at]
    rw [← this]; exact h11
  have hT : aTurn A c = aUp A 11 c 0 := by unfold aTurn; rw [hwy]
  rw [hT] at hfun
  simp (disch := omega) only [aUp_k] at hfun
  have hnew : aNew A c = 0 := by
    unfold aWy at hwy
    split at hwy
    · exact hwy
    · rename_i e; omega
  have hall : aFst A c (A 30 2).toNat = -1 ∧ aNear A c 1 = -1 ∧ aNear A c (-1) = -1 ∧ (A 15 c = -1 ∨ A 15 c = A 10 c) := by
    unfold aNew at hnew
    by_cases e : aFst A c (A 30 2).toNat = -1
    · rw [if_pos e] at hnew
      refine ⟨e, ?_⟩
      split at hnew
      · rename_i e2
        refine ⟨e2.1, e2.2, ?_⟩
        split at hnew
        · assumption
        · split at hnew <;> omega
      · split at hnew <;> omega
    · rw [if_neg e] at hnew
      unfold aWay at hnew
      split at hnew <;> omega
  obtain ⟨hfs, hn1, hn2, h15⟩ := hall
  have z1 := aNear_neg hn1
  have z2 := aNear_neg hn2
  have hlook : aLook A c = aUp (aUp (aUp A 11 c 0) 12 c 0) 13 c 0 := by
    unfold aLook
    rw [hN, hB, hI, hE, hT]
    have hFn : aFn (aUp A 11 c 0) c = aUp A 11 c 0 := by unfold aFn; simp (disch := omega) only [aUp_k]; rw [if_neg hfun]
    have e11 : aUp A 11 c 0 11 c = 0 := aUp_at
    have hfun' : ¬ (aUp A 11 c 0 32 0 = c ∧ aUp A 11 c 0 32 2 = aUp A 11 c 0 10 c) := by simp (disch := omega) only [aUp_k]; exact hfun
    have hD : aDo (aUp A 11 c 0) c (0 + 0) = 0 := by unfold aDo; rw [if_neg (by rintro (g | g); omega; exact hfun' g), if_pos e11]
    have hL : aLf (aUp A 11 c 0) c (0 + 0) = 0 := by unfold aLf; rw [if_neg (by rintro (g | g); omega; exact hfun' g), if_pos e11]
    unfold aDone
    rw [hFn, hD, hL]
  refine ⟨hlook, ?_⟩
  rw [hlook]
  refine ⟨fun p p0 p1 p2 => ?_, ?_, ?_, ?_, ?_, ?_⟩
  · simp (disch := omega) only [aUp_k] at p1 p2 ⊢
    have hp := hw.2.1 p p0 p1
    unfold WfP at hp
    have hpr : 0 ≤ A 1 p ∧ 0 ≤ A 2 p := by omega
    clear hp hg
    obtain ⟨i, rfl⟩ : ∃ m : Nat, p = m := ⟨p.toNat, by omega⟩
    have hi : i < (A 30 2).toNat := by omega
    constructor
    · intro e
      have et : aTg A c i = A 1 i := by unfold aTg; rw [if_pos p2, if_neg (by omega), if_pos e]
      have y1 := aNr_neg z1.1 i hi (by omega)
      have y2 := aNr_neg z2.1 i hi (by omega)
      exact aFst_neg hfs i hi ⟨e, p2, by omega⟩
    · intro e
      have et : aTg A c i = A 2 i := by unfold aTg; rw [if_pos p2, if_pos e]
      have y1 := aNr_neg z1.1 i hi (by omega)
      have y2 := aNr_neg z2.1 i hi (by omega)
      have y3 := hl i hi
      simp only [aLv, decide_eq_false_iff_not] at y3
      omega
  · simp (disch := omega) only [aUp_k]
    intro e
    exact hfun ⟨e, by have := z1.2 e; have := z2.2 e; omega⟩
  · rw [aUp_k (by omega), aUp_k (by omega), aUp_at]
  · rw [aUp_k (by omega), aUp_at]
  · rw [aUp_at]
  · simp (disch := omega) only [aUp_k]; exact h15
theorem aSl_i {A B : aS} {c : Int} (h : aSl A c) (h2 : B 30 2 = A 30 2) (h3 : ∀ p, 0 ≤ p → p < A 30 2 → A 4 p = c → B 3 p = A 3 p) (h4 : ∀ p, B 4 p = A 4 p) (hf : B 32 0 = A 32 0 ∨ B 32 0 ≠ c) (hk : ∀ k, 10 ≤ k → k < 16 → B k c = A k c) : aSl B c := by
  obtain ⟨hp, hf1, h11, h12, h13, h15⟩ := h
  refine ⟨fun p p0 p1 p2 => ?_, ?_, ?_, ?_, ?_, ?_⟩
  · rw [h2] at p1
    rw [h4] at p2
    rw [h3 p p0 p1 p2]
    exact hp p p0 p1 p2
  · rcases hf with e | e
    · rw [e]; exact hf1
    · exact e
  · rw [hk _ (by omega) (by omega)]; exact h11
  · rw [hk _ (by omega) (by omega)]; exact h12
  · rw [hk _ (by omega) (by omega)]; exact h13
  · rw [hk _ (by omega) (by omega), hk _ (by omega) (by omega)]; exact h15
/-! other cars -/
theorem aLook_by {A : aS} {d p : Int} (h : A 4 p ≠ d) : aLook A d 3 p = A 3 p := by
  have h4 : aTurn (aOutN A d) d 4 p = A 4 p := by unfold aTurn aOutN; rw [aUp_k (by omega), aOut_row (by omega)]
  unfold aLook aInN
  rw [aDone_r (by omega)]
  unfold aIn
  rw [if_neg (fun g => h (by rw [← h4]; exact (aEnt_brd g.2.2.2).2.1)), if_neg (by omega)]
  unfold aTurn aOutN
  rw [aUp_k (by omega)]
  unfold aOut
  rw [if_neg (fun g => h (aLv_is g.2.2.2).2.1)]
theorem aLook_fun {A : aS} {d c : Int} (h : c ≠ d) (hc : 0 ≤ c) : aLook A d 32 0 = A 32 0 ∨ aLook A d 32 0 ≠ c := by
  unfold aLook aDone
  rw [aUp_k (by omega), aUp_k (by omega)]
  unfold aFn
  split
  · rw [aUp_at]; right; omega
  · unfold aInN
    rw [aIn_320]
    split
    · right; omega
    · left; unfold aTurn aOutN; rw [aUp_k (by omega), aOut_row (by omega)]
theorem aCar_by {A : aS} {d p : Int} (h : A 4 p ≠ d) : aCar A d 3 p = A 3 p := by
  unfold aCar
  split
  · rfl
  split
  · exact aLook_by h
  split
  · rw [aUp_k (by omega)]
  · rw [aLook_by (by rw [aMv_r (by omega)]; exact h), aMv_r (by omega)]
theorem aCar_fun {A : aS} {d c : Int} (h : c ≠ d) (hc : 0 ≤ c) : aCar A d 32 0 = A 32 0 ∨ aCar A d 32 0 ≠ c := by
  unfold aCar
  split
  · left; rfl
  split
  · exact aLook_fun h hc
  split
  · left; rw [aUp_k (by omega)]
  · have := aLook_fun (A := aMv A d) h hc
    rw [aMv_r (by omega)] at this
    exact this
theorem aSl_car {A : aS} {c d : Int} (h : aSl A c) (hd : c ≠ d) (hc : 0 ≤ c) : aSl (aCar A d) c :=
  aSl_i h (aCar_r (by omega)) (fun p p0 p1 p2 => aCar_by (by omega)) (fun p => aCar_r (by omega)) (aCar_fun hd hc) (fun k k1 k2 => aCar_r (by omega))
theorem car_aSl {A : aS} {c : Int} (hw : WfA A) (hc : 0 ≤ c ∧ c < A 30 1) (h14 : A 14 c ≠ 1) (h : aCar A c 12 c = 0) : aSl (aCar A c) c := by
  unfold aCar at h ⊢
  rw [if_neg h14] at h ⊢
  split
  · rename_i e
    rw [if_pos e] at h
    exact (look_aSl hw.1 hc h).2
  · rename_i e
    rw [if_neg e] at h
    split
    · rename_i e2
      rw [if_pos e2, aUp_k (by omega)] at h
      omega
    · rename_i e2
      rw [if_neg e2] at h
      have w := Wf_mv hw.1 (hw.2 c hc.1 hc.2) hc
      have q : aMv A c 30 1 = A 30 1 := aMv_r (by omega)
      exact (look_aSl w (by omega) h).2
theorem cars_aSl {A : aS} (hw : WfA A) (n : Nat) (hn : n ≤ (A 30 1).toNat) (c : Int) (hc : 0 ≤ c ∧ c < n) (h14 : A 14 c ≠ 1) (h : aCars A n 12 c = 0) : aSl (aCars A n) c := by
  induction n with
  | zero => omega
  | succ n ih =>
    rw [aCars] at h ⊢
    have w := WfA_cars hw n (by omega)
    by_cases e : c = n
    · subst e
      exact car_aSl w (by rw [aCars_r (by omega)]; omega) (by rw [aCars_r (by omega)]; exact h14) h
    · rw [aCar_r (by omega)] at h
      exact aSl_car (ih (by omega) (by omega) h) e hc.1
theorem sec_aSl {ch : aS → Int → Int} {A : aS} (hch : ChR ch) (hw : WfA A) (c : Int) (hc : 0 ≤ c ∧ c < A 30 1) (h14 : A 14 c ≠ 1) (h : aSec ch A 12 c = 0) : aSl (aSec ch A) c := by
  unfold aSec at h ⊢
  rw [aUp_k (by omega)] at h
  have w1 := WfA_come hw (A 30 2).toNat
  have w2 := WfA_gv hch w1 (A 30 2).toNat (by rw [aCome_r (by omega)]; omega)
  have := cars_aSl w2 (A 30 1).toNat (by rw [aGv_r (by omega), aCome_r (by omega)]; omega) c (by omega) (by rw [aGv_r (by omega), aCome_r (by omega)]; exact h14) h
  exact aSl_i this (aUp_i (by omega)) (fun p _ _ _ => aUp_k (by omega)) (fun p => aUp_k (by omega)) (Or.inl (aUp_k (by omega))) (fun k k1 k2 => aUp_k (by omega))
/-- cars that only count -/
def aDl (A : aS) (n : Nat) : aS := fun k c => if k = 13 ∧ 0 ≤ c ∧ c < n ∧ A 14 c ≠ 1 ∧ A 12 c ≠ 0 then A 13 c - 1 else A k c
theorem aDl_r {A : aS} {n : Nat} {k c : Int} (h : k ≠ 13) : aDl A n k c = A k c := by unfold aDl; rw [if_neg (by omega)]
theorem cars_aDl {A : aS} (hw : WfA A) (n : Nat) (hn : n ≤ (A 30 1).toNat) (h : aStirC A n = false) : aCars A n = aDl A n := by
  induction n with
  | zero =>
    funext k c
    unfold aDl
    rw [if_neg (by omega)]; rfl
  | succ n ih =>
    rw [aStirC, Bool.or_eq_false_iff] at h
    have hi := ih (by omega) h.1
    have w := WfA_cars hw n (by omega)
    have h2 := h.2
    rw [aCars]
    have hd := w.2 n (by omega) (by rw [aCars_r (by omega)]; omega)
    have q14 : aCars A n 14 n = A 14 n := aCars_r (by omega)
    have q12 : aCars A n 12 n = A 12 n := aCars_r (by omega)
    have q13 : aCars A n 13 n = A 13 n := aCars_r (by omega)
    unfold WfD at hd
    have ext : ∀ B : aS, (∀ k c : Int, ¬ (k = 13 ∧ c = n) → B k c = aDl A n k c) → B 13 n = aDl A (n + 1) 13 n → B = aDl A (n + 1) := by
      intro B b1 b2
      funext k c
      by_cases e : k = 13 ∧ c = n
      · rw [e.1, e.2]; exact b2
      · rw [b1 k c e]
        unfold aDl
        by_cases e2 : k = 13
        · have : (c < ((n + 1 : Nat) : Int)) = (c < n) := by apply propext; omega
          simp only [this]
        · rw [if_neg (by omega), if_neg (by omega)]
    simp only [aStr, decide_eq_false_iff_not] at h2
    unfold aCar
    by_cases e1 : A 14 n = 1
    · rw [if_pos (by omega)]
      refine ext _ (fun k c _ => by rw [hi]) ?_
      rw [q13]; unfold aDl; rw [if_neg (by omega)]
    · rw [if_neg (by omega)]
      by_cases e2 : A 12 n = 0
      · rw [if_pos (by omega)]
        rw [if_pos (by omega)] at h2
        have h3 : aLook (aCars A n) n 12 n = 0 := by
          by_cases e3 : aLook (aCars A n) n 12 n = 0
          · exact e3
          · exact absurd ⟨by omega, e3⟩ h2
        have hlk := (look_aSl w.1 (c := n) (by rw [aCars_r (by omega)]; omega) h3).1
        rw [aUp_id (k := 11) (by omega), aUp_id (k := 12) (by omega), aUp_id (k := 13) (by omega)] at hlk
        rw [hlk]
        refine ext _ (fun k c _ => by rw [hi]) ?_
        rw [q13]; unfold aDl; rw [if_neg (by omega)]
      · rw [if_neg (by omega)]
        rw [if_neg (by omega)] at h2
        have h3 : 1 < aCars A n 13 n := by
          by_cases e3 : 1 < aCars A n 13 n
          · exact e3
          · exact absurd ⟨by omega, e3⟩ h2
        rw [if_pos h3]
        refine ext _ (fun k c e => by rw [← hi]; unfold aUp; rw [if_neg e]) ?_
        rw [aUp_at, q13]; unfold aDl; rw [if_pos (by omega)]

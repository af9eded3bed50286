/-! best: a group with one car -/
noncomputable section
def ev0 : aEv := fun _ => some (iz 0)
section
variable {A B : aS} {c : Int} {G : Int → Bool} {t : Int → Int}
theorem one_car {q : Int} (hB : ∀ d, 0 ≤ d → d < B 30 1 → d ≠ c → B 14 d = 1) (hc : 0 ≤ c) (h14 : B 14 c ≠ 1) (s1 : B (40 + c) (B 1 q) = 1) (s2 : B (40 + c) (B 2 q) = 1) (n : Nat) (hn : (n : Int) ≤ B 30 1) : (aChs ev0 B q n).1 = if c < n then c else -1 := by
  induction n with
  | zero => rw [if_neg (by omega)]; rfl
  | succ n ih =>
    have i := ih (by omega)
    rw [aChs]
    by_cases e : (n : Int) = c
    · rw [e, aAsk_take (x := iz 0) rfl h14 s1 s2 (by rw [i, if_neg (by omega)]; simp), if_pos (by omega)]
    · rw [aAsk_no (Or.inl (hB n (by omega) (by omega) e)), i]
      by_cases z : c < n
      · rw [if_pos z, if_pos (by omega)]
      · rw [if_neg z, if_neg (by omega)]
def VInv (A B : aS) (c : Int) (G : Int → Bool) (t : Int → Int) : Prop :=
  View A B c G ∧ (∀ q : Nat, (q : Int) < A 30 2 → A 4 q = -1 ∨ A 4 q = t q) ∧ (∀ q : Nat, (q : Int) < A 30 2 → (0 ≤ t q ∧ t q < A 30 1) ∧ G q = decide (t q = c)) ∧
  B 30 1 = A 30 1 ∧ c < A 30 1 ∧ 0 ≤ A 30 1 ∧ (∀ d, 0 ≤ d → d < B 30 1 → d ≠ c → B 14 d = 1) ∧ B 14 c ≠ 1 ∧ (∀ q : Nat, (q : Int) < B 30 2 → B (40 + c) (B 1 q) = 1 ∧ B (40 + c) (B 2 q) = 1)
theorem v_sec (h : VInv A B c G t) : VInv (aSec (aChT t) A) (aSec (aCh1 ev0) B) c G t := by
  obtain ⟨hv, h4, ht, hk, hc, hk0, hB, h14, hs⟩ := h
  have hc0 := hv.1
  have v1 := v_come hv
  have eA : aCome A (A 30 2).toNat 30 2 = A 30 2 := aCome_r (by omega)
  have eB : aCome B (B 30 2).toNat 30 2 = B 30 2 := aCome_r (by omega)
  have chA : ∀ (X : aS) (q : Nat), (q : Int) < A 30 2 → X 30 1 = A 30 1 → aChT t X q = t q := fun X q hq hX => by
    have := (ht q hq).1
    unfold aChT
    rw [if_pos (by omega)]
  have v2 : View (aGv (aChT t) (aCome A (A 30 2).toNat) (A 30 2).toNat) (aGv (aCh1 ev0) (aCome B (B 30 2).toNat) (B 30 2).toNat) c G := by
    have := v_gv (ca := aChT t) (cb := aCh1 ev0) v1 (fun q hq _ _ => by
      rw [eA] at hq
      rw [chA _ q hq (by rw [aGv_r (by omega), aCome_r (by omega)])]
      have := (ht q hq).2
      refine ⟨fun g => ?_, fun g => ?_⟩
      · rw [this] at g; exact of_decide_eq_true g
      · rw [this] at g; exact of_decide_eq_false g) (fun q hq _ _ => by
      rw [eB] at hq
      have r : ∀ k p, k ≠ 3 → k ≠ 4 → aGv (aCh1 ev0) (aCome B (B 30 2).toNat) q k p = B k p := fun k p a b => by rw [aGv_r b, aCome_r a]
      have s := hs q hq
      generalize aGv (aCh1 ev0) (aCome B (B 30 2).toNat) q = X at r ⊢
      show (aChs ev0 X q (X 30 1).toNat).1 = c
      rw [one_car (c := c) (fun d d0 d1 d2 => by rw [r 30 1 (by omega) (by omega)] at d1; rw [r 14 d (by omega) (by omega)]; exact hB d d0 d1 d2) hc0 (by rw [r 14 c (by omega) (by omega)]; exact h14) (by rw [r 1 q (by omega) (by omega), r _ _ (by omega) (by omega)]; exact s.1) (by rw [r 2 q (by omega) (by omega), r _ _ (by omega) (by omega)]; exact s.2) _ (by rw [r 30 1 (by omega) (by omega)]; omega), if_pos]
      rw [r 30 1 (by omega) (by omega)]; omega)
    rw [eA, eB] at this
    exact this
  have g4 : ∀ q : Nat, (q : Int) < A 30 2 → aGv (aChT t) (aCome A (A 30 2).toNat) (A 30 2).toNat 4 q = -1 ∨ aGv (aChT t) (aCome A (A 30 2).toNat) (A 30 2).toNat 4 q = t q := fun q hq => by
    rw [aGv_4 q (by omega)]
    split
    · rw [chA _ q hq (by rw [aGv_r (by omega), aCome_r (by omega)])]; exact Or.inr rfl
    · rw [aCome_r (by omega)]; exact h4 q hq
  have rB : ∀ k p, k ≠ 3 → k ≠ 4 → aGv (aCh1 ev0) (aCome B (B 30 2).toNat) (B 30 2).toNat k p = B k p := fun k p a b => by rw [aGv_r b, aCome_r a]
  have v3 : View (aCars (aGv (aChT t) (aCome A (A 30 2).toNat) (A 30 2).toNat) (A 30 1).toNat) (aCars (aGv (aCh1 ev0) (aCome B (B 30 2).toNat) (B 30 2).toNat) (B 30 1).toNat) c G := by
    rw [hk]
    refine v_cars v2 (fun d d0 d1 d2 => ?_) (fun q hq g => ?_) _ (by rw [rB 30 1 (by omega) (by omega), hk]; omega)
    · rw [rB 30 1 (by omega) (by omega)] at d1
      rw [rB 14 d (by omega) (by omega)]; exact hB d d0 d1 d2
    · rw [aGv_r (by omega), eA] at hq
      rcases g4 q hq with z | z
      · exact Or.inl z
      · rw [(ht q hq).2] at g
        have := of_decide_eq_true g
        right; rw [z]; exact this
  have v4 := v_now v3
  rw [aCars_r (by omega), aCars_r (by omega), aGv_r (by omega), aGv_r (by omega), aCome_r (by omega), aCome_r (by omega)] at v4
  refine ⟨v4, fun q hq => ?_, fun q hq => ?_, ?_, ?_, ?_, fun d d0 d1 d2 => ?_, ?_, fun q hq => ?_⟩
  · rw [aSec_r (by omega)] at hq
    have := g4 q hq
    unfold aSec
    rw [aUp_k (by omega), aCars_r (by omega)]; exact this
  · rw [aSec_r (by omega)] at hq
    rw [aSec_r (by omega)]; exact ht q hq
  · rw [aSec_r (by omega), aSec_r (by omega)]; exact hk
  · rw [aSec_r (by omega)]; exact hc
  · rw [aSec_r (by omega)]; exact hk0
  · rw [aSec_r (by omega)] at d1
    rw [aSec_r (by omega)]; exact hB d d0 d1 d2
  · rw [aSec_r (by omega)]; exact h14
  · rw [aSec_r (by omega)] at hq
    rw [aSec_r (p := (q : Int)) (k := 1) (by omega), aSec_r (p := (q : Int)) (k := 2) (by omega), aSec_r (by omega), aSec_r (by omega)]
    exact hs q hq
theorem v_it (h : VInv A B c G t) (j : Nat) : VInv (aIt (aChT t) A j) (aIt (aCh1 ev0) B j) c G t := by
  induction j with
  | zero => exact h
  | succ j ih => rw [aIt, aIt]; exact v_sec ih
def aOvG (A : aS) (G : Int → Bool) : Nat → Int
  | 0 => 0
  | n + 1 => aOvG A G n + (if G n = true then A 6 n - A 0 n else 0)
theorem v_ov (h : View A B c G) (n : Nat) (hn : (n : Int) ≤ A 30 2) : aOvG A G n = aOv B (-1) (gK G n) := by
  induction n with
  | zero => rfl
  | succ n ih =>
    have i := ih (by omega)
    rw [aOvG, i]
    cases g : G n
    · rw [gK_f g, if_neg (by simp)]; omega
    · have r := h.2.2.2.2.2.2.2.2.2.1 n (by omega) g
      rw [gK_t g, aOv, if_pos rfl, if_neg (by omega), r 6 (by omega) (by omega), r 0 (by omega) (by omega)]
theorem v_all (h : View A B c G) : allT B ↔ ∀ q : Nat, (q : Int) < A 30 2 → G q = true → A 3 q = 3 := by
  have h2 := h.2.1
  constructor
  · intro hb q hq g
    have r := h.2.2.2.2.2.2.2.2.2.1 q hq g
    have gl := gK_lt (n := (A 30 2).toNat) (by omega) g
    rw [← r 3 (by omega) (by omega)]
    exact hb _ (by omega) (by rw [h.2.2.1]; omega)
  · intro ha p p0 p1
    rw [h.2.2.1] at p1
    obtain ⟨q, q1, q2, q3⟩ := gK_on (G := G) (n := (A 30 2).toNat) (j := p.toNat) (by omega)
    have r := h.2.2.2.2.2.2.2.2.2.1 q (by omega) q2
    have := r 3 (by omega) (by omega)
    rw [q3, show ((p.toNat : Nat) : Int) = p by omega] at this
    rw [this]
    exact ha q (by omega) q2
def sumC (f : Nat → Int) : Nat → Int
  | 0 => 0
  | k + 1 => sumC f k + f k
theorem sumC_eq {f g : Nat → Int} {K : Nat} (h : ∀ k, k < K → f k = g k) : sumC f K = sumC g K := by
  induction K with
  | zero => rfl
  | succ K ih => rw [sumC, sumC, ih (fun k hk => h k (by omega)), h K (by omega)]
theorem sumC_add {f g : Nat → Int} {K : Nat} : sumC (fun k => f k + g k) K = sumC f K + sumC g K := by
  induction K with
  | zero => rfl
  | succ K ih => rw [sumC, sumC, sumC, ih]; omega
theorem sumC_one {x d : Int} {K : Nat} (h : 0 ≤ x) : sumC (fun k => if decide (x = (k : Int)) = true then d else 0) K = if x < K then d else 0 := by
  induction K with
  | zero => rw [if_neg (by omega)]; rfl
  | succ K ih =>
    rw [sumC, ih]
    by_cases e : x = (K : Int)
    · rw [if_neg (by omega), if_pos (decide_eq_true e), if_pos (by omega)]; omega
    · have e' : ¬ (decide (x = (K : Int)) = true) := by simp [e]
      rw [if_neg e']
      by_cases z : x < K
      · rw [if_pos z, if_pos (by omega)]; omega
      · rw [if_neg z, if_neg (by omega)]; rfl
theorem sum_groups {K : Nat} (n : Nat) (ht : ∀ q : Nat, q < n → 0 ≤ t q ∧ t q < K) : aOv A (-1) n = sumC (fun k => aOvG A (fun p => decide (t p = (k : Int))) n) K := by
  induction n with
  | zero =>
    have : ∀ K, sumC (fun k => aOvG A (fun p => decide (t p = (k : Int))) 0) K = 0 := fun K => by
      induction K with
      | zero => rfl
      | succ K ih => rw [sumC, ih]; rfl
    rw [this]; rfl
  | succ n ih =>
    have i := ih (fun q hq => ht q (by omega))
    have e : ∀ k, aOvG A (fun p => decide (t p = (k : Int))) (n + 1) = aOvG A (fun p => decide (t p = (k : Int))) n + (if decide (t n = (k : Int)) = true then A 6 n - A 0 n else 0) := fun k => rfl
    have hn := ht n (by omega)
    rw [aOv, if_neg (by omega), i, sumC_eq (fun k _ => e k), sumC_add, sumC_one hn.1, if_pos hn.2]
theorem aOvG_eq {G' : Int → Bool} {n : Nat} (h : ∀ q : Nat, q < n → G q = G' q) : aOvG A G n = aOvG A G' n := by
  induction n with
  | zero => rfl
  | succ n ih => rw [aOvG, aOvG, ih (fun q hq => h q (by omega)), h n (by omega)]
/-- all together come to what the groups come to -/
theorem best_val {K n : Nat} {Bs : Nat → aS} {Gs : Nat → Int → Bool} (hn : (n : Int) = A 30 2) (hK : (K : Int) = A 30 1) (h : ∀ k : Nat, k < K → VInv A (Bs k) k (Gs k) t) (ht : ∀ q : Nat, q < n → 0 ≤ t q ∧ t q < K) (M : Nat) :
    (allT (aIt (aChT t) A M) ↔ ∀ k, k < K → allT (aIt (aCh1 ev0) (Bs k) M)) ∧ aOv (aIt (aChT t) A M) (-1) n = sumC (fun k => aOv (aIt (aCh1 ev0) (Bs k) M) (-1) (gK (Gs k) n)) K := by
  have N : aIt (aChT t) A M 30 2 = A 30 2 := aIt_r (by omega)
  have v : ∀ k : Nat, k < K → VInv (aIt (aChT t) A M) (aIt (aCh1 ev0) (Bs k) M) k (Gs k) t := fun k hk => v_it (h k hk) M
  constructor
  · constructor
    · intro ha k hk
      rw [v_all (v k hk).1]
      exact fun q hq _ => ha q (by omega) hq
    · intro hb p p0 p1
      have p1' := p1
      rw [N] at p1
      have tp := ht p.toNat (by omega)
      rw [show ((p.toNat : Nat) : Int) = p by omega] at tp
      have hk : (t p).toNat < K := by omega
      have := (v_all (v _ hk).1).mp (hb _ hk) p.toNat (by omega)
      rw [show ((p.toNat : Nat) : Int) = p by omega] at this
      apply this
      have := ((h _ hk).2.2.1 p.toNat (by omega)).2
      rw [show ((p.toNat : Nat) : Int) = p by omega] at this
      rw [this]
      exact decide_eq_true (by omega)
  · rw [sum_groups n ht]
    apply sumC_eq
    intro k hk
    rw [← v_ov (v k hk).1 n (by rw [N]; omega)]
    apply aOvG_eq
    intro q hq
    exact (((h k hk).2.2.1 q (by omega)).2).symm
end
end

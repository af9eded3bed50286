/-! what a car leaves alone; who is there stays there -/
section
variable {A B : aS} {c k p : Int} {G : Int → Bool}
theorem aLook_oth (h : A 4 p ≠ c ∨ A 3 p = 3) (hk : k = 3 ∨ k = 5 ∨ k = 6) : aLook A c k p = A k p := by
  have l : aLv A c p = false := by unfold aLv; exact decide_eq_false (by omega)
  have o : ∀ r, aTurn (aOutN A c) c r p = if r = 11 ∧ p = c then aWy (aOutN A c) c else A r p := by
    intro r
    unfold aTurn aUp
    split
    · rfl
    · unfold aOutN aOut
      rw [if_neg (by rw [l]; simp)]
  have o3 : aTurn (aOutN A c) c 3 p = A 3 p := by rw [o, if_neg (by omega)]
  have o4 : aTurn (aOutN A c) c 4 p = A 4 p := by rw [o, if_neg (by omega)]
  have e : ∀ r, aEnt (aTurn (aOutN A c) c) c r p = false := by
    intro r
    unfold aEnt aBrd
    rw [o3, o4]
    apply decide_eq_false
    rintro ⟨z, _⟩
    have := of_decide_eq_true z
    omega
  unfold aLook aInN
  rw [aDone_r (by omega)]
  unfold aIn
  rw [if_neg (by rw [e]; simp), if_neg (by omega), o, if_neg (by omega)]
theorem aCar_oth (h : A 4 p ≠ c ∨ A 3 p = 3) (hk : k = 3 ∨ k = 5 ∨ k = 6) : aCar A c k p = A k p := by
  unfold aCar
  split
  · rfl
  split
  · exact aLook_oth h hk
  split
  · unfold aUp; rw [if_neg (by omega)]
  · rw [aLook_oth (by rw [aMv_r (by omega), aMv_r (by omega)]; exact h) hk, aMv_r (by omega)]
theorem aCars_there (h : A 3 p = 3) (n : Nat) : aCars A n 3 p = 3 ∧ aCars A n 6 p = A 6 p := by
  induction n with
  | zero => exact ⟨h, rfl⟩
  | succ n ih =>
    rw [aCars, aCar_oth (Or.inr ih.1) (by omega), aCar_oth (Or.inr ih.1) (by omega)]
    exact ih
theorem there_sec {ch : aS → Int → Int} (h : A 3 p = 3) : aSec ch A 3 p = 3 ∧ aSec ch A 6 p = A 6 p := by
  have e3 : aGv ch (aCome A (A 30 2).toNat) (A 30 2).toNat 3 p = 3 := by
    rw [aGv_r (by omega)]
    unfold aCome
    rw [if_neg (by omega)]; exact h
  have e6 : aGv ch (aCome A (A 30 2).toNat) (A 30 2).toNat 6 p = A 6 p := by
    rw [aGv_r (by omega), aCome_r (by omega)]
  unfold aSec
  rw [aUp_k (by omega), aUp_k (by omega)]
  have := aCars_there e3 (A 30 1).toNat
  rw [e6] at this
  exact this
theorem there_it {ch : aS → Int → Int} (h : A 3 p = 3) (n : Nat) : aIt ch A n 3 p = 3 ∧ aIt ch A n 6 p = A 6 p := by
  induction n with
  | zero => exact ⟨h, rfl⟩
  | succ n ih =>
    have := there_sec (ch := ch) ih.1
    rw [aIt]
    exact ⟨this.1, this.2.trans ih.2⟩
def allT (A : aS) : Prop := ∀ p, 0 ≤ p → p < A 30 2 → A 3 p = 3
theorem cnt_all {f : Int → Bool} {n : Nat} (h : ∀ i : Nat, i < n → f i = true) : cnt f n = n := by
  induction n with
  | zero => rfl
  | succ n ih => rw [cnt, ih (fun i hi => h i (by omega)), if_pos (h n (by omega))]; omega
theorem allT_iff (hn : 0 ≤ A 30 2) : ¬ aThr A < A 30 2 ↔ allT A := by
  constructor
  · intro h p p0 p1
    exact all_there h hn ⟨p0, p1⟩
  · intro h
    unfold aThr
    rw [cnt_all (fun i hi => decide_eq_true (h i (by omega) (by omega)))]
    omega
theorem aOv_eq {b : Int} {n : Nat} (h : ∀ i : Nat, i < n → A 6 i = B 6 i ∧ A 0 i = B 0 i) : aOv A b n = aOv B b n := by
  induction n with
  | zero => rfl
  | succ n ih => rw [aOv, aOv, ih (fun i hi => h i (by omega)), (h n (by omega)).1, (h n (by omega)).2]
theorem end_at {ch : aS → Int → Int} {M g : Nat} (hn : 0 ≤ A 30 2) (he : aEnd ch A M g) : (¬ aThr (aIt ch A g) < A 30 2 ↔ allT (aIt ch A M)) ∧ (allT (aIt ch A M) → aOv (aIt ch A g) (-1) (A 30 2).toNat = aOv (aIt ch A M) (-1) (A 30 2).toNat) := by
  obtain ⟨h1, h2, h3⟩ := he
  have N : ∀ j, aIt ch A j 30 2 = A 30 2 := fun j => aIt_r (by omega)
  have e : aIt ch A M = aIt ch (aIt ch A g) (M - g) := by rw [aIt_add, show g + (M - g) = M by omega]
  have k1 : ¬ aThr (aIt ch A g) < A 30 2 → allT (aIt ch A g) := fun z => (allT_iff (by rw [N]; exact hn)).mp (by rw [N]; exact z)
  have k2 : allT (aIt ch A g) → allT (aIt ch A M) := by
    intro z p p0 p1
    rw [N] at p1
    rw [e]
    exact (there_it (z p p0 (by rw [N]; exact p1)) _).1
  have k3 : allT (aIt ch A M) → ¬ aThr (aIt ch A g) < A 30 2 := by
    intro z
    rcases h3 with h3 | h3
    · subst h3
      have := (allT_iff (by rw [N]; exact hn)).mpr z
      rw [N] at this; exact this
    · exact h3
  refine ⟨⟨fun z => k2 (k1 z), k3⟩, fun z => ?_⟩
  apply aOv_eq
  intro i hi
  have zi := k1 (k3 z) i (by omega) (by rw [N]; omega)
  constructor
  · rw [e, (there_it zi _).2]
  · rw [aIt_r (by omega), aIt_r (by omega)]
/-! a view goes on over a second -/
theorem v_come (h : View A B c G) : View (aCome A (A 30 2).toNat) (aCome B (B 30 2).toNat) c G := by
  have h2 := h.2.1
  refine v_mk h (aCome_r (by omega)) (aCome_r (by omega)) (by rw [aCome_r (by omega), aCome_r (by omega)]; exact h.2.2.2.1) (fun k k0 k1 => by rw [aCome_r (by omega), aCome_r (by omega)]; exact h.2.2.2.2.1 k k0 k1) (by rw [aCome_r (by omega)]; exact h.2.2.2.2.2.1) (by rw [aCome_r (by omega)]; exact h.2.2.2.2.2.2.1) (by rw [aCome_r (by omega)]; exact h.2.2.2.2.2.2.2.1) (by rw [aCome_r (by omega)]; exact h.2.2.2.2.2.2.2.2.1) (fun p hp g k k0 k1 => ?_) (fun p hp g => by rw [aCome_r (by omega)]; exact h.2.2.2.2.2.2.2.2.2.2 p hp g)
  have r := h.2.2.2.2.2.2.2.2.2.1 p hp g
  have gl := gK_lt (n := (A 30 2).toNat) (by omega) g
  have tn := v_tn h
  by_cases e3 : k = 3
  · subst e3
    rw [aCome_3 (by omega), aCome_3 (by omega), r 3 (by omega) (by omega), r 0 (by omega) (by omega), h.2.2.2.1]
  · rw [aCome_r e3, aCome_r e3, r k k0 k1]
theorem aGv_4 {ch : aS → Int → Int} {n : Nat} (q : Nat) (hq : q < n) : aGv ch A n 4 q = if A 3 q = 1 ∧ A 4 q = -1 then ch (aGv ch A q) q else A 4 q := by
  induction n with
  | zero => omega
  | succ n ih =>
    by_cases e : q = n
    · subst e
      rw [aGv, aGv_r (by omega), aGv_ge (by omega)]
      split
      · rw [aUp_at]
      · rw [aGv_ge (by omega)]
    · rw [aGv]
      split
      · rw [aUp_i (by omega)]; exact ih (by omega)
      · exact ih (by omega)
theorem v_gv {ca cb : aS → Int → Int} (h : View A B c G) (h1 : ∀ q : Nat, (q : Int) < A 30 2 → A 3 q = 1 → A 4 q = -1 → (G q = true → ca (aGv ca A q) q = c) ∧ (G q = false → ca (aGv ca A q) q ≠ c)) (h2 : ∀ q : Nat, (q : Int) < B 30 2 → B 3 q = 1 → B 4 q = -1 → cb (aGv cb B q) q = c) : View (aGv ca A (A 30 2).toNat) (aGv cb B (B 30 2).toNat) c G := by
  have h20 := h.2.1
  refine v_mk h (aGv_r (by omega)) (aGv_r (by omega)) (by rw [aGv_r (by omega), aGv_r (by omega)]; exact h.2.2.2.1) (fun k k0 k1 => by rw [aGv_r (by omega), aGv_r (by omega)]; exact h.2.2.2.2.1 k k0 k1) (by rw [aGv_r (by omega)]; exact h.2.2.2.2.2.1) (by rw [aGv_r (by omega)]; exact h.2.2.2.2.2.2.1) (by rw [aGv_r (by omega)]; exact h.2.2.2.2.2.2.2.1) (by rw [aGv_r (by omega)]; exact h.2.2.2.2.2.2.2.2.1) (fun p hp g k k0 k1 => ?_) (fun p hp g => ?_)
  · have r := h.2.2.2.2.2.2.2.2.2.1 p hp g
    have gl := gK_lt (n := (A 30 2).toNat) (by omega) g
    have tn := v_tn h
    by_cases e4 : k = 4
    · subst e4
      rw [aGv_4 (gK G p) (by omega), aGv_4 p (by omega), r 3 (by omega) (by omega), r 4 (by omega) (by omega)]
      by_cases z : A 3 p = 1 ∧ A 4 p = -1
      · rw [if_pos z, if_pos z, (h1 p hp z.1 z.2).1 g, h2 (gK G p) (by omega) (by rw [r 3 (by omega) (by omega)]; exact z.1) (by rw [r 4 (by omega) (by omega)]; exact z.2)]
      · rw [if_neg z, if_neg z]
    · rw [aGv_r e4, aGv_r e4, r k k0 k1]
  · rw [aGv_4 p (by omega)]
    split
    · rename_i z
      exact (h1 p hp z.1 z.2).2 g
    · exact h.2.2.2.2.2.2.2.2.2.2 p hp g
theorem v_oth {d : Int} (h : View A B c G) (hd : d ≠ c) (h4 : ∀ q : Nat, (q : Int) < A 30 2 → G q = true → A 4 q ≠ d) : View (aCar A d) B c G := by
  refine v_mk h (aCar_r (by omega)) rfl (by rw [aCar_r (by omega)]; exact h.2.2.2.1) (fun k k0 k1 => by rw [aCar_r (by omega)]; exact h.2.2.2.2.1 k k0 k1) (aCar_320 h.2.2.2.2.2.1 h.2.2.2.2.2.2.1) (by rw [aCar_r (by omega)]; exact h.2.2.2.2.2.2.1) h.2.2.2.2.2.2.2.1 h.2.2.2.2.2.2.2.2.1 (fun p hp g k k0 k1 => ?_) (fun p hp g => by rw [aCar_r (by omega)]; exact h.2.2.2.2.2.2.2.2.2.2 p hp g)
  have r := h.2.2.2.2.2.2.2.2.2.1 p hp g
  by_cases e : k = 3 ∨ k = 5 ∨ k = 6
  · rw [aCar_oth (Or.inl (h4 p hp g)) e, r k k0 k1]
  · rw [aCar_r (by omega), r k k0 k1]
theorem v_cars (h : View A B c G) (hB : ∀ d, 0 ≤ d → d < B 30 1 → d ≠ c → B 14 d = 1) (h4 : ∀ q : Nat, (q : Int) < A 30 2 → G q = true → A 4 q = -1 ∨ A 4 q = c) (n : Nat) (hn : (n : Int) ≤ B 30 1) : View (aCars A n) (aCars B n) c G := by
  induction n with
  | zero => exact h
  | succ n ih =>
    have i := ih (by omega)
    rw [aCars, aCars]
    by_cases e : (n : Int) = c
    · rw [e]; exact v_car i
    · have b : aCar (aCars B n) n = aCars B n := by
        unfold aCar
        rw [if_pos]
        rw [aCars_r (by omega)]
        exact hB n (by omega) (by omega) e
      rw [b]
      refine v_oth i e (fun q hq g => ?_)
      rw [aCars_r (by omega)] at hq
      rw [aCars_r (by omega)]
      have := h4 q hq g
      omega
theorem v_now (h : View A B c G) : View (aUp A 30 3 (A 30 3 + 1)) (aUp B 30 3 (B 30 3 + 1)) c G := by
  refine v_mk h (aUp_i (by omega)) (aUp_i (by omega)) (by rw [aUp_at, aUp_at, h.2.2.2.1]) (fun k k0 k1 => by rw [aUp_k (by omega), aUp_k (by omega)]; exact h.2.2.2.2.1 k k0 k1) (by rw [aUp_k (by omega)]; exact h.2.2.2.2.2.1) (by rw [aUp_k (by omega)]; exact h.2.2.2.2.2.2.1) (by rw [aUp_k (by omega)]; exact h.2.2.2.2.2.2.2.1) (by rw [aUp_k (by omega)]; exact h.2.2.2.2.2.2.2.2.1) (fun p hp g k k0 k1 => by rw [aUp_k (by omega), aUp_k (by omega)]; exact h.2.2.2.2.2.2.2.2.2.1 p hp g k k0 k1) (fun p hp g => by rw [aUp_k (by omega)]; exact h.2.2.2.2.2.2.2.2.2.2 p hp g)
end

/-! one car's view: of two pictures that show the same of a car and of a group of people, each shows the same a second later -/
def gK (G : Int → Bool) : Nat → Nat
  | 0 => 0
  | p + 1 => gK G p + (if G p = true then 1 else 0)
theorem gK_t {G : Int → Bool} {p : Nat} (h : G p = true) : gK G (p + 1) = gK G p + 1 := by rw [gK, if_pos h]
theorem gK_f {G : Int → Bool} {p : Nat} (h : G p = false) : gK G (p + 1) = gK G p := by rw [gK, if_neg (by rw [h]; decide)]; rfl
theorem gK_le {G : Int → Bool} {m n : Nat} (h : m ≤ n) : gK G m ≤ gK G n := by
  induction h with
  | refl => exact Nat.le_refl _
  | step h ih => rw [gK]; omega
theorem gK_lt {G : Int → Bool} {p n : Nat} (h : p < n) (hg : G p = true) : gK G p < gK G n := by
  have := gK_le (G := G) (m := p + 1) (n := n) (by omega)
  rw [gK_t hg] at this
  omega
theorem gK_ofnat {G : Int → Bool} {n : Nat} : gK G n ≤ n := by
  induction n with
  | zero => exact Nat.le_refl _
  | succ n ih => rw [gK]; split <;> omega
/-- each of the group is met -/
theorem gK_on {G : Int → Bool} {n j : Nat} (h : j < gK G n) : ∃ p, p < n ∧ G p = true ∧ gK G p = j := by
  induction n with
  | zero => simp [gK] at h
  | succ n ih =>
    by_cases g : G n = true
    · rw [gK_t g] at h
      by_cases e : j = gK G n
      · exact ⟨n, by omega, g, e.symm⟩
      · obtain ⟨p, h1, h2, h3⟩ := ih (by omega)
        exact ⟨p, by omega, h2, h3⟩
    · rw [gK_f (by simpa using g)] at h
      obtain ⟨p, h1, h2, h3⟩ := ih h
      exact ⟨p, by omega, h2, h3⟩
def View (A B : aS) (c : Int) (G : Int → Bool) : Prop :=
  0 ≤ c ∧ 0 ≤ A 30 2 ∧ B 30 2 = (gK G (A 30 2).toNat : Int) ∧ B 30 3 = A 30 3 ∧ (∀ k, 10 ≤ k → k ≤ 19 → B k c = A k c) ∧
  A 32 0 = -1 ∧ A 32 1 = -1 ∧ B 32 0 = -1 ∧ B 32 1 = -1 ∧
  (∀ p : Nat, (p : Int) < A 30 2 → G p = true → ∀ k, 0 ≤ k → k ≤ 6 → B k (gK G p) = A k p) ∧
  (∀ p : Nat, (p : Int) < A 30 2 → G p = false → A 4 p ≠ c)
section
variable {A B : aS} {c : Int} {G : Int → Bool}
theorem v_tg (h : View A B c G) {p : Nat} (hp : (p : Int) < A 30 2) (g : G p = true) : aTg B c (gK G p) = aTg A c p := by
  have r := h.2.2.2.2.2.2.2.2.2.1 p hp g
  unfold aTg
  rw [r 4 (by omega) (by omega), r 3 (by omega) (by omega), r 2 (by omega) (by omega), r 1 (by omega) (by omega)]
theorem v_tgf (h : View A B c G) {p : Nat} (hp : (p : Int) < A 30 2) (g : G p = false) : aTg A c p = -1 := by
  unfold aTg
  rw [if_neg (h.2.2.2.2.2.2.2.2.2.2 p hp g)]
theorem v_nr (h : View A B c G) {w : Int} (n : Nat) (hn : (n : Int) ≤ A 30 2) : aNr A c w n = aNr B c w (gK G n) := by
  induction n with
  | zero => rfl
  | succ n ih =>
    have i := ih (by omega)
    cases g : G n
    · have e := v_tgf h (by omega : (n : Int) < A 30 2) g
      rw [gK_f g, aNr, e, if_pos rfl, if_neg (by omega)]
      exact i
    · have e := v_tg h (by omega : (n : Int) < A 30 2) g
      rw [gK_t g, aNr, aNr, e, i, h.2.2.2.2.1 10 (by omega) (by omega)]
theorem v_tn (h : View A B c G) : (B 30 2).toNat = gK G (A 30 2).toNat := by
  have := h.2.2.1
  omega
theorem v_near (h : View A B c G) {w : Int} : aNear A c w = aNear B c w := by
  have h2 := h.2.1
  unfold aNear
  rw [v_tn h, ← v_nr h (A 30 2).toNat (by omega), if_neg (by have := h.2.2.2.2.2.1; have := h.1; omega), if_neg (by have := h.2.2.2.2.2.2.2.1; have := h.1; omega)]
theorem v_way (h : View A B c G) {p : Nat} (hp : (p : Int) < A 30 2) (g : G p = true) : aWay B (gK G p) = aWay A p := by
  have r := h.2.2.2.2.2.2.2.2.2.1 p hp g
  unfold aWay
  rw [r 1 (by omega) (by omega), r 2 (by omega) (by omega)]
theorem v_fst (h : View A B c G) (n : Nat) (hn : (n : Int) ≤ A 30 2) : (aFst A c n = -1 ∧ aFst B c (gK G n) = -1) ∨ (aFst A c n ≠ -1 ∧ aFst B c (gK G n) ≠ -1 ∧ aWay A (aFst A c n) = aWay B (aFst B c (gK G n))) := by
  induction n with
  | zero => exact Or.inl ⟨rfl, rfl⟩
  | succ n ih =>
    have i := ih (by omega)
    cases g : G n
    · have e := h.2.2.2.2.2.2.2.2.2.2 n (by omega) g
      rw [gK_f g, aFst]
      rcases i with ⟨i1, i2⟩ | ⟨i1, i2, i3⟩
      · rw [if_pos i1, if_neg (by omega)]
        exact Or.inl ⟨rfl, i2⟩
      · rw [if_neg i1]
        exact Or.inr ⟨i1, i2, i3⟩
    · have r := h.2.2.2.2.2.2.2.2.2.1 n (by omega) g
      rw [gK_t g, aFst, aFst]
      rcases i with ⟨i1, i2⟩ | ⟨i1, i2, i3⟩
      · rw [if_pos i1, if_pos i2, r 3 (by omega) (by omega), r 4 (by omega) (by omega), r 1 (by omega) (by omega), h.2.2.2.2.1 10 (by omega) (by omega)]
        by_cases z : A 3 n = 1 ∧ A 4 n = c ∧ A 1 n = A 10 c
        · rw [if_pos z, if_pos z]
          exact Or.inr ⟨by omega, by omega, (v_way h (by omega) g).symm⟩
        · rw [if_neg z, if_neg z]
          exact Or.inl ⟨rfl, rfl⟩
      · rw [if_neg i1, if_neg i2]
        exact Or.inr ⟨i1, i2, i3⟩
theorem v_new (h : View A B c G) : aNew A c = aNew B c := by
  have h2 := h.2.1
  have f := v_fst h (A 30 2).toNat (by omega)
  unfold aNew
  rw [v_tn h, v_near h, v_near h, h.2.2.2.2.1 10 (by omega) (by omega), h.2.2.2.2.1 15 (by omega) (by omega)]
  rcases f with ⟨i1, i2⟩ | ⟨i1, i2, i3⟩
  · rw [if_pos i1, if_pos i2]
  · rw [if_neg i1, if_neg i2, i3]
theorem v_wy (h : View A B c G) : aWy A c = aWy B c := by
  unfold aWy
  rw [v_near h, v_new h, h.2.2.2.2.1 11 (by omega) (by omega)]
theorem v_cnt {f g : Int → Bool} (n : Nat) (ht : ∀ p : Nat, p < n → G p = true → g (gK G p) = f p) (hf : ∀ p : Nat, p < n → G p = false → f p = false) : cnt f n = cnt g (gK G n) := by
  induction n with
  | zero => rfl
  | succ n ih =>
    have i := ih (fun p hp => ht p (by omega)) (fun p hp => hf p (by omega))
    cases e : G n
    · rw [gK_f e, cnt, hf n (by omega) e, if_neg (by decide), i]; omega
    · rw [gK_t e, cnt, cnt, ht n (by omega) e, i]
theorem v_lv (h : View A B c G) {p : Nat} (hp : (p : Int) < A 30 2) (g : G p = true) : aLv B c (gK G p) = aLv A c p := by
  have r := h.2.2.2.2.2.2.2.2.2.1 p hp g
  unfold aLv
  rw [r 3 (by omega) (by omega), r 4 (by omega) (by omega), r 2 (by omega) (by omega), h.2.2.2.2.1 10 (by omega) (by omega)]
theorem v_lvf (h : View A B c G) {p : Nat} (hp : (p : Int) < A 30 2) (g : G p = false) : aLv A c p = false := by
  have := h.2.2.2.2.2.2.2.2.2.2 p hp g
  unfold aLv
  exact decide_eq_false (by omega)
theorem v_lvN (h : View A B c G) : aLvN A c = aLvN B c := by
  have h2 := h.2.1
  unfold aLvN
  rw [v_tn h]
  exact v_cnt _ (fun p hp g => v_lv h (by omega) g) (fun p hp g => v_lvf h (by omega) g)
theorem v_rid (h : View A B c G) : aRid A c = aRid B c := by
  have h2 := h.2.1
  unfold aRid
  rw [v_tn h]
  refine v_cnt _ (fun p hp g => ?_) (fun p hp g => ?_)
  · have r := h.2.2.2.2.2.2.2.2.2.1 p (by omega) g
    rw [r 3 (by omega) (by omega), r 4 (by omega) (by omega)]
  · have := h.2.2.2.2.2.2.2.2.2.2 p (by omega) g
    exact decide_eq_false (by omega)
theorem v_brd (h : View A B c G) {p : Nat} (hp : (p : Int) < A 30 2) (g : G p = true) : aBrd B c (gK G p) = aBrd A c p := by
  have r := h.2.2.2.2.2.2.2.2.2.1 p hp g
  unfold aBrd
  rw [r 3 (by omega) (by omega), r 4 (by omega) (by omega), r 1 (by omega) (by omega), h.2.2.2.2.1 10 (by omega) (by omega), v_way h hp g, h.2.2.2.2.1 11 (by omega) (by omega)]
theorem v_brdf (h : View A B c G) {p : Nat} (hp : (p : Int) < A 30 2) (g : G p = false) : aBrd A c p = false := by
  have := h.2.2.2.2.2.2.2.2.2.2 p hp g
  unfold aBrd
  exact decide_eq_false (by omega)
theorem v_en (h : View A B c G) {r : Int} (n : Nat) (hn : (n : Int) ≤ A 30 2) : aEn A c r n = aEn B c r (gK G n) := by
  induction n with
  | zero => rfl
  | succ n ih =>
    have i := ih (by omega)
    cases g : G n
    · rw [gK_f g, aEn, v_brdf h (by omega) g, if_neg (by simp), i]; omega
    · rw [gK_t g, aEn, aEn, v_brd h (by omega) g, i, h.2.2.2.2.1 16 (by omega) (by omega)]
theorem v_ent (h : View A B c G) {r : Int} {p : Nat} (hp : (p : Int) < A 30 2) (g : G p = true) : aEnt B c r (gK G p) = aEnt A c r p := by
  unfold aEnt
  rw [v_brd h hp g, Int.toNat_natCast, Int.toNat_natCast, ← v_en h p (by omega), h.2.2.2.2.1 16 (by omega) (by omega)]
theorem v_entf (h : View A B c G) {r : Int} {p : Nat} (hp : (p : Int) < A 30 2) (g : G p = false) : aEnt A c r p = false := by
  unfold aEnt
  rw [v_brdf h hp g]
  simp
theorem v_enN (h : View A B c G) : aEnN A c = aEnN B c := by
  have h2 := h.2.1
  unfold aEnN
  rw [v_tn h, ← v_rid h]
  exact v_en h _ (by omega)
/-- how a view goes on when both pictures change -/
theorem v_mk {A' B' : aS} (h : View A B c G) (a1 : A' 30 2 = A 30 2) (b1 : B' 30 2 = B 30 2) (n1 : B' 30 3 = A' 30 3) (hk : ∀ k, 10 ≤ k → k ≤ 19 → B' k c = A' k c) (fa0 : A' 32 0 = -1) (fa1 : A' 32 1 = -1) (fb0 : B' 32 0 = -1) (fb1 : B' 32 1 = -1)
    (hp : ∀ p : Nat, (p : Int) < A 30 2 → G p = true → ∀ k, 0 ≤ k → k ≤ 6 → B' k (gK G p) = A' k p) (hf : ∀ p : Nat, (p : Int) < A 30 2 → G p = false → A' 4 p ≠ c) : View A' B' c G := by
  refine ⟨h.1, by rw [a1]; exact h.2.1, by rw [b1, a1]; exact h.2.2.1, n1, hk, fa0, fa1, fb0, fb1, fun p q => ?_, fun p q => ?_⟩
  · rw [a1] at q; exact hp p q
  · rw [a1] at q; exact hf p q
theorem v_out (h : View A B c G) : View (aOutN A c) (aOutN B c) c G := by
  have h2 := h.2.1
  unfold aOutN
  refine v_mk h (aOut_row (by omega)) (aOut_row (by omega)) (by rw [aOut_row (by omega), aOut_row (by omega)]; exact h.2.2.2.1) (fun k k0 k1 => by rw [aOut_row (by omega), aOut_row (by omega)]; exact h.2.2.2.2.1 k k0 k1) (by rw [aOut_row (by omega)]; exact h.2.2.2.2.2.1) (by rw [aOut_row (by omega)]; exact h.2.2.2.2.2.2.1) (by rw [aOut_row (by omega)]; exact h.2.2.2.2.2.2.2.1) (by rw [aOut_row (by omega)]; exact h.2.2.2.2.2.2.2.2.1) (fun p hp g k k0 k1 => ?_) (fun p hp g => by rw [aOut_row (by omega)]; exact h.2.2.2.2.2.2.2.2.2.2 p hp g)
  have r := h.2.2.2.2.2.2.2.2.2.1 p hp g
  have l := v_lv h hp g
  have gl := gK_lt (n := (A 30 2).toNat) (by omega) g
  rw [v_tn h]
  by_cases e3 : k = 3
  · subst e3
    rw [aOut_3 (by omega), aOut_3 (by omega), l, r 3 (by omega) (by omega)]
  · by_cases e6 : k = 6
    · subst e6
      rw [aOut_6 (by omega), aOut_6 (by omega), l, r 6 (by omega) (by omega), h.2.2.2.1]
    · rw [aOut_row (by omega), aOut_row (by omega), r k k0 k1]
/-- a car's own rows change alike -/
theorem v_up (h : View A B c G) {k v w : Int} (hk : 10 ≤ k ∧ k ≤ 19) (e : v = w) : View (aUp A k c v) (aUp B k c w) c G := by
  subst e
  refine v_mk h (aUp_k (by omega)) (aUp_k (by omega)) (by rw [aUp_k (by omega), aUp_k (by omega)]; exact h.2.2.2.1) (fun j k0 k1 => ?_) (by rw [aUp_k (by omega)]; exact h.2.2.2.2.2.1) (by rw [aUp_k (by omega)]; exact h.2.2.2.2.2.2.1) (by rw [aUp_k (by omega)]; exact h.2.2.2.2.2.2.2.1) (by rw [aUp_k (by omega)]; exact h.2.2.2.2.2.2.2.2.1) (fun p hp g j k0 k1 => by rw [aUp_k (by omega), aUp_k (by omega)]; exact h.2.2.2.2.2.2.2.2.2.1 p hp g j k0 k1) (fun p hp g => by rw [aUp_k (by omega)]; exact h.2.2.2.2.2.2.2.2.2.2 p hp g)
  by_cases e : j = k
  · subst e; rw [aUp_at, aUp_at]
  · rw [aUp_k e, aUp_k e]; exact h.2.2.2.2.1 j k0 k1
theorem aIn_fun {r : Int} {n : Nat} (h : A 32 1 = -1) : aIn A c r n 32 0 = A 32 0 := by
  unfold aIn
  rw [if_neg (by omega), if_neg (by omega)]
theorem v_in (h : View A B c G) : View (aInN A c) (aInN B c) c G := by
  have h2 := h.2.1
  unfold aInN
  refine v_mk h (aIn_row (by omega)) (aIn_row (by omega)) (by rw [aIn_row (by omega), aIn_row (by omega)]; exact h.2.2.2.1) (fun k k0 k1 => by rw [aIn_row (by omega), aIn_row (by omega)]; exact h.2.2.2.2.1 k k0 k1) (by rw [aIn_fun h.2.2.2.2.2.2.1]; exact h.2.2.2.2.2.1) (by rw [aIn_row (by omega)]; exact h.2.2.2.2.2.2.1) (by rw [aIn_fun h.2.2.2.2.2.2.2.2.1]; exact h.2.2.2.2.2.2.2.1) (by rw [aIn_row (by omega)]; exact h.2.2.2.2.2.2.2.2.1) (fun p hp g k k0 k1 => ?_) (fun p hp g => by rw [aIn_row (by omega)]; exact h.2.2.2.2.2.2.2.2.2.2 p hp g)
  have r := h.2.2.2.2.2.2.2.2.2.1 p hp g
  have l := v_ent (r := aRid A c) h hp g
  have gl := gK_lt (n := (A 30 2).toNat) (by omega) g
  rw [v_tn h, ← v_rid h]
  by_cases e3 : k = 3
  · subst e3
    rw [aIn_3 (by omega), aIn_3 (by omega), l, r 3 (by omega) (by omega)]
  · by_cases e5 : k = 5
    · subst e5
      rw [aIn_5 (by omega), aIn_5 (by omega), l, r 5 (by omega) (by omega), h.2.2.2.1]
    · rw [aIn_row (by omega), aIn_row (by omega), r k k0 k1]
theorem v_done (h : View A B c G) {m n : Int} (e : m = n) : View (aDone A c m) (aDone B c n) c G := by
  subst e
  have hc := h.1
  have ea : aFn A c = A := by unfold aFn; rw [if_neg]; have := h.2.2.2.2.2.1; omega
  have eb : aFn B c = B := by unfold aFn; rw [if_neg]; have := h.2.2.2.2.2.2.2.1; omega
  have z1 : ¬ (A 32 0 = c ∧ A 32 2 = A 10 c) := by have := h.2.2.2.2.2.1; omega
  have z2 : ¬ (B 32 0 = c ∧ B 32 2 = B 10 c) := by have := h.2.2.2.2.2.2.2.1; omega
  unfold aDone
  rw [ea, eb]
  refine v_up (v_up h (by omega) ?_) (by omega) ?_
  · unfold aDo
    simp only [z1, z2, or_false]
    rw [h.2.2.2.2.1 11 (by omega) (by omega)]
  · unfold aLf
    simp only [z1, z2, or_false]
    rw [h.2.2.2.2.1 11 (by omega) (by omega), h.2.2.2.2.1 17 (by omega) (by omega), h.2.2.2.2.1 18 (by omega) (by omega), h.2.2.2.2.1 19 (by omega) (by omega)]
theorem v_look (h : View A B c G) : View (aLook A c) (aLook B c) c G := by
  have h1 := v_out h
  have h2 : View (aTurn (aOutN A c) c) (aTurn (aOutN B c) c) c G := by
    unfold aTurn
    exact v_up h1 (by omega) (v_wy h1)
  have h3 := v_in h2
  unfold aLook
  exact v_done h3 (by rw [v_lvN h, v_enN h2])
theorem v_car (h : View A B c G) : View (aCar A c) (aCar B c) c G := by
  have k := h.2.2.2.2.1
  unfold aCar
  rw [k 14 (by omega) (by omega), k 12 (by omega) (by omega), k 13 (by omega) (by omega)]
  split
  · exact h
  · split
    · exact v_look h
    · split
      · exact v_up h (by omega) rfl
      · apply v_look
        unfold aMv
        rw [k 12 (by omega) (by omega)]
        split
        · exact v_up (v_up h (by omega) rfl) (by omega) (by rw [k 10 (by omega) (by omega), k 11 (by omega) (by omega)])
        · exact v_up h (by omega) rfl
end

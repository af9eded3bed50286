/-! best: what a way comes to -/
noncomputable section
section
variable {A : aS} {n K x : Nat}
theorem gK_0 {G : Int → Bool} {n : Nat} (h : ∀ q : Nat, q < n → G q = false) : gK G n = 0 := by
  induction n with
  | zero => rfl
  | succ n ih => rw [gK_f (h n (by omega)), ih (fun q hq => h q (by omega))]
theorem gVal_t {c : Int} {m : Nat} (hs : Srv A c m n) (ht : allT (aIt (aCh1 ev0) (aPart A c m n) 3000)) : gVal A c m n = aOv (aIt (aCh1 ev0) (aPart A c m n) 3000) (-1) (gK (gBt m) n) := by
  unfold gVal
  by_cases e : m = 0
  · rw [if_pos e, gK_0 (fun q _ => by rw [gBt_n, e, Nat.zero_testBit])]
    rfl
  · rw [if_neg e, if_pos ⟨hs, ht⟩]
theorem gVal_f {c : Int} {m : Nat} (ht : ¬ allT (aIt (aCh1 ev0) (aPart A c m n) 3000)) : gVal A c m n = -1 := by
  unfold gVal
  by_cases e : m = 0
  · exfalso
    apply ht
    intro p p0 p1
    rw [aIt_r (by omega), aPart_2, gK_0 (fun q _ => by rw [gBt_n, e, Nat.zero_testBit])] at p1
    omega
  · rw [if_neg e, if_neg (fun z => ht z.2)]
theorem gVal_s {c : Int} {m : Nat} (hm : m ≠ 0) (hs : ¬ Srv A c m n) : gVal A c m n = -1 := by
  unfold gVal
  rw [if_neg hm, if_neg (fun z => hs z.1)]
def tW (K n x : Nat) : Int → Int := fun p => ((dg K n x p.toNat : Nat) : Int)
theorem tW_n {q : Nat} : tW K n x q = ((dg K n x q : Nat) : Int) := by unfold tW; rw [Int.toNat_natCast]
theorem dg_lt {q : Nat} (hK : 1 ≤ K) : dg K n x q < K := Nat.mod_lt _ (by omega)
theorem leaf_val (hw : WfA A) (hB : BIn A n K) (hnow : A 30 3 ≤ 19999) (h0 : A 32 0 = -1) (h1 : A 32 1 = -1) (hs : ∀ q : Nat, q < n → A (40 + tW K n x q) (A 1 q) = 1 ∧ A (40 + tW K n x q) (A 2 q) = 1) :
    (allT (aIt (aChT (tW K n x)) A 3000) → wV A K n x = aOv (aIt (aChT (tW K n x)) A 3000) (-1) n ∧ wV A K n x ≠ -1) ∧ (¬ allT (aIt (aChT (tW K n x)) A 3000) → wV A K n x = -1) := by
  have hB' := hB
  obtain ⟨b1, b2, b3, b4, b5, b6, b7, b8⟩ := hB
  have tr : ∀ q : Nat, 0 ≤ tW K n x q ∧ tW K n x q < (K : Int) := fun q => by
    rw [tW_n]
    have := dg_lt (K := K) (n := n) (x := x) (q := q) b5
    omega
  have sv : ∀ k : Nat, Srv A k (mk K n x k n) n := fun k q hq hb => by
    have e := mk_gB (K := K) (n := n) (x := x) (c := k) b3 hq
    rw [gBt_n, hb] at e
    have e := of_decide_eq_true e.symm
    have := hs q hq
    rw [tW_n, e] at this
    exact this
  have vi : ∀ k : Nat, k < K → VInv A (aPart A k (mk K n x k n) n) k (gBt (mk K n x k n)) (tW K n x) := fun k hk =>
    part_inv hw b7 b1 h0 h1 (by omega) (b8 k (by omega) (by omega)) (fun q hq => ⟨by rw [← b4]; exact tr q, by rw [tW_n]; exact mk_gB b3 hq⟩) (fun q hq e => by have := hs q hq; rw [e] at this; exact this)
  obtain ⟨v1, v2⟩ := best_val (Bs := fun k => aPart A k (mk K n x k n) n) (Gs := fun k => gBt (mk K n x k n)) b1 b4 vi (fun q hq => tr q) 3000
  have hg : ∀ (c : Int) m, gVal A c m n = -1 ∨ (0 ≤ gVal A c m n ∧ gVal A c m n ≤ 400000) := fun c m => gVal_rg hw hB' hnow h1
  have ok := oS_ok (f := fun c : Nat => gVal A c (mk K n x c n) n) (K := K) (fun k _ => hg _ _)
  unfold wV
  constructor
  · intro ht
    have hk := v1.mp ht
    rcases ok with ⟨_, k, k1, k2⟩ | ⟨o1, o2, o3, o4⟩
    · exfalso
      have e := gVal_t (sv k) (hk k k1)
      have k2 : gVal A k (mk K n x k n) n = -1 := k2
      have wP := WfA_part (c := (k : Int)) (m := mk K n x k n) hw b7 b1 h1
      have N : aIt (aCh1 ev0) (aPart A k (mk K n x k n) n) 3000 30 2 = (gK (gBt (mk K n x k n)) n : Int) := by rw [aIt_r (by omega), aPart_2]
      have wI := WfA_it (aCh1_rg ev0) wP 3000 (by rw [aPart_r (by omega)]; omega)
      have hT := (allT_iff (A := aIt (aCh1 ev0) (aPart A k (mk K n x k n) n) 3000) (by rw [N]; omega)).mpr (hk k k1)
      have x1 := over_sum wI.1 hT (gK (gBt (mk K n x k n)) n) (by rw [N]; omega)
      have x2 := aWs_rg wI.1 (gK (gBt (mk K n x k n)) n) (by rw [N]; omega)
      omega
    · rw [v2]
      refine ⟨?_, by omega⟩
      rw [o1]
      exact sumC_eq (fun k hk' => gVal_t (sv k) (hk k hk'))
  · intro ht
    rcases ok with ⟨o1, _⟩ | ⟨o1, o2, o3, o4⟩
    · exact o1
    · exfalso
      apply ht
      apply v1.mpr
      intro k hk
      refine Classical.byContradiction (fun z => ?_)
      exact o2 k hk (gVal_f z)
/-- a car that does not serve one: none -/
theorem wV_no {q : Nat} (hn : n ≤ 6) (hq : q < n) (hd : dg K n x q < K) (hs : ¬ (A (40 + ((dg K n x q : Nat) : Int)) (A 1 q) = 1 ∧ A (40 + ((dg K n x q : Nat) : Int)) (A 2 q) = 1)) : wV A K n x = -1 := by
  have hb : (mk K n x (dg K n x q) n).testBit q = true := by
    have := mk_gB (K := K) (n := n) (x := x) (c := dg K n x q) hn hq
    rw [gBt_n, decide_eq_true rfl] at this
    exact this
  have hz : gVal A ((dg K n x q : Nat) : Int) (mk K n x (dg K n x q) n) n = -1 := by
    refine gVal_s (fun e => ?_) (fun z => hs (z q hq hb))
    rw [e, Nat.zero_testBit] at hb
    simp at hb
  unfold wV
  have : ∀ r, oS (fun c : Nat => gVal A c (mk K n x c n) n) (dg K n x q + 1 + r) = -1 := fun r => by
    induction r with
    | zero => rw [Nat.add_zero, oS, if_pos (Or.inr hz)]
    | succ r ih => rw [← Nat.add_assoc, oS, if_pos (Or.inl ih)]
  have := this (K - dg K n x q - 1)
  rw [show dg K n x q + 1 + (K - dg K n x q - 1) = K by omega] at this
  exact this
theorem sc_skip {V : Nat → Int} {a : Nat} (r : Nat) (h : ∀ y, a ≤ y → y < a + r → V y = -1) : sc V (a + r) = sc V a := by
  induction r with
  | zero => rfl
  | succ r ih =>
    rw [← Nat.add_assoc, sc, if_neg (fun z => z.1 (h _ (by omega) (by omega)))]
    exact ih (fun y y0 y1 => h y y0 (by omega))
/-- digits -/
theorem dg_pre {y r c p : Nat} (hc : c < K) (hn : n = p + (r + 1)) (hx0 : (y * K + c) * K ^ r ≤ x) (hx1 : x < (y * K + c) * K ^ r + K ^ r) : dg K n x p = c := by
  have hp : 0 < K ^ r := Nat.pow_pos (by omega)
  unfold dg
  rw [show n - 1 - p = r by omega]
  have : x / K ^ r = y * K + c := by
    rw [Nat.div_eq_iff hp]
    constructor
    · exact hx0
    · have := hx1
      omega
  rw [this, Nat.mul_comm, Nat.mul_add_mod]
  exact Nat.mod_eq_of_lt hc
theorem dg_old {y c p q : Nat} (hc : c < K) (hq : q < p) : dg K (p + 1) (y * K + c) q = dg K p y q := by
  unfold dg
  rw [show p + 1 - 1 - q = (p - 1 - q) + 1 by omega, Nat.pow_succ, Nat.mul_comm (K ^ _) K, ← Nat.div_div_eq_div_mul]
  have : (y * K + c) / K = y := by
    rw [Nat.mul_comm, Nat.mul_add_div (by omega), Nat.div_eq_of_lt hc, Nat.add_zero]
  rw [this]
theorem dg_new {y c p : Nat} (hc : c < K) : dg K (p + 1) (y * K + c) p = c := by
  unfold dg
  rw [show p + 1 - 1 - p = 0 by omega, Nat.pow_zero, Nat.div_one, Nat.mul_comm, Nat.mul_add_mod]
  exact Nat.mod_eq_of_lt hc
end
end

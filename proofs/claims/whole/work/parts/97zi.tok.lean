/-! texts: bytes and tokens -/
section
variable {P : Int → Bool} {b : Nat → Int} {L : Nat}
def sv (b : Nat → Int) (L i : Nat) : Int := if i < L then b i else -1
def cL (c : Int) : Bool := decide ((97 ≤ c ∧ c ≤ 122) ∨ (65 ≤ c ∧ c ≤ 90))
def cD (c : Int) : Bool := decide (48 ≤ c ∧ c ≤ 57)
def cW (c : Int) : Bool := decide (c = 32 ∨ c = 10)
def runs (P : Int → Bool) (b : Nat → Int) (L : Nat) : Nat → Nat → Nat
  | 0, i => i
  | f + 1, i => if P (sv b L i) = true then runs P b L f (i + 1) else i
def rn (P : Int → Bool) (b : Nat → Int) (L i : Nat) : Nat := runs P b L (L - i) i
theorem runs_ok (hP : P (-1) = false) (f : Nat) : ∀ i, L ≤ i + f → i ≤ runs P b L f i ∧ (i ≤ L → runs P b L f i ≤ L) ∧ (∀ j, i ≤ j → j < runs P b L f i → P (sv b L j) = true) ∧ P (sv b L (runs P b L f i)) = false := by
  induction f with
  | zero =>
    intro i hi
    rw [runs]
    refine ⟨Nat.le_refl _, fun h => h, fun j a c => by omega, ?_⟩
    unfold sv
    rw [if_neg (by omega)]; exact hP
  | succ f ih =>
    intro i hi
    rw [runs]
    by_cases g : P (sv b L i) = true
    · rw [if_pos g]
      obtain ⟨h1, h2, h3, h4⟩ := ih (i + 1) (by omega)
      have il : i < L := by
        refine Nat.lt_of_not_le (fun z => ?_)
        unfold sv at g
        rw [if_neg (by omega), hP] at g
        simp at g
      refine ⟨by omega, fun _ => h2 (by omega), fun j a c => ?_, h4⟩
      by_cases e : j = i
      · subst e; exact g
      · exact h3 j (by omega) c
    · rw [if_neg g]
      exact ⟨Nat.le_refl _, fun h => h, fun j a c => by omega, by simpa using g⟩
theorem rn_ok (hP : P (-1) = false) (i : Nat) : i ≤ rn P b L i ∧ (i ≤ L → rn P b L i ≤ L) ∧ (∀ j, i ≤ j → j < rn P b L i → P (sv b L j) = true) ∧ P (sv b L (rn P b L i)) = false := runs_ok hP _ i (by omega)
theorem rn_u (hP : P (-1) = false) {i e : Nat} (h1 : i ≤ e) (h2 : ∀ j, i ≤ j → j < e → P (sv b L j) = true) (h3 : P (sv b L e) = false) : rn P b L i = e := by
  obtain ⟨k1, k2, k3, k4⟩ := rn_ok (b := b) (L := L) hP i
  rcases Nat.lt_trichotomy (rn P b L i) e with z | z | z
  · rw [h2 _ k1 z] at k4; simp at k4
  · exact z
  · rw [k3 e h1 z] at h3; simp at h3
theorem rn_s (hP : P (-1) = false) {i : Nat} (h : P (sv b L i) = true) : rn P b L i = rn P b L (i + 1) := by
  obtain ⟨k1, k2, k3, k4⟩ := rn_ok (b := b) (L := L) hP (i + 1)
  refine rn_u hP (by omega) (fun j a c => ?_) k4
  by_cases e : j = i
  · subst e; exact h
  · exact k3 j (by omega) c
theorem rn_0 (hP : P (-1) = false) {i : Nat} (h : P (sv b L i) = false) : rn P b L i = i := rn_u hP (Nat.le_refl _) (fun j a c => by omega) h
theorem cL_m : cL (-1) = false := by decide
theorem cD_m : cD (-1) = false := by decide
theorem cW_m : cW (-1) = false := by decide
/-- how a word is spelt -/
def Sp (b : Nat → Int) (i e : Nat) (w : List Nat) : Prop := e - i = w.length ∧ ∀ k, k < w.length → b (i + k) = ((w.getD k 0 : Nat) : Int)
theorem sp_eq {i e : Nat} {w v : List Nat} (h : Sp b i e w) (g : Sp b i e v) : w = v := by
  refine List.ext_getElem (h.1.symm.trans g.1) (fun k k1 k2 => ?_)
  have a := h.2 k k1
  have c := g.2 k k2
  rw [List.getD_eq_getElem?_getD, List.getElem?_eq_getElem k1] at a
  rw [List.getD_eq_getElem?_getD, List.getElem?_eq_getElem k2] at c
  simp only [Option.getD_some] at a c
  omega
def WL : List (List Nat) := [[99, 111, 115, 116], [110, 101, 118, 101, 114], [119, 104, 101, 110], [111, 114], [97, 110, 100], [110, 111, 116], [102, 97, 114], [115, 97, 109, 101], [97, 103, 97, 105, 110, 115, 116], [108, 111, 97, 100], [103, 105, 118, 101, 110], [105, 100, 108, 101], [117, 112], [102, 108, 111, 111, 114], [119, 97, 105, 116, 115], [99, 97, 114], [102, 108, 111, 111, 114, 115], [115, 107, 105, 112]]
noncomputable def wdKl (b : Nat → Int) (i e : Nat) : List (List Nat) → Int → Int
  | [], _ => 2
  | w :: ws, n => @ite _ (Sp b i e w) (Classical.propDecidable _) n (wdKl b i e ws (n + 1))
noncomputable def wdK (b : Nat → Int) (i e : Nat) : Int := wdKl b i e WL 256
theorem wdKl_of {i e : Nat} (ws : List (List Nat)) : ∀ (n : Int) (k : Nat) (w : List Nat), ws[k]? = some w → Sp b i e w → (∀ k' v, k' < k → ws[k']? = some v → v ≠ w) → wdKl b i e ws n = n + k := by
  induction ws with
  | nil => intro n k w h; simp at h
  | cons v ws ih =>
    intro n k w h hs hd
    rw [wdKl]
    cases k with
    | zero =>
      simp only [List.getElem?_cons_zero, Option.some.injEq] at h
      rw [h, if_pos hs]; simp
    | succ k =>
      rw [if_neg (fun z => hd 0 v (by omega) rfl (sp_eq z hs))]
      rw [ih (n + 1) k w (by simpa using h) hs (fun k' v' h1 h2 => hd (k' + 1) v' (by omega) (by simpa using h2))]
      omega
theorem wdKl_no {i e : Nat} (ws : List (List Nat)) : ∀ n : Int, (∀ w, w ∈ ws → ¬ Sp b i e w) → wdKl b i e ws n = 2 := by
  induction ws with
  | nil => intro n _; rfl
  | cons v ws ih =>
    intro n h
    rw [wdKl, if_neg (h v (List.mem_cons_self)), ih (n + 1) (fun w hw => h w (List.mem_cons_of_mem _ hw))]
theorem WL_nd : ∀ k : Fin 18, ∀ j : Fin 18, j < k → WL[j]? ≠ WL[k]? := by decide
theorem wdK_of {i e k : Nat} {w : List Nat} (hk : WL[k]? = some w) (hs : Sp b i e w) : wdK b i e = 256 + k := by
  unfold wdK
  have hl : k < 18 := by
    have := (List.getElem?_eq_some_iff.mp hk).1
    exact this
  refine wdKl_of WL 256 k w hk hs (fun k' v h1 h2 z => ?_)
  subst z
  exact WL_nd ⟨k, hl⟩ ⟨k', by omega⟩ h1 (h2.trans hk.symm)
theorem wdK_no {i e : Nat} (h : ∀ w, w ∈ WL → ¬ Sp b i e w) : wdK b i e = 2 := wdKl_no WL 256 h
/-- what digits come to -/
def nv (b : Nat → Int) (i : Nat) : Nat → Int
  | 0 => 0
  | m + 1 => 10 * nv b i m + b (i + m) - 48
def sgK (c : Int) : Int := if c = 59 ∨ c = 43 ∨ c = 45 ∨ c = 42 ∨ c = 47 ∨ c = 40 ∨ c = 41 ∨ c = 60 ∨ c = 61 ∨ c = 62 then c else 2
def tE (b : Nat → Int) (L i : Nat) : Nat := if cL (sv b L i) = true then rn cL b L (i + 1) else if cD (sv b L i) = true then rn cD b L (i + 1) else i + 1
noncomputable def tK (b : Nat → Int) (L i : Nat) : Int := if L ≤ i then 0 else if cL (sv b L i) = true then wdK b i (tE b L i) else if cD (sv b L i) = true then (if 4 < tE b L i - i then 2 else 1) else sgK (b i)
def tV (b : Nat → Int) (L i : Nat) : Int := if cD (sv b L i) = true then nv b i (min (tE b L i - i) 4) else 0
def st (b : Nat → Int) (L : Nat) : Nat → Nat
  | 0 => rn cW b L 0
  | j + 1 => rn cW b L (if L ≤ st b L j then st b L j else tE b L (st b L j))
theorem tE_ok {i : Nat} (hi : i < L) : i < tE b L i ∧ tE b L i ≤ L := by
  unfold tE
  split
  · have := rn_ok (b := b) (L := L) cL_m (i + 1)
    exact ⟨by omega, this.2.1 (by omega)⟩
  · split
    · have := rn_ok (b := b) (L := L) cD_m (i + 1)
      exact ⟨by omega, this.2.1 (by omega)⟩
    · omega
theorem st_ok (j : Nat) : st b L j ≤ L ∧ cW (sv b L (st b L j)) = false := by
  induction j with
  | zero =>
    have := rn_ok (b := b) (L := L) cW_m 0
    exact ⟨this.2.1 (by omega), this.2.2.2⟩
  | succ j ih =>
    rw [st]
    split
    · have := rn_ok (b := b) (L := L) cW_m (st b L j)
      exact ⟨this.2.1 ih.1, this.2.2.2⟩
    · rename_i h
      have := rn_ok (b := b) (L := L) cW_m (tE b L (st b L j))
      exact ⟨this.2.1 (tE_ok (by omega)).2, this.2.2.2⟩
theorem st_up {j : Nat} (h : st b L j < L) : st b L j < st b L (j + 1) := by
  rw [st, if_neg (by omega)]
  have := (rn_ok (b := b) (L := L) cW_m (tE b L (st b L j))).1
  have := (tE_ok (b := b) h).1
  omega
theorem st_end {j : Nat} (h : st b L j = L) : st b L (j + 1) = L := by
  have := (st_ok (b := b) (L := L) j).2
  rw [st, if_pos (by omega), rn_0 cW_m this, h]
theorem st_ge {j : Nat} (h : ∀ i, i < j → st b L i < L) : j ≤ st b L j := by
  induction j with
  | zero => omega
  | succ j ih =>
    have := ih (fun i hi => h i (by omega))
    have := st_up (h j (by omega))
    omega
theorem tV_rg (hb : ∀ i, i < L → 0 ≤ b i ∧ b i < 256) {i : Nat} (hi : i < L) : 0 ≤ tV b L i ∧ tV b L i ≤ 9999 := by
  unfold tV
  split
  · rename_i hd
    have he := tE_ok (b := b) hi
    have hd' : ∀ j, i ≤ j → j < tE b L i → 48 ≤ b j ∧ b j ≤ 57 := by
      intro j j0 j1
      have hdj : cD (sv b L j) = true := by
        by_cases e : j = i
        · subst e; exact hd
        · have cl : cL (sv b L i) = false := by
            unfold cL cD at *
            have := of_decide_eq_true hd
            exact decide_eq_false (by omega)
          unfold tE at j1
          rw [if_neg (by rw [cl]; simp), if_pos hd] at j1
          exact (rn_ok (b := b) (L := L) cD_m (i + 1)).2.2.1 j (by omega) j1
      unfold cD sv at hdj
      rw [if_pos (by omega)] at hdj
      exact of_decide_eq_true hdj
    have key : ∀ m, m ≤ 4 → i + m ≤ tE b L i → 0 ≤ nv b i m ∧ nv b i m < (10 : Int) ^ m := by
      intro m
      induction m with
      | zero => intro _ _; exact ⟨by rw [nv]; omega, by rw [nv]; decide⟩
      | succ m ih =>
        intro m1 m2
        have := ih (by omega) (by omega)
        have d := hd' (i + m) (by omega) (by omega)
        rw [nv, Int.pow_succ]
        omega
    have := key (min (tE b L i - i) 4) (by omega) (by omega)
    have : (10 : Int) ^ (min (tE b L i - i) 4) ≤ 10000 := by
      rcases (by omega : min (tE b L i - i) 4 = 0 ∨ min (tE b L i - i) 4 = 1 ∨ min (tE b L i - i) 4 = 2 ∨ min (tE b L i - i) 4 = 3 ∨ min (tE b L i - i) 4 = 4) with e | e | e | e | e <;> rw [e] <;> decide
    omega
  · omega
end

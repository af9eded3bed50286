/-! WHAT ALWAYS HOLDS of both memories -/
def RelW (C : mMem) (a : Nat) (A : aS) : Prop :=
  (∀ k p : Int, 0 ≤ k → k < 7 → 0 ≤ p → p < 60 → C a (820 + 8 * p + k).toNat = iz (A k p)) ∧
  (∀ k c : Int, 0 ≤ k → k < 11 → 0 ≤ c → c < 4 → C a (10 + 20 * c + k).toNat = iz (A (10 + k) c)) ∧
  (∀ i : Int, 0 ≤ i → i < 6 → C a i.toNat = iz (A 30 i)) ∧
  (∀ c f : Int, 0 ≤ c → c < 4 → 0 ≤ f → f < 80 → C a (100 + 80 * c + f).toNat = iz (A (40 + c) f)) ∧
  (∀ c f : Int, 0 ≤ c → c < 4 → 0 ≤ f → f < 80 → C a (420 + 80 * c + f).toNat = iz (if A 32 0 = c ∧ A 32 2 = f then 1 else 0)) ∧
  (∀ f : Int, 0 ≤ f → f < 80 → C a (740 + f).toNat = iz (A 31 f))
theorem rm_iff {C : mMem} {A : aS} : RelM C A ↔ RelW C 140 A ∧ C 139 29 = iz (A 32 1) ∧ C 139 30 = iz (A 32 2) := by
  unfold RelM RelW
  constructor
  · rintro ⟨a, b, c, d, e, f, g, h⟩; exact ⟨⟨a, b, c, d, e, f⟩, g, h⟩
  · rintro ⟨⟨a, b, c, d, e, f⟩, g, h⟩; exact ⟨a, b, c, d, e, f, g, h⟩
def isB (x : Int32) : Prop := x = iz 0 ∨ x = iz 1
/-- the world in the class, from cell w on -/
def RelO (C : mMem) (w : Nat) (A : aS) (Rs : Int → aS) : Prop :=
  RelT C (w + 1) A ∧ RelS C (w + 25) A ∧ C (w + 1) 0 = iz (A 30 5) ∧ C w 4 = iz (A 30 4) ∧
  (∀ f, 0 ≤ f → f < A 30 0 → C (w + 24) f.toNat = iz (A 31 f)) ∧
  (∀ k : Int, 0 ≤ k → k ≤ 2 → RelRC C (w + 9 + 5 * k.toNat) (Rs k)) ∧
  (∀ i, i < 320 → isB (C (w + 7) i))
/-- the world in the reference, in cell a -/
def RelQ (C : mMem) (a : Nat) (A : aS) (Rs : Int → aS) : Prop := RelW C a A ∧ ∀ k, 0 ≤ k → k ≤ 2 → RelRM C a k (Rs k)
def WfW (A : aS) (Rs : Int → aS) : Prop := WfA A ∧ A 30 3 ≤ 19999 ∧ A 32 0 = -1 ∧ A 32 1 = -1 ∧ 0 ≤ A 30 5 ∧ A 30 5 ≤ 40 ∧ (∀ f, 0 ≤ f → f < A 30 0 → 0 ≤ A 31 f ∧ A 31 f ≤ 99) ∧ (∀ k, 0 ≤ k → k ≤ 2 → WfR (Rs k)) ∧ (A 30 0 = 0 ∨ 2 ≤ A 30 0)
def InvW (C : mMem) (A : aS) (Rs : Int → aS) : Prop := RelQ C 140 A Rs ∧ C 139 29 = iz (A 32 1) ∧ C 139 30 = iz (A 32 2) ∧ RelO C 18 A Rs ∧ WfW A Rs
def InvK (C : mMem) (A : aS) (Rs : Int → aS) : Prop := RelQ C 141 A Rs ∧ RelO C 62 A Rs ∧ WfW A Rs
def TapeOK (C : mMem) (n : Int) : Prop := 0 ≤ n ∧ n ≤ 400 ∧ C 0 1 = iz n ∧ C 139 16 = iz n ∧ ∀ i : Int, 0 ≤ i → i < n → ∃ b : Int, 0 ≤ b ∧ b < 256 ∧ C 146 i.toNat = iz b ∧ C 1 i.toNat = iz (if b < 128 then b else b - 256)
def InvX (C : mMem) : Prop := (∃ n, TapeOK C n) ∧ C 2 7 = C 139 23 ∧ C 2 8 = C 139 25 ∧ C 139 28 = iz 0 ∧ C 7 0 = iz 0
def Inv (C : mMem) : Prop := InvX C ∧ (∃ A Rs, InvW C A Rs) ∧ ∃ b : Bool, C 0 7 = bI b ∧ C 139 3 = bI b ∧ (b = true → ∃ A Rs, InvK C A Rs)
def LvX (a i : Nat) : Prop := (a = 0 ∧ i = 1) ∨ a = 1 ∨ (a = 2 ∧ (i = 7 ∨ i = 8)) ∨ (a = 7 ∧ i = 0) ∨ (a = 139 ∧ (i = 16 ∨ i = 23 ∨ i = 25 ∨ i = 28)) ∨ a = 146
/-- what of a world in the class counts -/
def LvO (w a i : Nat) : Prop := w ≤ a ∧ a ≤ w + 42 ∧ ¬ (a = w + 9 ∧ i = 1) ∧ ¬ (a = w + 14 ∧ i = 1) ∧ ¬ (a = w + 19 ∧ i = 1) ∧ a ≠ w + 13 ∧ a ≠ w + 18 ∧ a ≠ w + 23 ∧ ¬ (a = w + 25 ∧ i = 8)
theorem relO_fr {C D : mMem} {w : Nat} {A : aS} {Rs : Int → aS} (h : RelO C w A Rs) (hD : ∀ a i, LvO w a i → D a i = C a i) : RelO D w A Rs := by
  obtain ⟨h1, h2, h3, h4, h5, h6, h7⟩ := h
  refine ⟨RelT_fr h1 (fun a i a1 a2 => hD a i (by unfold LvO; omega)) rfl rfl (fun _ _ _ _ => rfl) (fun _ _ _ => rfl), ?_, ?_, ?_, fun f f0 f1 => ?_, fun k k0 k1 => ?_, fun i hi => ?_⟩
  · obtain ⟨a1, a2, a3, a4, aP, aK, a5, a6, a7, a8⟩ := h2
    refine rs_fr ⟨a1, a2, a3, a4, aP, aK, a5, a6, a7, a8⟩ (fun a i g1 g2 => hD _ _ (by unfold LvO; omega)) (fun k q k1 k2 => rfl) rfl rfl ?_ ?_ ?_ ?_
    · rw [hD _ _ (by unfold LvO; omega)]; exact a5
    · rw [hD _ _ (by unfold LvO; omega)]; exact a6
    · rw [hD _ _ (by unfold LvO; omega)]; exact a7
    · rw [hD _ _ (by unfold LvO; omega)]; exact a8
  · rw [hD _ _ (by unfold LvO; omega)]; exact h3
  · rw [hD _ _ (by unfold LvO; omega)]; exact h4
  · rw [hD _ _ (by unfold LvO; omega)]; exact h5 f f0 f1
  · obtain ⟨r0, r1, r2, r3, r4, r5⟩ := h6 k k0 k1
    have hk : k.toNat = 0 ∨ k.toNat = 1 ∨ k.toNat = 2 := by omega
    refine ⟨?_, ?_, ?_, ?_, fun i i0 i1 => ?_, fun j j0 j1 => ?_⟩
    · rw [hD _ _ (by unfold LvO; omega)]; exact r0
    · rw [hD _ _ (by unfold LvO; omega)]; exact r1
    · rw [hD _ _ (by unfold LvO; omega)]; exact r2
    · rw [hD _ _ (by unfold LvO; omega)]; exact r3
    · rw [hD _ _ (by unfold LvO; omega), hD _ _ (by unfold LvO; omega), hD _ _ (by unfold LvO; omega)]; exact r4 i i0 i1
    · rw [hD _ _ (by unfold LvO; omega)]; exact r5 j j0 j1
  · rw [hD _ _ (by unfold LvO; omega)]; exact h7 i hi
theorem relQ_fr {C D : mMem} {a : Nat} {A : aS} {Rs : Int → aS} (h : RelQ C a A Rs) (hD : ∀ i, i < 3970 → D a i = C a i) (hR : ∀ k, 0 ≤ k → k ≤ 2 → WfR (Rs k)) : RelQ D a A Rs := by
  obtain ⟨⟨h1, h2, h3, h4, h5, h6⟩, h7⟩ := h
  refine ⟨⟨fun k p a1 a2 a3 a4 => ?_, fun k c a1 a2 a3 a4 => ?_, fun i a1 a2 => ?_, fun c f a1 a2 a3 a4 => ?_, fun c f a1 a2 a3 a4 => ?_, fun f a1 a2 => ?_⟩, fun k k0 k1 => ?_⟩
  · rw [hD _ (by omega)]; exact h1 k p a1 a2 a3 a4
  · rw [hD _ (by omega)]; exact h2 k c a1 a2 a3 a4
  · rw [hD _ (by omega)]; exact h3 i a1 a2
  · rw [hD _ (by omega)]; exact h4 c f a1 a2 a3 a4
  · rw [hD _ (by omega)]; exact h5 c f a1 a2 a3 a4
  · rw [hD _ (by omega)]; exact h6 f a1 a2
  · obtain ⟨w0, w1, w2, w3, w4⟩ := hR k k0 k1
    obtain ⟨r0, r1, r2⟩ := h7 k k0 k1
    refine ⟨?_, fun i i0 i1 => ?_, fun j j0 j1 => ?_⟩
    · rw [hD _ (by omega)]; exact r0
    · rw [hD _ (by omega), hD _ (by omega), hD _ (by omega), hD _ (by omega)]; exact r1 i i0 i1
    · rw [hD _ (by omega), hD _ (by omega)]; exact r2 j j0 j1
theorem invX_fr {C D : mMem} (h : InvX C) (hD : ∀ a i, LvX a i → D a i = C a i) : InvX D := by
  obtain ⟨⟨n, t0, t1, t2, t3, t4⟩, h2, h3, h4, h5⟩ := h
  refine ⟨⟨n, t0, t1, ?_, ?_, fun i i0 i1 => ?_⟩, ?_, ?_, ?_, ?_⟩
  · rw [hD _ _ (by unfold LvX; omega)]; exact t2
  · rw [hD _ _ (by unfold LvX; omega)]; exact t3
  · rw [hD 146 _ (by unfold LvX; omega), hD 1 _ (by unfold LvX; omega)]; exact t4 i i0 i1
  · rw [hD _ _ (by unfold LvX; omega), hD _ _ (by unfold LvX; omega)]; exact h2
  · rw [hD _ _ (by unfold LvX; omega), hD _ _ (by unfold LvX; omega)]; exact h3
  · rw [hD _ _ (by unfold LvX; omega)]; exact h4
  · rw [hD _ _ (by unfold LvX; omega)]; exact h5
def LvW (a i : Nat) : Prop := LvO 18 a i ∨ (a = 139 ∧ (i = 29 ∨ i = 30)) ∨ (a = 140 ∧ i < 3970)
theorem invW_fr {C D : mMem} {A : aS} {Rs : Int → aS} (h : InvW C A Rs) (hD : ∀ a i, LvW a i → D a i = C a i) : InvW D A Rs := by
  obtain ⟨h1, h2, h3, h4, h5⟩ := h
  refine ⟨relQ_fr h1 (fun i hi => hD _ _ (by unfold LvW; omega)) h5.2.2.2.2.2.2.2.1, ?_, ?_, relO_fr h4 (fun a i hi => hD a i (Or.inl hi)), h5⟩
  · rw [hD _ _ (by unfold LvW; omega)]; exact h2
  · rw [hD _ _ (by unfold LvW; omega)]; exact h3
def LvK (a i : Nat) : Prop := LvO 62 a i ∨ (a = 141 ∧ i < 3970)
theorem invK_fr {C D : mMem} {A : aS} {Rs : Int → aS} (h : InvK C A Rs) (hD : ∀ a i, LvK a i → D a i = C a i) : InvK D A Rs := by
  obtain ⟨h1, h4, h5⟩ := h
  exact ⟨relQ_fr h1 (fun i hi => hD _ _ (by unfold LvK; omega)) h5.2.2.2.2.2.2.2.1, relO_fr h4 (fun a i hi => hD a i (Or.inl hi)), h5⟩
theorem inv_mk {C D : mMem} (h : Inv C) (hx : InvX D) (hw : ∃ A Rs, InvW D A Rs) (h1 : D 0 7 = C 0 7) (h2 : D 139 3 = C 139 3) (hK : ∀ a i, LvK a i → D a i = C a i) : Inv D := by
  obtain ⟨_, _, b, b1, b2, b3⟩ := h
  refine ⟨hx, hw, b, by rw [h1]; exact b1, by rw [h2]; exact b2, fun e => ?_⟩
  obtain ⟨A, Rs, hk⟩ := b3 e
  exact ⟨A, Rs, invK_fr hk hK⟩
/-- nothing that counts has changed -/
theorem inv_fr {C D : mMem} (h : Inv C) (hD : ∀ a i, (LvX a i ∨ LvW a i ∨ LvK a i ∨ (a = 0 ∧ i = 7) ∨ (a = 139 ∧ i = 3)) → D a i = C a i) : Inv D := by
  obtain ⟨A, Rs, hw⟩ := h.2.1
  exact inv_mk h (invX_fr h.1 (fun a i hi => hD a i (Or.inl hi))) ⟨A, Rs, invW_fr hw (fun a i hi => hD a i (Or.inr (Or.inl hi)))⟩ (hD _ _ (by omega)) (hD _ _ (by omega)) (fun a i hi => hD a i (Or.inr (Or.inr (Or.inl hi))))
theorem invW_M {C : mMem} {A : aS} {Rs : Int → aS} (h : InvW C A Rs) : RelM C A := rm_iff.mpr ⟨h.1.1, h.2.1, h.2.2.1⟩
theorem invW_F {C : mMem} {A : aS} {Rs : Int → aS} (h : InvW C A Rs) : RelF C 43 A := ⟨h.2.2.2.1.1, h.2.2.2.1.2.1⟩
theorem op_q {fF fM : mSem} {as : List Value} (h : ∀ C, Inv C → ∃ r, fF (.ref 0 :: as) C = some (some r, C) ∧ fM (.ref 139 :: as) C = some (some r, C)) : opOK Inv fF fM as := by
  intro C hC
  obtain ⟨r, h1, h2⟩ := h C hC
  exact ⟨r, C, C, h1, h2, hC⟩
theorem iz_ex (x : Int32) : ∃ v : Int, x = iz v ∧ -2147483648 ≤ v ∧ v < 2147483648 := ⟨x.toInt, (iz_self x).symm, iz_rg x⟩

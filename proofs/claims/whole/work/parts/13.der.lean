/-! DERIVATIONS: a stretch of bytecode does what a word says -/
theorem mI_spec {cs : List Nat} {j k : Nat} (h : mI cs j k = true) : ∃ (ci : Nat) (fs : List (Option Nat)), SH[k]? = some (.inr (.inr (ci, fs))) ∧ ci ∈ cs ∧ fs[j]? = some none := by
  unfold mI at h
  split at h
  · next q hq =>
    simp only [Bool.and_eq_true, List.contains_iff_mem, beq_iff_eq] at h
    exact ⟨q.1, q.2, hq, h.1, h.2⟩
  · cases h
theorem mR_spec {cs : List Nat} {j k t : Nat} (h : mR cs j k = some t) : ∃ (ci : Nat) (fs : List (Option Nat)), SH[k]? = some (.inr (.inr (ci, fs))) ∧ ci ∈ cs ∧ fs[j]? = some (some t) := by
  unfold mR at h
  split at h
  · next q hq =>
    split at h
    · next hc =>
      split at h
      · next t' ht =>
        cases h
        exact ⟨q.1, q.2, hq, List.contains_iff_mem.mp hc, ht⟩
      · cases h
    · cases h
  · cases h
theorem mA_spec {ty : FieldType} {k n : Nat} (h : mA ty k = some n) : SH[k]? = some (.inl (ty, n)) := by
  unfold mA at h
  split at h
  · next q hq =>
    split at h
    · next hc =>
      cases h
      rw [hq, ← hc]
    · cases h
  · cases h
theorem mQ_spec {k : Nat} {ts : List Nat} (h : mQ k = some ts) : ∃ Cn, SH[k]? = some (.inr (.inl (Cn, ts))) := by
  unfold mQ at h
  split at h
  · next q hq =>
    cases h
    exact ⟨q.1, hq⟩
  · cases h
section DER
variable {K : Nat → List Value → List Value → mMem → Prop} {cc : ByteArray} {fx : Nat → Nat → Option Nat} {px : Nat → Nat → Option (Nat × Bool)} {kx : Nat → Option Int32} {sx : Nat → Option Nat} {cx : Nat → Option (Nat × mSem)} {Rt : Option Int32 → mMem → Prop}
def cI (K : Nat → List Value → List Value → mMem → Prop) (d pc pe : Nat) (e : mEI) : Prop := ∀ (ls st : List Value) (C : mMem) (x : Int32) (C' : mMem), st.length = d → e ls C = some (x, C') → K pe ls (.int x :: st) C' → K pc ls st C
def cR (K : Nat → List Value → List Value → mMem → Prop) (d pc pe : Nat) (e : mER) : Prop := ∀ (ls st : List Value) (C : mMem) (x : Nat) (C' : mMem), st.length = d → e ls C = some (x, C') → K pe ls (.ref x :: st) C' → K pc ls st C
def cAs (K : Nat → List Value → List Value → mMem → Prop) (d pc pe n : Nat) (a : mAS) : Prop := ∀ (ls st : List Value) (C : mMem) (vs : List Value) (C' : mMem), st.length = d → a ls C = some (vs, C') → vs.length = n ∧ (K pe ls (vs.reverse ++ st) C' → K pc ls st C)
def cC (K : Nat → List Value → List Value → mMem → Prop) (d pc pt pf : Nat) (b : mEB) : Prop := ∀ (ls st : List Value) (C : mMem) (t : Bool) (C' : mMem), st.length = d → b ls C = some (t, C') → K (if t then pt else pf) ls st C' → K pc ls st C
def cSt (K : Nat → List Value → List Value → mMem → Prop) (Rt : Option Int32 → mMem → Prop) (pn pb pk : Nat) (r : mSR) : Prop := match r with
  | .inl q => K pn q.1 [] q.2
  | .inr (.inl q) => Rt q.1 q.2
  | .inr (.inr (false, l, D)) => K pb l [] D
  | .inr (.inr (true, l, D)) => K pk l [] D
def cS (K : Nat → List Value → List Value → mMem → Prop) (Rt : Option Int32 → mMem → Prop) (pc pn pb pk : Nat) (S : mSS) : Prop := ∀ (ls : List Value) (C : mMem) (r : mSR), S ls C = some r → cSt K Rt pn pb pk r → K pc ls [] C
theorem cI_hop (h : Clo K cc SH fx px kx sx cx Rt) {d pc p t : Nat} {e : mEI} {off : Int} (he : cI K d pc p e) (hd : decode cc p = .ok (.goto off, 3)) (ht : (p : Int) + off = (t : Int)) : cI K d pc t e :=
  fun ls st C x C' hs hx hk => he ls st C x C' hs hx (k_goto h p ls _ C' off t hd ht hk)
theorem cC_hopT (h : Clo K cc SH fx px kx sx cx Rt) {d pc p t pf : Nat} {e : mEB} {off : Int} (he : cC K d pc p pf e) (hd : decode cc p = .ok (.goto off, 3)) (ht : (p : Int) + off = (t : Int)) : cC K d pc t pf e :=
  fun ls st C x C' hs hx hk => he ls st C x C' hs hx (by
    cases x
    · exact hk
    · exact k_goto h p ls _ C' off t hd ht hk)
theorem cC_hopF (h : Clo K cc SH fx px kx sx cx Rt) {d pc p t pt : Nat} {e : mEB} {off : Int} (he : cC K d pc pt p e) (hd : decode cc p = .ok (.goto off, 3)) (ht : (p : Int) + off = (t : Int)) : cC K d pc pt t e :=
  fun ls st C x C' hs hx hk => he ls st C x C' hs hx (by
    cases x
    · exact k_goto h p ls _ C' off t hd ht hk
    · exact hk)
theorem cS_hop (h : Clo K cc SH fx px kx sx cx Rt) {pc p t pb pk : Nat} {S : mSS} {off : Int} (he : cS K Rt pc p pb pk S) (hd : decode cc p = .ok (.goto off, 3)) (ht : (p : Int) + off = (t : Int)) : cS K Rt pc t pb pk S :=
  fun ls C r hx hk => he ls C r hx (by
    rcases r with q | q | ⟨_ | _, q⟩
    · exact k_goto h p _ _ _ off t hd ht hk
    · exact hk
    · exact hk
    · exact hk)
theorem cI_iconst (h : Clo K cc SH fx px kx sx cx Rt) {d pc : Nat} {n : Int} {v : Int32} (hd : decode cc pc = .ok (.iconst n, 1)) (hv : Int32.ofInt n = v) : cI K d pc (pc + 1) (eInt v) := by
  intro ls st C x C' hs hx hk
  cases hx
  subst hv
  exact k_iconst h pc ls st C n hd hk
theorem cI_bipush (h : Clo K cc SH fx px kx sx cx Rt) {d pc : Nat} {n : Int} {v : Int32} (hd : decode cc pc = .ok (.bipush n, 2)) (hv : (Int8.ofInt n).toInt32 = v) : cI K d pc (pc + 2) (eInt v) := by
  intro ls st C x C' hs hx hk
  cases hx
  subst hv
  exact k_bipush h pc ls st C n hd hk
theorem cI_sipush (h : Clo K cc SH fx px kx sx cx Rt) {d pc : Nat} {n : Int} {v : Int32} (hd : decode cc pc = .ok (.sipush n, 3)) (hv : (Int16.ofInt n).toInt32 = v) : cI K d pc (pc + 3) (eInt v) := by
  intro ls st C x C' hs hx hk
  cases hx
  subst hv
  exact k_sipush h pc ls st C n hd hk
theorem cI_ldc (h : Clo K cc SH fx px kx sx cx Rt) {d pc ix : Nat} {v : Int32} (hd : decode cc pc = .ok (.ldc ix, 2)) (hv : kx ix = some v) : cI K d pc (pc + 2) (eInt v) := by
  intro ls st C x C' hs hx hk
  cases hx
  exact k_ldc h pc ls st C ix v hv hd hk
theorem cI_ldcw (h : Clo K cc SH fx px kx sx cx Rt) {d pc ix : Nat} {v : Int32} (hd : decode cc pc = .ok (.ldc_w ix, 3)) (hv : kx ix = some v) : cI K d pc (pc + 3) (eInt v) := by
  intro ls st C x C' hs hx hk
  cases hx
  exact k_ldcw h pc ls st C ix v hv hd hk
theorem cR_str (h : Clo K cc SH fx px kx sx cx Rt) {d pc ix k : Nat} (hd : decode cc pc = .ok (.ldc ix, 2)) (hv : sx ix = some k) : cR K d pc (pc + 2) (rStr k) := by
  intro ls st C x C' hs hx hk
  cases hx
  exact k_ldcS h pc ls st C ix k hv hd hk
theorem eLoc_spec {i : Nat} {ls : List Value} {C C' : mMem} {x : Int32} (h : eLoc i ls C = some (x, C')) : ls[i]? = some (.int x) ∧ C' = C := by
  unfold eLoc at h
  split at h
  · next y hy => cases h; exact ⟨hy, rfl⟩
  · cases h
theorem rLoc_spec {i : Nat} {ls : List Value} {C C' : mMem} {x : Nat} (h : rLoc i ls C = some (x, C')) : ls[i]? = some (.ref x) ∧ C' = C := by
  unfold rLoc at h
  split at h
  · next y hy => cases h; exact ⟨hy, rfl⟩
  · cases h
theorem cI_locn (h : Clo K cc SH fx px kx sx cx Rt) {d pc : Nat} {k : Fin 4} (hd : decode cc pc = .ok (.iload_n k, 1)) : cI K d pc (pc + 1) (eLoc k) := by
  intro ls st C x C' hs hx hk
  obtain ⟨h1, rfl⟩ := eLoc_spec hx
  exact k_iload_n h pc ls st _ k x hd h1 hk
theorem cI_loc (h : Clo K cc SH fx px kx sx cx Rt) {d pc k : Nat} (hd : decode cc pc = .ok (.iload k, 2)) : cI K d pc (pc + 2) (eLoc k) := by
  intro ls st C x C' hs hx hk
  obtain ⟨h1, rfl⟩ := eLoc_spec hx
  exact k_iload h pc ls st _ k x hd h1 hk
theorem cR_locn (h : Clo K cc SH fx px kx sx cx Rt) {d pc : Nat} {k : Fin 4} (hd : decode cc pc = .ok (.aload_n k, 1)) : cR K d pc (pc + 1) (rLoc k) := by
  intro ls st C x C' hs hx hk
  obtain ⟨h1, rfl⟩ := rLoc_spec hx
  exact k_aload_n h pc ls st _ k x hd h1 hk
theorem cR_loc (h : Clo K cc SH fx px kx sx cx Rt) {d pc k : Nat} (hd : decode cc pc = .ok (.aload k, 2)) : cR K d pc (pc + 2) (rLoc k) := by
  intro ls st C x C' hs hx hk
  obtain ⟨h1, rfl⟩ := rLoc_spec hx
  exact k_aload h pc ls st _ k x hd h1 hk
/-- the instructions that take two ints and give one -/
def kBin (i : Instr) : Option (Int32 → Int32 → Int32) := match i with
  | .iadd => some (fun x y => x + y)
  | .isub => some (fun x y => x - y)
  | .imul => some (fun x y => x * y)
  | .iand => some (fun x y => x &&& y)
  | .ior => some (fun x y => x ||| y)
  | .ishl => some (fun x y => x <<< (y &&& 31))
  | .ishr => some (fun x y => x >>> (y &&& 31))
  | _ => none
theorem k_bin (h : Clo K cc SH fx px kx sx cx Rt) {i : Instr} {f : Int32 → Int32 → Int32} (hf : kBin i = some f) (pc : Nat) (ls st : List Value) (C : mMem) (x y : Int32) (hd : decode cc pc = .ok (i, 1)) (hk : K (pc + 1) ls (.int (f x y) :: st) C) : K pc ls (.int y :: .int x :: st) C := by
  unfold kBin at hf
  split at hf <;> cases hf
  · exact k_iadd h pc ls st C x y hd hk
  · exact k_isub h pc ls st C x y hd hk
  · exact k_imul h pc ls st C x y hd hk
  · exact k_iand h pc ls st C x y hd hk
  · exact k_ior h pc ls st C x y hd hk
  · exact k_ishl h pc ls st C x y hd hk
  · exact k_ishr h pc ls st C x y hd hk
theorem cI_bin (h : Clo K cc SH fx px kx sx cx Rt) {d pc p1 p2 : Nat} {a b : mEI} {i : Instr} {f : Int32 → Int32 → Int32} (ha : cI K d pc p1 a) (hb : cI K (d + 1) p1 p2 b) (hf : kBin i = some f) (hd : decode cc p2 = .ok (i, 1)) : cI K d pc (p2 + 1) (eBin f a b) := by
  intro ls st C x C' hs hx hk
  obtain ⟨p, hp, hx⟩ := Option.bind_eq_some_iff.mp hx
  obtain ⟨q, hq, hx⟩ := Option.bind_eq_some_iff.mp hx
  cases hx
  exact ha ls st C p.1 p.2 hs hp (hb ls _ p.2 q.1 q.2 (by simp [hs]) hq (k_bin h hf p2 ls st q.2 p.1 q.1 hd hk))
theorem cI_div (h : Clo K cc SH fx px kx sx cx Rt) {d pc p1 p2 : Nat} {a b : mEI} (ha : cI K d pc p1 a) (hb : cI K (d + 1) p1 p2 b) (hd : decode cc p2 = .ok (.idiv, 1)) : cI K d pc (p2 + 1) (eDiv a b) := by
  intro ls st C x C' hs hx hk
  obtain ⟨p, hp, hx⟩ := Option.bind_eq_some_iff.mp hx
  obtain ⟨q, hq, hx⟩ := Option.bind_eq_some_iff.mp hx
  by_cases hz : q.1 = 0
  · rw [if_pos hz] at hx; cases hx
  · rw [if_neg hz] at hx
    cases hx
    exact ha ls st C p.1 p.2 hs hp (hb ls _ p.2 q.1 q.2 (by simp [hs]) hq (k_idiv h p2 ls st q.2 p.1 q.1 hd hz hk))
theorem cI_rem (h : Clo K cc SH fx px kx sx cx Rt) {d pc p1 p2 : Nat} {a b : mEI} (ha : cI K d pc p1 a) (hb : cI K (d + 1) p1 p2 b) (hd : decode cc p2 = .ok (.irem, 1)) : cI K d pc (p2 + 1) (eRem a b) := by
  intro ls st C x C' hs hx hk
  obtain ⟨p, hp, hx⟩ := Option.bind_eq_some_iff.mp hx
  obtain ⟨q, hq, hx⟩ := Option.bind_eq_some_iff.mp hx
  by_cases hz : q.1 = 0
  · rw [if_pos hz] at hx; cases hx
  · rw [if_neg hz] at hx
    cases hx
    exact ha ls st C p.1 p.2 hs hp (hb ls _ p.2 q.1 q.2 (by simp [hs]) hq (k_irem h p2 ls st q.2 p.1 q.1 hd hz hk))
theorem cI_neg (h : Clo K cc SH fx px kx sx cx Rt) {d pc p1 : Nat} {a : mEI} (ha : cI K d pc p1 a) (hd : decode cc p1 = .ok (.ineg, 1)) : cI K d pc (p1 + 1) (eUn (fun x => -x) a) := by
  intro ls st C x C' hs hx hk
  obtain ⟨p, hp, hx⟩ := Option.bind_eq_some_iff.mp hx
  cases hx
  exact ha ls st C p.1 p.2 hs hp (k_ineg h p1 ls st p.2 p.1 hd hk)
theorem cI_i2b (h : Clo K cc SH fx px kx sx cx Rt) {d pc p1 : Nat} {a : mEI} (ha : cI K d pc p1 a) (hd : decode cc p1 = .ok (.i2b, 1)) : cI K d pc (p1 + 1) (eUn (fun x => x.toInt8.toInt32) a) := by
  intro ls st C x C' hs hx hk
  obtain ⟨p, hp, hx⟩ := Option.bind_eq_some_iff.mp hx
  cases hx
  exact ha ls st C p.1 p.2 hs hp (k_i2b h p1 ls st p.2 p.1 hd hk)
theorem all_fx {fx : Nat → Nat → Option Nat} {cs : List Nat} {ix j ci : Nat} (hf : cs.all (fun ci => fx ix ci == some j) = true) (hc : ci ∈ cs) : fx ix ci = some j := by
  simpa using List.all_eq_true.mp hf ci hc
theorem all_px {px : Nat → Nat → Option (Nat × Bool)} {cs : List Nat} {ix j ci : Nat} {b : Bool} (hf : cs.all (fun ci => px ix ci == some (j, b)) = true) (hc : ci ∈ cs) : px ix ci = some (j, b) := by
  simpa using List.all_eq_true.mp hf ci hc
theorem cI_fld (h : Clo K cc SH fx px kx sx cx Rt) {d pc p1 ix j : Nat} {cs : List Nat} {r : mER} (hr : cR K d pc p1 r) (hf : cs.all (fun ci => fx ix ci == some j) = true) (hd : decode cc p1 = .ok (.getfield ix, 3)) : cI K d pc (p1 + 3) (eFld cs j r) := by
  intro ls st C x C' hs hx hk
  obtain ⟨p, hp, hx⟩ := Option.bind_eq_some_iff.mp hx
  by_cases hm : mI cs j p.1 = true
  · rw [if_pos hm] at hx
    cases hx
    obtain ⟨ci, fs, h1, h2, h3⟩ := mI_spec hm
    exact hr ls st C p.1 p.2 hs hp (k_get h p1 ls st p.2 ix p.1 ci j fs none hd h1 (all_fx hf h2) h3 hk)
  · rw [if_neg hm] at hx
    cases hx
theorem cR_fld (h : Clo K cc SH fx px kx sx cx Rt) {d pc p1 ix j : Nat} {cs : List Nat} {r : mER} (hr : cR K d pc p1 r) (hf : cs.all (fun ci => fx ix ci == some j) = true) (hd : decode cc p1 = .ok (.getfield ix, 3)) : cR K d pc (p1 + 3) (rFld cs j r) := by
  intro ls st C x C' hs hx hk
  obtain ⟨p, hp, hx⟩ := Option.bind_eq_some_iff.mp hx
  obtain ⟨t, ht, hx⟩ := Option.bind_eq_some_iff.mp hx
  cases hx
  obtain ⟨ci, fs, h1, h2, h3⟩ := mR_spec ht
  exact hr ls st C p.1 p.2 hs hp (k_get h p1 ls st p.2 ix p.1 ci j fs (some _) hd h1 (all_fx hf h2) h3 hk)
/-- which row of the kit reads, and which writes, a row of that type -/
def kAld (ty : FieldType) (i : Instr) : Bool := match ty, i with
  | .int, .iaload => true
  | .byte, .baload => true
  | .boolean, .baload => true
  | _, _ => false
def kAst (ty : FieldType) (i : Instr) : Bool := match ty, i with
  | .int, .iastore => true
  | .byte, .bastore => true
  | .boolean, .bastore => true
  | _, _ => false
theorem k_ald (h : Clo K cc SH fx px kx sx cx Rt) {ty : FieldType} {i : Instr} (hi : kAld ty i = true) (pc : Nat) (ls st : List Value) (C : mMem) (k n : Nat) (x : Int32) (hd : decode cc pc = .ok (i, 1)) (hs : SH[k]? = some (.inl (ty, n))) (hx : vp_in x n) (hk : K (pc + 1) ls (.int (C k x.toNatClampNeg) :: st) C) : K pc ls (.int x :: .ref k :: st) C := by
  unfold kAld at hi
  split at hi
  · exact k_iald h pc ls st C k n x hd hs hx hk
  · exact k_bald h pc ls st C k n x hd hs hx hk
  · exact k_zald h pc ls st C k n x hd hs hx hk
  · cases hi
theorem k_ast (h : Clo K cc SH fx px kx sx cx Rt) {ty : FieldType} {i : Instr} (hi : kAst ty i = true) (pc : Nat) (ls st : List Value) (C : mMem) (k n : Nat) (x y : Int32) (hd : decode cc pc = .ok (i, 1)) (hs : SH[k]? = some (.inl (ty, n))) (hx : vp_in x n) (hk : K (pc + 1) ls st (mUp C k x.toNatClampNeg (mNar ty y))) : K pc ls (.int y :: .int x :: .ref k :: st) C := by
  unfold kAst at hi
  split at hi
  · exact k_iast h pc ls st C k n x y hd hs hx hk
  · exact k_bast h pc ls st C k n x y hd hs hx hk
  · exact k_zast h pc ls st C k n x y hd hs hx hk
  · cases hi
theorem cI_ald (h : Clo K cc SH fx px kx sx cx Rt) {d pc p1 p2 : Nat} {ty : FieldType} {a : mER} {b : mEI} {i : Instr} (ha : cR K d pc p1 a) (hb : cI K (d + 1) p1 p2 b) (hi : kAld ty i = true) (hd : decode cc p2 = .ok (i, 1)) : cI K d pc (p2 + 1) (eALd ty a b) := by
  intro ls st C x C' hs hx hk
  obtain ⟨p, hp, hx⟩ := Option.bind_eq_some_iff.mp hx
  obtain ⟨q, hq, hx⟩ := Option.bind_eq_some_iff.mp hx
  obtain ⟨n, hn, hx⟩ := Option.bind_eq_some_iff.mp hx
  by_cases hm : mIn q.1 n = true
  · rw [if_pos hm] at hx
    cases hx
    exact ha ls st C p.1 p.2 hs hp (hb ls _ p.2 q.1 q.2 (by simp [hs]) hq (k_ald h hi p2 ls st q.2 p.1 n q.1 hd (mA_spec hn) (mIn_vp hm) hk))
  · rw [if_neg hm] at hx
    cases hx
theorem cR_ald (h : Clo K cc SH fx px kx sx cx Rt) {d pc p1 p2 : Nat} {a : mER} {b : mEI} (ha : cR K d pc p1 a) (hb : cI K (d + 1) p1 p2 b) (hd : decode cc p2 = .ok (.aaload, 1)) : cR K d pc (p2 + 1) (rALd a b) := by
  intro ls st C x C' hs hx hk
  obtain ⟨p, hp, hx⟩ := Option.bind_eq_some_iff.mp hx
  obtain ⟨q, hq, hx⟩ := Option.bind_eq_some_iff.mp hx
  obtain ⟨ts, hn, hx⟩ := Option.bind_eq_some_iff.mp hx
  by_cases hm : mIn q.1 ts.length = true
  · rw [if_pos hm] at hx
    obtain ⟨t, ht, hx⟩ := Option.bind_eq_some_iff.mp hx
    cases hx
    obtain ⟨Cn, hsh⟩ := mQ_spec hn
    exact ha ls st C p.1 p.2 hs hp (hb ls _ p.2 q.1 q.2 (by simp [hs]) hq (k_aald h p2 ls st q.2 p.1 Cn ts q.1 _ hd hsh (mIn_vp hm) ht hk))
  · rw [if_neg hm] at hx
    cases hx
theorem cI_alen (h : Clo K cc SH fx px kx sx cx Rt) {d pc p1 : Nat} {ty : FieldType} {a : mER} (ha : cR K d pc p1 a) (hd : decode cc p1 = .ok (.arraylength, 1)) : cI K d pc (p1 + 1) (eALen ty a) := by
  intro ls st C x C' hs hx hk
  obtain ⟨p, hp, hx⟩ := Option.bind_eq_some_iff.mp hx
  obtain ⟨n, hn, hx⟩ := Option.bind_eq_some_iff.mp hx
  cases hx
  exact ha ls st C p.1 p.2 hs hp (k_alen h p1 ls st p.2 p.1 n ty hd (mA_spec hn) hk)
theorem cA_nil {d pc : Nat} : cAs K d pc pc 0 aNil := by
  intro ls st C vs C' hs hx
  cases hx
  exact ⟨rfl, fun hk => hk⟩
theorem cA_i {d pc p1 p2 n : Nat} {e : mEI} {t : mAS} (he : cI K d pc p1 e) (ht : cAs K (d + 1) p1 p2 n t) : cAs K d pc p2 (n + 1) (aI e t) := by
  intro ls st C vs C' hs hx
  obtain ⟨p, hp, hx⟩ := Option.bind_eq_some_iff.mp hx
  obtain ⟨q, hq, hx⟩ := Option.bind_eq_some_iff.mp hx
  cases hx
  obtain ⟨h1, h2⟩ := ht ls (.int p.1 :: st) p.2 q.1 q.2 (by simp [hs]) hq
  exact ⟨by simp [h1], fun hk => he ls st C p.1 p.2 hs hp (h2 (by simpa using hk))⟩
theorem cA_r {d pc p1 p2 n : Nat} {e : mER} {t : mAS} (he : cR K d pc p1 e) (ht : cAs K (d + 1) p1 p2 n t) : cAs K d pc p2 (n + 1) (aR e t) := by
  intro ls st C vs C' hs hx
  obtain ⟨p, hp, hx⟩ := Option.bind_eq_some_iff.mp hx
  obtain ⟨q, hq, hx⟩ := Option.bind_eq_some_iff.mp hx
  cases hx
  obtain ⟨h1, h2⟩ := ht ls (.ref p.1 :: st) p.2 q.1 q.2 (by simp [hs]) hq
  exact ⟨by simp [h1], fun hk => he ls st C p.1 p.2 hs hp (h2 (by simpa using hk))⟩
theorem cI_call (h : Clo K cc SH fx px kx sx cx Rt) {d pc p1 n ix : Nat} {a : mAS} {f : mSem} {i : Instr} (ha : cAs K d pc p1 n a) (hc : cx ix = some (n, f)) (hi : rIx i = some ix) (h8 : Nat.ble d 8 = true) (hd : decode cc p1 = .ok (i, 3)) : cI K d pc (p1 + 3) (eCall f a) := by
  intro ls st C x C' hs hx hk
  obtain ⟨p, hp, hx⟩ := Option.bind_eq_some_iff.mp hx
  obtain ⟨q, hq, hx⟩ := Option.bind_eq_some_iff.mp hx
  obtain ⟨y, hy, hx⟩ := Option.bind_eq_some_iff.mp hx
  cases hx
  obtain ⟨h1, h2⟩ := ha ls st C p.1 p.2 hs hp
  refine h2 (k_call h p1 ls st p.1 p.2 q.2 i ix n f q.1 hd hi hc h1 (by rw [hs]; exact Nat.le_of_ble_eq_true h8) hq ?_)
  rw [hy]
  exact hk
theorem cS_call (h : Clo K cc SH fx px kx sx cx Rt) {pc p1 n ix pb pk : Nat} {a : mAS} {f : mSem} {i : Instr} (ha : cAs K 0 pc p1 n a) (hc : cx ix = some (n, f)) (hi : rIx i = some ix) (hd : decode cc p1 = .ok (i, 3)) : cS K Rt pc (p1 + 3) pb pk (sCall f a) := by
  intro ls C r hx hk
  obtain ⟨p, hp, hx⟩ := Option.bind_eq_some_iff.mp hx
  obtain ⟨q, hq, hx⟩ := Option.bind_eq_some_iff.mp hx
  obtain ⟨v, C1⟩ := q
  cases v with
  | some y => cases hx
  | none =>
    cases hx
    obtain ⟨h1, h2⟩ := ha ls [] C p.1 p.2 rfl hp
    exact h2 (k_call h p1 ls [] p.1 p.2 C1 i ix n f none hd hi hc h1 (by simp) hq hk)
/-! conditions -/
def czn (cd : ClassFile.Cond) : ClassFile.Cond := match cd with
  | .eq => .ne
  | .ne => .eq
  | .lt => .ge
  | .ge => .lt
  | .gt => .le
  | .le => .gt
theorem cz_not (cd : ClassFile.Cond) (x y : Int32) : cz (czn cd) x y = !cz cd x y := by
  cases cd <;> simp only [cz, czn, Bool.not_not]
  · by_cases q : x < y
    · simp [q, Int32.not_le.mpr q]
    · simp [q, Int32.not_lt.mp q]
  · by_cases q : x < y
    · simp [q, Int32.not_le.mpr q]
    · simp [q, Int32.not_lt.mp q]
  · by_cases q : y < x
    · simp [q, Int32.not_le.mpr q]
    · simp [q, Int32.not_lt.mp q]
  · by_cases q : y < x
    · simp [q, Int32.not_le.mpr q]
    · simp [q, Int32.not_lt.mp q]
theorem cC_cmpT (h : Clo K cc SH fx px kx sx cx Rt) {d pc p1 p2 tgt : Nat} {cd : ClassFile.Cond} {off : Int} {a b : mEI} (ha : cI K d pc p1 a) (hb : cI K (d + 1) p1 p2 b) (hd : decode cc p2 = .ok (.if_icmp cd off, 3)) (ht : (p2 : Int) + off = (tgt : Int)) : cC K d pc tgt (p2 + 3) (bCmp cd a b) := by
  intro ls st C x C' hs hx hk
  obtain ⟨p, hp, hx⟩ := Option.bind_eq_some_iff.mp hx
  obtain ⟨q, hq, hx⟩ := Option.bind_eq_some_iff.mp hx
  cases hx
  refine ha ls st C p.1 p.2 hs hp (hb ls _ p.2 q.1 q.2 (by simp [hs]) hq (k_ific h p2 ls st q.2 cd off tgt p.1 q.1 hd ht (fun z => ?_) (fun z => ?_)))
  · rw [z] at hk; exact hk
  · rw [z] at hk; exact hk
theorem cC_cmpF (h : Clo K cc SH fx px kx sx cx Rt) {d pc p1 p2 tgt : Nat} {cd : ClassFile.Cond} {off : Int} {a b : mEI} (ha : cI K d pc p1 a) (hb : cI K (d + 1) p1 p2 b) (hd : decode cc p2 = .ok (.if_icmp (czn cd) off, 3)) (ht : (p2 : Int) + off = (tgt : Int)) : cC K d pc (p2 + 3) tgt (bCmp cd a b) := by
  intro ls st C x C' hs hx hk
  obtain ⟨p, hp, hx⟩ := Option.bind_eq_some_iff.mp hx
  obtain ⟨q, hq, hx⟩ := Option.bind_eq_some_iff.mp hx
  cases hx
  refine ha ls st C p.1 p.2 hs hp (hb ls _ p.2 q.1 q.2 (by simp [hs]) hq (k_ific h p2 ls st q.2 (czn cd) off tgt p.1 q.1 hd ht (fun z => ?_) (fun z => ?_)))
  · rw [cz_not] at z; rw [Bool.not_eq_true' .. |>.mp z] at hk; exact hk
  · rw [cz_not] at z; rw [Bool.not_eq_false' .. |>.mp z] at hk; exact hk
theorem cC_zT (h : Clo K cc SH fx px kx sx cx Rt) {d pc p1 tgt : Nat} {cd : ClassFile.Cond} {off : Int} {a : mEI} (ha : cI K d pc p1 a) (hd : decode cc p1 = .ok (.ifCond cd off, 3)) (ht : (p1 : Int) + off = (tgt : Int)) : cC K d pc tgt (p1 + 3) (bZ cd a) := by
  intro ls st C x C' hs hx hk
  obtain ⟨p, hp, hx⟩ := Option.bind_eq_some_iff.mp hx
  cases hx
  refine ha ls st C p.1 p.2 hs hp (k_ifz h p1 ls st p.2 cd off tgt p.1 hd ht (fun z => ?_) (fun z => ?_))
  · rw [z] at hk; exact hk
  · rw [z] at hk; exact hk
theorem cC_zF (h : Clo K cc SH fx px kx sx cx Rt) {d pc p1 tgt : Nat} {cd : ClassFile.Cond} {off : Int} {a : mEI} (ha : cI K d pc p1 a) (hd : decode cc p1 = .ok (.ifCond (czn cd) off, 3)) (ht : (p1 : Int) + off = (tgt : Int)) : cC K d pc (p1 + 3) tgt (bZ cd a) := by
  intro ls st C x C' hs hx hk
  obtain ⟨p, hp, hx⟩ := Option.bind_eq_some_iff.mp hx
  cases hx
  refine ha ls st C p.1 p.2 hs hp (k_ifz h p1 ls st p.2 (czn cd) off tgt p.1 hd ht (fun z => ?_) (fun z => ?_))
  · rw [cz_not] at z; rw [Bool.not_eq_true' .. |>.mp z] at hk; exact hk
  · rw [cz_not] at z; rw [Bool.not_eq_false' .. |>.mp z] at hk; exact hk
theorem cC_and {d pc p1 pt pf : Nat} {a b : mEB} (ha : cC K d pc p1 pf a) (hb : cC K d p1 pt pf b) : cC K d pc pt pf (bAnd a b) := by
  intro ls st C x C' hs hx hk
  obtain ⟨⟨t, C1⟩, hp, hx⟩ := Option.bind_eq_some_iff.mp hx
  cases t with
  | true => exact ha ls st C true C1 hs hp (hb ls st C1 x C' hs hx hk)
  | false => cases hx; exact ha ls st C false C1 hs hp hk
theorem cC_or {d pc p1 pt pf : Nat} {a b : mEB} (ha : cC K d pc pt p1 a) (hb : cC K d p1 pt pf b) : cC K d pc pt pf (bOr a b) := by
  intro ls st C x C' hs hx hk
  obtain ⟨⟨t, C1⟩, hp, hx⟩ := Option.bind_eq_some_iff.mp hx
  cases t with
  | false => exact ha ls st C false C1 hs hp (hb ls st C1 x C' hs hx hk)
  | true => cases hx; exact ha ls st C true C1 hs hp hk
theorem cC_not {d pc pt pf : Nat} {a : mEB} (ha : cC K d pc pf pt a) : cC K d pc pt pf (bNot a) := by
  intro ls st C x C' hs hx hk
  obtain ⟨⟨t, C1⟩, hp, hx⟩ := Option.bind_eq_some_iff.mp hx
  cases hx
  exact ha ls st C t C1 hs hp (by cases t <;> exact hk)
theorem cI_b (h : Clo K cc SH fx px kx sx cx Rt) {d pc pt pf pe : Nat} {b : mEB} (hb : cC K d pc pt pf b) (h1 : cI K d pt pe (eInt 1)) (h0 : cI K d pf pe (eInt 0)) : cI K d pc pe (eB b) := by
  intro ls st C x C' hs hx hk
  obtain ⟨⟨t, C1⟩, hp, hx⟩ := Option.bind_eq_some_iff.mp hx
  cases hx
  refine hb ls st C t C1 hs hp ?_
  cases t with
  | true => exact h1 ls st C1 1 C1 hs rfl hk
  | false => exact h0 ls st C1 0 C1 hs rfl hk
theorem cI_ite {d pc pt pf pe : Nat} {c : mEB} {a b : mEI} (hc : cC K d pc pt pf c) (ha : cI K d pt pe a) (hb : cI K d pf pe b) : cI K d pc pe (eIte c a b) := by
  intro ls st C x C' hs hx hk
  obtain ⟨⟨t, C1⟩, hp, hx⟩ := Option.bind_eq_some_iff.mp hx
  refine hc ls st C t C1 hs hp ?_
  cases t with
  | true => exact ha ls st C1 x C' hs hx hk
  | false => exact hb ls st C1 x C' hs hx hk
/-! statements -/
theorem cS_setn (h : Clo K cc SH fx px kx sx cx Rt) {pc p1 pb pk : Nat} {k : Fin 4} {e : mEI} (he : cI K 0 pc p1 e) (hd : decode cc p1 = .ok (.istore_n k, 1)) : cS K Rt pc (p1 + 1) pb pk (sSet k e) := by
  intro ls C r hx hk
  obtain ⟨p, hp, hx⟩ := Option.bind_eq_some_iff.mp hx
  by_cases hl : (k : Nat) < ls.length
  · rw [if_pos hl] at hx; cases hx
    exact he ls [] C p.1 p.2 rfl hp (k_istore_n h p1 ls [] p.2 k p.1 hd hl hk)
  · rw [if_neg hl] at hx; cases hx
theorem cS_set (h : Clo K cc SH fx px kx sx cx Rt) {pc p1 pb pk k : Nat} {e : mEI} (he : cI K 0 pc p1 e) (hd : decode cc p1 = .ok (.istore k, 2)) : cS K Rt pc (p1 + 2) pb pk (sSet k e) := by
  intro ls C r hx hk
  obtain ⟨p, hp, hx⟩ := Option.bind_eq_some_iff.mp hx
  by_cases hl : k < ls.length
  · rw [if_pos hl] at hx; cases hx
    exact he ls [] C p.1 p.2 rfl hp (k_istore h p1 ls [] p.2 k p.1 hd hl hk)
  · rw [if_neg hl] at hx; cases hx
theorem cS_setRn (h : Clo K cc SH fx px kx sx cx Rt) {pc p1 pb pk : Nat} {k : Fin 4} {e : mER} (he : cR K 0 pc p1 e) (hd : decode cc p1 = .ok (.astore_n k, 1)) : cS K Rt pc (p1 + 1) pb pk (sSetR k e) := by
  intro ls C r hx hk
  obtain ⟨p, hp, hx⟩ := Option.bind_eq_some_iff.mp hx
  by_cases hl : (k : Nat) < ls.length
  · rw [if_pos hl] at hx; cases hx
    exact he ls [] C p.1 p.2 rfl hp (k_astore_n h p1 ls [] p.2 k p.1 hd hl hk)
  · rw [if_neg hl] at hx; cases hx
theorem cS_setR (h : Clo K cc SH fx px kx sx cx Rt) {pc p1 pb pk k : Nat} {e : mER} (he : cR K 0 pc p1 e) (hd : decode cc p1 = .ok (.astore k, 2)) : cS K Rt pc (p1 + 2) pb pk (sSetR k e) := by
  intro ls C r hx hk
  obtain ⟨p, hp, hx⟩ := Option.bind_eq_some_iff.mp hx
  by_cases hl : k < ls.length
  · rw [if_pos hl] at hx; cases hx
    exact he ls [] C p.1 p.2 rfl hp (k_astore h p1 ls [] p.2 k p.1 hd hl hk)
  · rw [if_neg hl] at hx; cases hx
theorem cS_inc (h : Clo K cc SH fx px kx sx cx Rt) {pc pb pk k : Nat} {n : Int} {v : Int32} (hd : decode cc pc = .ok (.iinc k n, 3)) (hv : Int32.ofInt n = v) : cS K Rt pc (pc + 3) pb pk (sInc k v) := by
  intro ls C r hx hk
  unfold sInc at hx
  split at hx
  · next x hl =>
    cases hx
    subst hv
    exact k_iinc h pc ls [] C k n x hd hl hk
  · cases hx
theorem cS_put (h : Clo K cc SH fx px kx sx cx Rt) {pc p1 p2 pb pk ix j : Nat} {cs : List Nat} {b : Bool} {r : mER} {e : mEI} (hr : cR K 0 pc p1 r) (he : cI K 1 p1 p2 e) (hf : cs.all (fun ci => px ix ci == some (j, b)) = true) (hd : decode cc p2 = .ok (.putfield ix, 3)) : cS K Rt pc (p2 + 3) pb pk (sPut cs j b r e) := by
  intro ls C o hx hk
  obtain ⟨p, hp, hx⟩ := Option.bind_eq_some_iff.mp hx
  obtain ⟨q, hq, hx⟩ := Option.bind_eq_some_iff.mp hx
  by_cases hm : (mI cs j p.1 && (!b || q.1 == 0 || q.1 == 1)) = true
  · rw [if_pos hm] at hx
    cases hx
    simp only [Bool.and_eq_true] at hm
    obtain ⟨ci, fs, h1, h2, h3⟩ := mI_spec hm.1
    refine hr ls [] C p.1 p.2 rfl hp (he ls _ p.2 q.1 q.2 rfl hq (k_put h p2 ls [] q.2 ix p.1 ci j b fs q.1 hd h1 (all_px hf h2) h3 (fun hb => ?_) hk))
    have h4 := hm.2
    rw [hb] at h4
    simpa using h4
  · rw [if_neg hm] at hx
    cases hx
theorem cS_putOp (h : Clo K cc SH fx px kx sx cx Rt) {pc p1 p2 pb pk ix j : Nat} {cs : List Nat} {b : Bool} {r : mER} {e : mEI} {i : Instr} {f : Int32 → Int32 → Int32} (hr : cR K 0 pc p1 r) (hd1 : decode cc p1 = .ok (.dup, 1)) (hf1 : cs.all (fun ci => fx ix ci == some j) = true) (hd2 : decode cc (p1 + 1) = .ok (.getfield ix, 3)) (he : cI K 2 (p1 + 4) p2 e) (hi : kBin i = some f) (hd3 : decode cc p2 = .ok (i, 1)) (hf : cs.all (fun ci => px ix ci == some (j, b)) = true) (hd : decode cc (p2 + 1) = .ok (.putfield ix, 3)) : cS K Rt pc (p2 + 4) pb pk (sPutOp cs j b f r e) := by
  intro ls C o hx hk
  obtain ⟨p, hp, hx⟩ := Option.bind_eq_some_iff.mp hx
  by_cases hm : mI cs j p.1 = true
  · rw [if_pos hm] at hx
    obtain ⟨q, hq, hx⟩ := Option.bind_eq_some_iff.mp hx
    split at hx
    · next h4 =>
      cases hx
      obtain ⟨ci, fs, h1, h2, h3⟩ := mI_spec hm
      refine hr ls [] C p.1 p.2 rfl hp (k_dup h p1 ls [] p.2 (.ref p.1) hd1 (k_get h (p1 + 1) ls [.ref p.1] p.2 ix p.1 ci j fs none hd2 h1 (all_fx hf1 h2) h3 ?_))
      refine he ls _ p.2 q.1 q.2 rfl hq (k_bin h hi p2 ls _ q.2 _ q.1 hd3 (k_put h (p2 + 1) ls [] q.2 ix p.1 ci j b fs _ hd h1 (all_px hf h2) h3 (fun hb => ?_) hk))
      rw [hb] at h4
      simpa using h4
    · cases hx
  · rw [if_neg hm] at hx
    cases hx
theorem cS_ast (h : Clo K cc SH fx px kx sx cx Rt) {pc p1 p2 p3 pb pk : Nat} {ty : FieldType} {a : mER} {b e : mEI} {i : Instr} (ha : cR K 0 pc p1 a) (hb : cI K 1 p1 p2 b) (he : cI K 2 p2 p3 e) (hi : kAst ty i = true) (hd : decode cc p3 = .ok (i, 1)) : cS K Rt pc (p3 + 1) pb pk (sASt ty a b e) := by
  intro ls C o hx hk
  obtain ⟨p, hp, hx⟩ := Option.bind_eq_some_iff.mp hx
  obtain ⟨q, hq, hx⟩ := Option.bind_eq_some_iff.mp hx
  obtain ⟨r, hr, hx⟩ := Option.bind_eq_some_iff.mp hx
  obtain ⟨n, hn, hx⟩ := Option.bind_eq_some_iff.mp hx
  by_cases hm : mIn q.1 n = true
  · rw [if_pos hm] at hx
    cases hx
    exact ha ls [] C p.1 p.2 rfl hp (hb ls _ p.2 q.1 q.2 rfl hq (he ls _ q.2 r.1 r.2 rfl hr (k_ast h hi p3 ls [] r.2 p.1 n q.1 r.1 hd (mA_spec hn) (mIn_vp hm) hk)))
  · rw [if_neg hm] at hx
    cases hx
theorem cS_aop (h : Clo K cc SH fx px kx sx cx Rt) {pc p1 p2 p3 pb pk : Nat} {a : mER} {b e : mEI} {i : Instr} {f : Int32 → Int32 → Int32} (ha : cR K 0 pc p1 a) (hb : cI K 1 p1 p2 b) (hd1 : decode cc p2 = .ok (.dup2, 1)) (hd2 : decode cc (p2 + 1) = .ok (.iaload, 1)) (he : cI K 3 (p2 + 2) p3 e) (hi : kBin i = some f) (hd3 : decode cc p3 = .ok (i, 1)) (hd : decode cc (p3 + 1) = .ok (.iastore, 1)) : cS K Rt pc (p3 + 2) pb pk (sAOp f a b e) := by
  intro ls C o hx hk
  obtain ⟨p, hp, hx⟩ := Option.bind_eq_some_iff.mp hx
  obtain ⟨q, hq, hx⟩ := Option.bind_eq_some_iff.mp hx
  obtain ⟨n, hn, hx⟩ := Option.bind_eq_some_iff.mp hx
  by_cases hm : mIn q.1 n = true
  · rw [if_pos hm] at hx
    obtain ⟨r, hr, hx⟩ := Option.bind_eq_some_iff.mp hx
    cases hx
    refine ha ls [] C p.1 p.2 rfl hp (hb ls _ p.2 q.1 q.2 rfl hq (k_dup2 h p2 ls [] q.2 (.int q.1) (.ref p.1) hd1 (k_iald h (p2 + 1) ls _ q.2 p.1 n q.1 hd2 (mA_spec hn) (mIn_vp hm) ?_)))
    exact he ls _ q.2 r.1 r.2 rfl hr (k_bin h hi p3 ls _ r.2 _ r.1 hd3 (k_iast h (p3 + 1) ls [] r.2 p.1 n q.1 _ hd (mA_spec hn) (mIn_vp hm) hk))
  · rw [if_neg hm] at hx
    cases hx
theorem cS_adiv (h : Clo K cc SH fx px kx sx cx Rt) {pc p1 p2 p3 pb pk : Nat} {a : mER} {b e : mEI} (ha : cR K 0 pc p1 a) (hb : cI K 1 p1 p2 b) (hd1 : decode cc p2 = .ok (.dup2, 1)) (hd2 : decode cc (p2 + 1) = .ok (.iaload, 1)) (he : cI K 3 (p2 + 2) p3 e) (hd3 : decode cc p3 = .ok (.idiv, 1)) (hd : decode cc (p3 + 1) = .ok (.iastore, 1)) : cS K Rt pc (p3 + 2) pb pk (sADiv a b e) := by
  intro ls C o hx hk
  obtain ⟨p, hp, hx⟩ := Option.bind_eq_some_iff.mp hx
  obtain ⟨q, hq, hx⟩ := Option.bind_eq_some_iff.mp hx
  obtain ⟨n, hn, hx⟩ := Option.bind_eq_some_iff.mp hx
  by_cases hm : mIn q.1 n = true
  · rw [if_pos hm] at hx
    obtain ⟨r, hr, hx⟩ := Option.bind_eq_some_iff.mp hx
    by_cases hz : r.1 = 0
    · rw [if_pos hz] at hx; cases hx
    · rw [if_neg hz] at hx
      cases hx
      refine ha ls [] C p.1 p.2 rfl hp (hb ls _ p.2 q.1 q.2 rfl hq (k_dup2 h p2 ls [] q.2 (.int q.1) (.ref p.1) hd1 (k_iald h (p2 + 1) ls _ q.2 p.1 n q.1 hd2 (mA_spec hn) (mIn_vp hm) ?_)))
      exact he ls _ q.2 r.1 r.2 rfl hr (k_idiv h p3 ls _ r.2 _ r.1 hd3 hz (k_iast h (p3 + 1) ls [] r.2 p.1 n q.1 _ hd (mA_spec hn) (mIn_vp hm) hk))
  · rw [if_neg hm] at hx
    cases hx
theorem cS_skip {pc pb pk : Nat} : cS K Rt pc pc pb pk sSkip := by
  intro ls C r hx hk
  cases hx
  exact hk
theorem cS_brk {pn pb pk : Nat} : cS K Rt pb pn pb pk sBrk := by
  intro ls C r hx hk
  cases hx
  exact hk
theorem cS_cont {pn pb pk : Nat} : cS K Rt pk pn pb pk sCont := by
  intro ls C r hx hk
  cases hx
  exact hk
/-- a goto ahead of a stretch -/
theorem cS_pre (h : Clo K cc SH fx px kx sx cx Rt) {p t pn pb pk : Nat} {S : mSS} {off : Int} (he : cS K Rt t pn pb pk S) (hd : decode cc p = .ok (.goto off, 3)) (ht : (p : Int) + off = (t : Int)) : cS K Rt p pn pb pk S :=
  fun ls C r hx hk => k_goto h p ls [] C off t hd ht (he ls C r hx hk)
theorem cS_seq {pc p1 pn pb pk : Nat} {a b : mSS} (ha : cS K Rt pc p1 pb pk a) (hb : cS K Rt p1 pn pb pk b) : cS K Rt pc pn pb pk (sSeq a b) := by
  intro ls C r hx hk
  obtain ⟨q, hq, hx⟩ := Option.bind_eq_some_iff.mp hx
  refine ha ls C q hq ?_
  rcases q with q | q | ⟨_ | _, q⟩
  · exact hb q.1 q.2 r hx hk
  · cases hx; exact hk
  · cases hx; exact hk
  · cases hx; exact hk
theorem cS_if {pc pt pf pn pb pk : Nat} {c : mEB} {a b : mSS} (hc : cC K 0 pc pt pf c) (ha : cS K Rt pt pn pb pk a) (hb : cS K Rt pf pn pb pk b) : cS K Rt pc pn pb pk (sIf c a b) := by
  intro ls C r hx hk
  obtain ⟨⟨t, C1⟩, hp, hx⟩ := Option.bind_eq_some_iff.mp hx
  refine hc ls [] C t C1 rfl hp ?_
  cases t with
  | true => exact ha ls C1 r hx hk
  | false => exact hb ls C1 r hx hk
theorem cS_ret (h : Clo K cc SH fx px kx sx cx Rt) {pc p1 pn pb pk : Nat} {e : mEI} (he : cI K 0 pc p1 e) (hd : decode cc p1 = .ok (.ireturn, 1)) : cS K Rt pc pn pb pk (sRet e) := by
  intro ls C r hx hk
  obtain ⟨p, hp, hx⟩ := Option.bind_eq_some_iff.mp hx
  cases hx
  exact he ls [] C p.1 p.2 rfl hp (k_ret h p1 ls p.2 p.1 hd hk)
theorem cS_retZ (h : Clo K cc SH fx px kx sx cx Rt) {pc p1 pn pb pk : Nat} {e : mEI} (he : cI K 0 pc p1 e) (hd : decode cc p1 = .ok (.ireturn, 1)) : cS K Rt pc pn pb pk (sRetZ e) := by
  intro ls C r hx hk
  obtain ⟨p, hp, hx⟩ := Option.bind_eq_some_iff.mp hx
  split at hx
  · cases hx
    exact he ls [] C p.1 p.2 rfl hp (k_ret h p1 ls p.2 p.1 hd hk)
  · cases hx
theorem cS_retV (h : Clo K cc SH fx px kx sx cx Rt) {pc pn pb pk : Nat} (hd : decode cc pc = .ok (.return_, 1)) : cS K Rt pc pn pb pk sRetV := by
  intro ls C r hx hk
  cases hx
  exact k_retv h pc ls C hd hk
theorem cS_caC {pc pn pb pk : Nat} {a : mSS} (ha : cS K Rt pc pn pb pn a) : cS K Rt pc pn pb pk (sCaC a) := by
  intro ls C r hx hk
  obtain ⟨q, hq, hx⟩ := Option.bind_eq_some_iff.mp hx
  refine ha ls C q hq ?_
  rcases q with q | q | ⟨_ | _, q⟩ <;> cases hx <;> exact hk
theorem cS_caB {pc pn pb pk : Nat} {a : mSS} (ha : cS K Rt pc pn pn pk a) : cS K Rt pc pn pb pk (sCaB a) := by
  intro ls C r hx hk
  obtain ⟨q, hq, hx⟩ := Option.bind_eq_some_iff.mp hx
  refine ha ls C q hq ?_
  rcases q with q | q | ⟨_ | _, q⟩ <;> cases hx <;> exact hk
theorem cS_wh {pc pt pn pb pk : Nat} {c : mEB} {b : mSS} (hc : cC K 0 pc pt pn c) (hb : cS K Rt pt pc pn pc b) : cS K Rt pc pn pb pk (sWh c b) := by
  intro ls C r hx hk
  obtain ⟨n, hn⟩ := sWh_iff.mp hx
  clear hx
  induction n generalizing ls C with
  | zero => cases hn
  | succ n ih =>
    rw [sWhF] at hn
    dsimp only at hn
    obtain ⟨⟨t, C1⟩, hp, hn⟩ := Option.bind_eq_some_iff.mp hn
    refine hc ls [] C t C1 rfl hp ?_
    cases t with
    | false => cases hn; exact hk
    | true =>
      obtain ⟨q, hq, hn⟩ := Option.bind_eq_some_iff.mp hn
      refine hb ls C1 q hq ?_
      rcases q with q | q | ⟨_ | _, q⟩
      · exact ih q.1 q.2 hn
      · cases hn; exact hk
      · cases hn; exact hk
      · exact ih q.1 q.2 hn
theorem cS_sw (h : Clo K cc SH fx px kx sx cx Rt) {pc p1 pn pb pk len : Nat} {df lo hi : Int} {offs : Array Int} {e : mEI} {g : Int32 → mSS} (he : cI K 0 pc p1 e) (hd : decode cc p1 = .ok (.tableswitch df lo hi offs, len)) (hg : ∀ x : Int32, ∃ (tgt : Nat), (((x.toInt < lo ∨ hi < x.toInt) ∧ (p1 : Int) + df = (tgt : Int)) ∨ (¬ x.toInt < lo ∧ ¬ hi < x.toInt ∧ ∃ off, offs[(x.toInt - lo).toNat]? = some off ∧ (p1 : Int) + off = (tgt : Int))) ∧ cS K Rt tgt pn pb pk (g x)) : cS K Rt pc pn pb pk (sSw e g) := by
  intro ls C r hx hk
  obtain ⟨p, hp, hx⟩ := Option.bind_eq_some_iff.mp hx
  refine he ls [] C p.1 p.2 rfl hp ?_
  obtain ⟨tgt, h1 | ⟨h1, h2, off, h3, h4⟩, h5⟩ := hg p.1
  · exact k_tswO h p1 ls [] p.2 df lo hi offs len tgt p.1 hd h1.1 h1.2 (h5 ls p.2 r hx hk)
  · exact k_tswI h p1 ls [] p.2 df lo hi off offs len tgt p.1 hd h1 h2 h3 h4 (h5 ls p.2 r hx hk)
/-- a whole method -/
theorem cS_body {nL : Nat} {S : mSS} (hS : cS K Rt 0 0 0 0 S) {as : List Value} {C C' : mMem} {r : Option Int32} (hf : mBody nL S as C = some (r, C')) (hr : Rt r C') : as.length ≤ nL ∧ K 0 (as ++ List.replicate (nL - as.length) .null) [] C := by
  unfold mBody at hf
  by_cases hl : as.length ≤ nL
  · rw [if_pos hl] at hf
    refine ⟨hl, ?_⟩
    obtain ⟨q, hq, hx⟩ := Option.bind_eq_some_iff.mp hf
    refine hS _ C q hq ?_
    rcases q with q | q | q
    · cases hx
    · cases hx; exact hr
    · cases hx
  · rw [if_neg hl] at hf
    cases hf
end DER

/-! CALLS that are none of an object's own methods: inherited ones, and the JDK's few -/
/-- the words of a call of a method that a superclass declares, on an object of class C -/
def wdU (own : String) (ix : Nat) (C owner : String) (x y : MethodName) (cc : ByteArray) (nL : Nat) (ret : Option FieldType) : Prop := Jvm.Cond.methodLink own ix x ∈ gT ∧ Jvm.Cond.sameMethod x.cls owner x.name x.desc ∈ gT ∧ Jvm.Cond.instanceMethod y ∈ gT ∧ Jvm.Cond.initialized y.cls ∈ gT ∧ Jvm.Cond.code y cc nL ret ∈ gT ∧ (∀ (args : Array Value) (s : State), (∀ w ∈ gT, w.before args s = true) → (Jvm.Cond.selects C x y).before args s = true) ∧ (∀ (args : Array Value) (s : State), (∀ w ∈ gT, w.before args s = true) → va_Nw (.declares ⟨"FourCars$Chain", "piece", "(II)I"⟩) s → va_Decl s ⟨owner, x.name, x.desc⟩)
theorem call_U {l : Launch} {own : String} {ix n d d' ci : Nat} {x y : MethodName} {C owner : String} {cc : ByteArray} {nL : Nat} {ret : Option FieldType} {f : mSem} {T : u_T} {N : Nat} (hM : mMet l y cc nL ret d' f) (hw : wdU own ix C owner x y cc nL ret) (hci : clsL[ci]? = some (C, T, N)) (hd : d' + 1 ≤ d) (hn : nL ≤ 21)
    (hy : owner ≠ "java/lang/invoke/MethodHandle" ∧ owner ≠ "java/lang/invoke/VarHandle" ∧ (parseMethodDescriptor x.desc).map (fun d => d.parameters.length) = some n) : mCall l own (2 * ix) (n + 1) d (rcv [ci] f) := by
  intro p e s m args below meth c Q D tys ad cA adV nL0 cc0 w0 hx hb hml hown hts hK hinj hT hStr
  intro pc i H locs lsA as rest r Cm C' hdec hi hlen hf hcat hsum hP hS hsz kk
  cases rIx_V hi
  obtain ⟨k, bs, rfl, ⟨ci', fs, hsh, hmem⟩, hf0⟩ := rcv_spec hf
  cases List.mem_singleton.mp hmem
  have hT0 : ∀ w ∈ gT, w.before args s = true := fun w h => hts w (List.mem_cons_of_mem _ h)
  have hG : GoodIn (w0 :: gT) (wY y cc nL ret) := gT_goodIn (wY_in hw.2.2.2.2.1)
  have cu : va_CU (RM d) s args own C owner ix x y cc nL ret (wY y cc nL ret) (RM d') 0 0 n := by
    refine ⟨⟨rfl, rfl, hd, by show 8 + (nL + 11) + 40 * d' ≤ 40 * d; omega, pay_in hts hG, List.mem_cons_self⟩, hT0 _ hw.2.2.2.2.1, hT0 _ hw.2.2.2.1, ⟨hy.1, hy.2.1⟩, fun sig h => ?_, hT0 _ hw.1, hT0 _ hw.2.1, hw.2.2.2.2.2.2 args s hT0 hStr.2.2.2.2, hw.2.2.2.2.2.1 args s hT0, hT0 _ hw.2.2.1⟩
    have h2 := hy.2.2
    rw [h] at h2
    exact (Option.some.inj h2).symm
  have run := va_runU (p := p) (l := l) (e := e) (R := RM d) (s := s) (m := m) (args := args) (below := below) (meth := meth) (c := c) (H := H) (locs := locs) (cells := 0) (slots := 0) (g := F0 m pc lsA (((bs.map (mV ad)).reverse) ++ .ref (ad k) :: rest)) (As := bs.map (mV ad)) (rest := rest) (b := ad k) ⟨hx, hb, hml, hown, hts⟩ (hM D tys ad cA adV H.size Cm _ r C' hcat hf0) cu
    ⟨mPre_blind, va_recv hK hP hci (mW_at hsh), fun U hU hW => ⟨rfl, mPre_at hK hinj hT hStr hP hS U hU hW⟩⟩ rfl (by rw [List.length_map]; simpa using hlen) hsz rfl (lv_room hsum) hdec ⟨Nat.le_refl _, Nat.le_refl _⟩
  have e1 : ((Value.ref k :: bs).map (mV ad)).reverse ++ rest = ((bs.map (mV ad)).reverse) ++ .ref (ad k) :: rest := by simp [mV]
  rw [e1]
  exact call_end run hS kk
/-- a call on one of two kinds of object -/
theorem call_two {l : Launch} {own : String} {ix n d a b : Nat} {f g h : mSem} (h1 : mCall l own ix n d (rcv [a] g)) (h2 : mCall l own ix n d (rcv [b] h)) (hf : ∀ as C q, f as C = some q → rcv [a] g as C = some q ∨ rcv [b] h as C = some q) : mCall l own ix n d f := by
  intro p e s m args below meth c Q D tys ad cA adV nL0 cc0 w0 hx hb hml hown hts hK hinj hT hStr
  intro pc i H locs lsA as rest r Cm C' hdec hi hlen hfs hcat hsum hP hS hsz kk
  rcases hf as Cm _ hfs with z | z
  · exact h1 p e s m args below meth c Q D tys ad cA adV nL0 cc0 w0 hx hb hml hown hts hK hinj hT hStr pc i H locs lsA as rest r Cm C' hdec hi hlen z hcat hsum hP hS hsz kk
  · exact h2 p e s m args below meth c Q D tys ad cA adV nL0 cc0 w0 hx hb hml hown hts hK hinj hT hStr pc i H locs lsA as rest r Cm C' hdec hi hlen z hcat hsum hP hS hsz kk
theorem rcv_sub {a : Nat} {cs : List Nat} {f : mSem} {as : List Value} {C : mMem} {q : Option Int32 × mMem} {k : Nat} {bs : List Value} {fs : List (Option Nat)} (has : as = .ref k :: bs) (hs : SH[k]? = some (.inr (.inr (a, fs)))) (hf : f as C = some q) : rcv [a] f as C = some q := by
  subst has
  have : mO [a] k = true := by simp [mO, hs]
  simp only [rcv, this, if_true]
  exact hf
theorem rcv_two {a b : Nat} {f : mSem} : ∀ as C q, rcv [a, b] f as C = some q → rcv [a] (rcv [a, b] f) as C = some q ∨ rcv [b] (rcv [a, b] f) as C = some q := by
  intro as C q h
  obtain ⟨k, bs, h1, ⟨ci, fs, h2, h3⟩, h4⟩ := rcv_spec h
  simp only [List.mem_cons, List.not_mem_nil, or_false] at h3
  rcases h3 with rfl | rfl
  · exact Or.inl (rcv_sub (cs := []) h1 h2 h)
  · exact Or.inr (rcv_sub (cs := []) h1 h2 h)
/-- a private method of an abstract class, on an object of a subclass: as the class's other method is selected there -/
theorem sel_sub {C : String} {v y : MethodName} {args : Array Value} {s : State} (hy : y.cls ≠ "java/lang/invoke/MethodHandle" ∧ y.cls ≠ "java/lang/invoke/VarHandle") (hc : v.cls = y.cls) (hs : (Jvm.Cond.selects C v v).before args s = true) (hpriv : (Jvm.Cond.privateMethod y).before args s = true) (hinst : (Jvm.Cond.instanceMethod y).before args s = true) : (Jvm.Cond.selects C y y).before args s = true := by
  obtain ⟨c, r, m, h1, h2, h3, h4, kP, h5, h6⟩ := Cond.selects_spec hs
  obtain ⟨mk, methM, hnamed, hmethM, -, -⟩ := Cond.instanceMethod_spec hinst
  have hfound : s.methodFound? y.cls y.name y.desc = some mk := State.methodFound?_of_named hnamed hy
  have hcls : mk.cls = m.cls := Option.some.inj ((findClass_of_methodNamed hnamed).symm.trans (by rw [← hc]; exact findClass_of_methodNamed h3))
  have hsel : selectMethod {} s.vm c mk = .method mk := selectMethod_private hmethM (Cond.privateMethod_at hpriv mk methM hnamed hmethM)
  rw [← hcls] at h5
  simp only [Cond.before, Cond.holds, Cond.value, h1, hfound, hnamed, hsel, h5]
  simp; exact h6
def wdM (own : String) (ix : Nat) (y : MethodName) (cc : ByteArray) (nL : Nat) : Prop := Jvm.Cond.methodLink own ix y ∈ gT ∧ Jvm.Cond.static y ∈ gT ∧ Jvm.Cond.initialized "java/lang/Math" ∈ gT ∧ Jvm.Cond.code y cc nL (some .int) ∈ gT
theorem call_max {l : Launch} {own : String} {ix d : Nat} (hw : wdM own ix Lib.Math.max.name Lib.Math.max.code 2) (hd : 1 ≤ d) : mCall l own (2 * ix + 1) 2 d f_J_max := by
  intro p e s m args below meth c Q D tys ad cA adV nL0 cc0 w0 hx hb hml hown hts hK hinj hT hStr
  intro pc i H locs lsA as rest r Cm C' hdec hi hlen hf hcat hsum hP hS hsz kk
  cases rIx_S hi
  have hT0 : ∀ w ∈ gT, w.before args s = true := fun w h => hts w (List.mem_cons_of_mem _ h)
  unfold f_J_max at hf
  split at hf
  · next x y =>
    cases hf
    exact va_mmax (R := RM d) (rest := rest) hx hb (by rw [hml, hsz]) hown (hT0 _ hw.1) (hT0 _ hw.2.1) (hT0 _ hw.2.2.1) (hT0 _ hw.2.2.2) hd (by show _ + 13 ≤ 40 * d; omega) (Nat.le_refl _) (Nat.le_refl _) hdec (kk H locs hP hS)
  · cases hf
theorem call_min {l : Launch} {own : String} {ix d : Nat} (hw : wdM own ix Lib.Math.min.name Lib.Math.min.code 2) (hd : 1 ≤ d) : mCall l own (2 * ix + 1) 2 d f_J_min := by
  intro p e s m args below meth c Q D tys ad cA adV nL0 cc0 w0 hx hb hml hown hts hK hinj hT hStr
  intro pc i H locs lsA as rest r Cm C' hdec hi hlen hf hcat hsum hP hS hsz kk
  cases rIx_S hi
  have hT0 : ∀ w ∈ gT, w.before args s = true := fun w h => hts w (List.mem_cons_of_mem _ h)
  unfold f_J_min at hf
  split at hf
  · next x y =>
    cases hf
    exact va_mmin (R := RM d) (rest := rest) hx hb (by rw [hml, hsz]) hown (hT0 _ hw.1) (hT0 _ hw.2.1) (hT0 _ hw.2.2.1) (hT0 _ hw.2.2.2) hd (by show _ + 13 ≤ 40 * d; omega) (Nat.le_refl _) (Nat.le_refl _) hdec (kk H locs hP hS)
  · cases hf
theorem call_abs {l : Launch} {own : String} {ix d : Nat} (hw : wdM own ix Lib.Math.abs.name Lib.Math.abs.code 1) (hd : 1 ≤ d) : mCall l own (2 * ix + 1) 1 d f_J_abs := by
  intro p e s m args below meth c Q D tys ad cA adV nL0 cc0 w0 hx hb hml hown hts hK hinj hT hStr
  intro pc i H locs lsA as rest r Cm C' hdec hi hlen hf hcat hsum hP hS hsz kk
  cases rIx_S hi
  have hT0 : ∀ w ∈ gT, w.before args s = true := fun w h => hts w (List.mem_cons_of_mem _ h)
  unfold f_J_abs at hf
  split at hf
  · next x =>
    cases hf
    exact va_mabs (R := RM d) (rest := rest) hx hb (by rw [hml, hsz]) hown (hT0 _ hw.1) (hT0 _ hw.2.1) (hT0 _ hw.2.2.1) (hT0 _ hw.2.2.2) hd (by show _ + 13 ≤ 40 * d; omega) (Nat.le_refl _) (Nat.le_refl _) hdec (kk H locs hP hS)
  · cases hf
theorem call_copy {l : Launch} {own : String} {ix d : Nat} (hw : Jvm.Cond.methodLink own ix arraycopyName ∈ gT ∧ Jvm.Cond.native arraycopyName ∈ gT ∧ Jvm.Cond.static arraycopyName ∈ gT ∧ Jvm.Cond.initialized "java/lang/System" ∈ gT) (hd : 1 ≤ d) : mCall l own (2 * ix + 1) 5 d f_J_arraycopy := by
  intro p e s m args below meth c Q D tys ad cA adV nL0 cc0 w0 hx hb hml hown hts hK hinj hT hStr
  intro pc i H locs lsA as rest r Cm C' hdec hi hlen hf hcat hsum hP hS hsz kk
  cases rIx_S hi
  have hT0 : ∀ w ∈ gT, w.before args s = true := fun w h => hts w (List.mem_cons_of_mem _ h)
  unfold f_J_arraycopy at hf
  split at hf
  · next a sp b dp n =>
    split at hf
    · next q r hq hr =>
      split at hf
      · next hc =>
        cases hf
        obtain ⟨c1, c2, c3, c4, c5, c6, c7⟩ := hc
        obtain ⟨t0, ht0⟩ := List.getElem?_of_mem (hT a _ hq)
        obtain ⟨t1, ht1⟩ := List.getElem?_of_mem (hT b _ hr)
        have hprim : refKind q.1 = false := by
          rcases c2 with z | ⟨z, -⟩
          · rw [z]; rfl
          · rw [z]; rfl
        have hfit : ∀ i, i < n.toNatClampNeg → fits q.1 (.int (Cm a (sp.toNatClampNeg + i))) = true := by
          intro i hi
          rcases c2 with z | ⟨z, hall⟩
          · rw [z]; rfl
          · have h1 := List.all_eq_true.mp hall i (List.mem_range.mpr hi)
            simp only [Bool.or_eq_true, beq_iff_eq] at h1
            rw [z]
            rcases h1 with h1 | h1 <;> (rw [h1]; decide +kernel)
        have wa : (mW SH ad cA Cm)[a]? = some (ad a, .inl (cA a, q.2, .inl (Cm a))) := mW_at hq
        have wb : (mW SH ad cA Cm)[b]? = some (ad b, .inl (cA b, r.2, .inl (Cm b))) := mW_at hr
        have hnf : nativeFrameWords "java/lang/System" "arraycopy" 5 = 7 := by decide
        refine va_copyi (R := RM d) (rest := rest) (ty := q.1) hx hb (by rw [hml, hsz]) hown (hT0 _ hw.1) (hT0 _ hw.2.1) (hT0 _ hw.2.2.1) (hT0 _ hw.2.2.2) hK hP (mW_D hinj Cm) hS a b t0 t1 wa wb ht0 (by rw [c1]; exact ht1) hprim (Int32.not_lt.mpr c3) (Int32.not_lt.mpr c4) (Int32.not_lt.mpr c5) c6 c7 hfit hd (by rw [hnf]; show _ + (7 + 11) ≤ 40 * d; omega) hdec (fun H1 locs1 hP1 _ hS1 => kk H1 locs1 ?_ hS1)
        have e : mW SH ad cA (mCp Cm a sp.toNatClampNeg b dp.toNatClampNeg n.toNatClampNeg) = (mW SH ad cA Cm).set b (ad b, .inl (cA b, r.2, .inl (va_cpy (Cm a) (Cm b) sp.toNatClampNeg dp.toNatClampNeg n.toNatClampNeg))) := by
          rw [← mW_set hr (C := Cm) (fun k hk => by simp [mCp, hk])]
          simp [mE, mCp]
        rw [e]
        exact hP1
      · cases hf
    · cases hf
  · cases hf

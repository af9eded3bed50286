/-! CONTRACTS: what it is that a method meets its word; calls -/
def RM (d : Nat) : Room := { frames := d, cells := 0, slots := 0, locals := 40 * d }
/-- two words more: a private method of the abstract class, on objects of its subclasses -/
def gX : List Jvm.Cond := [.selects "FourCars$Gaps" ⟨"FourCars$Chain", "bestNext", "(III)I"⟩ ⟨"FourCars$Chain", "bestNext", "(III)I"⟩, .selects "FourCars$Parts" ⟨"FourCars$Chain", "bestNext", "(III)I"⟩ ⟨"FourCars$Chain", "bestNext", "(III)I"⟩]
/-- the tables' words that go along with every method -/
def gT : List Jvm.Cond := gX ++ lw_tbl.filter goodWord
theorem gT_of {w : Jvm.Cond} (h : w ∈ lw_tbl) (hg : goodWord w = true) : w ∈ gT := List.mem_append_right _ (List.mem_filter.mpr ⟨h, hg⟩)
theorem gt_t {w : Jvm.Cond} (h : w ∈ tables_1) (hg : goodWord w = true) : w ∈ gT := gT_of (List.mem_append_right _ h) hg
theorem gt1 {w : Jvm.Cond} (i : Nat) (h : tables_1_1[i]? = some w) (hg : goodWord w = true) : w ∈ gT := gt_t (List.mem_append_left _ (List.mem_of_getElem? h)) hg
theorem gt2 {w : Jvm.Cond} (i : Nat) (h : tables_1_2[i]? = some w) (hg : goodWord w = true) : w ∈ gT := gt_t (List.mem_append_right _ (List.mem_append_left _ (List.mem_of_getElem? h))) hg
theorem gt3 {w : Jvm.Cond} (i : Nat) (h : tables_1_3[i]? = some w) (hg : goodWord w = true) : w ∈ gT := gt_t (List.mem_append_right _ (List.mem_append_right _ (List.mem_append_left _ (List.mem_of_getElem? h)))) hg
theorem gt4 {w : Jvm.Cond} (i : Nat) (h : tables_1_4[i]? = some w) (hg : goodWord w = true) : w ∈ gT := gt_t (List.mem_append_right _ (List.mem_append_right _ (List.mem_append_right _ (List.mem_append_left _ (List.mem_of_getElem? h))))) hg
theorem gt5 {w : Jvm.Cond} (i : Nat) (h : tables_1_5[i]? = some w) (hg : goodWord w = true) : w ∈ gT := gt_t (List.mem_append_right _ (List.mem_append_right _ (List.mem_append_right _ (List.mem_append_right _ (List.mem_append_left _ (List.mem_of_getElem? h)))))) hg
theorem gt6 {w : Jvm.Cond} (i : Nat) (h : tables_1_6[i]? = some w) (hg : goodWord w = true) : w ∈ gT := gt_t (List.mem_append_right _ (List.mem_append_right _ (List.mem_append_right _ (List.mem_append_right _ (List.mem_append_right _ (List.mem_append_left _ (List.mem_of_getElem? h))))))) hg
theorem gt7 {w : Jvm.Cond} (i : Nat) (h : tables_1_7[i]? = some w) (hg : goodWord w = true) : w ∈ gT := gt_t (List.mem_append_right _ (List.mem_append_right _ (List.mem_append_right _ (List.mem_append_right _ (List.mem_append_right _ (List.mem_append_right _ (List.mem_of_getElem? h))))))) hg
theorem gs_s {y : MethodName} (n : Nat) (h : (y, n) ∈ lw_privs) : Jvm.Cond.selects y.cls y y ∈ gT := gT_of (List.mem_append_left _ (List.mem_map.mpr ⟨(y, n), h, rfl⟩)) rfl
theorem gs1 {y : MethodName} (n i : Nat) (h : lw_privs_1[i]? = some (y, n)) : Jvm.Cond.selects y.cls y y ∈ gT := gs_s n (List.mem_append_left _ (List.mem_of_getElem? h))
theorem gs2 {y : MethodName} (n i : Nat) (h : lw_privs_2[i]? = some (y, n)) : Jvm.Cond.selects y.cls y y ∈ gT := gs_s n (List.mem_append_right _ (List.mem_append_left _ (List.mem_of_getElem? h)))
theorem gs3 {y : MethodName} (n i : Nat) (h : lw_privs_3[i]? = some (y, n)) : Jvm.Cond.selects y.cls y y ∈ gT := gs_s n (List.mem_append_right _ (List.mem_append_right _ (List.mem_append_left _ (List.mem_of_getElem? h))))
theorem gs4 {y : MethodName} (n i : Nat) (h : lw_privs_4[i]? = some (y, n)) : Jvm.Cond.selects y.cls y y ∈ gT := gs_s n (List.mem_append_right _ (List.mem_append_right _ (List.mem_append_right _ (List.mem_append_left _ (List.mem_of_getElem? h)))))
theorem gs5 {y : MethodName} (n i : Nat) (h : lw_privs_5[i]? = some (y, n)) : Jvm.Cond.selects y.cls y y ∈ gT := gs_s n (List.mem_append_right _ (List.mem_append_right _ (List.mem_append_right _ (List.mem_append_right _ (List.mem_append_left _ (List.mem_of_getElem? h))))))
theorem gs6 {y : MethodName} (n i : Nat) (h : lw_privs_6[i]? = some (y, n)) : Jvm.Cond.selects y.cls y y ∈ gT := gs_s n (List.mem_append_right _ (List.mem_append_right _ (List.mem_append_right _ (List.mem_append_right _ (List.mem_append_right _ (List.mem_append_left _ (List.mem_of_getElem? h)))))))
theorem gs7 {y : MethodName} (n i : Nat) (h : lw_privs_7[i]? = some (y, n)) : Jvm.Cond.selects y.cls y y ∈ gT := gs_s n (List.mem_append_right _ (List.mem_append_right _ (List.mem_append_right _ (List.mem_append_right _ (List.mem_append_right _ (List.mem_append_right _ (List.mem_append_left _ (List.mem_of_getElem? h))))))))
theorem gs8 {y : MethodName} (n i : Nat) (h : lw_privs_8[i]? = some (y, n)) : Jvm.Cond.selects y.cls y y ∈ gT := gs_s n (List.mem_append_right _ (List.mem_append_right _ (List.mem_append_right _ (List.mem_append_right _ (List.mem_append_right _ (List.mem_append_right _ (List.mem_append_right _ (List.mem_of_getElem? h))))))))
theorem gX_1 : Jvm.Cond.selects "FourCars$Gaps" ⟨"FourCars$Chain", "bestNext", "(III)I"⟩ ⟨"FourCars$Chain", "bestNext", "(III)I"⟩ ∈ gT := List.mem_append_left _ List.mem_cons_self
theorem gX_2 : Jvm.Cond.selects "FourCars$Parts" ⟨"FourCars$Chain", "bestNext", "(III)I"⟩ ⟨"FourCars$Chain", "bestNext", "(III)I"⟩ ∈ gT := List.mem_append_left _ (List.mem_cons_of_mem _ List.mem_cons_self)
theorem gT_good {w : Jvm.Cond} (h : w ∈ gT) : (w.onTables && w.keeps) = true ∨ ∃ ty, w = .arrayClass ty := by
  rcases List.mem_append.mp h with h | h
  · refine good_of_word ?_
    unfold gX at h
    simp only [List.mem_cons, List.not_mem_nil, or_false] at h
    rcases h with rfl | rfl <;> rfl
  · exact good_of_word (List.mem_filter.mp h).2
def wY (y : MethodName) (cc : ByteArray) (nL : Nat) (ret : Option FieldType) : List Jvm.Cond := Jvm.Cond.code y cc nL ret :: gT
theorem gT_goodIn {w0 : Jvm.Cond} {ws : List Jvm.Cond} (h : ∀ w ∈ ws, w ∈ gT) : GoodIn (w0 :: gT) ws := fun w hw => ⟨List.mem_cons_of_mem _ (h w hw), gT_good (h w hw)⟩
theorem wY_in {y : MethodName} {cc : ByteArray} {nL : Nat} {ret : Option FieldType} (h : Jvm.Cond.code y cc nL ret ∈ gT) : ∀ w ∈ wY y cc nL ret, w ∈ gT := fun w hw => (List.mem_cons.mp hw).elim (fun e => by rw [e]; exact h) id
/-- the cells that a method may write -/
def mAd (ad : Nat → Nat) (sz : Nat) : Nat → Prop := fun q => (∃ k, k < SH.length ∧ q = ad k) ∨ sz ≤ q
theorem mAd_le {ad : Nat → Nat} {a b q : Nat} (h : a ≤ b) (hq : mAd ad b q) : mAd ad a q := hq.imp id (fun z => Nat.le_trans h z)
theorem mW_D {ad : Nat → Nat} {cA : Nat → ClassId} {sz : Nat} (hinj : ∀ i j, i < SH.length → j < SH.length → ad i = ad j → i = j) (C : mMem) : va_D (mAd ad sz) (mW SH ad cA C) := by
  have key : ∀ (k : Nat) (q : Nat × va_E), (mW SH ad cA C)[k]? = some q → k < SH.length ∧ q.1 = ad k := by
    intro k q hq
    simp only [mW, List.getElem?_mapIdx] at hq
    cases he : SH[k]? with
    | none => rw [he] at hq; cases hq
    | some e =>
      rw [he] at hq
      cases hq
      exact ⟨(List.getElem?_eq_some_iff.mp he).1, rfl⟩
  refine ⟨fun i j p q hp hq hpq => ?_, fun k q hq => ?_⟩
  · obtain ⟨h1, h2⟩ := key i p hp
    obtain ⟨h3, h4⟩ := key j q hq
    exact hinj i j h1 h3 (by rw [← h2, ← h4]; exact hpq)
  · obtain ⟨h1, h2⟩ := key k q hq
    exact Or.inl ⟨k, h1, h2⟩
def LENS : List Nat := STB.map List.length
def BYTS : List (List Int32) := STB.map (fun s => s.map nI)
/-- the texts and the JDK's statics, that nobody writes -/
def mStr (ad adV : Nat → Nat) (A : Nat → Prop) (U : State) (H : Heap) : Prop := vk_S 19 LENS BYTS (fun i => ad (156 + i)) adV A U H ∧ (∀ (i : Nat) (q : String × Nat × String), STT[i]? = some q → vk_R q.1 q.2.1 q.2.2 (ad (156 + i)) U) ∧ va_Z "java/lang/String" "COMPACT_STRINGS" "Z" (.int 1) A U H ∧ va_Zq "jdk/internal/util/Preconditions" "SIOOBE_FORMATTER" "Ljava/util/function/BiFunction;" A U H ∧ va_Nw (.declares ⟨"FourCars$Chain", "piece", "(II)I"⟩) U
theorem mStr_go {ad adV : Nat → Nat} {A B : Nat → Prop} {s U : State} {H : Heap} (h : mStr ad adV A s s.heap) (hq : ∀ a : Nat, a < s.heap.size → ¬ A a → H[a]? = s.heap[a]?) (hW : s.WarmedH U.vm) (hAB : ∀ q, B q → A q) : mStr ad adV B U H :=
  ⟨((h.1.kept hq).moved hW.alike).narrow hAB, fun i q hi => vk_R.warm hW (h.2.1 i q hi), ((h.2.2.1.kept hq).moved hW.alike).narrow hAB, ((h.2.2.2.1.kept hq).moved hW.alike).narrow hAB, va_Nw.warmD hW h.2.2.2.2⟩
def mPre (D : va_G) (tys : List (ClassId × FieldType)) (ad : Nat → Nat) (cA : Nat → ClassId) (adV : Nat → Nat) (C : mMem) (sz : Nat) (U : State) : Prop := U.heap.size = sz ∧ va_P D clsL (mW SH ad cA C) U.heap ∧ va_K D clsL tys U ∧ (∀ i j, i < SH.length → j < SH.length → ad i = ad j → i = j) ∧ mT SH cA tys ∧ mStr ad adV (mAd ad sz) U U.heap
theorem mPre_blind {D : va_G} {tys : List (ClassId × FieldType)} {ad : Nat → Nat} {cA : Nat → ClassId} {adV : Nat → Nat} {C : mMem} {sz : Nat} {av : List Value} : FrameBlind (va_Pc av (mPre D tys ad cA adV C sz)) := by
  intro a U g mk q
  obtain ⟨q0, q1, q2, q3, q4, q5, q6, q7, q8, q9, q10⟩ := q
  exact ⟨q0, q1, q2, va_K.moved (u := U) (U := U.calling g mk a) (Vm.Alike.refl U.vm) q3, q4, q5, vk_S.moved (u := U) (U := U.calling g mk a) (Vm.Alike.refl U.vm) q6, fun i q hi => vk_R.same (u := U) (U := U.calling g mk a) rfl (q7 i q hi), va_Z.moved (u := U) (U := U.calling g mk a) (Vm.Alike.refl U.vm) q8, va_Zq.moved (u := U) (U := U.calling g mk a) (Vm.Alike.refl U.vm) q9, va_tabs (u := U) (U := U.calling g mk a) rfl rfl q10⟩
def mPost (D : va_G) (ad : Nat → Nat) (cA : Nat → ClassId) (sz : Nat) (r : Option Int32) (C' : mMem) : Array Value → State → Outcome → State → Prop := match r with
  | some x => va_Qi (fun (y : Int32) (_ : Unit) => y = x) (fun _ t => va_P D clsL (mW SH ad cA C') t.heap) (mAd ad sz)
  | none => va_Qv (fun (_ : Unit) => True) (fun _ t => va_P D clsL (mW SH ad cA C') t.heap) (mAd ad sz)
/-- method y meets the word f, with room for d frames -/
def mMet (l : Launch) (y : MethodName) (cc : ByteArray) (nL : Nat) (ret : Option FieldType) (d : Nat) (f : mSem) : Prop :=
  ∀ (D : va_G) (tys : List (ClassId × FieldType)) (ad : Nat → Nat) (cA : Nat → ClassId) (adV : Nat → Nat) (sz : Nat) (C : mMem) (as : List Value) (r : Option Int32) (C' : mMem), (∀ v ∈ as, v.category = 1) → f as C = some (r, C') →
    Met l y (wY y cc nL ret) (RM d) (va_Pc (as.map (mV ad)) (mPre D tys ad cA adV C sz)) (mPost D ad cA sz r C') 0 0 (mAd ad sz)
def retOK (ret : Option FieldType) (r : Option Int32) : Prop := (ret = none ∧ r = none) ∨ (ret = some .int ∧ ∃ x, r = some x) ∨ (ret = some .boolean ∧ (r = some 0 ∨ r = some 1))
theorem lv_args_mem : ∀ (vs : List Value) (k i : Nat) (v : Value), (∀ w ∈ vs, w.category = 1) → vs[i]? = some v → (k + i, v) ∈ lv_args k vs
  | [], _, _, _, _, h => by simp at h
  | w :: vs, k, i, v, hc, h => by
    have hw : ¬ w.category = 2 := by rw [hc w List.mem_cons_self]; decide
    rw [lv_args, if_neg hw]
    cases i with
    | zero =>
      rw [List.getElem?_cons_zero] at h
      cases h
      exact List.mem_cons_self
    | succ i =>
      rw [List.getElem?_cons_succ] at h
      have h1 := lv_args_mem vs (k + 1) i v (fun u hu => hc u (List.mem_cons_of_mem _ hu)) h
      rw [show k + 1 + i = k + (i + 1) by omega] at h1
      exact List.mem_cons_of_mem _ h1
theorem lg_sl_len : ∀ (vs : List Value), (∀ w ∈ vs, w.category = 1) → (lg_sl vs).length = vs.length
  | [], _ => rfl
  | w :: vs, hc => by
    have hw : ¬ w.category = 2 := by rw [hc w List.mem_cons_self]; decide
    have h1 := lg_sl_len vs (fun u hu => hc u (List.mem_cons_of_mem _ hu))
    simp only [lg_sl, List.flatMap_cons, if_neg hw] at h1 ⊢
    simp [h1]
/-- what a call gives, in whatever frame of that room -/
def mCall (l : Launch) (own : String) (ix n d : Nat) (f : mSem) : Prop :=
  ∀ (p : Program) (e : Env) (s : State) (m : MethodId) (args : Array Value) (below : List Frame) (meth : Method) (c : Code) (Q : State → Prop) (D : va_G) (tys : List (ClassId × FieldType)) (ad : Nat → Nat) (cA : Nat → ClassId) (adV : Nat → Nat) (nL : Nat) (cc : ByteArray) (w0 : Jvm.Cond),
    p.tables.exec = Jvm.exec → c.code = cc → c.maxLocals = nL → s.vm.findClass own = some m.cls → (∀ w ∈ w0 :: gT, w.before args s = true) → va_K D clsL tys s → (∀ i j, i < SH.length → j < SH.length → ad i = ad j → i = j) → mT SH cA tys → mStr ad adV (mAd ad s.heap.size) s s.heap →
    cOK p l e (RM d) s m args below meth c Q (mAd ad s.heap.size) D clsL SH ad cA nL cc ix n f
/-- A METHOD MEETS ITS WORD -/
theorem met_of {l : Launch} {y : MethodName} {cc : ByteArray} {nL : Nat} {ret : Option FieldType} {d : Nat} {f : mSem} {S : mSS} {fx : Nat → Nat → Option Nat} {px : Nat → Nat → Option (Nat × Bool)} {kx : Nat → Option Int32} {sx : Nat → Option Nat} {cx : Nat → Option (Nat × mSem)}
    (hpl : plainName y.cls = true) (hf : ∀ as C r C', f as C = some (r, C') → mBody nL S as C = some (r, C') ∧ retOK ret r)
    (der : ∀ {K : Nat → List Value → List Value → mMem → Prop} {Rt : Option Int32 → mMem → Prop}, Clo K cc SH fx px kx sx cx Rt → cS K Rt 0 0 0 0 S)
    (hfx : ∀ ix ci j, fx ix ci = some j → ∀ args s, (∀ w ∈ gT, w.before args s = true) → fOK y.cls args s gT clsL ix ci j)
    (hpx : ∀ ix ci j b, px ix ci = some (j, b) → ∀ args s, (∀ w ∈ gT, w.before args s = true) → pOK y.cls args s gT clsL ix ci j b)
    (hkx : ∀ ix v, kx ix = some v → Jvm.Cond.constant y.cls ix v ∈ gT)
    (hsx : ∀ ix k, sx ix = some k → ∃ i tx, k = 156 + i ∧ STT[i]? = some (y.cls, ix, tx))
    (hcx : ∀ ix n g, cx ix = some (n, g) → mCall l y.cls ix n d g) : mMet l y cc nL ret d f := by
  intro D tys ad cA adV sz C as r C' hcat hfs
  refine Met.ofW (cc := cc) (maxL := nL) (ret := ret) hpl rfl ?_
  intro p e s m args below meth c s₁ B hml hv
  obtain ⟨rfl, hsz, hP, hK, hinj, hT, hStr⟩ := hv
  have hx := B.exec
  have hb := B.bytes
  have hr := B.returns
  have htsw := atoms_spec (ws := wY y cc nL ret) B.pre
  have hts : ∀ w ∈ gT, w.before ((as.map (mV ad)).toArray) s = true := fun w hw => htsw w (List.mem_cons_of_mem _ hw)
  have hown : s.vm.findClass y.cls = some m.cls := findClass_of_methodNamed B.named
  have hlocks := B.notSynchronized
  subst hsz
  obtain ⟨hbody, hret⟩ := hf as C r C' hfs
  have clo : Clo (mC p l e (RM d) s m (as.map (mV ad)).toArray below meth c (MQ below (mPost D ad cA s.heap.size r C') (as.map (mV ad)).toArray s 0 0 (mAd ad s.heap.size)) (mAd ad s.heap.size) D clsL SH ad cA nL) cc SH fx px kx sx cx (fun r1 C1 => r1 = r ∧ C1 = C') := by
    refine mC_clo (own := y.cls) (Ts := gT) (tys := tys) hx hb hown hts hK (mW_D hinj) hT (fun ix ci j h => hfx ix ci j h _ s hts) (fun ix ci j b h => hpx ix ci j b h _ s hts) (fun ix v h => hts _ (hkx ix v h)) ?_ (fun ix n g h => hcx ix n g h p e s m _ below meth c _ D tys ad cA adV nL cc _ hx hb hml hown htsw hK hinj hT hStr) ?_ ?_
    · intro ix k h
      obtain ⟨i, tx, rfl, hi⟩ := hsx ix k h
      exact ⟨tx, hStr.2.1 i _ hi⟩
    · intro pc lsA x C1 H locs hd hR hP1 hS1
      obtain ⟨e1, rfl⟩ := hR
      have hq : ∀ t : State, t.heap = H → s.WarmedH t.vm → mPost D ad cA s.heap.size r C1 (as.map (mV ad)).toArray s (.returned (some (.int x))) t := by
        intro t ht hW
        rw [← e1]
        exact ⟨⟨x, (), rfl, rfl, by show va_P D clsL (mW SH ad cA C1) t.heap; rw [ht]; exact hP1⟩, hS1.F ht⟩
      rcases hret with ⟨h1, h2⟩ | ⟨h1, h2⟩ | ⟨h1, h2⟩
      · rw [h2] at e1; cases e1
      · exact W.iret hx hb (hr.trans h1) hq hS1.2.2 hd
      · refine W.zret (ty := .boolean) hx hb (hr.trans h1) ?_ hq hS1.2.2 hd
        rcases h2 with h2 | h2
        · rw [h2] at e1; cases e1; decide +kernel
        · rw [h2] at e1; cases e1; decide +kernel
    · intro pc lsA C1 H locs hd hR hP1 hS1
      obtain ⟨e1, rfl⟩ := hR
      have hq : ∀ t : State, t.heap = H → s.WarmedH t.vm → mPost D ad cA s.heap.size r C1 (as.map (mV ad)).toArray s (.returned none) t := by
        intro t ht hW
        rw [← e1]
        exact ⟨⟨(), rfl, trivial, by show va_P D clsL (mW SH ad cA C1) t.heap; rw [ht]; exact hP1⟩, hS1.F ht⟩
      rcases hret with ⟨h1, h2⟩ | ⟨h1, x, h2⟩ | ⟨h1, h2⟩
      · exact W.vret hx hb (hr.trans h1) hq hS1.2.2 hd
      · rw [h2] at e1; cases e1
      · rcases h2 with h2 | h2 <;> (rw [h2] at e1; cases e1)
  obtain ⟨hlen, hk⟩ := cS_body (der clo) hbody ⟨rfl, rfl⟩
  have hcat2 : ∀ v ∈ as.map (mV ad), v.category = 1 := by
    intro v hv
    obtain ⟨w, hw, rfl⟩ := List.mem_map.mp hv
    rw [mV_cat]
    exact hcat w hw
  have hl := lv_entry (as.map (mV ad)) (n := nL) (by rw [lg_sl_len _ hcat2, List.length_map]; exact hlen)
  rw [lg_entry_eq]
  generalize (lg_sl (as.map (mV ad)) ++ List.replicate (nL - (lg_sl (as.map (mV ad))).length) Slot.unset).toArray = lsA at hl ⊢
  refine hk ?_ ?_ (fun v hv => by cases hv) s.heap [] lsA hP va_S.rf ⟨hl.1, hl.2.1, fun q hq => hl.2.2 q ?_⟩
  · rw [List.length_append, List.length_replicate]; omega
  · intro v hv
    rcases List.mem_append.mp hv with h | h
    · exact hcat v h
    · rw [List.eq_of_mem_replicate h]; rfl
  · obtain ⟨v, h1, h2, h3⟩ := mP_mem.mp hq
    have hi : q.1 < as.length := by
      rcases Nat.lt_or_ge q.1 as.length with z | z
      · exact z
      · rw [List.getElem?_append_right z] at h1
        exact absurd (List.eq_of_mem_replicate (List.mem_of_getElem? h1)) h2
    rw [List.getElem?_append_left hi] at h1
    have h4 := lv_args_mem (as.map (mV ad)) 0 q.1 (mV ad v) hcat2 (by rw [List.getElem?_map, h1]; rfl)
    rw [Nat.zero_add, ← h3] at h4
    exact h4
theorem rcv_spec {cs : List Nat} {f : mSem} {as : List Value} {C : mMem} {q : Option Int32 × mMem} (h : rcv cs f as C = some q) : ∃ k bs, as = .ref k :: bs ∧ (∃ ci fs, SH[k]? = some (.inr (.inr (ci, fs))) ∧ ci ∈ cs) ∧ f as C = some q := by
  unfold rcv at h
  split at h
  · next k bs =>
    split at h
    · next hm =>
      refine ⟨k, bs, rfl, ?_, h⟩
      unfold mO at hm
      split at hm
      · next o ho => exact ⟨o.1, o.2, ho, List.contains_iff_mem.mp hm⟩
      · cases hm
    · cases h
  · cases h
theorem rIx_V {i : Instr} {k : Nat} (h : rIx i = some (2 * k)) : i = .invokevirtual k := by
  unfold rIx at h
  split at h
  · next k' =>
    simp only [Option.some.injEq] at h
    have e : k' = k := by omega
    rw [e]
  · simp only [Option.some.injEq] at h
    omega
  · cases h
theorem rIx_S {i : Instr} {k : Nat} (h : rIx i = some (2 * k + 1)) : i = .invokestatic k := by
  unfold rIx at h
  split at h
  · simp only [Option.some.injEq] at h
    omega
  · next k' =>
    simp only [Option.some.injEq] at h
    have e : k' = k := by omega
    rw [e]
  · cases h
section CALLS
variable {p : Program} {l : Launch} {e : Env} {R : Room} {s : State} {m : MethodId} {args : Array Value} {below : List Frame} {meth : Method} {c : Code} {H : Heap} {locs : List Loc} {Q : State → Prop} {D : va_G} {ad : Nat → Nat} {cA : Nat → ClassId} {pc : Nat} {lsA : Array Slot} {rest st0 : List Value} {a : Array Value} {r : Option Int32} {C' : mMem}
/-- behind a call -/
theorem call_end (hr : va_Run p l e R s m args below meth c H locs 0 0 0 0 (F0 m pc lsA st0) rest (mPost D ad cA H.size r C' a) (mAd ad H.size)) (hS : va_S (mAd ad s.heap.size) s.heap H locs)
    (kk : ∀ (H' : Heap) (locs' : List Loc), va_P D clsL (mW SH ad cA C') H' → va_S (mAd ad s.heap.size) s.heap H' locs' → W p l e R s m args below meth c H' locs' 0 0 Q (F0 m (pc + 3) lsA ((r.map Value.int).toList ++ rest))) :
    W p l e R s m args below meth c H locs 0 0 Q (F0 m pc lsA st0) := by
  cases r with
  | none => exact va_callv (a := a) hr hS (fun q _ h => mAd_le hS.1 h) (fun q h => mAd_le hS.1 h) (fun u t H1 locs1 ht hvm hw hB hz1 hk1 hS1 => kk H1 locs1 (by rw [← ht]; exact hB) hS1)
  | some x => exact va_calli (a := a) hr hS (fun q _ h => mAd_le hS.1 h) (fun q h => mAd_le hS.1 h) (fun y u t H1 locs1 ht hvm hw hB hz1 hk1 hS1 => by rw [hw]; exact kk H1 locs1 (by rw [← ht]; exact hB) hS1)
end CALLS
theorem mPre_at {D : va_G} {tys : List (ClassId × FieldType)} {ad : Nat → Nat} {cA : Nat → ClassId} {adV : Nat → Nat} {C : mMem} {s : State} {H : Heap} {locs : List Loc} (hK : va_K D clsL tys s) (hinj : ∀ i j, i < SH.length → j < SH.length → ad i = ad j → i = j) (hT : mT SH cA tys) (hStr : mStr ad adV (mAd ad s.heap.size) s s.heap) (hP : va_P D clsL (mW SH ad cA C) H) (hS : va_S (mAd ad s.heap.size) s.heap H locs) (U : State) (hU : U.heap = H) (hW : s.WarmedH U.vm) : mPre D tys ad cA adV C H.size U :=
  ⟨by rw [hU], by rw [hU]; exact hP, va_K.moved hW.alike hK, hinj, hT, by rw [hU]; exact mStr_go hStr hS.2.1 hW (fun q h => mAd_le hS.1 h)⟩
/-- the words of a call of an object's own method -/
def wdV (own : String) (ix : Nat) (y : MethodName) (cc : ByteArray) (nL : Nat) (ret : Option FieldType) : Prop := Jvm.Cond.methodLink own ix y ∈ gT ∧ Jvm.Cond.instanceMethod y ∈ gT ∧ Jvm.Cond.selects y.cls y y ∈ gT ∧ Jvm.Cond.initialized y.cls ∈ gT ∧ Jvm.Cond.code y cc nL ret ∈ gT
theorem call_V {l : Launch} {own : String} {ix n d d' ci : Nat} {y : MethodName} {cc : ByteArray} {nL : Nat} {ret : Option FieldType} {f : mSem} {T : u_T} {N : Nat} (hM : mMet l y cc nL ret d' (rcv [ci] f)) (hw : wdV own ix y cc nL ret) (hci : clsL[ci]? = some (y.cls, T, N)) (hd : d' + 1 ≤ d) (hn : nL ≤ 21)
    (hy : y.cls ≠ "java/lang/invoke/MethodHandle" ∧ y.cls ≠ "java/lang/invoke/VarHandle" ∧ (parseMethodDescriptor y.desc).map (fun d => d.parameters.length) = some n) : mCall l own (2 * ix) (n + 1) d (rcv [ci] f) := by
  intro p e s m args below meth c Q D tys ad cA adV nL0 cc0 w0 hx hb hml hown hts hK hinj hT hStr
  intro pc i H locs lsA as rest r C C' hdec hi hlen hf hcat hsum hP hS hsz kk
  cases rIx_V hi
  obtain ⟨k, bs, rfl, ⟨ci', fs, hsh, hmem⟩, -⟩ := rcv_spec hf
  cases List.mem_singleton.mp hmem
  have hG : GoodIn (w0 :: gT) (wsV own ix y.cls y (wY y cc nL ret)) := by
    refine gT_goodIn (fun w hw' => ?_)
    unfold wsV at hw'
    rcases List.mem_append.mp hw' with z | z
    · simp only [List.mem_cons, List.not_mem_nil, or_false] at z
      rcases z with rfl | rfl | rfl | rfl
      · exact hw.1
      · exact hw.2.1
      · exact hw.2.2.1
      · exact hw.2.2.2.1
    · exact wY_in hw.2.2.2.2 w z
  have run := va_runV (p := p) (l := l) (e := e) (R := RM d) (s := s) (m := m) (args := args) (below := below) (meth := meth) (c := c) (H := H) (locs := locs) (cells := 0) (slots := 0) (g := F0 m pc lsA (((bs.map (mV ad)).reverse) ++ .ref (ad k) :: rest)) (As := bs.map (mV ad)) (rest := rest) (b := ad k) ⟨hx, hb, hml, hown, hts⟩ (hM D tys ad cA adV H.size C _ r C' hcat hf)
    (cwV n hts hG rfl rfl rfl ⟨rfl, hy⟩ ⟨hd, by show 8 + (nL + 11) + 40 * d' ≤ 40 * d; omega⟩)
    ⟨mPre_blind, va_recv hK hP hci (mW_at hsh), fun U hU hW => ⟨rfl, mPre_at hK hinj hT hStr hP hS U hU hW⟩⟩ rfl (by rw [List.length_map]; simpa using hlen) hsz rfl (lv_room hsum) hdec ⟨Nat.le_refl _, Nat.le_refl _⟩
  have e1 : ((Value.ref k :: bs).map (mV ad)).reverse ++ rest = ((bs.map (mV ad)).reverse) ++ .ref (ad k) :: rest := by simp [mV]
  rw [e1]
  exact call_end run hS kk
def wdS (own : String) (ix : Nat) (y : MethodName) (cc : ByteArray) (nL : Nat) (ret : Option FieldType) : Prop := Jvm.Cond.methodLink own ix y ∈ gT ∧ Jvm.Cond.static y ∈ gT ∧ Jvm.Cond.initialized y.cls ∈ gT ∧ Jvm.Cond.code y cc nL ret ∈ gT
theorem call_S {l : Launch} {own : String} {ix n d d' : Nat} {y : MethodName} {cc : ByteArray} {nL : Nat} {ret : Option FieldType} {f : mSem} (hM : mMet l y cc nL ret d' f) (hw : wdS own ix y cc nL ret) (hd : d' + 1 ≤ d) (hn : nL ≤ 21)
    (hy : y.cls ≠ "java/lang/invoke/MethodHandle" ∧ y.cls ≠ "java/lang/invoke/VarHandle" ∧ (parseMethodDescriptor y.desc).map (fun d => d.parameters.length) = some n) : mCall l own (2 * ix + 1) n d f := by
  intro p e s m args below meth c Q D tys ad cA adV nL0 cc0 w0 hx hb hml hown hts hK hinj hT hStr
  intro pc i H locs lsA as rest r C C' hdec hi hlen hf hcat hsum hP hS hsz kk
  cases rIx_S hi
  have hT0 : ∀ w ∈ gT, w.before args s = true := fun w h => hts w (List.mem_cons_of_mem _ h)
  have hG : GoodIn (w0 :: gT) (wY y cc nL ret) := gT_goodIn (wY_in hw.2.2.2)
  have run := va_runS (p := p) (l := l) (e := e) (R := RM d) (s := s) (m := m) (args := args) (below := below) (meth := meth) (c := c) (H := H) (locs := locs) (cells := 0) (slots := 0) (g := F0 m pc lsA (((as.map (mV ad)).reverse) ++ rest)) (As := as.map (mV ad)) (rest := rest) ⟨hx, hb, hml, hown, hts⟩ (hM D tys ad cA adV H.size C _ r C' hcat hf)
    ⟨callB_of n hts hG rfl rfl rfl (hT0 _ hw.2.2.1) (hT0 _ hw.1) hy ⟨hd, by show 8 + (nL + 11) + 40 * d' ≤ 40 * d; omega⟩, hT0 _ hw.2.1⟩
    ⟨mPre_blind, fun U hU hW => ⟨rfl, mPre_at hK hinj hT hStr hP hS U hU hW⟩⟩ rfl (by rw [List.length_map]; exact hlen) hsz rfl (lv_room hsum) hdec ⟨Nat.le_refl _, Nat.le_refl _⟩
  exact call_end run hS kk

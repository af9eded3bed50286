/-! TEXTS: length() and charAt() of the constants, over the JDK's own code -/
def y_jPc : MethodName := ⟨"jdk/internal/util/Preconditions", "checkIndex", "(IILjava/util/function/BiFunction;)I"⟩
theorem wc_jPc : Jvm.Cond.code y_jPc prog_20_method_11_code 3 (some .int) ∈ gT := gt2 238 rfl rfl
def y_jCi : MethodName := ⟨"java/lang/String", "checkIndex", "(II)V"⟩
theorem wc_jCi : Jvm.Cond.code y_jCi prog_16_method_155_code 2 none ∈ gT := gt2 233 rfl rfl
def y_jLc : MethodName := ⟨"java/lang/StringLatin1", "charAt", "([BI)C"⟩
theorem wc_jLc : Jvm.Cond.code y_jLc prog_17_method_2_code 2 (some .char) ∈ gT := gt2 230 rfl rfl
def y_jIl : MethodName := ⟨"java/lang/String", "isLatin1", "()Z"⟩
theorem wc_jIl : Jvm.Cond.code y_jIl prog_16_method_154_code 1 (some .boolean) ∈ gT := gt2 227 rfl rfl
def y_jCo : MethodName := ⟨"java/lang/String", "coder", "()B"⟩
theorem wc_jCo : Jvm.Cond.code y_jCo prog_16_method_152_code 1 (some .byte) ∈ gT := gt2 217 rfl rfl
def y_jLe : MethodName := ⟨"java/lang/String", "length", "()I"⟩
theorem wc_jLe : Jvm.Cond.code y_jLe prog_16_method_54_code 1 (some .int) ∈ gT := gt2 213 rfl rfl
def y_jCh : MethodName := ⟨"java/lang/String", "charAt", "(I)C"⟩
theorem wc_jCh : Jvm.Cond.code y_jCh prog_16_method_56_code 2 (some .char) ∈ gT := gt2 223 rfl rfl
set_option maxHeartbeats 4000000 in
theorem met_jPc (l : Launch) (D : va_G) (tys : List (ClassId × FieldType)) (ad : Nat → Nat) (cA : Nat → ClassId) (adV : Nat → Nat) (sz : Nat) (C : mMem) (i n : Int32) (v : Value) (hv3 : v = .null ∨ ∃ a, v = .ref a) (h0 : ¬ i < 0) (h1 : i < n) : Met l y_jPc (wY y_jPc prog_20_method_11_code 3 (some .int)) (RM 1) (va_Pc [.int i, .int n, v] (mPre D tys ad cA adV C sz)) (mPost D ad cA sz (some i) C) 0 0 (mAd ad sz) := by
  refine Met.ofW (cc := prog_20_method_11_code) (maxL := 3) (ret := (some .int)) (by decide) rfl ?_
  intro p e s m args below meth c s₁ B hml hv
  obtain ⟨rfl, hsz, hP, hK, hinj, hT, hStr⟩ := hv
  have hx := B.exec
  have hb := B.bytes
  have hr := B.returns
  have htsw := atoms_spec (ws := wY y_jPc prog_20_method_11_code 3 (some .int)) B.pre
  have hts : ∀ w ∈ gT, w.before _ s = true := fun w hw => htsw w (List.mem_cons_of_mem _ hw)
  have hown : s.vm.findClass "jdk/internal/util/Preconditions" = some m.cls := findClass_of_methodNamed B.named
  have hlocks := B.notSynchronized
  subst hsz
  have hS : va_S (mAd ad s.heap.size) s.heap s.heap [] := va_S.rf
  have hl := lv_entry [.int i, .int n, v] (n := 3) (by rcases hv3 with rfl | ⟨a, rfl⟩ <;> exact Nat.le_of_ble_eq_true rfl)
  rw [lg_entry_eq]
  generalize (lg_sl [.int i, .int n, v] ++ List.replicate (3 - (lg_sl [.int i, .int n, v]).length) Slot.unset).toArray = lsA at hl ⊢
  have hl : lv_has lsA 3 [(0, .int i), (1, .int n)] := lv_sub hl [0, 1] (by rcases hv3 with rfl | ⟨a, rfl⟩ <;> rfl)
  refine lv_iload_n hx hb (show decode prog_20_method_11_code 0 = .ok (.iload_n 0, 1) by decide +kernel) rfl (lv_at hl 0 rfl) ?_
  refine lv_if_lt (tgt := 9) hx hb (show decode prog_20_method_11_code 1 = .ok (.ifCond .lt 8, 3) by decide +kernel) (by decide) (fun q => absurd q h0) (fun _ => ?_)
  refine lv_iload_n hx hb (show decode prog_20_method_11_code 4 = .ok (.iload_n 0, 1) by decide +kernel) rfl (lv_at hl 0 rfl) ?_
  refine lv_iload_n hx hb (show decode prog_20_method_11_code 5 = .ok (.iload_n 1, 1) by decide +kernel) rfl (lv_at hl 1 rfl) ?_
  refine lv_icmp_lt (tgt := 16) hx hb (show decode prog_20_method_11_code 6 = .ok (.if_icmp .lt 10, 3) by decide +kernel) (by decide) (fun _ => ?_) (fun q => absurd h1 q)
  refine lv_iload_n hx hb (show decode prog_20_method_11_code 16 = .ok (.iload_n 0, 1) by decide +kernel) rfl (lv_at hl 0 rfl) ?_
  exact W.iret hx hb hr (fun tt htt hW => ⟨⟨i, (), rfl, rfl, by show va_P D clsL (mW SH ad cA C) tt.heap; rw [htt]; exact hP⟩, hS.F htt⟩) hS.2.2 (show decode prog_20_method_11_code 17 = .ok (.ireturn, 1) by decide +kernel)
set_option maxHeartbeats 4000000 in
theorem met_jCi (l : Launch) (D : va_G) (tys : List (ClassId × FieldType)) (ad : Nat → Nat) (cA : Nat → ClassId) (adV : Nat → Nat) (sz : Nat) (C : mMem) (i n : Int32) (h0 : ¬ i < 0) (h1 : i < n) : Met l y_jCi (wY y_jCi prog_16_method_155_code 2 none) (RM 2) (va_Pc [.int i, .int n] (mPre D tys ad cA adV C sz)) (mPost D ad cA sz none C) 0 0 (mAd ad sz) := by
  refine Met.ofW (cc := prog_16_method_155_code) (maxL := 2) (ret := none) (by decide) rfl ?_
  intro p e s m args below meth c s₁ B hml hv
  obtain ⟨rfl, hsz, hP, hK, hinj, hT, hStr⟩ := hv
  have hx := B.exec
  have hb := B.bytes
  have hr := B.returns
  have htsw := atoms_spec (ws := wY y_jCi prog_16_method_155_code 2 none) B.pre
  have hts : ∀ w ∈ gT, w.before _ s = true := fun w hw => htsw w (List.mem_cons_of_mem _ hw)
  have hown : s.vm.findClass "java/lang/String" = some m.cls := findClass_of_methodNamed B.named
  have hlocks := B.notSynchronized
  subst hsz
  have hS : va_S (mAd ad s.heap.size) s.heap s.heap [] := va_S.rf
  have hl := lv_entry [.int i, .int n] (n := 2) (Nat.le_of_ble_eq_true rfl)
  rw [lg_entry_eq]
  generalize (lg_sl [.int i, .int n] ++ List.replicate (2 - (lg_sl [.int i, .int n]).length) Slot.unset).toArray = lsA at hl ⊢
  have hl : lv_has lsA 2 [(0, .int i), (1, .int n)] := hl
  refine lv_iload_n hx hb (show decode prog_16_method_155_code 0 = .ok (.iload_n 0, 1) by decide +kernel) rfl (lv_at hl 0 rfl) ?_
  refine lv_iload_n hx hb (show decode prog_16_method_155_code 1 = .ok (.iload_n 1, 1) by decide +kernel) rfl (lv_at hl 1 rfl) ?_
  obtain ⟨v, hv3, hZ⟩ : ∃ v : Value, (v = .null ∨ ∃ a, v = .ref a) ∧ va_Z "jdk/internal/util/Preconditions" "SIOOBE_FORMATTER" "Ljava/util/function/BiFunction;" v (mAd ad s.heap.size) s s.heap := by
    rcases hStr.2.2.2.1 with q | ⟨t, q⟩
    · exact ⟨.null, Or.inl rfl, q⟩
    · exact ⟨.ref t, Or.inr ⟨t, rfl⟩, q⟩
  refine va_gets hx hb hZ hS hown (hts _ (gt2 234 rfl rfl)) (fun _ z => z) (show decode prog_16_method_155_code 2 = .ok (.getstatic 1053, 3) by decide +kernel) ?_
  have hG : GoodIn (Jvm.Cond.code y_jCi prog_16_method_155_code 2 none :: gT) (wY y_jPc prog_20_method_11_code 3 (some .int)) := gT_goodIn (wY_in wc_jPc)
  have run := va_runS (p := p) (l := l) (e := e) (R := RM 2) (s := s) (m := m) (args := _) (below := below) (meth := meth) (c := c) (H := s.heap) (locs := []) (cells := 0) (slots := 0) (g := F0 m 5 lsA ([.int i, .int n, v].reverse ++ [])) (As := [.int i, .int n, v]) (rest := []) (own := "java/lang/String") (index := 1059) ⟨hx, hb, hml, hown, htsw⟩ (met_jPc l D tys ad cA adV s.heap.size C i n v hv3 h0 h1)
    ⟨callB_of 3 htsw hG rfl rfl rfl (hts _ (gt1 15 rfl rfl)) (hts _ (gt2 236 rfl rfl)) (by decide +kernel) ⟨Nat.le_of_ble_eq_true rfl, Nat.le_of_ble_eq_true rfl⟩, hts _ (gt2 237 rfl rfl)⟩
    ⟨mPre_blind, fun U hU hW => ⟨rfl, mPre_at hK hinj hT hStr hP hS U hU hW⟩⟩ rfl rfl hl.1 rfl (lv_room (Nat.le_of_ble_eq_true rfl)) (show decode prog_16_method_155_code 5 = .ok (.invokestatic 1059, 3) by decide +kernel) ⟨Nat.le_refl _, Nat.le_refl _⟩
  refine call_end run hS (fun H locs hP hS => ?_)
  refine lv_pop hx hb (show decode prog_16_method_155_code 8 = .ok (.pop, 1) by decide +kernel) rfl ?_
  exact W.vret hx hb hr  (fun tt htt hW => ⟨⟨(), rfl, trivial, by show va_P D clsL (mW SH ad cA C) tt.heap; rw [htt]; exact hP⟩, hS.F htt⟩) hS.2.2 (show decode prog_16_method_155_code 9 = .ok (.return_, 1) by decide +kernel)
theorem sc_small {a : Nat} (h : a < 128) : ((nI a &&& 255).toUInt32 % 65536).toInt32 = nI a ∧ narrow .char (.int (nI a)) = .int (nI a) := by
  refine ⟨?_, (pk_charN (by omega)).1⟩
  rw [show (255 : Int32) = nI 255 from rfl, show nI a &&& nI 255 = nI (a % 256) from pk_andN (n := a) (by omega) (m := nI 255) 8 (by decide), Nat.mod_eq_of_lt (show a < 256 by omega)]
  have := pk_char (nI a)
  rw [this, pk_tn (by omega), Nat.mod_eq_of_lt (show a < 65536 by omega)]
theorem STB_ok : STB.length = 19 ∧ ∀ s ∈ STB, s.length < 2 ^ 31 ∧ ∀ a ∈ s, a < 128 := by decide +kernel
theorem str_at {i : Nat} (hi : i < 19) : ∃ t : List Nat, STB[i]? = some t ∧ LENS.getD i 0 = t.length ∧ BYTS.getD i [] = t.map nI ∧ t.length < 2 ^ 31 ∧ ∀ a ∈ t, a < 128 := by
  obtain ⟨h1, h2⟩ := STB_ok
  have hl : i < STB.length := by omega
  refine ⟨STB[i], List.getElem?_eq_getElem hl, ?_, ?_, (h2 _ (List.getElem_mem hl)).1, (h2 _ (List.getElem_mem hl)).2⟩
  · simp [LENS, List.getD_eq_getElem?_getD, List.getElem?_eq_getElem hl]
  · simp [BYTS, List.getD_eq_getElem?_getD, List.getElem?_eq_getElem hl]
set_option maxHeartbeats 4000000 in
theorem met_jLc (l : Launch) (D : va_G) (tys : List (ClassId × FieldType)) (ad : Nat → Nat) (cA : Nat → ClassId) (adV : Nat → Nat) (sz : Nat) (C : mMem) (i : Nat) (hi : i < 19) (j : Nat) (t : List Nat) (ht : STB[i]? = some t) (hj : j < t.length) : Met l y_jLc (wY y_jLc prog_17_method_2_code 2 (some .char)) (RM 3) (va_Pc [.ref (adV i), .int (nI j)] (mPre D tys ad cA adV C sz)) (mPost D ad cA sz (some (nI (t.getD j 0))) C) 0 0 (mAd ad sz) := by
  obtain ⟨t', ht', hlen, hbyt, hsm, hch⟩ := str_at hi
  rw [ht] at ht'
  cases ht'
  refine Met.ofW (cc := prog_17_method_2_code) (maxL := 2) (ret := (some .char)) (by decide) rfl ?_
  intro p e s m args below meth c s₁ B hml hv
  obtain ⟨rfl, hsz, hP, hK, hinj, hT, hStr⟩ := hv
  have hx := B.exec
  have hb := B.bytes
  have hr := B.returns
  have htsw := atoms_spec (ws := wY y_jLc prog_17_method_2_code 2 (some .char)) B.pre
  have hts : ∀ w ∈ gT, w.before _ s = true := fun w hw => htsw w (List.mem_cons_of_mem _ hw)
  have hown : s.vm.findClass "java/lang/StringLatin1" = some m.cls := findClass_of_methodNamed B.named
  have hlocks := B.notSynchronized
  subst hsz
  have hS : va_S (mAd ad s.heap.size) s.heap s.heap [] := va_S.rf
  have hl := lv_entry [.ref (adV i), .int (nI j)] (n := 2) (Nat.le_of_ble_eq_true rfl)
  rw [lg_entry_eq]
  generalize (lg_sl [.ref (adV i), .int (nI j)] ++ List.replicate (2 - (lg_sl [.ref (adV i), .int (nI j)]).length) Slot.unset).toArray = lsA at hl ⊢
  have hl : lv_has lsA 2 [(0, .ref (adV i)), (1, .int (nI j))] := hl
  have hT4 := (hStr.1.1 i hi).2.2.2
  refine lv_iload_n hx hb (show decode prog_17_method_2_code 0 = .ok (.iload_n 1, 1) by decide +kernel) rfl (lv_at hl 1 rfl) ?_
  refine lv_aload_n hx hb (show decode prog_17_method_2_code 1 = .ok (.aload_n 0, 1) by decide +kernel) rfl (lv_at hl 0 rfl) ?_
  refine va_tlen (v := nI t.length) hx hb hT4 hS (by rw [hlen]; rfl) (show decode prog_17_method_2_code 2 = .ok (.arraylength, 1) by decide +kernel) ?_
  have hG : GoodIn (Jvm.Cond.code y_jLc prog_17_method_2_code 2 (some .char) :: gT) (wY y_jCi prog_16_method_155_code 2 none) := gT_goodIn (wY_in wc_jCi)
  have run := va_runS (p := p) (l := l) (e := e) (R := RM 3) (s := s) (m := m) (args := _) (below := below) (meth := meth) (c := c) (H := s.heap) (locs := []) (cells := 0) (slots := 0) (g := F0 m 3 lsA ([.int (nI j), .int (nI t.length)].reverse ++ [])) (As := [.int (nI j), .int (nI t.length)]) (rest := []) (own := "java/lang/StringLatin1") (index := 9) ⟨hx, hb, hml, hown, htsw⟩ (met_jCi l D tys ad cA adV s.heap.size C (nI j) (nI t.length) (nI_pos (by omega)) (nI_lt hj (by omega)))
    ⟨callB_of 2 htsw hG rfl rfl rfl (hts _ (gt1 13 rfl rfl)) (hts _ (gt2 231 rfl rfl)) (by decide +kernel) ⟨Nat.le_of_ble_eq_true rfl, Nat.le_of_ble_eq_true rfl⟩, hts _ (gt2 232 rfl rfl)⟩
    ⟨mPre_blind, fun U hU hW => ⟨rfl, mPre_at hK hinj hT hStr hP hS U hU hW⟩⟩ rfl rfl hl.1 rfl (lv_room (Nat.le_of_ble_eq_true rfl)) (show decode prog_17_method_2_code 3 = .ok (.invokestatic 9, 3) by decide +kernel) ⟨Nat.le_refl _, Nat.le_refl _⟩
  refine call_end run hS (fun H locs hP hS => ?_)
  refine lv_aload_n hx hb (show decode prog_17_method_2_code 6 = .ok (.aload_n 0, 1) by decide +kernel) rfl (lv_at hl 0 rfl) ?_
  refine lv_iload_n hx hb (show decode prog_17_method_2_code 7 = .ok (.iload_n 1, 1) by decide +kernel) rfl (lv_at hl 1 rfl) ?_
  have hch' : t.getD j 0 < 128 := by
    rw [List.getD_eq_getElem?_getD, List.getElem?_eq_getElem hj]
    exact hch _ (List.getElem_mem hj)
  refine va_tb (v := .int (nI (t.getD j 0))) hx hb hT4 hS (by rw [hlen]; exact vp_in_nI hj (by omega)) (by rw [hbyt, nI_clamp (by omega)]; simp [List.getD_eq_getElem?_getD, List.getElem?_eq_getElem hj]) (show decode prog_17_method_2_code 8 = .ok (.baload, 1) by decide +kernel) ?_
  refine lv_sipush (v := 255) hx hb (show decode prog_17_method_2_code 9 = .ok (.sipush 255, 3) by decide +kernel) (by decide) ?_
  refine lv_iand hx hb (show decode prog_17_method_2_code 12 = .ok (.iand, 1) by decide +kernel) ?_
  refine lv_i2c (v := nI (t.getD j 0)) hx hb (show decode prog_17_method_2_code 13 = .ok (.i2c, 1) by decide +kernel) (sc_small hch').1 ?_
  exact W.zret (ty := .char) hx hb hr (sc_small hch').2 (fun tt htt hW => ⟨⟨nI (t.getD j 0), (), rfl, rfl, by show va_P D clsL (mW SH ad cA C) tt.heap; rw [htt]; exact hP⟩, hS.F htt⟩) hS.2.2 (show decode prog_17_method_2_code 14 = .ok (.ireturn, 1) by decide +kernel)
set_option maxHeartbeats 4000000 in
theorem met_jIl (l : Launch) (D : va_G) (tys : List (ClassId × FieldType)) (ad : Nat → Nat) (cA : Nat → ClassId) (adV : Nat → Nat) (sz : Nat) (C : mMem) (i : Nat) (hi : i < 19) : Met l y_jIl (wY y_jIl prog_16_method_154_code 1 (some .boolean)) (RM 1) (va_Pc [.ref (ad (156 + i))] (mPre D tys ad cA adV C sz)) (mPost D ad cA sz (some 1) C) 0 0 (mAd ad sz) := by
  refine Met.ofW (cc := prog_16_method_154_code) (maxL := 1) (ret := (some .boolean)) (by decide) rfl ?_
  intro p e s m args below meth c s₁ B hml hv
  obtain ⟨rfl, hsz, hP, hK, hinj, hT, hStr⟩ := hv
  have hx := B.exec
  have hb := B.bytes
  have hr := B.returns
  have htsw := atoms_spec (ws := wY y_jIl prog_16_method_154_code 1 (some .boolean)) B.pre
  have hts : ∀ w ∈ gT, w.before _ s = true := fun w hw => htsw w (List.mem_cons_of_mem _ hw)
  have hown : s.vm.findClass "java/lang/String" = some m.cls := findClass_of_methodNamed B.named
  have hlocks := B.notSynchronized
  subst hsz
  have hS : va_S (mAd ad s.heap.size) s.heap s.heap [] := va_S.rf
  have hl := lv_entry [.ref (ad (156 + i))] (n := 1) (Nat.le_of_ble_eq_true rfl)
  rw [lg_entry_eq]
  generalize (lg_sl [.ref (ad (156 + i))] ++ List.replicate (1 - (lg_sl [.ref (ad (156 + i))]).length) Slot.unset).toArray = lsA at hl ⊢
  have hl : lv_has lsA 1 [(0, .ref (ad (156 + i)))] := hl
  refine va_gets hx hb hStr.2.2.1 hS hown (hts _ (gt2 218 rfl rfl)) (fun _ z => z) (show decode prog_16_method_154_code 0 = .ok (.getstatic 38, 3) by decide +kernel) ?_
  refine lv_if_eq (tgt := 17) hx hb (show decode prog_16_method_154_code 3 = .ok (.ifCond .eq 14, 3) by decide +kernel) (by decide) (fun q => absurd q (by decide)) (fun _ => ?_)
  refine lv_aload_n hx hb (show decode prog_16_method_154_code 6 = .ok (.aload_n 0, 1) by decide +kernel) rfl (lv_at hl 0 rfl) ?_
  refine vk_getf hx hb (hStr.1.1 i hi).2.1 hS hown (hts _ (gt7 113 rfl rfl)) (fun _ z => z) (show decode prog_16_method_154_code 7 = .ok (.getfield 15, 3) by decide +kernel) ?_
  refine lv_if_ne (tgt := 17) hx hb (show decode prog_16_method_154_code 10 = .ok (.ifCond .ne 7, 3) by decide +kernel) (by decide) (fun q => absurd rfl q) (fun _ => ?_)
  refine lv_iconst (v := 1) hx hb (show decode prog_16_method_154_code 13 = .ok (.iconst 1, 1) by decide +kernel) (by decide) ?_
  refine lv_goto (tgt := 18) hx hb (show decode prog_16_method_154_code 14 = .ok (.goto 4, 3) by decide +kernel) (by decide) ?_
  exact W.zret (ty := .boolean) hx hb hr (by decide +kernel) (fun tt htt hW => ⟨⟨1, (), rfl, rfl, by show va_P D clsL (mW SH ad cA C) tt.heap; rw [htt]; exact hP⟩, hS.F htt⟩) hS.2.2 (show decode prog_16_method_154_code 18 = .ok (.ireturn, 1) by decide +kernel)
set_option maxHeartbeats 4000000 in
theorem met_jCo (l : Launch) (D : va_G) (tys : List (ClassId × FieldType)) (ad : Nat → Nat) (cA : Nat → ClassId) (adV : Nat → Nat) (sz : Nat) (C : mMem) (i : Nat) (hi : i < 19) : Met l y_jCo (wY y_jCo prog_16_method_152_code 1 (some .byte)) (RM 1) (va_Pc [.ref (ad (156 + i))] (mPre D tys ad cA adV C sz)) (mPost D ad cA sz (some 0) C) 0 0 (mAd ad sz) := by
  refine Met.ofW (cc := prog_16_method_152_code) (maxL := 1) (ret := (some .byte)) (by decide) rfl ?_
  intro p e s m args below meth c s₁ B hml hv
  obtain ⟨rfl, hsz, hP, hK, hinj, hT, hStr⟩ := hv
  have hx := B.exec
  have hb := B.bytes
  have hr := B.returns
  have htsw := atoms_spec (ws := wY y_jCo prog_16_method_152_code 1 (some .byte)) B.pre
  have hts : ∀ w ∈ gT, w.before _ s = true := fun w hw => htsw w (List.mem_cons_of_mem _ hw)
  have hown : s.vm.findClass "java/lang/String" = some m.cls := findClass_of_methodNamed B.named
  have hlocks := B.notSynchronized
  subst hsz
  have hS : va_S (mAd ad s.heap.size) s.heap s.heap [] := va_S.rf
  have hl := lv_entry [.ref (ad (156 + i))] (n := 1) (Nat.le_of_ble_eq_true rfl)
  rw [lg_entry_eq]
  generalize (lg_sl [.ref (ad (156 + i))] ++ List.replicate (1 - (lg_sl [.ref (ad (156 + i))]).length) Slot.unset).toArray = lsA at hl ⊢
  have hl : lv_has lsA 1 [(0, .ref (ad (156 + i)))] := hl
  refine va_gets hx hb hStr.2.2.1 hS hown (hts _ (gt2 218 rfl rfl)) (fun _ z => z) (show decode prog_16_method_152_code 0 = .ok (.getstatic 38, 3) by decide +kernel) ?_
  refine lv_if_eq (tgt := 13) hx hb (show decode prog_16_method_152_code 3 = .ok (.ifCond .eq 10, 3) by decide +kernel) (by decide) (fun q => absurd q (by decide)) (fun _ => ?_)
  refine lv_aload_n hx hb (show decode prog_16_method_152_code 6 = .ok (.aload_n 0, 1) by decide +kernel) rfl (lv_at hl 0 rfl) ?_
  refine vk_getf hx hb (hStr.1.1 i hi).2.1 hS hown (hts _ (gt7 113 rfl rfl)) (fun _ z => z) (show decode prog_16_method_152_code 7 = .ok (.getfield 15, 3) by decide +kernel) ?_
  refine lv_goto (tgt := 14) hx hb (show decode prog_16_method_152_code 10 = .ok (.goto 4, 3) by decide +kernel) (by decide) ?_
  exact W.zret (ty := .byte) hx hb hr (by decide +kernel) (fun tt htt hW => ⟨⟨0, (), rfl, rfl, by show va_P D clsL (mW SH ad cA C) tt.heap; rw [htt]; exact hP⟩, hS.F htt⟩) hS.2.2 (show decode prog_16_method_152_code 14 = .ok (.ireturn, 1) by decide +kernel)
set_option maxHeartbeats 4000000 in
theorem met_jLe (l : Launch) (D : va_G) (tys : List (ClassId × FieldType)) (ad : Nat → Nat) (cA : Nat → ClassId) (adV : Nat → Nat) (sz : Nat) (C : mMem) (i : Nat) (hi : i < 19) (t : List Nat) (ht : STB[i]? = some t) : Met l y_jLe (wY y_jLe prog_16_method_54_code 1 (some .int)) (RM 2) (va_Pc [.ref (ad (156 + i))] (mPre D tys ad cA adV C sz)) (mPost D ad cA sz (some (nI t.length)) C) 0 0 (mAd ad sz) := by
  obtain ⟨t', ht', hlen, hbyt, hsm, hch⟩ := str_at hi
  rw [ht] at ht'
  cases ht'
  refine Met.ofW (cc := prog_16_method_54_code) (maxL := 1) (ret := (some .int)) (by decide) rfl ?_
  intro p e s m args below meth c s₁ B hml hv
  obtain ⟨rfl, hsz, hP, hK, hinj, hT, hStr⟩ := hv
  have hx := B.exec
  have hb := B.bytes
  have hr := B.returns
  have htsw := atoms_spec (ws := wY y_jLe prog_16_method_54_code 1 (some .int)) B.pre
  have hts : ∀ w ∈ gT, w.before _ s = true := fun w hw => htsw w (List.mem_cons_of_mem _ hw)
  have hown : s.vm.findClass "java/lang/String" = some m.cls := findClass_of_methodNamed B.named
  have hlocks := B.notSynchronized
  subst hsz
  have hS : va_S (mAd ad s.heap.size) s.heap s.heap [] := va_S.rf
  have hl := lv_entry [.ref (ad (156 + i))] (n := 1) (Nat.le_of_ble_eq_true rfl)
  rw [lg_entry_eq]
  generalize (lg_sl [.ref (ad (156 + i))] ++ List.replicate (1 - (lg_sl [.ref (ad (156 + i))]).length) Slot.unset).toArray = lsA at hl ⊢
  have hl : lv_has lsA 1 [(0, .ref (ad (156 + i)))] := hl
  refine lv_aload_n hx hb (show decode prog_16_method_54_code 0 = .ok (.aload_n 0, 1) by decide +kernel) rfl (lv_at hl 0 rfl) ?_
  refine vk_getf hx hb (hStr.1.1 i hi).2.2.1 hS hown (hts _ (gt7 112 rfl rfl)) (fun _ z => z) (show decode prog_16_method_54_code 1 = .ok (.getfield 9, 3) by decide +kernel) ?_
  refine va_tlen (v := nI t.length) hx hb (hStr.1.1 i hi).2.2.2 hS (by rw [hlen]; rfl) (show decode prog_16_method_54_code 4 = .ok (.arraylength, 1) by decide +kernel) ?_
  refine lv_aload_n hx hb (show decode prog_16_method_54_code 5 = .ok (.aload_n 0, 1) by decide +kernel) rfl (lv_at hl 0 rfl) ?_
  have hG : GoodIn (Jvm.Cond.code y_jLe prog_16_method_54_code 1 (some .int) :: gT) (wsV "java/lang/String" 335 "java/lang/String" y_jCo (wY y_jCo prog_16_method_152_code 1 (some .byte))) := by
    refine gT_goodIn (fun w hw => ?_)
    unfold wsV at hw
    rcases List.mem_append.mp hw with z | z
    · simp only [List.mem_cons, List.not_mem_nil, or_false] at z
      rcases z with rfl | rfl | rfl | rfl
      · exact gt2 214 rfl rfl
      · exact gt2 215 rfl rfl
      · exact gt2 216 rfl rfl
      · exact gt1 13 rfl rfl
    · exact wY_in wc_jCo w z
  have run := va_runV (p := p) (l := l) (e := e) (R := RM 2) (s := s) (m := m) (args := _) (below := below) (meth := meth) (c := c) (H := s.heap) (locs := []) (cells := 0) (slots := 0) (g := F0 m 6 lsA (([] : List Value).reverse ++ .ref (ad (156 + i)) :: [.int (nI t.length)])) (As := []) (rest := [.int (nI t.length)]) (b := (ad (156 + i))) ⟨hx, hb, hml, hown, htsw⟩ (met_jCo l D tys ad cA adV s.heap.size C i hi)
    (cwV 0 htsw hG rfl rfl rfl (by decide +kernel) ⟨Nat.le_of_ble_eq_true rfl, Nat.le_of_ble_eq_true rfl⟩)
    ⟨mPre_blind, vk_recv (adK := fun i => ad (156 + i)) (i := i) hStr.1 hi hS, fun U hU hW => ⟨rfl, mPre_at hK hinj hT hStr hP hS U hU hW⟩⟩ rfl rfl hl.1 rfl (lv_room (Nat.le_of_ble_eq_true rfl)) (show decode prog_16_method_54_code 6 = .ok (.invokevirtual 335, 3) by decide +kernel) ⟨Nat.le_refl _, Nat.le_refl _⟩
  refine call_end run hS (fun H locs hP hS => ?_)
  refine lv_ishr hx hb (show decode prog_16_method_54_code 9 = .ok (.ishr, 1) by decide +kernel) ?_
  rw [sb_shr0]
  exact W.iret hx hb hr (fun tt htt hW => ⟨⟨nI t.length, (), rfl, rfl, by show va_P D clsL (mW SH ad cA C) tt.heap; rw [htt]; exact hP⟩, hS.F htt⟩) hS.2.2 (show decode prog_16_method_54_code 10 = .ok (.ireturn, 1) by decide +kernel)
set_option maxHeartbeats 4000000 in
theorem met_jCh (l : Launch) (D : va_G) (tys : List (ClassId × FieldType)) (ad : Nat → Nat) (cA : Nat → ClassId) (adV : Nat → Nat) (sz : Nat) (C : mMem) (i : Nat) (hi : i < 19) (j : Nat) (t : List Nat) (ht : STB[i]? = some t) (hj : j < t.length) : Met l y_jCh (wY y_jCh prog_16_method_56_code 2 (some .char)) (RM 4) (va_Pc [.ref (ad (156 + i)), .int (nI j)] (mPre D tys ad cA adV C sz)) (mPost D ad cA sz (some (nI (t.getD j 0))) C) 0 0 (mAd ad sz) := by
  obtain ⟨t', ht', hlen, hbyt, hsm, hch⟩ := str_at hi
  rw [ht] at ht'
  cases ht'
  have hch' : t.getD j 0 < 128 := by
    rw [List.getD_eq_getElem?_getD, List.getElem?_eq_getElem hj]
    exact hch _ (List.getElem_mem hj)
  refine Met.ofW (cc := prog_16_method_56_code) (maxL := 2) (ret := (some .char)) (by decide) rfl ?_
  intro p e s m args below meth c s₁ B hml hv
  obtain ⟨rfl, hsz, hP, hK, hinj, hT, hStr⟩ := hv
  have hx := B.exec
  have hb := B.bytes
  have hr := B.returns
  have htsw := atoms_spec (ws := wY y_jCh prog_16_method_56_code 2 (some .char)) B.pre
  have hts : ∀ w ∈ gT, w.before _ s = true := fun w hw => htsw w (List.mem_cons_of_mem _ hw)
  have hown : s.vm.findClass "java/lang/String" = some m.cls := findClass_of_methodNamed B.named
  have hlocks := B.notSynchronized
  subst hsz
  have hS : va_S (mAd ad s.heap.size) s.heap s.heap [] := va_S.rf
  have hl := lv_entry [.ref (ad (156 + i)), .int (nI j)] (n := 2) (Nat.le_of_ble_eq_true rfl)
  rw [lg_entry_eq]
  generalize (lg_sl [.ref (ad (156 + i)), .int (nI j)] ++ List.replicate (2 - (lg_sl [.ref (ad (156 + i)), .int (nI j)]).length) Slot.unset).toArray = lsA at hl ⊢
  have hl : lv_has lsA 2 [(0, .ref (ad (156 + i))), (1, .int (nI j))] := hl
  refine lv_aload_n hx hb (show decode prog_16_method_56_code 0 = .ok (.aload_n 0, 1) by decide +kernel) rfl (lv_at hl 0 rfl) ?_
  have hG : GoodIn (Jvm.Cond.code y_jCh prog_16_method_56_code 2 (some .char) :: gT) (wsV "java/lang/String" 492 "java/lang/String" y_jIl (wY y_jIl prog_16_method_154_code 1 (some .boolean))) := by
    refine gT_goodIn (fun w hw => ?_)
    unfold wsV at hw
    rcases List.mem_append.mp hw with z | z
    · simp only [List.mem_cons, List.not_mem_nil, or_false] at z
      rcases z with rfl | rfl | rfl | rfl
      · exact gt2 224 rfl rfl
      · exact gt2 225 rfl rfl
      · exact gt2 226 rfl rfl
      · exact gt1 13 rfl rfl
    · exact wY_in wc_jIl w z
  have run := va_runV (p := p) (l := l) (e := e) (R := RM 4) (s := s) (m := m) (args := _) (below := below) (meth := meth) (c := c) (H := s.heap) (locs := []) (cells := 0) (slots := 0) (g := F0 m 1 lsA (([] : List Value).reverse ++ .ref (ad (156 + i)) :: [])) (As := []) (rest := []) (b := (ad (156 + i))) ⟨hx, hb, hml, hown, htsw⟩ (met_jIl l D tys ad cA adV s.heap.size C i hi)
    (cwV 0 htsw hG rfl rfl rfl (by decide +kernel) ⟨Nat.le_of_ble_eq_true rfl, Nat.le_of_ble_eq_true rfl⟩)
    ⟨mPre_blind, vk_recv (adK := fun i => ad (156 + i)) (i := i) hStr.1 hi hS, fun U hU hW => ⟨rfl, mPre_at hK hinj hT hStr hP hS U hU hW⟩⟩ rfl rfl hl.1 rfl (lv_room (Nat.le_of_ble_eq_true rfl)) (show decode prog_16_method_56_code 1 = .ok (.invokevirtual 492, 3) by decide +kernel) ⟨Nat.le_refl _, Nat.le_refl _⟩
  refine call_end run hS (fun H locs hP hS => ?_)
  -- then
  clear run hG
  refine lv_if_eq (tgt := 16) hx hb (show decode prog_16_method_56_code 4 = .ok (.ifCond .eq 12, 3) by decide +kernel) (by decide) (fun q => absurd q (by decide)) (fun _ => ?_)
  refine lv_aload_n hx hb (show decode prog_16_method_56_code 7 = .ok (.aload_n 0, 1) by decide +kernel) rfl (lv_at hl 0 rfl) ?_
  refine vk_getf hx hb (hStr.1.1 i hi).2.2.1 hS hown (hts _ (gt7 112 rfl rfl)) (fun _ z => z) (show decode prog_16_method_56_code 8 = .ok (.getfield 9, 3) by decide +kernel) ?_
  refine lv_iload_n hx hb (show decode prog_16_method_56_code 11 = .ok (.iload_n 1, 1) by decide +kernel) rfl (lv_at hl 1 rfl) ?_
  have hG : GoodIn (Jvm.Cond.code y_jCh prog_16_method_56_code 2 (some .char) :: gT) (wY y_jLc prog_17_method_2_code 2 (some .char)) := gT_goodIn (wY_in wc_jLc)
  have run := va_runS (p := p) (l := l) (e := e) (R := RM 4) (s := s) (m := m) (args := _) (below := below) (meth := meth) (c := c) (H := H) (locs := locs) (cells := 0) (slots := 0) (g := F0 m 12 lsA ([.ref (adV i), .int (nI j)].reverse ++ [])) (As := [.ref (adV i), .int (nI j)]) (rest := []) (own := "java/lang/String") (index := 495) ⟨hx, hb, hml, hown, htsw⟩ (met_jLc l D tys ad cA adV H.size C i hi j t ht hj)
    ⟨callB_of 2 htsw hG rfl rfl rfl (hts _ (gt1 14 rfl rfl)) (hts _ (gt2 228 rfl rfl)) (by decide +kernel) ⟨Nat.le_of_ble_eq_true rfl, Nat.le_of_ble_eq_true rfl⟩, hts _ (gt2 229 rfl rfl)⟩
    ⟨mPre_blind, fun U hU hW => ⟨rfl, mPre_at hK hinj hT hStr hP hS U hU hW⟩⟩ rfl rfl hl.1 rfl (lv_room (Nat.le_of_ble_eq_true rfl)) (show decode prog_16_method_56_code 12 = .ok (.invokestatic 495, 3) by decide +kernel) ⟨Nat.le_refl _, Nat.le_refl _⟩
  refine call_end run hS (fun H locs hP hS => ?_)
  exact W.zret (ty := .char) hx hb hr (sc_small hch').2 (fun tt htt hW => ⟨⟨nI (t.getD j 0), (), rfl, rfl, by show va_P D clsL (mW SH ad cA C) tt.heap; rw [htt]; exact hP⟩, hS.F htt⟩) hS.2.2 (show decode prog_16_method_56_code 15 = .ok (.ireturn, 1) by decide +kernel)
theorem call_len {l : Launch} {own : String} {ix d : Nat} (hw : wdV own ix y_jLe prog_16_method_54_code 1 (some .int)) (hd : 3 ≤ d) : mCall l own (2 * ix) 1 d f_J_length := by
  intro p e s m args below meth c Q D tys ad cA adV nL0 cc0 w0 hx hb hml hown hts hK hinj hT hStr
  intro pc i H locs lsA as rest r Cm C' hdec hi hlen hf hcat hsum hP hS hsz kk
  cases rIx_V hi
  have hT0 : ∀ w ∈ gT, w.before args s = true := fun w h => hts w (List.mem_cons_of_mem _ h)
  unfold f_J_length at hf
  split at hf
  · next k =>
    by_cases hk : 156 ≤ k
    · rw [if_pos hk] at hf
      obtain ⟨t, ht, hf⟩ := Option.bind_eq_some_iff.mp hf
      cases hf
      obtain ⟨j, rfl⟩ : ∃ j, k = 156 + j := ⟨k - 156, (Nat.add_sub_cancel' hk).symm⟩
      rw [Nat.add_sub_cancel_left] at ht
      have hj : j < 19 := by rw [← STB_ok.1]; exact (List.getElem?_eq_some_iff.mp ht).1
      have hG : GoodIn (w0 :: gT) (wsV own ix "java/lang/String" y_jLe (wY y_jLe prog_16_method_54_code 1 (some .int))) := by
        refine gT_goodIn (fun w hw' => ?_)
        unfold wsV at hw'
        rcases List.mem_append.mp hw' with z | z
        · simp only [List.mem_cons, List.not_mem_nil, or_false] at z
          rcases z with rfl | rfl | rfl | rfl
          · exact hw.1
          · exact hw.2.1
          · exact hw.2.2.1
          · exact hw.2.2.2.1
        · exact wY_in hw.2.2.2.2 w z
      have run := va_runV (p := p) (l := l) (e := e) (R := RM d) (s := s) (m := m) (args := args) (below := below) (meth := meth) (c := c) (H := H) (locs := locs) (cells := 0) (slots := 0) (g := F0 m pc lsA (([] : List Value).reverse ++ .ref (ad (156 + j)) :: rest)) (As := []) (rest := rest) (b := ad (156 + j)) ⟨hx, hb, hml, hown, hts⟩ (met_jLe l D tys ad cA adV H.size Cm j hj t ht)
        (cwV 0 hts hG rfl rfl rfl (by decide +kernel) ⟨hd, by show 8 + (1 + 11) + 40 * 2 ≤ 40 * d; omega⟩)
        ⟨mPre_blind, vk_recv (adK := fun i => ad (156 + i)) (i := j) hStr.1 hj hS, fun U hU hW => ⟨rfl, mPre_at hK hinj hT hStr hP hS U hU hW⟩⟩ rfl rfl hsz rfl (lv_room hsum) hdec ⟨Nat.le_refl _, Nat.le_refl _⟩
      exact call_end run hS kk
    · rw [if_neg hk] at hf
      cases hf
  · cases hf
theorem call_chr {l : Launch} {own : String} {ix d : Nat} (hw : wdV own ix y_jCh prog_16_method_56_code 2 (some .char)) (hd : 5 ≤ d) : mCall l own (2 * ix) 2 d f_J_charAt := by
  intro p e s m args below meth c Q D tys ad cA adV nL0 cc0 w0 hx hb hml hown hts hK hinj hT hStr
  intro pc i H locs lsA as rest r Cm C' hdec hi hlen hf hcat hsum hP hS hsz kk
  cases rIx_V hi
  have hT0 : ∀ w ∈ gT, w.before args s = true := fun w h => hts w (List.mem_cons_of_mem _ h)
  unfold f_J_charAt at hf
  split at hf
  · next k x =>
    by_cases hk : 156 ≤ k
    · rw [if_pos hk] at hf
      obtain ⟨t, ht, hf⟩ := Option.bind_eq_some_iff.mp hf
      by_cases hm : mIn x t.length = true
      · rw [if_pos hm] at hf
        cases hf
        obtain ⟨j, rfl⟩ : ∃ j, k = 156 + j := ⟨k - 156, (Nat.add_sub_cancel' hk).symm⟩
        rw [Nat.add_sub_cancel_left] at ht
        have hj : j < 19 := by rw [← STB_ok.1]; exact (List.getElem?_eq_some_iff.mp ht).1
        obtain ⟨t', ht', -, -, hsm, -⟩ := str_at hj
        rw [ht] at ht'
        cases ht'
        obtain ⟨u, hu, rfl⟩ := vp_in_of (mIn_vp hm) (by omega)
        rw [nI_clamp (by omega)] at kk
        have hG : GoodIn (w0 :: gT) (wsV own ix "java/lang/String" y_jCh (wY y_jCh prog_16_method_56_code 2 (some .char))) := by
          refine gT_goodIn (fun w hw' => ?_)
          unfold wsV at hw'
          rcases List.mem_append.mp hw' with z | z
          · simp only [List.mem_cons, List.not_mem_nil, or_false] at z
            rcases z with rfl | rfl | rfl | rfl
            · exact hw.1
            · exact hw.2.1
            · exact hw.2.2.1
            · exact hw.2.2.2.1
          · exact wY_in hw.2.2.2.2 w z
        have run := va_runV (p := p) (l := l) (e := e) (R := RM d) (s := s) (m := m) (args := args) (below := below) (meth := meth) (c := c) (H := H) (locs := locs) (cells := 0) (slots := 0) (g := F0 m pc lsA (([.int (nI u)] : List Value).reverse ++ .ref (ad (156 + j)) :: rest)) (As := [.int (nI u)]) (rest := rest) (b := ad (156 + j)) ⟨hx, hb, hml, hown, hts⟩ (met_jCh l D tys ad cA adV H.size Cm j hj u t ht hu)
          (cwV 1 hts hG rfl rfl rfl (by decide +kernel) ⟨hd, by show 8 + (2 + 11) + 40 * 4 ≤ 40 * d; omega⟩)
          ⟨mPre_blind, vk_recv (adK := fun i => ad (156 + i)) (i := j) hStr.1 hj hS, fun U hU hW => ⟨rfl, mPre_at hK hinj hT hStr hP hS U hU hW⟩⟩ rfl rfl hsz rfl (lv_room hsum) hdec ⟨Nat.le_refl _, Nat.le_refl _⟩
        exact call_end run hS kk
      · rw [if_neg hm] at hf
        cases hf
    · rw [if_neg hk] at hf
      cases hf
  · cases hf

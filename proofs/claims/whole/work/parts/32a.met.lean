/-! CONTRACTS by program -/
/-! contracts -/
theorem call_rec {l : Launch} {own : String} {ix n d d' ci : Nat} {y : MethodName} {cc : ByteArray} {nL : Nat} {ret : Option FieldType} {f : mSem} {T : u_T} {N : Nat} (hM : mMet l y cc nL ret d' f) (hr : ∀ (as : List Value) (C : mMem) (q : Option Int32 × mMem), f as C = some q → rcv [ci] f as C = some q) (hw : wdV own ix y cc nL ret) (hci : clsL[ci]? = some (y.cls, T, N)) (hd : d' + 1 ≤ d) (hn : nL ≤ 21)
    (hy : y.cls ≠ "java/lang/invoke/MethodHandle" ∧ y.cls ≠ "java/lang/invoke/VarHandle" ∧ (parseMethodDescriptor y.desc).map (fun d => d.parameters.length) = some n) : mCall l own (2 * ix) (n + 1) d f := by
  have hM' : mMet l y cc nL ret d' (rcv [ci] f) := fun D tys ad cA adV sz C as r C' hcat hf => by
    obtain ⟨_, _, _, _, h⟩ := rcv_spec hf
    exact hM D tys ad cA adV sz C as r C' hcat h
  have h1 := call_V hM' hw hci hd hn hy
  exact call_two h1 h1 (fun as C q h => Or.inl (hr as C q h))
def y_J_compare : MethodName := ⟨"java/lang/Integer", "compare", "(II)I"⟩
theorem wq_J_compare : Jvm.Cond.static y_J_compare ∈ gT ∧ Jvm.Cond.initialized "java/lang/Integer" ∈ gT ∧ Jvm.Cond.code y_J_compare prog_14_method_40_code 2 (some .int) ∈ gT := ⟨gt4 35 rfl rfl, gt1 19 rfl rfl, gt4 36 rfl rfl⟩
theorem met_J_compare (l : Launch) : mMet l y_J_compare prog_14_method_40_code 2 (some .int) 1 f_J_compare := met_of (S := S_J_compare) (fx := fun _ _ => none) (px := fun _ _ => none) (kx := fun _ => none) (sx := fun _ => none) (cx := fun _ => none) (by decide) okI0 (fun h => der_J_compare h) (fun _ _ _ h => by cases h) (fun _ _ _ _ h => by cases h) (fun _ _ h => by cases h) (fun _ _ h => by cases h) (fun _ _ _ h => by cases h)
theorem wm_max : Jvm.Cond.static Lib.Math.max.name ∈ gT ∧ Jvm.Cond.initialized "java/lang/Math" ∈ gT ∧ Jvm.Cond.code Lib.Math.max.name Lib.Math.max.code 2 (some .int) ∈ gT := ⟨gt3 36 rfl rfl, gt1 17 rfl rfl, gt3 37 rfl rfl⟩
theorem wm_min : Jvm.Cond.static Lib.Math.min.name ∈ gT ∧ Jvm.Cond.initialized "java/lang/Math" ∈ gT ∧ Jvm.Cond.code Lib.Math.min.name Lib.Math.min.code 2 (some .int) ∈ gT := ⟨gt4 32 rfl rfl, gt1 17 rfl rfl, gt4 33 rfl rfl⟩
theorem wm_abs : Jvm.Cond.static Lib.Math.abs.name ∈ gT ∧ Jvm.Cond.initialized "java/lang/Math" ∈ gT ∧ Jvm.Cond.code Lib.Math.abs.name Lib.Math.abs.code 1 (some .int) ∈ gT := ⟨gt4 5 rfl rfl, gt1 17 rfl rfl, gt4 6 rfl rfl⟩
theorem wm_copy : Jvm.Cond.native arraycopyName ∈ gT ∧ Jvm.Cond.static arraycopyName ∈ gT ∧ Jvm.Cond.initialized "java/lang/System" ∈ gT := ⟨gt3 90 rfl rfl, gt3 89 rfl rfl, gt1 18 rfl rfl⟩
theorem wq_jLe : Jvm.Cond.instanceMethod y_jLe ∈ gT ∧ Jvm.Cond.selects "java/lang/String" y_jLe y_jLe ∈ gT ∧ Jvm.Cond.initialized "java/lang/String" ∈ gT ∧ Jvm.Cond.code y_jLe prog_16_method_54_code 1 (some .int) ∈ gT := ⟨gt2 211 rfl rfl, gt2 212 rfl rfl, gt1 13 rfl rfl, wc_jLe⟩
theorem wq_jCh : Jvm.Cond.instanceMethod y_jCh ∈ gT ∧ Jvm.Cond.selects "java/lang/String" y_jCh y_jCh ∈ gT ∧ Jvm.Cond.initialized "java/lang/String" ∈ gT ∧ Jvm.Cond.code y_jCh prog_16_method_56_code 2 (some .char) ∈ gT := ⟨gt2 221 rfl rfl, gt2 222 rfl rfl, gt1 13 rfl rfl, wc_jCh⟩
theorem met_F_putBytes (l : Launch) : mMet l y_F_putBytes prog_1_method_3_code 3 none 1 f_F_putBytes := met_of (S := S_F_putBytes) (cx := cx_F_putBytes) (by decide) okV (fun h => der_F_putBytes h) hfx_F hpx_F hkx_F hsx_F (fun ix n g h => by
    unfold cx_F_putBytes at h
    cases h)
theorem ml_F_85 : Jvm.Cond.methodLink "FourCars" 85 ⟨"FourCars", "putBytes", "(I)V"⟩ ∈ gT := gt2 183 rfl rfl
theorem met_F_feed (l : Launch) : mMet l y_F_feed prog_1_method_2_code 6 (some .int) 2 f_F_feed := met_of (S := S_F_feed) (cx := cx_F_feed) (by decide) okI (fun h => der_F_feed h) hfx_F hpx_F hkx_F hsx_F (fun ix n g h => by
    unfold cx_F_feed at h
    by_cases e : ix = 170
    · rw [if_pos e] at h
      cases h
      subst e
      exact call_V (ix := 85) (n := 1) (ci := 9) (met_F_putBytes l) ⟨ml_F_85, wq_F_putBytes⟩ rfl (by decide) (by decide) wn_F_putBytes
    rw [if_neg e] at h
    cases h)
theorem met_F_end (l : Launch) : mMet l y_F_end prog_1_method_4_code 2 (some .boolean) 1 f_F_end := met_of (S := S_F_end) (cx := cx_F_end) (by decide) okZ (fun h => der_F_end h) hfx_F hpx_F hkx_F hsx_F (fun ix n g h => by
    unfold cx_F_end at h
    cases h)
theorem ml_Ru_38 : Jvm.Cond.methodLink "FourCars$Rule" 38 ⟨"java/lang/System", "arraycopy", "(Ljava/lang/Object;ILjava/lang/Object;II)V"⟩ ∈ gT := gt3 159 rfl rfl
theorem met_Ru_become (l : Launch) : mMet l y_Ru_become prog_7_method_3_code 2 none 1 f_Ru_become := met_of (S := S_Ru_become) (cx := cx_Ru_become) (by decide) okV (fun h => der_Ru_become h) hfx_Ru hpx_Ru hkx_Ru hsx_Ru (fun ix n g h => by
    unfold cx_Ru_become at h
    by_cases e : ix = 77
    · rw [if_pos e] at h
      cases h
      subst e
      exact call_copy (ix := 38) ⟨ml_Ru_38, wm_copy⟩ (by decide)
    rw [if_neg e] at h
    cases h)
theorem ml_F_116 : Jvm.Cond.methodLink "FourCars" 116 ⟨"FourCars$Rule", "become", "(LFourCars$Rule;)V"⟩ ∈ gT := gt3 155 rfl rfl
theorem met_F_takeRule (l : Launch) : mMet l y_F_takeRule prog_1_method_6_code 2 (some .int) 2 f_F_takeRule := met_of (S := S_F_takeRule) (cx := cx_F_takeRule) (by decide) okI (fun h => der_F_takeRule h) hfx_F hpx_F hkx_F hsx_F (fun ix n g h => by
    unfold cx_F_takeRule at h
    by_cases e : ix = 232
    · rw [if_pos e] at h
      cases h
      subst e
      exact call_V (ix := 116) (n := 1) (ci := 4) (met_Ru_become l) ⟨ml_F_116, wq_Ru_become⟩ rfl (by decide) (by decide) wn_Ru_become
    rw [if_neg e] at h
    cases h)
theorem ml_Tw_41 : Jvm.Cond.methodLink "FourCars$Tower" 41 ⟨"java/lang/System", "arraycopy", "(Ljava/lang/Object;ILjava/lang/Object;II)V"⟩ ∈ gT := gt3 88 rfl rfl
theorem met_Tw_become (l : Launch) : mMet l y_Tw_become prog_10_method_2_code 2 none 1 f_Tw_become := met_of (S := S_Tw_become) (cx := cx_Tw_become) (by decide) okV (fun h => der_Tw_become h) hfx_Tw hpx_Tw hkx_Tw hsx_Tw (fun ix n g h => by
    unfold cx_Tw_become at h
    by_cases e : ix = 83
    · rw [if_pos e] at h
      cases h
      subst e
      exact call_copy (ix := 41) ⟨ml_Tw_41, wm_copy⟩ (by decide)
    rw [if_neg e] at h
    cases h)
theorem met_Ca_rest (l : Launch) : mMet l y_Ca_rest prog_2_method_3_code 2 none 1 f_Ca_rest := met_of (S := S_Ca_rest) (cx := cx_Ca_rest) (by decide) okV (fun h => der_Ca_rest h) hfx_Ca hpx_Ca hkx_Ca hsx_Ca (fun ix n g h => by
    unfold cx_Ca_rest at h
    cases h)
theorem ml_Ca_37 : Jvm.Cond.methodLink "FourCars$Cars" 37 ⟨"FourCars$Cars", "rest", "(I)V"⟩ ∈ gT := gt3 111 rfl rfl
theorem met_Ca_begin (l : Launch) : mMet l y_Ca_begin prog_2_method_2_code 3 none 2 f_Ca_begin := met_of (S := S_Ca_begin) (cx := cx_Ca_begin) (by decide) okV (fun h => der_Ca_begin h) hfx_Ca hpx_Ca hkx_Ca hsx_Ca (fun ix n g h => by
    unfold cx_Ca_begin at h
    by_cases e : ix = 74
    · rw [if_pos e] at h
      cases h
      subst e
      exact call_V (ix := 37) (n := 1) (ci := 0) (met_Ca_rest l) ⟨ml_Ca_37, wq_Ca_rest⟩ rfl (by decide) (by decide) wn_Ca_rest
    rw [if_neg e] at h
    cases h)
theorem met_Pe_clear (l : Launch) : mMet l y_Pe_clear prog_6_method_2_code 1 none 1 f_Pe_clear := met_of (S := S_Pe_clear) (cx := cx_Pe_clear) (by decide) okV (fun h => der_Pe_clear h) hfx_Pe hpx_Pe hkx_Pe hsx_Pe (fun ix n g h => by
    unfold cx_Pe_clear at h
    cases h)
theorem met_Sc_forgetFun (l : Launch) : mMet l y_Sc_forgetFun prog_8_method_5_code 1 none 1 f_Sc_forgetFun := met_of (S := S_Sc_forgetFun) (cx := cx_Sc_forgetFun) (by decide) okV (fun h => der_Sc_forgetFun h) hfx_Sc hpx_Sc hkx_Sc hsx_Sc (fun ix n g h => by
    unfold cx_Sc_forgetFun at h
    cases h)
theorem ml_Sc_50 : Jvm.Cond.methodLink "FourCars$Scene" 50 ⟨"FourCars$Scene", "forgetFun", "()V"⟩ ∈ gT := gt3 99 rfl rfl
theorem ml_Sc_53 : Jvm.Cond.methodLink "FourCars$Scene" 53 ⟨"FourCars$People", "clear", "()V"⟩ ∈ gT := gt3 103 rfl rfl
theorem ml_Sc_61 : Jvm.Cond.methodLink "FourCars$Scene" 61 ⟨"FourCars$Cars", "begin", "(II)V"⟩ ∈ gT := gt3 107 rfl rfl
theorem met_Sc_begin (l : Launch) : mMet l y_Sc_begin prog_8_method_2_code 2 none 3 f_Sc_begin := met_of (S := S_Sc_begin) (cx := cx_Sc_begin) (by decide) okV (fun h => der_Sc_begin h) hfx_Sc hpx_Sc hkx_Sc hsx_Sc (fun ix n g h => by
    unfold cx_Sc_begin at h
    by_cases e : ix = 100
    · rw [if_pos e] at h
      cases h
      subst e
      exact call_V (ix := 50) (n := 0) (ci := 5) (met_Sc_forgetFun l) ⟨ml_Sc_50, wq_Sc_forgetFun⟩ rfl (by decide) (by decide) wn_Sc_forgetFun
    rw [if_neg e] at h
    by_cases e : ix = 106
    · rw [if_pos e] at h
      cases h
      subst e
      exact call_V (ix := 53) (n := 0) (ci := 3) (met_Pe_clear l) ⟨ml_Sc_53, wq_Pe_clear⟩ rfl (by decide) (by decide) wn_Pe_clear
    rw [if_neg e] at h
    by_cases e : ix = 122
    · rw [if_pos e] at h
      cases h
      subst e
      exact call_V (ix := 61) (n := 2) (ci := 0) (met_Ca_begin l) ⟨ml_Sc_61, wq_Ca_begin⟩ rfl (by decide) (by decide) wn_Ca_begin
    rw [if_neg e] at h
    cases h)
theorem ml_Wo_42 : Jvm.Cond.methodLink "FourCars$World" 42 ⟨"FourCars$Scene", "begin", "()V"⟩ ∈ gT := gt3 95 rfl rfl
theorem met_Wo_begin (l : Launch) : mMet l y_Wo_begin prog_11_method_2_code 2 none 4 f_Wo_begin := met_of (S := S_Wo_begin) (cx := cx_Wo_begin) (by decide) okV (fun h => der_Wo_begin h) hfx_Wo hpx_Wo hkx_Wo hsx_Wo (fun ix n g h => by
    unfold cx_Wo_begin at h
    by_cases e : ix = 84
    · rw [if_pos e] at h
      cases h
      subst e
      exact call_V (ix := 42) (n := 0) (ci := 5) (met_Sc_begin l) ⟨ml_Wo_42, wq_Sc_begin⟩ rfl (by decide) (by decide) wn_Sc_begin
    rw [if_neg e] at h
    cases h)
theorem ml_F_123 : Jvm.Cond.methodLink "FourCars" 123 ⟨"FourCars$Tower", "become", "(LFourCars$Tower;)V"⟩ ∈ gT := gt3 84 rfl rfl
theorem ml_F_125 : Jvm.Cond.methodLink "FourCars" 125 ⟨"FourCars$World", "begin", "()V"⟩ ∈ gT := gt3 91 rfl rfl
theorem met_F_takeTower (l : Launch) : mMet l y_F_takeTower prog_1_method_7_code 1 (some .int) 5 f_F_takeTower := met_of (S := S_F_takeTower) (cx := cx_F_takeTower) (by decide) okI (fun h => der_F_takeTower h) hfx_F hpx_F hkx_F hsx_F (fun ix n g h => by
    unfold cx_F_takeTower at h
    by_cases e : ix = 246
    · rw [if_pos e] at h
      cases h
      subst e
      exact call_V (ix := 123) (n := 1) (ci := 7) (met_Tw_become l) ⟨ml_F_123, wq_Tw_become⟩ rfl (by decide) (by decide) wn_Tw_become
    rw [if_neg e] at h
    by_cases e : ix = 250
    · rw [if_pos e] at h
      cases h
      subst e
      exact call_V (ix := 125) (n := 0) (ci := 8) (met_Wo_begin l) ⟨ml_F_125, wq_Wo_begin⟩ rfl (by decide) (by decide) wn_Wo_begin
    rw [if_neg e] at h
    cases h)
theorem met_Ru_clear (l : Launch) : mMet l y_Ru_clear prog_7_method_2_code 1 none 1 f_Ru_clear := met_of (S := S_Ru_clear) (cx := cx_Ru_clear) (by decide) okV (fun h => der_Ru_clear h) hfx_Ru hpx_Ru hkx_Ru hsx_Ru (fun ix n g h => by
    unfold cx_Ru_clear at h
    cases h)
theorem met_Ru_put (l : Launch) : mMet l y_Ru_put prog_7_method_10_code 3 none 1 f_Ru_put := met_of (S := S_Ru_put) (cx := cx_Ru_put) (by decide) okV (fun h => der_Ru_put h) hfx_Ru hpx_Ru hkx_Ru hsx_Ru (fun ix n g h => by
    unfold cx_Ru_put at h
    cases h)
theorem met_Tk_next (l : Launch) : mMet l y_Tk_next prog_9_method_11_code 1 none 1 f_Tk_next := met_of (S := S_Tk_next) (cx := cx_Tk_next) (by decide) okV (fun h => der_Tk_next h) hfx_Tk hpx_Tk hkx_Tk hsx_Tk (fun ix n g h => by
    unfold cx_Tk_next at h
    cases h)
theorem met_Tk_refuse (l : Launch) : mMet l y_Tk_refuse prog_9_method_14_code 2 (some .boolean) 1 f_Tk_refuse := met_of (S := S_Tk_refuse) (cx := cx_Tk_refuse) (by decide) okZ (fun h => der_Tk_refuse h) hfx_Tk hpx_Tk hkx_Tk hsx_Tk (fun ix n g h => by
    unfold cx_Tk_refuse at h
    cases h)
theorem ml_Ru_52 : Jvm.Cond.methodLink "FourCars$Rule" 52 ⟨"FourCars$Tokens", "refuse", "(I)Z"⟩ ∈ gT := gt3 123 rfl rfl
theorem ml_Ru_56 : Jvm.Cond.methodLink "FourCars$Rule" 56 ⟨"FourCars$Tokens", "next", "()V"⟩ ∈ gT := gt3 124 rfl rfl
theorem ml_Ru_73 : Jvm.Cond.methodLink "FourCars$Rule" 73 ⟨"FourCars$Rule", "put", "(II)V"⟩ ∈ gT := gt3 137 rfl rfl
theorem met_Ru_readUnit (l : Launch) : mMet l y_Ru_readUnit prog_7_method_9_code 2 (some .boolean) 2 f_Ru_readUnit := met_of (S := S_Ru_readUnit) (cx := cx_Ru_readUnit) (by decide) okZ (fun h => der_Ru_readUnit h) hfx_Ru hpx_Ru hkx_Ru hsx_Ru (fun ix n g h => by
    unfold cx_Ru_readUnit at h
    by_cases e : ix = 104
    · rw [if_pos e] at h
      cases h
      subst e
      exact call_V (ix := 52) (n := 1) (ci := 6) (met_Tk_refuse l) ⟨ml_Ru_52, wq_Tk_refuse⟩ rfl (by decide) (by decide) wn_Tk_refuse
    rw [if_neg e] at h
    by_cases e : ix = 112
    · rw [if_pos e] at h
      cases h
      subst e
      exact call_V (ix := 56) (n := 0) (ci := 6) (met_Tk_next l) ⟨ml_Ru_56, wq_Tk_next⟩ rfl (by decide) (by decide) wn_Tk_next
    rw [if_neg e] at h
    by_cases e : ix = 146
    · rw [if_pos e] at h
      cases h
      subst e
      exact call_V (ix := 73) (n := 2) (ci := 4) (met_Ru_put l) ⟨ml_Ru_73, wq_Ru_put⟩ rfl (by decide) (by decide) wn_Ru_put
    rw [if_neg e] at h
    cases h)
theorem ml_Tk_88 : Jvm.Cond.methodLink "FourCars$Tokens" 88 ⟨"FourCars$Tokens", "refuse", "(I)Z"⟩ ∈ gT := gt3 70 rfl rfl
theorem met_Tk_isNumber (l : Launch) : mMet l y_Tk_isNumber prog_9_method_13_code 3 (some .boolean) 2 f_Tk_isNumber := met_of (S := S_Tk_isNumber) (cx := cx_Tk_isNumber) (by decide) okZ (fun h => der_Tk_isNumber h) hfx_Tk hpx_Tk hkx_Tk hsx_Tk (fun ix n g h => by
    unfold cx_Tk_isNumber at h
    by_cases e : ix = 176
    · rw [if_pos e] at h
      cases h
      subst e
      exact call_V (ix := 88) (n := 1) (ci := 6) (met_Tk_refuse l) ⟨ml_Tk_88, wq_Tk_refuse⟩ rfl (by decide) (by decide) wn_Tk_refuse
    rw [if_neg e] at h
    cases h)
theorem ml_Ru_80 : Jvm.Cond.methodLink "FourCars$Rule" 80 ⟨"FourCars$Rule", "readUnit", "(LFourCars$Tokens;)Z"⟩ ∈ gT := gt3 133 rfl rfl
theorem ml_Ru_83 : Jvm.Cond.methodLink "FourCars$Rule" 83 ⟨"FourCars$Tokens", "isNumber", "(II)Z"⟩ ∈ gT := gt3 141 rfl rfl
theorem met_Ru_readProduct (l : Launch) : mMet l y_Ru_readProduct prog_7_method_8_code 5 (some .boolean) 3 f_Ru_readProduct := met_of (S := S_Ru_readProduct) (cx := cx_Ru_readProduct) (by decide) okZ (fun h => der_Ru_readProduct h) hfx_Ru hpx_Ru hkx_Ru hsx_Ru (fun ix n g h => by
    unfold cx_Ru_readProduct at h
    by_cases e : ix = 112
    · rw [if_pos e] at h
      cases h
      subst e
      exact call_V (ix := 56) (n := 0) (ci := 6) (met_Tk_next l) ⟨ml_Ru_56, wq_Tk_next⟩ rfl (by decide) (by decide) wn_Tk_next
    rw [if_neg e] at h
    by_cases e : ix = 146
    · rw [if_pos e] at h
      cases h
      subst e
      exact call_V (ix := 73) (n := 2) (ci := 4) (met_Ru_put l) ⟨ml_Ru_73, wq_Ru_put⟩ rfl (by decide) (by decide) wn_Ru_put
    rw [if_neg e] at h
    by_cases e : ix = 160
    · rw [if_pos e] at h
      cases h
      subst e
      exact call_V (ix := 80) (n := 1) (ci := 4) (met_Ru_readUnit l) ⟨ml_Ru_80, wq_Ru_readUnit⟩ rfl (by decide) (by decide) wn_Ru_readUnit
    rw [if_neg e] at h
    by_cases e : ix = 166
    · rw [if_pos e] at h
      cases h
      subst e
      exact call_V (ix := 83) (n := 2) (ci := 6) (met_Tk_isNumber l) ⟨ml_Ru_83, wq_Tk_isNumber⟩ rfl (by decide) (by decide) wn_Tk_isNumber
    rw [if_neg e] at h
    cases h)
theorem ml_Ru_77 : Jvm.Cond.methodLink "FourCars$Rule" 77 ⟨"FourCars$Rule", "readProduct", "(LFourCars$Tokens;)Z"⟩ ∈ gT := gt3 129 rfl rfl
theorem met_Ru_readSum (l : Launch) : mMet l y_Ru_readSum prog_7_method_7_code 4 (some .boolean) 4 f_Ru_readSum := met_of (S := S_Ru_readSum) (cx := cx_Ru_readSum) (by decide) okZ (fun h => der_Ru_readSum h) hfx_Ru hpx_Ru hkx_Ru hsx_Ru (fun ix n g h => by
    unfold cx_Ru_readSum at h
    by_cases e : ix = 112
    · rw [if_pos e] at h
      cases h
      subst e
      exact call_V (ix := 56) (n := 0) (ci := 6) (met_Tk_next l) ⟨ml_Ru_56, wq_Tk_next⟩ rfl (by decide) (by decide) wn_Tk_next
    rw [if_neg e] at h
    by_cases e : ix = 146
    · rw [if_pos e] at h
      cases h
      subst e
      exact call_V (ix := 73) (n := 2) (ci := 4) (met_Ru_put l) ⟨ml_Ru_73, wq_Ru_put⟩ rfl (by decide) (by decide) wn_Ru_put
    rw [if_neg e] at h
    by_cases e : ix = 154
    · rw [if_pos e] at h
      cases h
      subst e
      exact call_V (ix := 77) (n := 1) (ci := 4) (met_Ru_readProduct l) ⟨ml_Ru_77, wq_Ru_readProduct⟩ rfl (by decide) (by decide) wn_Ru_readProduct
    rw [if_neg e] at h
    cases h)
theorem ml_Tk_92 : Jvm.Cond.methodLink "FourCars$Tokens" 92 ⟨"FourCars$Tokens", "next", "()V"⟩ ∈ gT := gt3 79 rfl rfl
theorem met_Tk_take (l : Launch) : mMet l y_Tk_take prog_9_method_12_code 2 (some .boolean) 2 f_Tk_take := met_of (S := S_Tk_take) (cx := cx_Tk_take) (by decide) okZ (fun h => der_Tk_take h) hfx_Tk hpx_Tk hkx_Tk hsx_Tk (fun ix n g h => by
    unfold cx_Tk_take at h
    by_cases e : ix = 176
    · rw [if_pos e] at h
      cases h
      subst e
      exact call_V (ix := 88) (n := 1) (ci := 6) (met_Tk_refuse l) ⟨ml_Tk_88, wq_Tk_refuse⟩ rfl (by decide) (by decide) wn_Tk_refuse
    rw [if_neg e] at h
    by_cases e : ix = 184
    · rw [if_pos e] at h
      cases h
      subst e
      exact call_V (ix := 92) (n := 0) (ci := 6) (met_Tk_next l) ⟨ml_Tk_92, wq_Tk_next⟩ rfl (by decide) (by decide) wn_Tk_next
    rw [if_neg e] at h
    cases h)
theorem gr_Ru_readCondition : ∀ (k i : Nat) (as : List Value) (C : mMem) (q : Option Int32 × mMem), g_Ru_readCondition k i as C = some q → rcv [4] (g_Ru_readCondition k i) as C = some q := by
  intro k i as C q h
  cases k with
  | zero => cases h
  | succ k =>
    have e : ∃ f0, g_Ru_readCondition (k + 1) i = rcv [4] f0 := by
      match i with
        | 0 => exact ⟨_, rfl⟩
        | (j + 1) => exact ⟨_, rfl⟩
    obtain ⟨f0, e⟩ := e
    rw [e] at h ⊢
    obtain ⟨kk, bs, h1, ⟨cj, fs, h2, h3⟩, h4⟩ := rcv_spec h
    cases List.mem_singleton.mp h3
    exact rcv_sub (cs := []) h1 h2 h
theorem ml_Ru_70 : Jvm.Cond.methodLink "FourCars$Rule" 70 ⟨"FourCars$Rule", "readTest", "(LFourCars$Tokens;I)Z"⟩ ∈ gT := gt3 146 rfl rfl
theorem ml_Ru_59 : Jvm.Cond.methodLink "FourCars$Rule" 59 ⟨"FourCars$Rule", "readSum", "(LFourCars$Tokens;)Z"⟩ ∈ gT := gt3 125 rfl rfl
theorem ml_Ru_63 : Jvm.Cond.methodLink "FourCars$Rule" 63 ⟨"FourCars$Rule", "readCondition", "(LFourCars$Tokens;I)Z"⟩ ∈ gT := gt3 142 rfl rfl
theorem ml_Ru_67 : Jvm.Cond.methodLink "FourCars$Rule" 67 ⟨"FourCars$Tokens", "take", "(I)Z"⟩ ∈ gT := gt3 150 rfl rfl
set_option maxHeartbeats 4000000 in
theorem gm_Ru_readCondition (l : Launch) : ∀ k : Nat, mMet l y_Ru_readCondition prog_7_method_5_code 6 (some .boolean) (4 + k) (g_Ru_readCondition k 0) ∧ mMet l y_Ru_readTest prog_7_method_6_code 6 (some .boolean) (4 + k) (g_Ru_readCondition k 1) := by
  intro k
  induction k with
  | zero => exact ⟨(fun _ _ _ _ _ _ _ _ _ _ _ h => (by cases h)), (fun _ _ _ _ _ _ _ _ _ _ _ h => (by cases h))⟩
  | succ k ih =>
    have m0 : mMet l y_Ru_readCondition prog_7_method_5_code 6 (some .boolean) (4 + (k + 1)) (g_Ru_readCondition (k + 1) 0) := (met_of (S := S_Ru_readCondition (g_Ru_readCondition k 0) (g_Ru_readCondition k 1)) (cx := cx_Ru_readCondition (g_Ru_readCondition k 0) (g_Ru_readCondition k 1)) (by decide) okZ (fun h => der_Ru_readCondition (g_Ru_readCondition k 0) (g_Ru_readCondition k 1) h) hfx_Ru hpx_Ru hkx_Ru hsx_Ru (fun ix n g h => by
    unfold cx_Ru_readCondition at h
    by_cases e : ix = 112
    · rw [if_pos e] at h
      cases h
      subst e
      exact call_V (ix := 56) (n := 0) (ci := 6) (met_Tk_next l) ⟨ml_Ru_56, wq_Tk_next⟩ rfl (by omega) (by decide) wn_Tk_next
    rw [if_neg e] at h
    by_cases e : ix = 140
    · rw [if_pos e] at h
      cases h
      subst e
      exact call_rec (ix := 70) (n := 2) (ci := 4) (ih.2) (gr_Ru_readCondition k 1) ⟨ml_Ru_70, wq_Ru_readTest⟩ rfl (by omega) (by decide) wn_Ru_readTest
    rw [if_neg e] at h
    by_cases e : ix = 146
    · rw [if_pos e] at h
      cases h
      subst e
      exact call_V (ix := 73) (n := 2) (ci := 4) (met_Ru_put l) ⟨ml_Ru_73, wq_Ru_put⟩ rfl (by omega) (by decide) wn_Ru_put
    rw [if_neg e] at h
    cases h))
    have m1 : mMet l y_Ru_readTest prog_7_method_6_code 6 (some .boolean) (4 + (k + 1)) (g_Ru_readCondition (k + 1) 1) := (met_of (S := S_Ru_readTest (g_Ru_readCondition k 0) (g_Ru_readCondition k 1)) (cx := cx_Ru_readTest (g_Ru_readCondition k 0) (g_Ru_readCondition k 1)) (by decide) okZ (fun h => der_Ru_readTest (g_Ru_readCondition k 0) (g_Ru_readCondition k 1) h) hfx_Ru hpx_Ru hkx_Ru hsx_Ru (fun ix n g h => by
    unfold cx_Ru_readTest at h
    by_cases e : ix = 104
    · rw [if_pos e] at h
      cases h
      subst e
      exact call_V (ix := 52) (n := 1) (ci := 6) (met_Tk_refuse l) ⟨ml_Ru_52, wq_Tk_refuse⟩ rfl (by omega) (by decide) wn_Tk_refuse
    rw [if_neg e] at h
    by_cases e : ix = 112
    · rw [if_pos e] at h
      cases h
      subst e
      exact call_V (ix := 56) (n := 0) (ci := 6) (met_Tk_next l) ⟨ml_Ru_56, wq_Tk_next⟩ rfl (by omega) (by decide) wn_Tk_next
    rw [if_neg e] at h
    by_cases e : ix = 118
    · rw [if_pos e] at h
      cases h
      subst e
      exact call_V (ix := 59) (n := 1) (ci := 4) (met_Ru_readSum l) ⟨ml_Ru_59, wq_Ru_readSum⟩ rfl (by omega) (by decide) wn_Ru_readSum
    rw [if_neg e] at h
    by_cases e : ix = 126
    · rw [if_pos e] at h
      cases h
      subst e
      exact call_rec (ix := 63) (n := 2) (ci := 4) (ih.1) (gr_Ru_readCondition k 0) ⟨ml_Ru_63, wq_Ru_readCondition⟩ rfl (by omega) (by decide) wn_Ru_readCondition
    rw [if_neg e] at h
    by_cases e : ix = 134
    · rw [if_pos e] at h
      cases h
      subst e
      exact call_V (ix := 67) (n := 1) (ci := 6) (met_Tk_take l) ⟨ml_Ru_67, wq_Tk_take⟩ rfl (by omega) (by decide) wn_Tk_take
    rw [if_neg e] at h
    by_cases e : ix = 140
    · rw [if_pos e] at h
      cases h
      subst e
      exact call_rec (ix := 70) (n := 2) (ci := 4) (ih.2) (gr_Ru_readCondition k 1) ⟨ml_Ru_70, wq_Ru_readTest⟩ rfl (by omega) (by decide) wn_Ru_readTest
    rw [if_neg e] at h
    by_cases e : ix = 146
    · rw [if_pos e] at h
      cases h
      subst e
      exact call_V (ix := 73) (n := 2) (ci := 4) (met_Ru_put l) ⟨ml_Ru_73, wq_Ru_put⟩ rfl (by omega) (by decide) wn_Ru_put
    rw [if_neg e] at h
    cases h))
    exact ⟨m0, m1⟩
theorem met_Ru_readCondition (l : Launch) : mMet l y_Ru_readCondition prog_7_method_5_code 6 (some .boolean) 28 f_Ru_readCondition := (gm_Ru_readCondition l 24).1
theorem met_Ru_readTest (l : Launch) : mMet l y_Ru_readTest prog_7_method_6_code 6 (some .boolean) 28 f_Ru_readTest := (gm_Ru_readCondition l 24).2
theorem ml_Ru_44 : Jvm.Cond.methodLink "FourCars$Rule" 44 ⟨"FourCars$Rule", "clear", "()V"⟩ ∈ gT := gt3 119 rfl rfl
theorem met_Ru_read (l : Launch) : mMet l y_Ru_read prog_7_method_4_code 4 (some .boolean) 29 f_Ru_read := met_of (S := S_Ru_read) (cx := cx_Ru_read) (by decide) okZ (fun h => der_Ru_read h) hfx_Ru hpx_Ru hkx_Ru hsx_Ru (fun ix n g h => by
    unfold cx_Ru_read at h
    by_cases e : ix = 88
    · rw [if_pos e] at h
      cases h
      subst e
      exact call_V (ix := 44) (n := 0) (ci := 4) (met_Ru_clear l) ⟨ml_Ru_44, wq_Ru_clear⟩ rfl (by decide) (by decide) wn_Ru_clear
    rw [if_neg e] at h
    by_cases e : ix = 104
    · rw [if_pos e] at h
      cases h
      subst e
      exact call_V (ix := 52) (n := 1) (ci := 6) (met_Tk_refuse l) ⟨ml_Ru_52, wq_Tk_refuse⟩ rfl (by decide) (by decide) wn_Tk_refuse
    rw [if_neg e] at h
    by_cases e : ix = 112
    · rw [if_pos e] at h
      cases h
      subst e
      exact call_V (ix := 56) (n := 0) (ci := 6) (met_Tk_next l) ⟨ml_Ru_56, wq_Tk_next⟩ rfl (by decide) (by decide) wn_Tk_next
    rw [if_neg e] at h
    by_cases e : ix = 118
    · rw [if_pos e] at h
      cases h
      subst e
      exact call_V (ix := 59) (n := 1) (ci := 4) (met_Ru_readSum l) ⟨ml_Ru_59, wq_Ru_readSum⟩ rfl (by decide) (by decide) wn_Ru_readSum
    rw [if_neg e] at h
    by_cases e : ix = 126
    · rw [if_pos e] at h
      cases h
      subst e
      exact call_V (ix := 63) (n := 2) (ci := 4) (met_Ru_readCondition l) ⟨ml_Ru_63, wq_Ru_readCondition⟩ rfl (by decide) (by decide) wn_Ru_readCondition
    rw [if_neg e] at h
    by_cases e : ix = 134
    · rw [if_pos e] at h
      cases h
      subst e
      exact call_V (ix := 67) (n := 1) (ci := 6) (met_Tk_take l) ⟨ml_Ru_67, wq_Tk_take⟩ rfl (by decide) (by decide) wn_Tk_take
    rw [if_neg e] at h
    cases h)
theorem met_Tk_put (l : Launch) : mMet l y_Tk_put prog_9_method_10_code 4 none 1 f_Tk_put := met_of (S := S_Tk_put) (cx := cx_Tk_put) (by decide) okV (fun h => der_Tk_put h) hfx_Tk hpx_Tk hkx_Tk hsx_Tk (fun ix n g h => by
    unfold cx_Tk_put at h
    cases h)
theorem met_Tk_isDigit (l : Launch) : mMet l y_Tk_isDigit prog_9_method_5_code 1 (some .boolean) 1 f_Tk_isDigit := met_of (S := S_Tk_isDigit) (cx := cx_Tk_isDigit) (by decide) okZ0 (fun h => der_Tk_isDigit h) hfx_Tk hpx_Tk hkx_Tk hsx_Tk (fun ix n g h => by
    unfold cx_Tk_isDigit at h
    cases h)
theorem met_Tk_isLetter (l : Launch) : mMet l y_Tk_isLetter prog_9_method_4_code 1 (some .boolean) 1 f_Tk_isLetter := met_of (S := S_Tk_isLetter) (cx := cx_Tk_isLetter) (by decide) okZ0 (fun h => der_Tk_isLetter h) hfx_Tk hpx_Tk hkx_Tk hsx_Tk (fun ix n g h => by
    unfold cx_Tk_isLetter at h
    cases h)
theorem ml_Tk_50 : Jvm.Cond.methodLink "FourCars$Tokens" 50 ⟨"FourCars$Tokens", "put", "(III)V"⟩ ∈ gT := gt3 21 rfl rfl
theorem met_Tk_putNumber (l : Launch) : mMet l y_Tk_putNumber prog_9_method_7_code 6 none 2 f_Tk_putNumber := met_of (S := S_Tk_putNumber) (cx := cx_Tk_putNumber) (by decide) okV (fun h => der_Tk_putNumber h) hfx_Tk hpx_Tk hkx_Tk hsx_Tk (fun ix n g h => by
    unfold cx_Tk_putNumber at h
    by_cases e : ix = 100
    · rw [if_pos e] at h
      cases h
      subst e
      exact call_V (ix := 50) (n := 3) (ci := 6) (met_Tk_put l) ⟨ml_Tk_50, wq_Tk_put⟩ rfl (by decide) (by decide) wn_Tk_put
    rw [if_neg e] at h
    cases h)
theorem met_Tk_signKind (l : Launch) : mMet l y_Tk_signKind prog_9_method_6_code 1 (some .int) 1 f_Tk_signKind := met_of (S := S_Tk_signKind) (cx := cx_Tk_signKind) (by decide) okI0 (fun h => der_Tk_signKind h) hfx_Tk hpx_Tk hkx_Tk hsx_Tk (fun ix n g h => by
    unfold cx_Tk_signKind at h
    cases h)
theorem ml_Tk_80 : Jvm.Cond.methodLink "FourCars$Tokens" 80 ⟨"java/lang/String", "charAt", "(I)C"⟩ ∈ gT := gt2 220 rfl rfl
theorem met_Tk_isSpelt (l : Launch) : mMet l y_Tk_isSpelt prog_9_method_9_code 5 (some .boolean) 5 f_Tk_isSpelt := met_of (S := S_Tk_isSpelt) (cx := cx_Tk_isSpelt) (by decide) okZ0 (fun h => der_Tk_isSpelt h) hfx_Tk hpx_Tk hkx_Tk hsx_Tk (fun ix n g h => by
    unfold cx_Tk_isSpelt at h
    by_cases e : ix = 160
    · rw [if_pos e] at h
      cases h
      subst e
      exact call_chr (ix := 80) ⟨ml_Tk_80, wq_jCh⟩ (by decide)
    rw [if_neg e] at h
    cases h)
theorem ml_Tk_74 : Jvm.Cond.methodLink "FourCars$Tokens" 74 ⟨"java/lang/String", "length", "()I"⟩ ∈ gT := gt2 210 rfl rfl
theorem ml_Tk_84 : Jvm.Cond.methodLink "FourCars$Tokens" 84 ⟨"FourCars$Tokens", "isSpelt", "([BIII)Z"⟩ ∈ gT := gt3 18 rfl rfl
theorem met_Tk_wordKind (l : Launch) : mMet l y_Tk_wordKind prog_9_method_8_code 6 (some .int) 6 f_Tk_wordKind := met_of (S := S_Tk_wordKind) (cx := cx_Tk_wordKind) (by decide) okI0 (fun h => der_Tk_wordKind h) hfx_Tk hpx_Tk hkx_Tk hsx_Tk (fun ix n g h => by
    unfold cx_Tk_wordKind at h
    by_cases e : ix = 148
    · rw [if_pos e] at h
      cases h
      subst e
      exact call_len (ix := 74) ⟨ml_Tk_74, wq_jLe⟩ (by decide)
    rw [if_neg e] at h
    by_cases e : ix = 160
    · rw [if_pos e] at h
      cases h
      subst e
      exact call_chr (ix := 80) ⟨ml_Tk_80, wq_jCh⟩ (by decide)
    rw [if_neg e] at h
    by_cases e : ix = 169
    · rw [if_pos e] at h
      cases h
      subst e
      exact call_S (ix := 84) (n := 4) (met_Tk_isSpelt l) ⟨ml_Tk_84, wq_Tk_isSpelt⟩ (by decide) (by decide) wn_Tk_isSpelt
    rw [if_neg e] at h
    cases h)
theorem ml_Tk_54 : Jvm.Cond.methodLink "FourCars$Tokens" 54 ⟨"FourCars$Tokens", "isLetter", "(B)Z"⟩ ∈ gT := gt2 203 rfl rfl
theorem ml_Tk_58 : Jvm.Cond.methodLink "FourCars$Tokens" 58 ⟨"FourCars$Tokens", "wordKind", "([BII)I"⟩ ∈ gT := gt2 206 rfl rfl
theorem ml_Tk_61 : Jvm.Cond.methodLink "FourCars$Tokens" 61 ⟨"FourCars$Tokens", "isDigit", "(B)Z"⟩ ∈ gT := gt3 25 rfl rfl
theorem ml_Tk_64 : Jvm.Cond.methodLink "FourCars$Tokens" 64 ⟨"FourCars$Tokens", "putNumber", "([BII)V"⟩ ∈ gT := gt3 28 rfl rfl
theorem ml_Tk_68 : Jvm.Cond.methodLink "FourCars$Tokens" 68 ⟨"FourCars$Tokens", "signKind", "(B)I"⟩ ∈ gT := gt3 32 rfl rfl
theorem met_Tk_scanToken (l : Launch) : mMet l y_Tk_scanToken prog_9_method_3_code 5 (some .int) 7 f_Tk_scanToken := met_of (S := S_Tk_scanToken) (cx := cx_Tk_scanToken) (by decide) okI (fun h => der_Tk_scanToken h) hfx_Tk hpx_Tk hkx_Tk hsx_Tk (fun ix n g h => by
    unfold cx_Tk_scanToken at h
    by_cases e : ix = 100
    · rw [if_pos e] at h
      cases h
      subst e
      exact call_V (ix := 50) (n := 3) (ci := 6) (met_Tk_put l) ⟨ml_Tk_50, wq_Tk_put⟩ rfl (by decide) (by decide) wn_Tk_put
    rw [if_neg e] at h
    by_cases e : ix = 109
    · rw [if_pos e] at h
      cases h
      subst e
      exact call_S (ix := 54) (n := 1) (met_Tk_isLetter l) ⟨ml_Tk_54, wq_Tk_isLetter⟩ (by decide) (by decide) wn_Tk_isLetter
    rw [if_neg e] at h
    by_cases e : ix = 117
    · rw [if_pos e] at h
      cases h
      subst e
      exact call_S (ix := 58) (n := 3) (met_Tk_wordKind l) ⟨ml_Tk_58, wq_Tk_wordKind⟩ (by decide) (by decide) wn_Tk_wordKind
    rw [if_neg e] at h
    by_cases e : ix = 123
    · rw [if_pos e] at h
      cases h
      subst e
      exact call_S (ix := 61) (n := 1) (met_Tk_isDigit l) ⟨ml_Tk_61, wq_Tk_isDigit⟩ (by decide) (by decide) wn_Tk_isDigit
    rw [if_neg e] at h
    by_cases e : ix = 128
    · rw [if_pos e] at h
      cases h
      subst e
      exact call_V (ix := 64) (n := 3) (ci := 6) (met_Tk_putNumber l) ⟨ml_Tk_64, wq_Tk_putNumber⟩ rfl (by decide) (by decide) wn_Tk_putNumber
    rw [if_neg e] at h
    by_cases e : ix = 137
    · rw [if_pos e] at h
      cases h
      subst e
      exact call_S (ix := 68) (n := 1) (met_Tk_signKind l) ⟨ml_Tk_68, wq_Tk_signKind⟩ (by decide) (by decide) wn_Tk_signKind
    rw [if_neg e] at h
    cases h)
theorem ml_Tk_40 : Jvm.Cond.methodLink "FourCars$Tokens" 40 ⟨"FourCars$Tokens", "scanToken", "([BII)I"⟩ ∈ gT := gt2 199 rfl rfl
theorem ml_Tk_44 : Jvm.Cond.methodLink "FourCars$Tokens" 44 ⟨"java/lang/Math", "max", "(II)I"⟩ ∈ gT := gt3 35 rfl rfl
theorem met_Tk_scan (l : Launch) : mMet l y_Tk_scan prog_9_method_2_code 4 none 8 f_Tk_scan := met_of (S := S_Tk_scan) (cx := cx_Tk_scan) (by decide) okV (fun h => der_Tk_scan h) hfx_Tk hpx_Tk hkx_Tk hsx_Tk (fun ix n g h => by
    unfold cx_Tk_scan at h
    by_cases e : ix = 80
    · rw [if_pos e] at h
      cases h
      subst e
      exact call_V (ix := 40) (n := 3) (ci := 6) (met_Tk_scanToken l) ⟨ml_Tk_40, wq_Tk_scanToken⟩ rfl (by decide) (by decide) wn_Tk_scanToken
    rw [if_neg e] at h
    by_cases e : ix = 89
    · rw [if_pos e] at h
      cases h
      subst e
      exact call_max (ix := 44) ⟨ml_Tk_44, wm_max⟩ (by decide)
    rw [if_neg e] at h
    by_cases e : ix = 100
    · rw [if_pos e] at h
      cases h
      subst e
      exact call_V (ix := 50) (n := 3) (ci := 6) (met_Tk_put l) ⟨ml_Tk_50, wq_Tk_put⟩ rfl (by decide) (by decide) wn_Tk_put
    rw [if_neg e] at h
    cases h)
theorem ml_Tw_67 : Jvm.Cond.methodLink "FourCars$Tower" 67 ⟨"FourCars$Tokens", "refuse", "(I)Z"⟩ ∈ gT := gt3 46 rfl rfl
theorem met_Tw_mayStart (l : Launch) : mMet l y_Tw_mayStart prog_10_method_9_code 4 (some .boolean) 2 f_Tw_mayStart := met_of (S := S_Tw_mayStart) (cx := cx_Tw_mayStart) (by decide) okZ (fun h => der_Tw_mayStart h) hfx_Tw hpx_Tw hkx_Tw hsx_Tw (fun ix n g h => by
    unfold cx_Tw_mayStart at h
    by_cases e : ix = 134
    · rw [if_pos e] at h
      cases h
      subst e
      exact call_V (ix := 67) (n := 1) (ci := 6) (met_Tk_refuse l) ⟨ml_Tw_67, wq_Tk_refuse⟩ rfl (by decide) (by decide) wn_Tk_refuse
    rw [if_neg e] at h
    cases h)
theorem ml_Tw_70 : Jvm.Cond.methodLink "FourCars$Tower" 70 ⟨"FourCars$Tokens", "next", "()V"⟩ ∈ gT := gt3 54 rfl rfl
theorem ml_Tw_79 : Jvm.Cond.methodLink "FourCars$Tower" 79 ⟨"FourCars$Tokens", "isNumber", "(II)Z"⟩ ∈ gT := gt3 66 rfl rfl
theorem met_Tw_readInto (l : Launch) : mMet l y_Tw_readInto prog_10_method_12_code 5 (some .boolean) 3 f_Tw_readInto := met_of (S := S_Tw_readInto) (cx := cx_Tw_readInto) (by decide) okZ (fun h => der_Tw_readInto h) hfx_Tw hpx_Tw hkx_Tw hsx_Tw (fun ix n g h => by
    unfold cx_Tw_readInto at h
    by_cases e : ix = 140
    · rw [if_pos e] at h
      cases h
      subst e
      exact call_V (ix := 70) (n := 0) (ci := 6) (met_Tk_next l) ⟨ml_Tw_70, wq_Tk_next⟩ rfl (by decide) (by decide) wn_Tk_next
    rw [if_neg e] at h
    by_cases e : ix = 158
    · rw [if_pos e] at h
      cases h
      subst e
      exact call_V (ix := 79) (n := 2) (ci := 6) (met_Tk_isNumber l) ⟨ml_Tw_79, wq_Tk_isNumber⟩ rfl (by decide) (by decide) wn_Tk_isNumber
    rw [if_neg e] at h
    cases h)
theorem ml_Tw_85 : Jvm.Cond.methodLink "FourCars$Tower" 85 ⟨"FourCars$Tower", "readInto", "([IIILFourCars$Tokens;)Z"⟩ ∈ gT := gt3 62 rfl rfl
theorem met_Tw_readCar (l : Launch) : mMet l y_Tw_readCar prog_10_method_11_code 2 (some .boolean) 4 f_Tw_readCar := met_of (S := S_Tw_readCar) (cx := cx_Tw_readCar) (by decide) okZ (fun h => der_Tw_readCar h) hfx_Tw hpx_Tw hkx_Tw hsx_Tw (fun ix n g h => by
    unfold cx_Tw_readCar at h
    by_cases e : ix = 170
    · rw [if_pos e] at h
      cases h
      subst e
      exact call_V (ix := 85) (n := 4) (ci := 7) (met_Tw_readInto l) ⟨ml_Tw_85, wq_Tw_readInto⟩ rfl (by decide) (by decide) wn_Tw_readInto
    rw [if_neg e] at h
    cases h)
theorem met_Tw_readSkip (l : Launch) : mMet l y_Tw_readSkip prog_10_method_13_code 3 (some .boolean) 3 f_Tw_readSkip := met_of (S := S_Tw_readSkip) (cx := cx_Tw_readSkip) (by decide) okZ (fun h => der_Tw_readSkip h) hfx_Tw hpx_Tw hkx_Tw hsx_Tw (fun ix n g h => by
    unfold cx_Tw_readSkip at h
    by_cases e : ix = 140
    · rw [if_pos e] at h
      cases h
      subst e
      exact call_V (ix := 70) (n := 0) (ci := 6) (met_Tk_next l) ⟨ml_Tw_70, wq_Tk_next⟩ rfl (by decide) (by decide) wn_Tk_next
    rw [if_neg e] at h
    by_cases e : ix = 158
    · rw [if_pos e] at h
      cases h
      subst e
      exact call_V (ix := 79) (n := 2) (ci := 6) (met_Tk_isNumber l) ⟨ml_Tw_79, wq_Tk_isNumber⟩ rfl (by decide) (by decide) wn_Tk_isNumber
    rw [if_neg e] at h
    cases h)
theorem ml_Tw_73 : Jvm.Cond.methodLink "FourCars$Tower" 73 ⟨"FourCars$Tower", "readCar", "(LFourCars$Tokens;)Z"⟩ ∈ gT := gt3 58 rfl rfl
theorem ml_Tw_76 : Jvm.Cond.methodLink "FourCars$Tower" 76 ⟨"FourCars$Tower", "readSkip", "(LFourCars$Tokens;)Z"⟩ ∈ gT := gt3 71 rfl rfl
theorem met_Tw_readLine (l : Launch) : mMet l y_Tw_readLine prog_10_method_10_code 3 (some .boolean) 5 f_Tw_readLine := met_of (S := S_Tw_readLine) (cx := cx_Tw_readLine) (by decide) okZ (fun h => der_Tw_readLine h) hfx_Tw hpx_Tw hkx_Tw hsx_Tw (fun ix n g h => by
    unfold cx_Tw_readLine at h
    by_cases e : ix = 140
    · rw [if_pos e] at h
      cases h
      subst e
      exact call_V (ix := 70) (n := 0) (ci := 6) (met_Tk_next l) ⟨ml_Tw_70, wq_Tk_next⟩ rfl (by decide) (by decide) wn_Tk_next
    rw [if_neg e] at h
    by_cases e : ix = 146
    · rw [if_pos e] at h
      cases h
      subst e
      exact call_V (ix := 73) (n := 1) (ci := 7) (met_Tw_readCar l) ⟨ml_Tw_73, wq_Tw_readCar⟩ rfl (by decide) (by decide) wn_Tw_readCar
    rw [if_neg e] at h
    by_cases e : ix = 152
    · rw [if_pos e] at h
      cases h
      subst e
      exact call_V (ix := 76) (n := 1) (ci := 7) (met_Tw_readSkip l) ⟨ml_Tw_76, wq_Tw_readSkip⟩ rfl (by decide) (by decide) wn_Tw_readSkip
    rw [if_neg e] at h
    by_cases e : ix = 158
    · rw [if_pos e] at h
      cases h
      subst e
      exact call_V (ix := 79) (n := 2) (ci := 6) (met_Tk_isNumber l) ⟨ml_Tw_79, wq_Tk_isNumber⟩ rfl (by decide) (by decide) wn_Tk_isNumber
    rw [if_neg e] at h
    cases h)
theorem ml_Tw_56 : Jvm.Cond.methodLink "FourCars$Tower" 56 ⟨"FourCars$Tower", "mayStart", "(LFourCars$Tokens;)Z"⟩ ∈ gT := gt3 42 rfl rfl
theorem ml_Tw_60 : Jvm.Cond.methodLink "FourCars$Tower" 60 ⟨"FourCars$Tower", "readLine", "(LFourCars$Tokens;)Z"⟩ ∈ gT := gt3 50 rfl rfl
theorem ml_Tw_63 : Jvm.Cond.methodLink "FourCars$Tower" 63 ⟨"FourCars$Tokens", "take", "(I)Z"⟩ ∈ gT := gt3 75 rfl rfl
theorem met_Tw_read (l : Launch) : mMet l y_Tw_read prog_10_method_8_code 3 (some .boolean) 6 f_Tw_read := met_of (S := S_Tw_read) (cx := cx_Tw_read) (by decide) okZ (fun h => der_Tw_read h) hfx_Tw hpx_Tw hkx_Tw hsx_Tw (fun ix n g h => by
    unfold cx_Tw_read at h
    by_cases e : ix = 112
    · rw [if_pos e] at h
      cases h
      subst e
      exact call_V (ix := 56) (n := 1) (ci := 7) (met_Tw_mayStart l) ⟨ml_Tw_56, wq_Tw_mayStart⟩ rfl (by decide) (by decide) wn_Tw_mayStart
    rw [if_neg e] at h
    by_cases e : ix = 120
    · rw [if_pos e] at h
      cases h
      subst e
      exact call_V (ix := 60) (n := 1) (ci := 7) (met_Tw_readLine l) ⟨ml_Tw_60, wq_Tw_readLine⟩ rfl (by decide) (by decide) wn_Tw_readLine
    rw [if_neg e] at h
    by_cases e : ix = 126
    · rw [if_pos e] at h
      cases h
      subst e
      exact call_V (ix := 63) (n := 1) (ci := 6) (met_Tk_take l) ⟨ml_Tw_63, wq_Tk_take⟩ rfl (by decide) (by decide) wn_Tk_take
    rw [if_neg e] at h
    cases h)
theorem ml_F_95 : Jvm.Cond.methodLink "FourCars" 95 ⟨"FourCars$Tokens", "scan", "([BI)V"⟩ ∈ gT := gt2 195 rfl rfl
theorem ml_F_99 : Jvm.Cond.methodLink "FourCars" 99 ⟨"FourCars$Tower", "read", "(LFourCars$Tokens;)Z"⟩ ∈ gT := gt3 38 rfl rfl
theorem ml_F_103 : Jvm.Cond.methodLink "FourCars" 103 ⟨"FourCars", "takeTower", "()I"⟩ ∈ gT := gt3 80 rfl rfl
theorem ml_F_107 : Jvm.Cond.methodLink "FourCars" 107 ⟨"FourCars$Rule", "read", "(LFourCars$Tokens;)Z"⟩ ∈ gT := gt3 115 rfl rfl
theorem ml_F_108 : Jvm.Cond.methodLink "FourCars" 108 ⟨"FourCars", "takeRule", "(I)I"⟩ ∈ gT := gt3 151 rfl rfl
theorem met_F_text (l : Launch) : mMet l y_F_text prog_1_method_5_code 3 (some .int) 30 f_F_text := met_of (S := S_F_text) (cx := cx_F_text) (by decide) okI (fun h => der_F_text h) hfx_F hpx_F hkx_F hsx_F (fun ix n g h => by
    unfold cx_F_text at h
    by_cases e : ix = 190
    · rw [if_pos e] at h
      cases h
      subst e
      exact call_V (ix := 95) (n := 2) (ci := 6) (met_Tk_scan l) ⟨ml_F_95, wq_Tk_scan⟩ rfl (by decide) (by decide) wn_Tk_scan
    rw [if_neg e] at h
    by_cases e : ix = 198
    · rw [if_pos e] at h
      cases h
      subst e
      exact call_V (ix := 99) (n := 1) (ci := 7) (met_Tw_read l) ⟨ml_F_99, wq_Tw_read⟩ rfl (by decide) (by decide) wn_Tw_read
    rw [if_neg e] at h
    by_cases e : ix = 206
    · rw [if_pos e] at h
      cases h
      subst e
      exact call_V (ix := 103) (n := 0) (ci := 9) (met_F_takeTower l) ⟨ml_F_103, wq_F_takeTower⟩ rfl (by decide) (by decide) wn_F_takeTower
    rw [if_neg e] at h
    by_cases e : ix = 214
    · rw [if_pos e] at h
      cases h
      subst e
      exact call_V (ix := 107) (n := 1) (ci := 4) (met_Ru_read l) ⟨ml_F_107, wq_Ru_read⟩ rfl (by decide) (by decide) wn_Ru_read
    rw [if_neg e] at h
    by_cases e : ix = 216
    · rw [if_pos e] at h
      cases h
      subst e
      exact call_V (ix := 108) (n := 1) (ci := 9) (met_F_takeRule l) ⟨ml_F_108, wq_F_takeRule⟩ rfl (by decide) (by decide) wn_F_takeRule
    rw [if_neg e] at h
    cases h)
theorem met_F_fault (l : Launch) : mMet l y_F_fault prog_1_method_8_code 2 (some .int) 1 f_F_fault := met_of (S := S_F_fault) (cx := cx_F_fault) (by decide) okI (fun h => der_F_fault h) hfx_F hpx_F hkx_F hsx_F (fun ix n g h => by
    unfold cx_F_fault at h
    cases h)
theorem met_Pe_add (l : Launch) : mMet l y_Pe_add prog_6_method_3_code 4 none 1 f_Pe_add := met_of (S := S_Pe_add) (cx := cx_Pe_add) (by decide) okV (fun h => der_Pe_add h) hfx_Pe hpx_Pe hkx_Pe hsx_Pe (fun ix n g h => by
    unfold cx_Pe_add at h
    cases h)
theorem met_Tw_hasFloor (l : Launch) : mMet l y_Tw_hasFloor prog_10_method_3_code 2 (some .boolean) 1 f_Tw_hasFloor := met_of (S := S_Tw_hasFloor) (cx := cx_Tw_hasFloor) (by decide) okZ (fun h => der_Tw_hasFloor h) hfx_Tw hpx_Tw hkx_Tw hsx_Tw (fun ix n g h => by
    unfold cx_Tw_hasFloor at h
    cases h)
theorem ml_F_144 : Jvm.Cond.methodLink "FourCars" 144 ⟨"FourCars$Tower", "hasFloor", "(I)Z"⟩ ∈ gT := gt3 168 rfl rfl
theorem ml_F_148 : Jvm.Cond.methodLink "FourCars" 148 ⟨"FourCars$People", "add", "(III)V"⟩ ∈ gT := gt3 172 rfl rfl
theorem met_F_one (l : Launch) : mMet l y_F_one prog_1_method_9_code 5 (some .int) 2 f_F_one := met_of (S := S_F_one) (cx := cx_F_one) (by decide) okI (fun h => der_F_one h) hfx_F hpx_F hkx_F hsx_F (fun ix n g h => by
    unfold cx_F_one at h
    by_cases e : ix = 288
    · rw [if_pos e] at h
      cases h
      subst e
      exact call_V (ix := 144) (n := 1) (ci := 7) (met_Tw_hasFloor l) ⟨ml_F_144, wq_Tw_hasFloor⟩ rfl (by decide) (by decide) wn_Tw_hasFloor
    rw [if_neg e] at h
    by_cases e : ix = 296
    · rw [if_pos e] at h
      cases h
      subst e
      exact call_V (ix := 148) (n := 3) (ci := 3) (met_Pe_add l) ⟨ml_F_148, wq_Pe_add⟩ rfl (by decide) (by decide) wn_Pe_add
    rw [if_neg e] at h
    cases h)
theorem met_Tw_hasCar (l : Launch) : mMet l y_Tw_hasCar prog_10_method_4_code 2 (some .boolean) 1 f_Tw_hasCar := met_of (S := S_Tw_hasCar) (cx := cx_Tw_hasCar) (by decide) okZ (fun h => der_Tw_hasCar h) hfx_Tw hpx_Tw hkx_Tw hsx_Tw (fun ix n g h => by
    unfold cx_Tw_hasCar at h
    cases h)
theorem ml_F_171 : Jvm.Cond.methodLink "FourCars" 171 ⟨"FourCars$Tower", "hasCar", "(I)Z"⟩ ∈ gT := gt3 191 rfl rfl
theorem met_F_putHome (l : Launch) : mMet l y_F_putHome prog_1_method_13_code 3 (some .boolean) 2 f_F_putHome := met_of (S := S_F_putHome) (cx := cx_F_putHome) (by decide) okZ (fun h => der_F_putHome h) hfx_F hpx_F hkx_F hsx_F (fun ix n g h => by
    unfold cx_F_putHome at h
    by_cases e : ix = 288
    · rw [if_pos e] at h
      cases h
      subst e
      exact call_V (ix := 144) (n := 1) (ci := 7) (met_Tw_hasFloor l) ⟨ml_F_144, wq_Tw_hasFloor⟩ rfl (by decide) (by decide) wn_Tw_hasFloor
    rw [if_neg e] at h
    by_cases e : ix = 342
    · rw [if_pos e] at h
      cases h
      subst e
      exact call_V (ix := 171) (n := 1) (ci := 7) (met_Tw_hasCar l) ⟨ml_F_171, wq_Tw_hasCar⟩ rfl (by decide) (by decide) wn_Tw_hasCar
    rw [if_neg e] at h
    cases h)
theorem met_F_isRule (l : Launch) : mMet l y_F_isRule prog_1_method_15_code 1 (some .boolean) 1 f_F_isRule := met_of (S := S_F_isRule) (cx := cx_F_isRule) (by decide) okZ0 (fun h => der_F_isRule h) hfx_F hpx_F hkx_F hsx_F (fun ix n g h => by
    unfold cx_F_isRule at h
    cases h)
theorem ml_F_165 : Jvm.Cond.methodLink "FourCars" 165 ⟨"FourCars", "isRule", "(I)Z"⟩ ∈ gT := gt3 184 rfl rfl
theorem met_F_putInForce (l : Launch) : mMet l y_F_putInForce prog_1_method_11_code 2 (some .boolean) 2 f_F_putInForce := met_of (S := S_F_putInForce) (cx := cx_F_putInForce) (by decide) okZ (fun h => der_F_putInForce h) hfx_F hpx_F hkx_F hsx_F (fun ix n g h => by
    unfold cx_F_putInForce at h
    by_cases e : ix = 331
    · rw [if_pos e] at h
      cases h
      subst e
      exact call_S (ix := 165) (n := 1) (met_F_isRule l) ⟨ml_F_165, wq_F_isRule⟩ (by decide) (by decide) wn_F_isRule
    rw [if_neg e] at h
    cases h)
theorem ml_Sc_80 : Jvm.Cond.methodLink "FourCars$Scene" 80 ⟨"FourCars$Cars", "rest", "(I)V"⟩ ∈ gT := gt3 199 rfl rfl
theorem met_Sc_takeOut (l : Launch) : mMet l y_Sc_takeOut prog_8_method_6_code 3 none 2 f_Sc_takeOut := met_of (S := S_Sc_takeOut) (cx := cx_Sc_takeOut) (by decide) okV (fun h => der_Sc_takeOut h) hfx_Sc hpx_Sc hkx_Sc hsx_Sc (fun ix n g h => by
    unfold cx_Sc_takeOut at h
    by_cases e : ix = 160
    · rw [if_pos e] at h
      cases h
      subst e
      exact call_V (ix := 80) (n := 1) (ci := 0) (met_Ca_rest l) ⟨ml_Sc_80, wq_Ca_rest⟩ rfl (by decide) (by decide) wn_Ca_rest
    rw [if_neg e] at h
    cases h)
theorem ml_F_174 : Jvm.Cond.methodLink "FourCars" 174 ⟨"FourCars$Scene", "takeOut", "(I)V"⟩ ∈ gT := gt3 195 rfl rfl
theorem met_F_putOut (l : Launch) : mMet l y_F_putOut prog_1_method_12_code 3 (some .boolean) 3 f_F_putOut := met_of (S := S_F_putOut) (cx := cx_F_putOut) (by decide) okZ (fun h => der_F_putOut h) hfx_F hpx_F hkx_F hsx_F (fun ix n g h => by
    unfold cx_F_putOut at h
    by_cases e : ix = 342
    · rw [if_pos e] at h
      cases h
      subst e
      exact call_V (ix := 171) (n := 1) (ci := 7) (met_Tw_hasCar l) ⟨ml_F_171, wq_Tw_hasCar⟩ rfl (by decide) (by decide) wn_Tw_hasCar
    rw [if_neg e] at h
    by_cases e : ix = 348
    · rw [if_pos e] at h
      cases h
      subst e
      exact call_V (ix := 174) (n := 1) (ci := 5) (met_Sc_takeOut l) ⟨ml_F_174, wq_Sc_takeOut⟩ rfl (by decide) (by decide) wn_Sc_takeOut
    rw [if_neg e] at h
    cases h)
theorem met_F_putWeight (l : Launch) : mMet l y_F_putWeight prog_1_method_14_code 3 (some .boolean) 2 f_F_putWeight := met_of (S := S_F_putWeight) (cx := cx_F_putWeight) (by decide) okZ (fun h => der_F_putWeight h) hfx_F hpx_F hkx_F hsx_F (fun ix n g h => by
    unfold cx_F_putWeight at h
    by_cases e : ix = 288
    · rw [if_pos e] at h
      cases h
      subst e
      exact call_V (ix := 144) (n := 1) (ci := 7) (met_Tw_hasFloor l) ⟨ml_F_144, wq_Tw_hasFloor⟩ rfl (by decide) (by decide) wn_Tw_hasFloor
    rw [if_neg e] at h
    cases h)
theorem ml_F_152 : Jvm.Cond.methodLink "FourCars" 152 ⟨"FourCars", "putInForce", "(I)Z"⟩ ∈ gT := gt3 180 rfl rfl
theorem ml_F_155 : Jvm.Cond.methodLink "FourCars" 155 ⟨"FourCars", "putOut", "(II)Z"⟩ ∈ gT := gt3 187 rfl rfl
theorem ml_F_159 : Jvm.Cond.methodLink "FourCars" 159 ⟨"FourCars", "putHome", "(II)Z"⟩ ∈ gT := gt3 200 rfl rfl
theorem ml_F_162 : Jvm.Cond.methodLink "FourCars" 162 ⟨"FourCars", "putWeight", "(II)Z"⟩ ∈ gT := gt3 204 rfl rfl
theorem met_F_set (l : Launch) : mMet l y_F_set prog_1_method_10_code 4 (some .boolean) 4 f_F_set := met_of (S := S_F_set) (cx := cx_F_set) (by decide) okZ (fun h => der_F_set h) hfx_F hpx_F hkx_F hsx_F (fun ix n g h => by
    unfold cx_F_set at h
    by_cases e : ix = 304
    · rw [if_pos e] at h
      cases h
      subst e
      exact call_V (ix := 152) (n := 1) (ci := 9) (met_F_putInForce l) ⟨ml_F_152, wq_F_putInForce⟩ rfl (by decide) (by decide) wn_F_putInForce
    rw [if_neg e] at h
    by_cases e : ix = 310
    · rw [if_pos e] at h
      cases h
      subst e
      exact call_V (ix := 155) (n := 2) (ci := 9) (met_F_putOut l) ⟨ml_F_155, wq_F_putOut⟩ rfl (by decide) (by decide) wn_F_putOut
    rw [if_neg e] at h
    by_cases e : ix = 318
    · rw [if_pos e] at h
      cases h
      subst e
      exact call_V (ix := 159) (n := 2) (ci := 9) (met_F_putHome l) ⟨ml_F_159, wq_F_putHome⟩ rfl (by decide) (by decide) wn_F_putHome
    rw [if_neg e] at h
    by_cases e : ix = 324
    · rw [if_pos e] at h
      cases h
      subst e
      exact call_V (ix := 162) (n := 2) (ci := 9) (met_F_putWeight l) ⟨ml_F_162, wq_F_putWeight⟩ rfl (by decide) (by decide) wn_F_putWeight
    rw [if_neg e] at h
    cases h)
theorem met_Pe_come (l : Launch) : mMet l y_Pe_come prog_6_method_6_code 2 none 1 f_Pe_come := met_of (S := S_Pe_come) (cx := cx_Pe_come) (by decide) okV (fun h => der_Pe_come h) hfx_Pe hpx_Pe hkx_Pe hsx_Pe (fun ix n g h => by
    unfold cx_Pe_come at h
    cases h)
theorem met_Ru_worth (l : Launch) : mMet l y_Ru_worth prog_7_method_12_code 10 (some .int) 1 f_Ru_worth := met_of (S := S_Ru_worth) (cx := cx_Ru_worth) (by decide) okI (fun h => der_Ru_worth h) hfx_Ru hpx_Ru hkx_Ru hsx_Ru (fun ix n g h => by
    unfold cx_Ru_worth at h
    cases h)
theorem ml_Ru_90 : Jvm.Cond.methodLink "FourCars$Rule" 90 ⟨"FourCars$Rule", "worth", "(II[I)I"⟩ ∈ gT := gt4 11 rfl rfl
theorem met_Ru_allows (l : Launch) : mMet l y_Ru_allows prog_7_method_11_code 4 (some .boolean) 2 f_Ru_allows := met_of (S := S_Ru_allows) (cx := cx_Ru_allows) (by decide) okZ (fun h => der_Ru_allows h) hfx_Ru hpx_Ru hkx_Ru hsx_Ru (fun ix n g h => by
    unfold cx_Ru_allows at h
    by_cases e : ix = 180
    · rw [if_pos e] at h
      cases h
      subst e
      exact call_V (ix := 90) (n := 3) (ci := 4) (met_Ru_worth l) ⟨ml_Ru_90, wq_Ru_worth⟩ rfl (by decide) (by decide) wn_Ru_worth
    rw [if_neg e] at h
    cases h)
theorem met_Pe_way (l : Launch) : mMet l y_Pe_way prog_6_method_9_code 2 (some .int) 1 f_Pe_way := met_of (S := S_Pe_way) (cx := cx_Pe_way) (by decide) okI (fun h => der_Pe_way h) hfx_Pe hpx_Pe hkx_Pe hsx_Pe (fun ix n g h => by
    unfold cx_Pe_way at h
    cases h)
theorem ml_Sc_178 : Jvm.Cond.methodLink "FourCars$Scene" 178 ⟨"FourCars$People", "way", "(I)I"⟩ ∈ gT := gt4 0 rfl rfl
theorem ml_Sc_184 : Jvm.Cond.methodLink "FourCars$Scene" 184 ⟨"java/lang/Math", "abs", "(I)I"⟩ ∈ gT := gt4 4 rfl rfl
theorem met_Sc_gather (l : Launch) : mMet l y_Sc_gather prog_8_method_13_code 6 none 2 f_Sc_gather := met_of (S := S_Sc_gather) (cx := cx_Sc_gather) (by decide) okV (fun h => der_Sc_gather h) hfx_Sc hpx_Sc hkx_Sc hsx_Sc (fun ix n g h => by
    unfold cx_Sc_gather at h
    by_cases e : ix = 356
    · rw [if_pos e] at h
      cases h
      subst e
      exact call_V (ix := 178) (n := 1) (ci := 3) (met_Pe_way l) ⟨ml_Sc_178, wq_Pe_way⟩ rfl (by decide) (by decide) wn_Pe_way
    rw [if_neg e] at h
    by_cases e : ix = 369
    · rw [if_pos e] at h
      cases h
      subst e
      exact call_abs (ix := 184) ⟨ml_Sc_184, wm_abs⟩ (by decide)
    rw [if_neg e] at h
    cases h)
theorem met_Tw_serves (l : Launch) : mMet l y_Tw_serves prog_10_method_5_code 3 (some .boolean) 1 f_Tw_serves := met_of (S := S_Tw_serves) (cx := cx_Tw_serves) (by decide) okZ (fun h => der_Tw_serves h) hfx_Tw hpx_Tw hkx_Tw hsx_Tw (fun ix n g h => by
    unfold cx_Tw_serves at h
    cases h)
theorem ml_Tw_47 : Jvm.Cond.methodLink "FourCars$Tower" 47 ⟨"FourCars$Tower", "serves", "(II)Z"⟩ ∈ gT := gt3 232 rfl rfl
theorem met_Tw_servesBoth (l : Launch) : mMet l y_Tw_servesBoth prog_10_method_6_code 4 (some .boolean) 2 f_Tw_servesBoth := met_of (S := S_Tw_servesBoth) (cx := cx_Tw_servesBoth) (by decide) okZ (fun h => der_Tw_servesBoth h) hfx_Tw hpx_Tw hkx_Tw hsx_Tw (fun ix n g h => by
    unfold cx_Tw_servesBoth at h
    by_cases e : ix = 94
    · rw [if_pos e] at h
      cases h
      subst e
      exact call_V (ix := 47) (n := 2) (ci := 7) (met_Tw_serves l) ⟨ml_Tw_47, wq_Tw_serves⟩ rfl (by decide) (by decide) wn_Tw_serves
    rw [if_neg e] at h
    cases h)
theorem ml_Sc_161 : Jvm.Cond.methodLink "FourCars$Scene" 161 ⟨"FourCars$Tower", "servesBoth", "(III)Z"⟩ ∈ gT := gt3 228 rfl rfl
theorem ml_Sc_165 : Jvm.Cond.methodLink "FourCars$Scene" 165 ⟨"FourCars$Scene", "gather", "(II)V"⟩ ∈ gT := gt3 236 rfl rfl
theorem ml_Sc_168 : Jvm.Cond.methodLink "FourCars$Scene" 168 ⟨"FourCars$Rule", "allows", "([I)Z"⟩ ∈ gT := gt4 7 rfl rfl
theorem met_Sc_giveCall (l : Launch) : mMet l y_Sc_giveCall prog_8_method_12_code 6 none 3 f_Sc_giveCall := met_of (S := S_Sc_giveCall) (cx := cx_Sc_giveCall) (by decide) okV (fun h => der_Sc_giveCall h) hfx_Sc hpx_Sc hkx_Sc hsx_Sc (fun ix n g h => by
    unfold cx_Sc_giveCall at h
    by_cases e : ix = 322
    · rw [if_pos e] at h
      cases h
      subst e
      exact call_V (ix := 161) (n := 3) (ci := 7) (met_Tw_servesBoth l) ⟨ml_Sc_161, wq_Tw_servesBoth⟩ rfl (by decide) (by decide) wn_Tw_servesBoth
    rw [if_neg e] at h
    by_cases e : ix = 330
    · rw [if_pos e] at h
      cases h
      subst e
      exact call_V (ix := 165) (n := 2) (ci := 5) (met_Sc_gather l) ⟨ml_Sc_165, wq_Sc_gather⟩ rfl (by decide) (by decide) wn_Sc_gather
    rw [if_neg e] at h
    by_cases e : ix = 336
    · rw [if_pos e] at h
      cases h
      subst e
      exact call_V (ix := 168) (n := 1) (ci := 4) (met_Ru_allows l) ⟨ml_Sc_168, wq_Ru_allows⟩ rfl (by decide) (by decide) wn_Ru_allows
    rw [if_neg e] at h
    cases h)
theorem met_Sc_letIn (l : Launch) : mMet l y_Sc_letIn prog_8_method_18_code 5 (some .int) 2 f_Sc_letIn := met_of (S := S_Sc_letIn) (cx := cx_Sc_letIn) (by decide) okI (fun h => der_Sc_letIn h) hfx_Sc hpx_Sc hkx_Sc hsx_Sc (fun ix n g h => by
    unfold cx_Sc_letIn at h
    by_cases e : ix = 356
    · rw [if_pos e] at h
      cases h
      subst e
      exact call_V (ix := 178) (n := 1) (ci := 3) (met_Pe_way l) ⟨ml_Sc_178, wq_Pe_way⟩ rfl (by decide) (by decide) wn_Pe_way
    rw [if_neg e] at h
    cases h)
theorem met_Sc_letOut (l : Launch) : mMet l y_Sc_letOut prog_8_method_16_code 5 (some .int) 1 f_Sc_letOut := met_of (S := S_Sc_letOut) (cx := cx_Sc_letOut) (by decide) okI (fun h => der_Sc_letOut h) hfx_Sc hpx_Sc hkx_Sc hsx_Sc (fun ix n g h => by
    unfold cx_Sc_letOut at h
    cases h)
theorem ml_Sc_136 : Jvm.Cond.methodLink "FourCars$Scene" 136 ⟨"java/lang/Math", "min", "(II)I"⟩ ∈ gT := gt4 31 rfl rfl
theorem ml_Sc_217 : Jvm.Cond.methodLink "FourCars$Scene" 217 ⟨"java/lang/Integer", "compare", "(II)I"⟩ ∈ gT := gt4 34 rfl rfl
theorem met_Sc_nextWay (l : Launch) : mMet l y_Sc_nextWay prog_8_method_17_code 9 (some .int) 2 f_Sc_nextWay := met_of (S := S_Sc_nextWay) (cx := cx_Sc_nextWay) (by decide) okI (fun h => der_Sc_nextWay h) hfx_Sc hpx_Sc hkx_Sc hsx_Sc (fun ix n g h => by
    unfold cx_Sc_nextWay at h
    by_cases e : ix = 273
    · rw [if_pos e] at h
      cases h
      subst e
      exact call_min (ix := 136) ⟨ml_Sc_136, wm_min⟩ (by decide)
    rw [if_neg e] at h
    by_cases e : ix = 356
    · rw [if_pos e] at h
      cases h
      subst e
      exact call_V (ix := 178) (n := 1) (ci := 3) (met_Pe_way l) ⟨ml_Sc_178, wq_Pe_way⟩ rfl (by decide) (by decide) wn_Pe_way
    rw [if_neg e] at h
    by_cases e : ix = 435
    · rw [if_pos e] at h
      cases h
      subst e
      exact call_S (ix := 217) (n := 2) (met_J_compare l) ⟨ml_Sc_217, wq_J_compare⟩ (by decide) (by decide) (by decide +kernel)
    rw [if_neg e] at h
    cases h)
theorem ml_Sc_190 : Jvm.Cond.methodLink "FourCars$Scene" 190 ⟨"FourCars$Scene", "letOut", "(II)I"⟩ ∈ gT := gt4 23 rfl rfl
theorem ml_Sc_193 : Jvm.Cond.methodLink "FourCars$Scene" 193 ⟨"FourCars$Scene", "nextWay", "(II)I"⟩ ∈ gT := gt4 27 rfl rfl
theorem ml_Sc_196 : Jvm.Cond.methodLink "FourCars$Scene" 196 ⟨"FourCars$Scene", "letIn", "(II)I"⟩ ∈ gT := gt4 37 rfl rfl
theorem met_Sc_lookAround (l : Launch) : mMet l y_Sc_lookAround prog_8_method_15_code 5 none 3 f_Sc_lookAround := met_of (S := S_Sc_lookAround) (cx := cx_Sc_lookAround) (by decide) okV (fun h => der_Sc_lookAround h) hfx_Sc hpx_Sc hkx_Sc hsx_Sc (fun ix n g h => by
    unfold cx_Sc_lookAround at h
    by_cases e : ix = 380
    · rw [if_pos e] at h
      cases h
      subst e
      exact call_V (ix := 190) (n := 2) (ci := 5) (met_Sc_letOut l) ⟨ml_Sc_190, wq_Sc_letOut⟩ rfl (by decide) (by decide) wn_Sc_letOut
    rw [if_neg e] at h
    by_cases e : ix = 386
    · rw [if_pos e] at h
      cases h
      subst e
      exact call_V (ix := 193) (n := 2) (ci := 5) (met_Sc_nextWay l) ⟨ml_Sc_193, wq_Sc_nextWay⟩ rfl (by decide) (by decide) wn_Sc_nextWay
    rw [if_neg e] at h
    by_cases e : ix = 392
    · rw [if_pos e] at h
      cases h
      subst e
      exact call_V (ix := 196) (n := 2) (ci := 5) (met_Sc_letIn l) ⟨ml_Sc_196, wq_Sc_letIn⟩ rfl (by decide) (by decide) wn_Sc_letIn
    rw [if_neg e] at h
    cases h)
theorem met_Sc_mayLook (l : Launch) : mMet l y_Sc_mayLook prog_8_method_14_code 2 (some .boolean) 1 f_Sc_mayLook := met_of (S := S_Sc_mayLook) (cx := cx_Sc_mayLook) (by decide) okZ (fun h => der_Sc_mayLook h) hfx_Sc hpx_Sc hkx_Sc hsx_Sc (fun ix n g h => by
    unfold cx_Sc_mayLook at h
    cases h)
theorem ml_Sc_116 : Jvm.Cond.methodLink "FourCars$Scene" 116 ⟨"FourCars$People", "come", "(I)V"⟩ ∈ gT := gt3 220 rfl rfl
theorem ml_Sc_119 : Jvm.Cond.methodLink "FourCars$Scene" 119 ⟨"FourCars$Scene", "giveCall", "(ILFourCars$Rule;)V"⟩ ∈ gT := gt3 224 rfl rfl
theorem ml_Sc_125 : Jvm.Cond.methodLink "FourCars$Scene" 125 ⟨"FourCars$Scene", "mayLook", "(I)Z"⟩ ∈ gT := gt4 15 rfl rfl
theorem ml_Sc_129 : Jvm.Cond.methodLink "FourCars$Scene" 129 ⟨"FourCars$Scene", "lookAround", "(I)V"⟩ ∈ gT := gt4 19 rfl rfl
theorem met_Sc_goOn (l : Launch) : mMet l y_Sc_goOn prog_8_method_9_code 3 none 4 f_Sc_goOn := met_of (S := S_Sc_goOn) (cx := cx_Sc_goOn) (by decide) okV (fun h => der_Sc_goOn h) hfx_Sc hpx_Sc hkx_Sc hsx_Sc (fun ix n g h => by
    unfold cx_Sc_goOn at h
    by_cases e : ix = 232
    · rw [if_pos e] at h
      cases h
      subst e
      exact call_V (ix := 116) (n := 1) (ci := 3) (met_Pe_come l) ⟨ml_Sc_116, wq_Pe_come⟩ rfl (by decide) (by decide) wn_Pe_come
    rw [if_neg e] at h
    by_cases e : ix = 238
    · rw [if_pos e] at h
      cases h
      subst e
      exact call_V (ix := 119) (n := 2) (ci := 5) (met_Sc_giveCall l) ⟨ml_Sc_119, wq_Sc_giveCall⟩ rfl (by decide) (by decide) wn_Sc_giveCall
    rw [if_neg e] at h
    by_cases e : ix = 250
    · rw [if_pos e] at h
      cases h
      subst e
      exact call_V (ix := 125) (n := 1) (ci := 5) (met_Sc_mayLook l) ⟨ml_Sc_125, wq_Sc_mayLook⟩ rfl (by decide) (by decide) wn_Sc_mayLook
    rw [if_neg e] at h
    by_cases e : ix = 258
    · rw [if_pos e] at h
      cases h
      subst e
      exact call_V (ix := 129) (n := 1) (ci := 5) (met_Sc_lookAround l) ⟨ml_Sc_129, wq_Sc_lookAround⟩ rfl (by decide) (by decide) wn_Sc_lookAround
    rw [if_neg e] at h
    cases h)
theorem met_Sc_quietSeconds (l : Launch) : mMet l y_Sc_quietSeconds prog_8_method_11_code 4 (some .int) 1 f_Sc_quietSeconds := met_of (S := S_Sc_quietSeconds) (cx := cx_Sc_quietSeconds) (by decide) okI (fun h => der_Sc_quietSeconds h) hfx_Sc hpx_Sc hkx_Sc hsx_Sc (fun ix n g h => by
    unfold cx_Sc_quietSeconds at h
    by_cases e : ix = 273
    · rw [if_pos e] at h
      cases h
      subst e
      exact call_min (ix := 136) ⟨ml_Sc_136, wm_min⟩ (by decide)
    rw [if_neg e] at h
    cases h)
theorem ml_Sc_132 : Jvm.Cond.methodLink "FourCars$Scene" 132 ⟨"FourCars$Scene", "quietSeconds", "(LFourCars$Rule;)I"⟩ ∈ gT := gt4 45 rfl rfl
theorem ml_Sc_142 : Jvm.Cond.methodLink "FourCars$Scene" 142 ⟨"java/lang/Math", "max", "(II)I"⟩ ∈ gT := gt4 50 rfl rfl
theorem met_Sc_leap (l : Launch) : mMet l y_Sc_leap prog_8_method_10_code 5 (some .int) 2 f_Sc_leap := met_of (S := S_Sc_leap) (cx := cx_Sc_leap) (by decide) okI (fun h => der_Sc_leap h) hfx_Sc hpx_Sc hkx_Sc hsx_Sc (fun ix n g h => by
    unfold cx_Sc_leap at h
    by_cases e : ix = 264
    · rw [if_pos e] at h
      cases h
      subst e
      exact call_V (ix := 132) (n := 1) (ci := 5) (met_Sc_quietSeconds l) ⟨ml_Sc_132, wq_Sc_quietSeconds⟩ rfl (by decide) (by decide) wn_Sc_quietSeconds
    rw [if_neg e] at h
    by_cases e : ix = 273
    · rw [if_pos e] at h
      cases h
      subst e
      exact call_min (ix := 136) ⟨ml_Sc_136, wm_min⟩ (by decide)
    rw [if_neg e] at h
    by_cases e : ix = 285
    · rw [if_pos e] at h
      cases h
      subst e
      exact call_max (ix := 142) ⟨ml_Sc_142, wm_max⟩ (by decide)
    rw [if_neg e] at h
    cases h)
theorem ml_Sc_102 : Jvm.Cond.methodLink "FourCars$Scene" 102 ⟨"FourCars$Scene", "goOn", "(LFourCars$Rule;)V"⟩ ∈ gT := gt3 216 rfl rfl
theorem ml_Sc_106 : Jvm.Cond.methodLink "FourCars$Scene" 106 ⟨"FourCars$Scene", "leap", "(LFourCars$Rule;I)I"⟩ ∈ gT := gt4 41 rfl rfl
theorem met_Sc_pass (l : Launch) : mMet l y_Sc_pass prog_8_method_8_code 4 none 5 f_Sc_pass := met_of (S := S_Sc_pass) (cx := cx_Sc_pass) (by decide) okV (fun h => der_Sc_pass h) hfx_Sc hpx_Sc hkx_Sc hsx_Sc (fun ix n g h => by
    unfold cx_Sc_pass at h
    by_cases e : ix = 204
    · rw [if_pos e] at h
      cases h
      subst e
      exact call_V (ix := 102) (n := 1) (ci := 5) (met_Sc_goOn l) ⟨ml_Sc_102, wq_Sc_goOn⟩ rfl (by decide) (by decide) wn_Sc_goOn
    rw [if_neg e] at h
    by_cases e : ix = 212
    · rw [if_pos e] at h
      cases h
      subst e
      exact call_V (ix := 106) (n := 2) (ci := 5) (met_Sc_leap l) ⟨ml_Sc_106, wq_Sc_leap⟩ rfl (by decide) (by decide) wn_Sc_leap
    rw [if_neg e] at h
    cases h)
theorem ml_F_196 : Jvm.Cond.methodLink "FourCars" 196 ⟨"FourCars$Scene", "pass", "(LFourCars$Rule;I)V"⟩ ∈ gT := gt3 212 rfl rfl
theorem met_F_seconds (l : Launch) : mMet l y_F_seconds prog_1_method_16_code 3 (some .int) 6 f_F_seconds := met_of (S := S_F_seconds) (cx := cx_F_seconds) (by decide) okI (fun h => der_F_seconds h) hfx_F hpx_F hkx_F hsx_F (fun ix n g h => by
    unfold cx_F_seconds at h
    by_cases e : ix = 392
    · rw [if_pos e] at h
      cases h
      subst e
      exact call_V (ix := 196) (n := 2) (ci := 5) (met_Sc_pass l) ⟨ml_F_196, wq_Sc_pass⟩ rfl (by decide) (by decide) wn_Sc_pass
    rw [if_neg e] at h
    cases h)
theorem met_Ca_tell (l : Launch) : mMet l y_Ca_tell prog_2_method_5_code 3 (some .int) 1 f_Ca_tell := met_of (S := S_Ca_tell) (cx := cx_Ca_tell) (by decide) okI (fun h => der_Ca_tell h) hfx_Ca hpx_Ca hkx_Ca hsx_Ca (fun ix n g h => by
    unfold cx_Ca_tell at h
    cases h)
theorem met_Tw_tell (l : Launch) : mMet l y_Tw_tell prog_10_method_7_code 3 (some .int) 1 f_Tw_tell := met_of (S := S_Tw_tell) (cx := cx_Tw_tell) (by decide) okI (fun h => der_Tw_tell h) hfx_Tw hpx_Tw hkx_Tw hsx_Tw (fun ix n g h => by
    unfold cx_Tw_tell at h
    cases h)
theorem ml_F_200 : Jvm.Cond.methodLink "FourCars" 200 ⟨"FourCars$Cars", "tell", "(II)I"⟩ ∈ gT := gt4 55 rfl rfl
theorem ml_F_204 : Jvm.Cond.methodLink "FourCars" 204 ⟨"FourCars$Tower", "tell", "(II)I"⟩ ∈ gT := gt4 59 rfl rfl
theorem ml_F_205 : Jvm.Cond.methodLink "FourCars" 205 ⟨"FourCars$Tower", "serves", "(II)Z"⟩ ∈ gT := gt4 63 rfl rfl
theorem met_F_car (l : Launch) : mMet l y_F_car prog_1_method_17_code 3 (some .int) 2 f_F_car := met_of (S := S_F_car) (cx := cx_F_car) (by decide) okI (fun h => der_F_car h) hfx_F hpx_F hkx_F hsx_F (fun ix n g h => by
    unfold cx_F_car at h
    by_cases e : ix = 288
    · rw [if_pos e] at h
      cases h
      subst e
      exact call_V (ix := 144) (n := 1) (ci := 7) (met_Tw_hasFloor l) ⟨ml_F_144, wq_Tw_hasFloor⟩ rfl (by decide) (by decide) wn_Tw_hasFloor
    rw [if_neg e] at h
    by_cases e : ix = 342
    · rw [if_pos e] at h
      cases h
      subst e
      exact call_V (ix := 171) (n := 1) (ci := 7) (met_Tw_hasCar l) ⟨ml_F_171, wq_Tw_hasCar⟩ rfl (by decide) (by decide) wn_Tw_hasCar
    rw [if_neg e] at h
    by_cases e : ix = 400
    · rw [if_pos e] at h
      cases h
      subst e
      exact call_V (ix := 200) (n := 2) (ci := 0) (met_Ca_tell l) ⟨ml_F_200, wq_Ca_tell⟩ rfl (by decide) (by decide) wn_Ca_tell
    rw [if_neg e] at h
    by_cases e : ix = 408
    · rw [if_pos e] at h
      cases h
      subst e
      exact call_V (ix := 204) (n := 2) (ci := 7) (met_Tw_tell l) ⟨ml_F_204, wq_Tw_tell⟩ rfl (by decide) (by decide) wn_Tw_tell
    rw [if_neg e] at h
    by_cases e : ix = 410
    · rw [if_pos e] at h
      cases h
      subst e
      exact call_V (ix := 205) (n := 2) (ci := 7) (met_Tw_serves l) ⟨ml_F_205, wq_Tw_serves⟩ rfl (by decide) (by decide) wn_Tw_serves
    rw [if_neg e] at h
    cases h)
theorem met_Pe_has (l : Launch) : mMet l y_Pe_has prog_6_method_7_code 2 (some .boolean) 1 f_Pe_has := met_of (S := S_Pe_has) (cx := cx_Pe_has) (by decide) okZ (fun h => der_Pe_has h) hfx_Pe hpx_Pe hkx_Pe hsx_Pe (fun ix n g h => by
    unfold cx_Pe_has at h
    cases h)
theorem met_Pe_tell (l : Launch) : mMet l y_Pe_tell prog_6_method_10_code 3 (some .int) 1 f_Pe_tell := met_of (S := S_Pe_tell) (cx := cx_Pe_tell) (by decide) okI (fun h => der_Pe_tell h) hfx_Pe hpx_Pe hkx_Pe hsx_Pe (fun ix n g h => by
    unfold cx_Pe_tell at h
    cases h)
theorem ml_F_208 : Jvm.Cond.methodLink "FourCars" 208 ⟨"FourCars$People", "has", "(I)Z"⟩ ∈ gT := gt4 68 rfl rfl
theorem ml_F_211 : Jvm.Cond.methodLink "FourCars" 211 ⟨"FourCars$People", "tell", "(II)I"⟩ ∈ gT := gt4 72 rfl rfl
theorem met_F_person (l : Launch) : mMet l y_F_person prog_1_method_18_code 4 (some .int) 2 f_F_person := met_of (S := S_F_person) (cx := cx_F_person) (by decide) okI (fun h => der_F_person h) hfx_F hpx_F hkx_F hsx_F (fun ix n g h => by
    unfold cx_F_person at h
    by_cases e : ix = 416
    · rw [if_pos e] at h
      cases h
      subst e
      exact call_V (ix := 208) (n := 1) (ci := 3) (met_Pe_has l) ⟨ml_F_208, wq_Pe_has⟩ rfl (by decide) (by decide) wn_Pe_has
    rw [if_neg e] at h
    by_cases e : ix = 422
    · rw [if_pos e] at h
      cases h
      subst e
      exact call_V (ix := 211) (n := 2) (ci := 3) (met_Pe_tell l) ⟨ml_F_211, wq_Pe_tell⟩ rfl (by decide) (by decide) wn_Pe_tell
    rw [if_neg e] at h
    cases h)
theorem ml_Pe_63 : Jvm.Cond.methodLink "FourCars$People" 63 ⟨"FourCars$People", "has", "(I)Z"⟩ ∈ gT := gt4 84 rfl rfl
theorem met_Pe_waits (l : Launch) : mMet l y_Pe_waits prog_6_method_8_code 2 (some .boolean) 2 f_Pe_waits := met_of (S := S_Pe_waits) (cx := cx_Pe_waits) (by decide) okZ (fun h => der_Pe_waits h) hfx_Pe hpx_Pe hkx_Pe hsx_Pe (fun ix n g h => by
    unfold cx_Pe_waits at h
    by_cases e : ix = 126
    · rw [if_pos e] at h
      cases h
      subst e
      exact call_V (ix := 63) (n := 1) (ci := 3) (met_Pe_has l) ⟨ml_Pe_63, wq_Pe_has⟩ rfl (by decide) (by decide) wn_Pe_has
    rw [if_neg e] at h
    cases h)
theorem ml_F_212 : Jvm.Cond.methodLink "FourCars" 212 ⟨"FourCars$People", "waits", "(I)Z"⟩ ∈ gT := gt4 80 rfl rfl
theorem ml_F_216 : Jvm.Cond.methodLink "FourCars" 216 ⟨"FourCars$Scene", "gather", "(II)V"⟩ ∈ gT := gt4 86 rfl rfl
theorem ml_F_223 : Jvm.Cond.methodLink "FourCars" 223 ⟨"FourCars$Rule", "allows", "([I)Z"⟩ ∈ gT := gt4 87 rfl rfl
theorem met_F_cost (l : Launch) : mMet l y_F_cost prog_1_method_19_code 5 (some .int) 3 f_F_cost := met_of (S := S_F_cost) (cx := cx_F_cost) (by decide) okI (fun h => der_F_cost h) hfx_F hpx_F hkx_F hsx_F (fun ix n g h => by
    unfold cx_F_cost at h
    by_cases e : ix = 331
    · rw [if_pos e] at h
      cases h
      subst e
      exact call_S (ix := 165) (n := 1) (met_F_isRule l) ⟨ml_F_165, wq_F_isRule⟩ (by decide) (by decide) wn_F_isRule
    rw [if_neg e] at h
    by_cases e : ix = 342
    · rw [if_pos e] at h
      cases h
      subst e
      exact call_V (ix := 171) (n := 1) (ci := 7) (met_Tw_hasCar l) ⟨ml_F_171, wq_Tw_hasCar⟩ rfl (by decide) (by decide) wn_Tw_hasCar
    rw [if_neg e] at h
    by_cases e : ix = 424
    · rw [if_pos e] at h
      cases h
      subst e
      exact call_V (ix := 212) (n := 1) (ci := 3) (met_Pe_waits l) ⟨ml_F_212, wq_Pe_waits⟩ rfl (by decide) (by decide) wn_Pe_waits
    rw [if_neg e] at h
    by_cases e : ix = 432
    · rw [if_pos e] at h
      cases h
      subst e
      exact call_V (ix := 216) (n := 2) (ci := 5) (met_Sc_gather l) ⟨ml_F_216, wq_Sc_gather⟩ rfl (by decide) (by decide) wn_Sc_gather
    rw [if_neg e] at h
    by_cases e : ix = 446
    · rw [if_pos e] at h
      cases h
      subst e
      exact call_V (ix := 223) (n := 1) (ci := 4) (met_Ru_allows l) ⟨ml_F_223, wq_Ru_allows⟩ rfl (by decide) (by decide) wn_Ru_allows
    rw [if_neg e] at h
    cases h)
theorem ml_Pe_67 : Jvm.Cond.methodLink "FourCars$People" 67 ⟨"java/lang/Math", "max", "(II)I"⟩ ∈ gT := gt4 96 rfl rfl
theorem met_Pe_greatestWait (l : Launch) : mMet l y_Pe_greatestWait prog_6_method_14_code 3 (some .int) 1 f_Pe_greatestWait := met_of (S := S_Pe_greatestWait) (cx := cx_Pe_greatestWait) (by decide) okI (fun h => der_Pe_greatestWait h) hfx_Pe hpx_Pe hkx_Pe hsx_Pe (fun ix n g h => by
    unfold cx_Pe_greatestWait at h
    by_cases e : ix = 135
    · rw [if_pos e] at h
      cases h
      subst e
      exact call_max (ix := 67) ⟨ml_Pe_67, wm_max⟩ (by decide)
    rw [if_neg e] at h
    cases h)
theorem met_Pe_rideAdded (l : Launch) : mMet l y_Pe_rideAdded prog_6_method_13_code 3 (some .int) 1 f_Pe_rideAdded := met_of (S := S_Pe_rideAdded) (cx := cx_Pe_rideAdded) (by decide) okI (fun h => der_Pe_rideAdded h) hfx_Pe hpx_Pe hkx_Pe hsx_Pe (fun ix n g h => by
    unfold cx_Pe_rideAdded at h
    by_cases e : ix = 135
    · rw [if_pos e] at h
      cases h
      subst e
      exact call_max (ix := 67) ⟨ml_Pe_67, wm_max⟩ (by decide)
    rw [if_neg e] at h
    cases h)
theorem met_Pe_waitAdded (l : Launch) : mMet l y_Pe_waitAdded prog_6_method_12_code 3 (some .int) 1 f_Pe_waitAdded := met_of (S := S_Pe_waitAdded) (cx := cx_Pe_waitAdded) (by decide) okI (fun h => der_Pe_waitAdded h) hfx_Pe hpx_Pe hkx_Pe hsx_Pe (fun ix n g h => by
    unfold cx_Pe_waitAdded at h
    by_cases e : ix = 135
    · rw [if_pos e] at h
      cases h
      subst e
      exact call_max (ix := 67) ⟨ml_Pe_67, wm_max⟩ (by decide)
    rw [if_neg e] at h
    cases h)
theorem ml_F_230 : Jvm.Cond.methodLink "FourCars" 230 ⟨"FourCars$People", "waitAdded", "()I"⟩ ∈ gT := gt4 92 rfl rfl
theorem ml_F_233 : Jvm.Cond.methodLink "FourCars" 233 ⟨"FourCars$People", "rideAdded", "()I"⟩ ∈ gT := gt4 97 rfl rfl
theorem ml_F_236 : Jvm.Cond.methodLink "FourCars" 236 ⟨"FourCars$People", "greatestWait", "()I"⟩ ∈ gT := gt4 101 rfl rfl
theorem met_F_sums (l : Launch) : mMet l y_F_sums prog_1_method_20_code 3 (some .int) 2 f_F_sums := met_of (S := S_F_sums) (cx := cx_F_sums) (by decide) okI (fun h => der_F_sums h) hfx_F hpx_F hkx_F hsx_F (fun ix n g h => by
    unfold cx_F_sums at h
    by_cases e : ix = 460
    · rw [if_pos e] at h
      cases h
      subst e
      exact call_V (ix := 230) (n := 0) (ci := 3) (met_Pe_waitAdded l) ⟨ml_F_230, wq_Pe_waitAdded⟩ rfl (by decide) (by decide) wn_Pe_waitAdded
    rw [if_neg e] at h
    by_cases e : ix = 466
    · rw [if_pos e] at h
      cases h
      subst e
      exact call_V (ix := 233) (n := 0) (ci := 3) (met_Pe_rideAdded l) ⟨ml_F_233, wq_Pe_rideAdded⟩ rfl (by decide) (by decide) wn_Pe_rideAdded
    rw [if_neg e] at h
    by_cases e : ix = 472
    · rw [if_pos e] at h
      cases h
      subst e
      exact call_V (ix := 236) (n := 0) (ci := 3) (met_Pe_greatestWait l) ⟨ml_F_236, wq_Pe_greatestWait⟩ rfl (by decide) (by decide) wn_Pe_greatestWait
    rw [if_neg e] at h
    cases h)
theorem met_Ca_become (l : Launch) : mMet l y_Ca_become prog_2_method_4_code 3 none 1 f_Ca_become := met_of (S := S_Ca_become) (cx := cx_Ca_become) (by decide) okV (fun h => der_Ca_become h) hfx_Ca hpx_Ca hkx_Ca hsx_Ca (fun ix n g h => by
    unfold cx_Ca_become at h
    cases h)
theorem ml_Pe_46 : Jvm.Cond.methodLink "FourCars$People" 46 ⟨"java/lang/System", "arraycopy", "(Ljava/lang/Object;ILjava/lang/Object;II)V"⟩ ∈ gT := gt4 121 rfl rfl
theorem met_Pe_become (l : Launch) : mMet l y_Pe_become prog_6_method_4_code 2 none 1 f_Pe_become := met_of (S := S_Pe_become) (cx := cx_Pe_become) (by decide) okV (fun h => der_Pe_become h) hfx_Pe hpx_Pe hkx_Pe hsx_Pe (fun ix n g h => by
    unfold cx_Pe_become at h
    by_cases e : ix = 93
    · rw [if_pos e] at h
      cases h
      subst e
      exact call_copy (ix := 46) ⟨ml_Pe_46, wm_copy⟩ (by decide)
    rw [if_neg e] at h
    cases h)

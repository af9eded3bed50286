/-! CONTRACTS by program -/
theorem met_M_skip (l : Launch) : mMet l y_M_skip prog_13_method_36_code 3 (some .boolean) 10 f_M_skip := met_of (S := S_M_skip) (cx := cx_M_skip) (by decide) okZ (fun h => der_M_skip h) hfx_M hpx_M hkx_M hsx_M (fun ix n g h => by
    unfold cx_M_skip at h
    by_cases e : ix = 328
    · rw [if_pos e] at h
      cases h
      subst e
      exact call_V (ix := 164) (n := 1) (ci := 10) (met_M_bad l) ⟨ml_M_164, wq_M_bad⟩ rfl (by decide) (by decide) wn_M_bad
    rw [if_neg e] at h
    by_cases e : ix = 334
    · rw [if_pos e] at h
      cases h
      subst e
      exact call_V (ix := 167) (n := 0) (ci := 10) (met_M_next0 l) ⟨ml_M_167, wq_M_next0⟩ rfl (by decide) (by decide) wn_M_next0
    rw [if_neg e] at h
    by_cases e : ix = 422
    · rw [if_pos e] at h
      cases h
      subst e
      exact call_V (ix := 211) (n := 2) (ci := 10) (met_M_number l) ⟨ml_M_211, wq_M_number⟩ rfl (by decide) (by decide) wn_M_number
    rw [if_neg e] at h
    cases h)
theorem ml_M_218 : Jvm.Cond.methodLink "FourCarsModel" 218 ⟨"FourCarsModel", "floors", "()Z"⟩ ∈ gT := gt6 76 rfl rfl
theorem ml_M_220 : Jvm.Cond.methodLink "FourCarsModel" 220 ⟨"FourCarsModel", "aCar", "()Z"⟩ ∈ gT := gt6 84 rfl rfl
theorem ml_M_223 : Jvm.Cond.methodLink "FourCarsModel" 223 ⟨"FourCarsModel", "skip", "()Z"⟩ ∈ gT := gt6 88 rfl rfl
theorem met_M_aTowerLine (l : Launch) : mMet l y_M_aTowerLine prog_13_method_37_code 2 (some .boolean) 11 f_M_aTowerLine := met_of (S := S_M_aTowerLine) (cx := cx_M_aTowerLine) (by decide) okZ (fun h => der_M_aTowerLine h) hfx_M hpx_M hkx_M hsx_M (fun ix n g h => by
    unfold cx_M_aTowerLine at h
    by_cases e : ix = 133
    · rw [if_pos e] at h
      cases h
      subst e
      exact call_S (ix := 66) (n := 3) (met_M_isIn l) ⟨ml_M_66, wq_M_isIn⟩ (by decide) (by decide) wn_M_isIn
    rw [if_neg e] at h
    by_cases e : ix = 328
    · rw [if_pos e] at h
      cases h
      subst e
      exact call_V (ix := 164) (n := 1) (ci := 10) (met_M_bad l) ⟨ml_M_164, wq_M_bad⟩ rfl (by decide) (by decide) wn_M_bad
    rw [if_neg e] at h
    by_cases e : ix = 398
    · rw [if_pos e] at h
      cases h
      subst e
      exact call_V (ix := 199) (n := 1) (ci := 10) (met_M_need l) ⟨ml_M_199, wq_M_need⟩ rfl (by decide) (by decide) wn_M_need
    rw [if_neg e] at h
    by_cases e : ix = 436
    · rw [if_pos e] at h
      cases h
      subst e
      exact call_V (ix := 218) (n := 0) (ci := 10) (met_M_floors l) ⟨ml_M_218, wq_M_floors⟩ rfl (by decide) (by decide) wn_M_floors
    rw [if_neg e] at h
    by_cases e : ix = 440
    · rw [if_pos e] at h
      cases h
      subst e
      exact call_V (ix := 220) (n := 0) (ci := 10) (met_M_aCar l) ⟨ml_M_220, wq_M_aCar⟩ rfl (by decide) (by decide) wn_M_aCar
    rw [if_neg e] at h
    by_cases e : ix = 446
    · rw [if_pos e] at h
      cases h
      subst e
      exact call_V (ix := 223) (n := 0) (ci := 10) (met_M_skip l) ⟨ml_M_223, wq_M_skip⟩ rfl (by decide) (by decide) wn_M_skip
    rw [if_neg e] at h
    cases h)
theorem met_M_keepsRule (l : Launch) : mMet l y_M_keepsRule prog_13_method_39_code 3 none 1 f_M_keepsRule := met_of (S := S_M_keepsRule) (cx := cx_M_keepsRule) (by decide) okV (fun h => der_M_keepsRule h) hfx_M hpx_M hkx_M hsx_M (fun ix n g h => by
    unfold cx_M_keepsRule at h
    cases h)
theorem ml_M_241 : Jvm.Cond.methodLink "FourCarsModel" 241 ⟨"FourCarsModel", "sets", "(III)V"⟩ ∈ gT := gt6 100 rfl rfl
theorem ml_M_248 : Jvm.Cond.methodLink "FourCarsModel" 248 ⟨"FourCarsModel", "ofCar", "(II)I"⟩ ∈ gT := gt6 108 rfl rfl
theorem met_M_parks (l : Launch) : mMet l y_M_parks prog_13_method_41_code 2 none 2 f_M_parks := met_of (S := S_M_parks) (cx := cx_M_parks) (by decide) okV (fun h => der_M_parks h) hfx_M hpx_M hkx_M hsx_M (fun ix n g h => by
    unfold cx_M_parks at h
    by_cases e : ix = 482
    · rw [if_pos e] at h
      cases h
      subst e
      exact call_V (ix := 241) (n := 3) (ci := 10) (met_M_sets l) ⟨ml_M_241, wq_M_sets⟩ rfl (by decide) (by decide) wn_M_sets
    rw [if_neg e] at h
    by_cases e : ix = 496
    · rw [if_pos e] at h
      cases h
      subst e
      exact call_V (ix := 248) (n := 2) (ci := 10) (met_M_ofCar l) ⟨ml_M_248, wq_M_ofCar⟩ rfl (by decide) (by decide) wn_M_ofCar
    rw [if_neg e] at h
    cases h)
theorem ml_M_245 : Jvm.Cond.methodLink "FourCarsModel" 245 ⟨"FourCarsModel", "parks", "()V"⟩ ∈ gT := gt6 104 rfl rfl
theorem met_M_keepsTower (l : Launch) : mMet l y_M_keepsTower prog_13_method_40_code 4 none 3 f_M_keepsTower := met_of (S := S_M_keepsTower) (cx := cx_M_keepsTower) (by decide) okV (fun h => der_M_keepsTower h) hfx_M hpx_M hkx_M hsx_M (fun ix n g h => by
    unfold cx_M_keepsTower at h
    by_cases e : ix = 482
    · rw [if_pos e] at h
      cases h
      subst e
      exact call_V (ix := 241) (n := 3) (ci := 10) (met_M_sets l) ⟨ml_M_241, wq_M_sets⟩ rfl (by decide) (by decide) wn_M_sets
    rw [if_neg e] at h
    by_cases e : ix = 490
    · rw [if_pos e] at h
      cases h
      subst e
      exact call_V (ix := 245) (n := 0) (ci := 10) (met_M_parks l) ⟨ml_M_245, wq_M_parks⟩ rfl (by decide) (by decide) wn_M_parks
    rw [if_neg e] at h
    cases h)
theorem ml_M_228 : Jvm.Cond.methodLink "FourCarsModel" 228 ⟨"FourCarsModel", "aLine", "()Z"⟩ ∈ gT := gt6 28 rfl rfl
theorem ml_M_231 : Jvm.Cond.methodLink "FourCarsModel" 231 ⟨"FourCarsModel", "aTowerLine", "()Z"⟩ ∈ gT := gt6 72 rfl rfl
theorem ml_M_234 : Jvm.Cond.methodLink "FourCarsModel" 234 ⟨"FourCarsModel", "keepsRule", "(I)V"⟩ ∈ gT := gt6 92 rfl rfl
theorem ml_M_238 : Jvm.Cond.methodLink "FourCarsModel" 238 ⟨"FourCarsModel", "keepsTower", "()V"⟩ ∈ gT := gt6 96 rfl rfl
theorem met_M_text (l : Launch) : mMet l y_M_text prog_13_method_38_code 3 (some .int) 53 f_M_text := met_of (S := S_M_text) (cx := cx_M_text) (by decide) okI (fun h => der_M_text h) hfx_M hpx_M hkx_M hsx_M (fun ix n g h => by
    unfold cx_M_text at h
    by_cases e : ix = 133
    · rw [if_pos e] at h
      cases h
      subst e
      exact call_S (ix := 66) (n := 3) (met_M_isIn l) ⟨ml_M_66, wq_M_isIn⟩ (by decide) (by decide) wn_M_isIn
    rw [if_neg e] at h
    by_cases e : ix = 334
    · rw [if_pos e] at h
      cases h
      subst e
      exact call_V (ix := 167) (n := 0) (ci := 10) (met_M_next0 l) ⟨ml_M_167, wq_M_next0⟩ rfl (by decide) (by decide) wn_M_next0
    rw [if_neg e] at h
    by_cases e : ix = 456
    · rw [if_pos e] at h
      cases h
      subst e
      exact call_V (ix := 228) (n := 0) (ci := 10) (met_M_aLine l) ⟨ml_M_228, wq_M_aLine⟩ rfl (by decide) (by decide) wn_M_aLine
    rw [if_neg e] at h
    by_cases e : ix = 462
    · rw [if_pos e] at h
      cases h
      subst e
      exact call_V (ix := 231) (n := 0) (ci := 10) (met_M_aTowerLine l) ⟨ml_M_231, wq_M_aTowerLine⟩ rfl (by decide) (by decide) wn_M_aTowerLine
    rw [if_neg e] at h
    by_cases e : ix = 468
    · rw [if_pos e] at h
      cases h
      subst e
      exact call_V (ix := 234) (n := 1) (ci := 10) (met_M_keepsRule l) ⟨ml_M_234, wq_M_keepsRule⟩ rfl (by decide) (by decide) wn_M_keepsRule
    rw [if_neg e] at h
    by_cases e : ix = 476
    · rw [if_pos e] at h
      cases h
      subst e
      exact call_V (ix := 238) (n := 0) (ci := 10) (met_M_keepsTower l) ⟨ml_M_238, wq_M_keepsTower⟩ rfl (by decide) (by decide) wn_M_keepsTower
    rw [if_neg e] at h
    cases h)
theorem met_M_fault (l : Launch) : mMet l y_M_fault prog_13_method_42_code 2 (some .int) 1 f_M_fault := met_of (S := S_M_fault) (cx := cx_M_fault) (by decide) okI (fun h => der_M_fault h) hfx_M hpx_M hkx_M hsx_M (fun ix n g h => by
    unfold cx_M_fault at h
    cases h)
theorem met_M_both (l : Launch) : mMet l y_M_both prog_13_method_43_code 3 (some .int) 1 f_M_both := met_of (S := S_M_both) (cx := cx_M_both) (by decide) okI0 (fun h => der_M_both h) hfx_M hpx_M hkx_M hsx_M (fun ix n g h => by
    unfold cx_M_both at h
    cases h)
theorem ml_M_252 : Jvm.Cond.methodLink "FourCarsModel" 252 ⟨"FourCarsModel", "both", "(III)I"⟩ ∈ gT := gt6 179 rfl rfl
theorem met_M_comesTo (l : Launch) : mMet l y_M_comesTo prog_13_method_44_code 8 (some .int) 2 f_M_comesTo := met_of (S := S_M_comesTo) (cx := cx_M_comesTo) (by decide) okI (fun h => der_M_comesTo h) hfx_M hpx_M hkx_M hsx_M (fun ix n g h => by
    unfold cx_M_comesTo at h
    by_cases e : ix = 505
    · rw [if_pos e] at h
      cases h
      subst e
      exact call_S (ix := 252) (n := 3) (met_M_both l) ⟨ml_M_252, wq_M_both⟩ (by decide) (by decide) wn_M_both
    rw [if_neg e] at h
    cases h)
theorem ml_M_262 : Jvm.Cond.methodLink "FourCarsModel" 262 ⟨"FourCarsModel", "gives", "(III)V"⟩ ∈ gT := gt6 128 rfl rfl
theorem met_M_comes (l : Launch) : mMet l y_M_comes prog_13_method_46_code 5 none 2 f_M_comes := met_of (S := S_M_comes) (cx := cx_M_comes) (by decide) okV (fun h => der_M_comes h) hfx_M hpx_M hkx_M hsx_M (fun ix n g h => by
    unfold cx_M_comes at h
    by_cases e : ix = 524
    · rw [if_pos e] at h
      cases h
      subst e
      exact call_V (ix := 262) (n := 3) (ci := 10) (met_M_gives l) ⟨ml_M_262, wq_M_gives⟩ rfl (by decide) (by decide) wn_M_gives
    rw [if_neg e] at h
    cases h)
theorem ml_M_256 : Jvm.Cond.methodLink "FourCarsModel" 256 ⟨"FourCarsModel", "isFloor", "(I)Z"⟩ ∈ gT := gt6 120 rfl rfl
theorem ml_M_259 : Jvm.Cond.methodLink "FourCarsModel" 259 ⟨"FourCarsModel", "comes", "(III)V"⟩ ∈ gT := gt6 124 rfl rfl
theorem met_M_one (l : Launch) : mMet l y_M_one prog_13_method_45_code 4 (some .int) 3 f_M_one := met_of (S := S_M_one) (cx := cx_M_one) (by decide) okI (fun h => der_M_one h) hfx_M hpx_M hkx_M hsx_M (fun ix n g h => by
    unfold cx_M_one at h
    by_cases e : ix = 133
    · rw [if_pos e] at h
      cases h
      subst e
      exact call_S (ix := 66) (n := 3) (met_M_isIn l) ⟨ml_M_66, wq_M_isIn⟩ (by decide) (by decide) wn_M_isIn
    rw [if_neg e] at h
    by_cases e : ix = 512
    · rw [if_pos e] at h
      cases h
      subst e
      exact call_V (ix := 256) (n := 1) (ci := 10) (met_M_isFloor l) ⟨ml_M_256, wq_M_isFloor⟩ rfl (by decide) (by decide) wn_M_isFloor
    rw [if_neg e] at h
    by_cases e : ix = 518
    · rw [if_pos e] at h
      cases h
      subst e
      exact call_V (ix := 259) (n := 3) (ci := 10) (met_M_comes l) ⟨ml_M_259, wq_M_comes⟩ rfl (by decide) (by decide) wn_M_comes
    rw [if_neg e] at h
    cases h)
theorem ml_M_271 : Jvm.Cond.methodLink "FourCarsModel" 271 ⟨"FourCarsModel", "own", "(II)I"⟩ ∈ gT := gt6 144 rfl rfl
theorem met_M_takesOut (l : Launch) : mMet l y_M_takesOut prog_13_method_48_code 3 none 2 f_M_takesOut := met_of (S := S_M_takesOut) (cx := cx_M_takesOut) (by decide) okV (fun h => der_M_takesOut h) hfx_M hpx_M hkx_M hsx_M (fun ix n g h => by
    unfold cx_M_takesOut at h
    by_cases e : ix = 482
    · rw [if_pos e] at h
      cases h
      subst e
      exact call_V (ix := 241) (n := 3) (ci := 10) (met_M_sets l) ⟨ml_M_241, wq_M_sets⟩ rfl (by decide) (by decide) wn_M_sets
    rw [if_neg e] at h
    by_cases e : ix = 524
    · rw [if_pos e] at h
      cases h
      subst e
      exact call_V (ix := 262) (n := 3) (ci := 10) (met_M_gives l) ⟨ml_M_262, wq_M_gives⟩ rfl (by decide) (by decide) wn_M_gives
    rw [if_neg e] at h
    by_cases e : ix = 542
    · rw [if_pos e] at h
      cases h
      subst e
      exact call_V (ix := 271) (n := 2) (ci := 10) (met_M_own l) ⟨ml_M_271, wq_M_own⟩ rfl (by decide) (by decide) wn_M_own
    rw [if_neg e] at h
    cases h)
theorem ml_M_265 : Jvm.Cond.methodLink "FourCarsModel" 265 ⟨"FourCarsModel", "isCar", "(I)Z"⟩ ∈ gT := gt6 136 rfl rfl
theorem ml_M_268 : Jvm.Cond.methodLink "FourCarsModel" 268 ⟨"FourCarsModel", "takesOut", "(I)V"⟩ ∈ gT := gt6 140 rfl rfl
theorem met_M_set (l : Launch) : mMet l y_M_set prog_13_method_47_code 4 (some .boolean) 3 f_M_set := met_of (S := S_M_set) (cx := cx_M_set) (by decide) okZ (fun h => der_M_set h) hfx_M hpx_M hkx_M hsx_M (fun ix n g h => by
    unfold cx_M_set at h
    by_cases e : ix = 133
    · rw [if_pos e] at h
      cases h
      subst e
      exact call_S (ix := 66) (n := 3) (met_M_isIn l) ⟨ml_M_66, wq_M_isIn⟩ (by decide) (by decide) wn_M_isIn
    rw [if_neg e] at h
    by_cases e : ix = 482
    · rw [if_pos e] at h
      cases h
      subst e
      exact call_V (ix := 241) (n := 3) (ci := 10) (met_M_sets l) ⟨ml_M_241, wq_M_sets⟩ rfl (by decide) (by decide) wn_M_sets
    rw [if_neg e] at h
    by_cases e : ix = 512
    · rw [if_pos e] at h
      cases h
      subst e
      exact call_V (ix := 256) (n := 1) (ci := 10) (met_M_isFloor l) ⟨ml_M_256, wq_M_isFloor⟩ rfl (by decide) (by decide) wn_M_isFloor
    rw [if_neg e] at h
    by_cases e : ix = 530
    · rw [if_pos e] at h
      cases h
      subst e
      exact call_V (ix := 265) (n := 1) (ci := 10) (met_M_isCar l) ⟨ml_M_265, wq_M_isCar⟩ rfl (by decide) (by decide) wn_M_isCar
    rw [if_neg e] at h
    by_cases e : ix = 536
    · rw [if_pos e] at h
      cases h
      subst e
      exact call_V (ix := 268) (n := 1) (ci := 10) (met_M_takesOut l) ⟨ml_M_268, wq_M_takesOut⟩ rfl (by decide) (by decide) wn_M_takesOut
    rw [if_neg e] at h
    cases h)
theorem met_M_wayOf (l : Launch) : mMet l y_M_wayOf prog_13_method_49_code 2 (some .int) 2 f_M_wayOf := met_of (S := S_M_wayOf) (cx := cx_M_wayOf) (by decide) okI (fun h => der_M_wayOf h) hfx_M hpx_M hkx_M hsx_M (fun ix n g h => by
    unfold cx_M_wayOf at h
    by_cases e : ix = 542
    · rw [if_pos e] at h
      cases h
      subst e
      exact call_V (ix := 271) (n := 2) (ci := 10) (met_M_own l) ⟨ml_M_271, wq_M_own⟩ rfl (by decide) (by decide) wn_M_own
    rw [if_neg e] at h
    cases h)
theorem met_M_riding (l : Launch) : mMet l y_M_riding prog_13_method_50_code 4 (some .int) 2 f_M_riding := met_of (S := S_M_riding) (cx := cx_M_riding) (by decide) okI (fun h => der_M_riding h) hfx_M hpx_M hkx_M hsx_M (fun ix n g h => by
    unfold cx_M_riding at h
    by_cases e : ix = 542
    · rw [if_pos e] at h
      cases h
      subst e
      exact call_V (ix := 271) (n := 2) (ci := 10) (met_M_own l) ⟨ml_M_271, wq_M_own⟩ rfl (by decide) (by decide) wn_M_own
    rw [if_neg e] at h
    cases h)
theorem met_M_given (l : Launch) : mMet l y_M_given prog_13_method_51_code 4 (some .int) 2 f_M_given := met_of (S := S_M_given) (cx := cx_M_given) (by decide) okI (fun h => der_M_given h) hfx_M hpx_M hkx_M hsx_M (fun ix n g h => by
    unfold cx_M_given at h
    by_cases e : ix = 542
    · rw [if_pos e] at h
      cases h
      subst e
      exact call_V (ix := 271) (n := 2) (ci := 10) (met_M_own l) ⟨ml_M_271, wq_M_own⟩ rfl (by decide) (by decide) wn_M_own
    rw [if_neg e] at h
    cases h)
theorem ml_M_274 : Jvm.Cond.methodLink "FourCarsModel" 274 ⟨"FourCarsModel", "apart", "(II)I"⟩ ∈ gT := gt6 160 rfl rfl
theorem ml_M_277 : Jvm.Cond.methodLink "FourCarsModel" 277 ⟨"FourCarsModel", "wayOf", "(I)I"⟩ ∈ gT := gt6 163 rfl rfl
theorem ml_M_280 : Jvm.Cond.methodLink "FourCarsModel" 280 ⟨"FourCarsModel", "riding", "(I)I"⟩ ∈ gT := gt6 167 rfl rfl
theorem ml_M_283 : Jvm.Cond.methodLink "FourCarsModel" 283 ⟨"FourCarsModel", "given", "(I)I"⟩ ∈ gT := gt6 171 rfl rfl
theorem ml_M_288 : Jvm.Cond.methodLink "FourCarsModel" 288 ⟨"FourCarsModel", "comesTo", "(III)I"⟩ ∈ gT := gt6 175 rfl rfl
theorem met_M_tells (l : Launch) : mMet l y_M_tells prog_13_method_52_code 7 (some .boolean) 3 f_M_tells := met_of (S := S_M_tells) (cx := cx_M_tells) (by decide) okZ (fun h => der_M_tells h) hfx_M hpx_M hkx_M hsx_M (fun ix n g h => by
    unfold cx_M_tells at h
    by_cases e : ix = 496
    · rw [if_pos e] at h
      cases h
      subst e
      exact call_V (ix := 248) (n := 2) (ci := 10) (met_M_ofCar l) ⟨ml_M_248, wq_M_ofCar⟩ rfl (by decide) (by decide) wn_M_ofCar
    rw [if_neg e] at h
    by_cases e : ix = 542
    · rw [if_pos e] at h
      cases h
      subst e
      exact call_V (ix := 271) (n := 2) (ci := 10) (met_M_own l) ⟨ml_M_271, wq_M_own⟩ rfl (by decide) (by decide) wn_M_own
    rw [if_neg e] at h
    by_cases e : ix = 549
    · rw [if_pos e] at h
      cases h
      subst e
      exact call_S (ix := 274) (n := 2) (met_M_apart l) ⟨ml_M_274, wq_M_apart⟩ (by decide) (by decide) wn_M_apart
    rw [if_neg e] at h
    by_cases e : ix = 554
    · rw [if_pos e] at h
      cases h
      subst e
      exact call_V (ix := 277) (n := 1) (ci := 10) (met_M_wayOf l) ⟨ml_M_277, wq_M_wayOf⟩ rfl (by decide) (by decide) wn_M_wayOf
    rw [if_neg e] at h
    by_cases e : ix = 560
    · rw [if_pos e] at h
      cases h
      subst e
      exact call_V (ix := 280) (n := 1) (ci := 10) (met_M_riding l) ⟨ml_M_280, wq_M_riding⟩ rfl (by decide) (by decide) wn_M_riding
    rw [if_neg e] at h
    by_cases e : ix = 566
    · rw [if_pos e] at h
      cases h
      subst e
      exact call_V (ix := 283) (n := 1) (ci := 10) (met_M_given l) ⟨ml_M_283, wq_M_given⟩ rfl (by decide) (by decide) wn_M_given
    rw [if_neg e] at h
    by_cases e : ix = 576
    · rw [if_pos e] at h
      cases h
      subst e
      exact call_V (ix := 288) (n := 3) (ci := 10) (met_M_comesTo l) ⟨ml_M_288, wq_M_comesTo⟩ rfl (by decide) (by decide) wn_M_comesTo
    rw [if_neg e] at h
    cases h)
theorem ml_M_291 : Jvm.Cond.methodLink "FourCarsModel" 291 ⟨"FourCarsModel", "isOne", "(I)Z"⟩ ∈ gT := gt6 152 rfl rfl
theorem ml_M_294 : Jvm.Cond.methodLink "FourCarsModel" 294 ⟨"FourCarsModel", "tells", "(III)Z"⟩ ∈ gT := gt6 156 rfl rfl
theorem met_M_cost (l : Launch) : mMet l y_M_cost prog_13_method_53_code 4 (some .int) 4 f_M_cost := met_of (S := S_M_cost) (cx := cx_M_cost) (by decide) okI (fun h => der_M_cost h) hfx_M hpx_M hkx_M hsx_M (fun ix n g h => by
    unfold cx_M_cost at h
    by_cases e : ix = 133
    · rw [if_pos e] at h
      cases h
      subst e
      exact call_S (ix := 66) (n := 3) (met_M_isIn l) ⟨ml_M_66, wq_M_isIn⟩ (by decide) (by decide) wn_M_isIn
    rw [if_neg e] at h
    by_cases e : ix = 530
    · rw [if_pos e] at h
      cases h
      subst e
      exact call_V (ix := 265) (n := 1) (ci := 10) (met_M_isCar l) ⟨ml_M_265, wq_M_isCar⟩ rfl (by decide) (by decide) wn_M_isCar
    rw [if_neg e] at h
    by_cases e : ix = 542
    · rw [if_pos e] at h
      cases h
      subst e
      exact call_V (ix := 271) (n := 2) (ci := 10) (met_M_own l) ⟨ml_M_271, wq_M_own⟩ rfl (by decide) (by decide) wn_M_own
    rw [if_neg e] at h
    by_cases e : ix = 582
    · rw [if_pos e] at h
      cases h
      subst e
      exact call_V (ix := 291) (n := 1) (ci := 10) (met_M_isOne l) ⟨ml_M_291, wq_M_isOne⟩ rfl (by decide) (by decide) wn_M_isOne
    rw [if_neg e] at h
    by_cases e : ix = 588
    · rw [if_pos e] at h
      cases h
      subst e
      exact call_V (ix := 294) (n := 3) (ci := 10) (met_M_tells l) ⟨ml_M_294, wq_M_tells⟩ rfl (by decide) (by decide) wn_M_tells
    rw [if_neg e] at h
    cases h)
theorem ml_M_302 : Jvm.Cond.methodLink "FourCarsModel" 302 ⟨"FourCarsModel", "serves", "(II)Z"⟩ ∈ gT := gt6 199 rfl rfl
theorem met_M_givesCall (l : Launch) : mMet l y_M_givesCall prog_13_method_54_code 5 none 4 f_M_givesCall := met_of (S := S_M_givesCall) (cx := cx_M_givesCall) (by decide) okV (fun h => der_M_givesCall h) hfx_M hpx_M hkx_M hsx_M (fun ix n g h => by
    unfold cx_M_givesCall at h
    by_cases e : ix = 496
    · rw [if_pos e] at h
      cases h
      subst e
      exact call_V (ix := 248) (n := 2) (ci := 10) (met_M_ofCar l) ⟨ml_M_248, wq_M_ofCar⟩ rfl (by decide) (by decide) wn_M_ofCar
    rw [if_neg e] at h
    by_cases e : ix = 524
    · rw [if_pos e] at h
      cases h
      subst e
      exact call_V (ix := 262) (n := 3) (ci := 10) (met_M_gives l) ⟨ml_M_262, wq_M_gives⟩ rfl (by decide) (by decide) wn_M_gives
    rw [if_neg e] at h
    by_cases e : ix = 542
    · rw [if_pos e] at h
      cases h
      subst e
      exact call_V (ix := 271) (n := 2) (ci := 10) (met_M_own l) ⟨ml_M_271, wq_M_own⟩ rfl (by decide) (by decide) wn_M_own
    rw [if_neg e] at h
    by_cases e : ix = 588
    · rw [if_pos e] at h
      cases h
      subst e
      exact call_V (ix := 294) (n := 3) (ci := 10) (met_M_tells l) ⟨ml_M_294, wq_M_tells⟩ rfl (by decide) (by decide) wn_M_tells
    rw [if_neg e] at h
    by_cases e : ix = 604
    · rw [if_pos e] at h
      cases h
      subst e
      exact call_V (ix := 302) (n := 2) (ci := 10) (met_M_serves l) ⟨ml_M_302, wq_M_serves⟩ rfl (by decide) (by decide) wn_M_serves
    rw [if_neg e] at h
    cases h)
theorem met_M_targetOf (l : Launch) : mMet l y_M_targetOf prog_13_method_55_code 3 (some .int) 2 f_M_targetOf := met_of (S := S_M_targetOf) (cx := cx_M_targetOf) (by decide) okI (fun h => der_M_targetOf h) hfx_M hpx_M hkx_M hsx_M (fun ix n g h => by
    unfold cx_M_targetOf at h
    by_cases e : ix = 542
    · rw [if_pos e] at h
      cases h
      subst e
      exact call_V (ix := 271) (n := 2) (ci := 10) (met_M_own l) ⟨ml_M_271, wq_M_own⟩ rfl (by decide) (by decide) wn_M_own
    rw [if_neg e] at h
    cases h)
theorem ml_M_305 : Jvm.Cond.methodLink "FourCarsModel" 305 ⟨"FourCarsModel", "targetOf", "(II)I"⟩ ∈ gT := gt6 219 rfl rfl
theorem met_M_nearest (l : Launch) : mMet l y_M_nearest prog_13_method_56_code 8 (some .int) 3 f_M_nearest := met_of (S := S_M_nearest) (cx := cx_M_nearest) (by decide) okI (fun h => der_M_nearest h) hfx_M hpx_M hkx_M hsx_M (fun ix n g h => by
    unfold cx_M_nearest at h
    by_cases e : ix = 496
    · rw [if_pos e] at h
      cases h
      subst e
      exact call_V (ix := 248) (n := 2) (ci := 10) (met_M_ofCar l) ⟨ml_M_248, wq_M_ofCar⟩ rfl (by decide) (by decide) wn_M_ofCar
    rw [if_neg e] at h
    by_cases e : ix = 512
    · rw [if_pos e] at h
      cases h
      subst e
      exact call_V (ix := 256) (n := 1) (ci := 10) (met_M_isFloor l) ⟨ml_M_256, wq_M_isFloor⟩ rfl (by decide) (by decide) wn_M_isFloor
    rw [if_neg e] at h
    by_cases e : ix = 610
    · rw [if_pos e] at h
      cases h
      subst e
      exact call_V (ix := 305) (n := 2) (ci := 10) (met_M_targetOf l) ⟨ml_M_305, wq_M_targetOf⟩ rfl (by decide) (by decide) wn_M_targetOf
    rw [if_neg e] at h
    cases h)
theorem met_M_firstHere (l : Launch) : mMet l y_M_firstHere prog_13_method_57_code 3 (some .int) 2 f_M_firstHere := met_of (S := S_M_firstHere) (cx := cx_M_firstHere) (by decide) okI (fun h => der_M_firstHere h) hfx_M hpx_M hkx_M hsx_M (fun ix n g h => by
    unfold cx_M_firstHere at h
    by_cases e : ix = 496
    · rw [if_pos e] at h
      cases h
      subst e
      exact call_V (ix := 248) (n := 2) (ci := 10) (met_M_ofCar l) ⟨ml_M_248, wq_M_ofCar⟩ rfl (by decide) (by decide) wn_M_ofCar
    rw [if_neg e] at h
    by_cases e : ix = 542
    · rw [if_pos e] at h
      cases h
      subst e
      exact call_V (ix := 271) (n := 2) (ci := 10) (met_M_own l) ⟨ml_M_271, wq_M_own⟩ rfl (by decide) (by decide) wn_M_own
    rw [if_neg e] at h
    cases h)
theorem ml_M_308 : Jvm.Cond.methodLink "FourCarsModel" 308 ⟨"FourCarsModel", "firstHere", "(I)I"⟩ ∈ gT := gt6 227 rfl rfl
theorem ml_M_311 : Jvm.Cond.methodLink "FourCarsModel" 311 ⟨"FourCarsModel", "nearest", "(II)I"⟩ ∈ gT := gt6 215 rfl rfl
theorem met_M_newWay (l : Launch) : mMet l y_M_newWay prog_13_method_58_code 6 (some .int) 4 f_M_newWay := met_of (S := S_M_newWay) (cx := cx_M_newWay) (by decide) okI (fun h => der_M_newWay h) hfx_M hpx_M hkx_M hsx_M (fun ix n g h => by
    unfold cx_M_newWay at h
    by_cases e : ix = 496
    · rw [if_pos e] at h
      cases h
      subst e
      exact call_V (ix := 248) (n := 2) (ci := 10) (met_M_ofCar l) ⟨ml_M_248, wq_M_ofCar⟩ rfl (by decide) (by decide) wn_M_ofCar
    rw [if_neg e] at h
    by_cases e : ix = 554
    · rw [if_pos e] at h
      cases h
      subst e
      exact call_V (ix := 277) (n := 1) (ci := 10) (met_M_wayOf l) ⟨ml_M_277, wq_M_wayOf⟩ rfl (by decide) (by decide) wn_M_wayOf
    rw [if_neg e] at h
    by_cases e : ix = 616
    · rw [if_pos e] at h
      cases h
      subst e
      exact call_V (ix := 308) (n := 1) (ci := 10) (met_M_firstHere l) ⟨ml_M_308, wq_M_firstHere⟩ rfl (by decide) (by decide) wn_M_firstHere
    rw [if_neg e] at h
    by_cases e : ix = 622
    · rw [if_pos e] at h
      cases h
      subst e
      exact call_V (ix := 311) (n := 2) (ci := 10) (met_M_nearest l) ⟨ml_M_311, wq_M_nearest⟩ rfl (by decide) (by decide) wn_M_nearest
    rw [if_neg e] at h
    cases h)
theorem met_M_goOut (l : Launch) : mMet l y_M_goOut prog_13_method_59_code 4 (some .int) 2 f_M_goOut := met_of (S := S_M_goOut) (cx := cx_M_goOut) (by decide) okI (fun h => der_M_goOut h) hfx_M hpx_M hkx_M hsx_M (fun ix n g h => by
    unfold cx_M_goOut at h
    by_cases e : ix = 496
    · rw [if_pos e] at h
      cases h
      subst e
      exact call_V (ix := 248) (n := 2) (ci := 10) (met_M_ofCar l) ⟨ml_M_248, wq_M_ofCar⟩ rfl (by decide) (by decide) wn_M_ofCar
    rw [if_neg e] at h
    by_cases e : ix = 524
    · rw [if_pos e] at h
      cases h
      subst e
      exact call_V (ix := 262) (n := 3) (ci := 10) (met_M_gives l) ⟨ml_M_262, wq_M_gives⟩ rfl (by decide) (by decide) wn_M_gives
    rw [if_neg e] at h
    by_cases e : ix = 542
    · rw [if_pos e] at h
      cases h
      subst e
      exact call_V (ix := 271) (n := 2) (ci := 10) (met_M_own l) ⟨ml_M_271, wq_M_own⟩ rfl (by decide) (by decide) wn_M_own
    rw [if_neg e] at h
    cases h)
theorem met_M_goIn (l : Launch) : mMet l y_M_goIn prog_13_method_60_code 5 (some .int) 3 f_M_goIn := met_of (S := S_M_goIn) (cx := cx_M_goIn) (by decide) okI (fun h => der_M_goIn h) hfx_M hpx_M hkx_M hsx_M (fun ix n g h => by
    unfold cx_M_goIn at h
    by_cases e : ix = 496
    · rw [if_pos e] at h
      cases h
      subst e
      exact call_V (ix := 248) (n := 2) (ci := 10) (met_M_ofCar l) ⟨ml_M_248, wq_M_ofCar⟩ rfl (by decide) (by decide) wn_M_ofCar
    rw [if_neg e] at h
    by_cases e : ix = 524
    · rw [if_pos e] at h
      cases h
      subst e
      exact call_V (ix := 262) (n := 3) (ci := 10) (met_M_gives l) ⟨ml_M_262, wq_M_gives⟩ rfl (by decide) (by decide) wn_M_gives
    rw [if_neg e] at h
    by_cases e : ix = 542
    · rw [if_pos e] at h
      cases h
      subst e
      exact call_V (ix := 271) (n := 2) (ci := 10) (met_M_own l) ⟨ml_M_271, wq_M_own⟩ rfl (by decide) (by decide) wn_M_own
    rw [if_neg e] at h
    by_cases e : ix = 554
    · rw [if_pos e] at h
      cases h
      subst e
      exact call_V (ix := 277) (n := 1) (ci := 10) (met_M_wayOf l) ⟨ml_M_277, wq_M_wayOf⟩ rfl (by decide) (by decide) wn_M_wayOf
    rw [if_neg e] at h
    by_cases e : ix = 560
    · rw [if_pos e] at h
      cases h
      subst e
      exact call_V (ix := 280) (n := 1) (ci := 10) (met_M_riding l) ⟨ml_M_280, wq_M_riding⟩ rfl (by decide) (by decide) wn_M_riding
    rw [if_neg e] at h
    cases h)
theorem ml_M_317 : Jvm.Cond.methodLink "FourCarsModel" 317 ⟨"FourCarsModel", "goOut", "(I)I"⟩ ∈ gT := gt6 211 rfl rfl
theorem ml_M_320 : Jvm.Cond.methodLink "FourCarsModel" 320 ⟨"FourCarsModel", "newWay", "(I)I"⟩ ∈ gT := gt6 223 rfl rfl
theorem ml_M_323 : Jvm.Cond.methodLink "FourCarsModel" 323 ⟨"FourCarsModel", "goIn", "(I)I"⟩ ∈ gT := gt6 231 rfl rfl
theorem met_M_looks (l : Launch) : mMet l y_M_looks prog_13_method_61_code 6 none 5 f_M_looks := met_of (S := S_M_looks) (cx := cx_M_looks) (by decide) okV (fun h => der_M_looks h) hfx_M hpx_M hkx_M hsx_M (fun ix n g h => by
    unfold cx_M_looks at h
    by_cases e : ix = 482
    · rw [if_pos e] at h
      cases h
      subst e
      exact call_V (ix := 241) (n := 3) (ci := 10) (met_M_sets l) ⟨ml_M_241, wq_M_sets⟩ rfl (by decide) (by decide) wn_M_sets
    rw [if_neg e] at h
    by_cases e : ix = 496
    · rw [if_pos e] at h
      cases h
      subst e
      exact call_V (ix := 248) (n := 2) (ci := 10) (met_M_ofCar l) ⟨ml_M_248, wq_M_ofCar⟩ rfl (by decide) (by decide) wn_M_ofCar
    rw [if_neg e] at h
    by_cases e : ix = 622
    · rw [if_pos e] at h
      cases h
      subst e
      exact call_V (ix := 311) (n := 2) (ci := 10) (met_M_nearest l) ⟨ml_M_311, wq_M_nearest⟩ rfl (by decide) (by decide) wn_M_nearest
    rw [if_neg e] at h
    by_cases e : ix = 634
    · rw [if_pos e] at h
      cases h
      subst e
      exact call_V (ix := 317) (n := 1) (ci := 10) (met_M_goOut l) ⟨ml_M_317, wq_M_goOut⟩ rfl (by decide) (by decide) wn_M_goOut
    rw [if_neg e] at h
    by_cases e : ix = 640
    · rw [if_pos e] at h
      cases h
      subst e
      exact call_V (ix := 320) (n := 1) (ci := 10) (met_M_newWay l) ⟨ml_M_320, wq_M_newWay⟩ rfl (by decide) (by decide) wn_M_newWay
    rw [if_neg e] at h
    by_cases e : ix = 646
    · rw [if_pos e] at h
      cases h
      subst e
      exact call_V (ix := 323) (n := 1) (ci := 10) (met_M_goIn l) ⟨ml_M_323, wq_M_goIn⟩ rfl (by decide) (by decide) wn_M_goIn
    rw [if_neg e] at h
    cases h)
theorem ml_M_326 : Jvm.Cond.methodLink "FourCarsModel" 326 ⟨"FourCarsModel", "looks", "(I)V"⟩ ∈ gT := gt6 207 rfl rfl
theorem met_M_aCarsSecond (l : Launch) : mMet l y_M_aCarsSecond prog_13_method_62_code 2 none 6 f_M_aCarsSecond := met_of (S := S_M_aCarsSecond) (cx := cx_M_aCarsSecond) (by decide) okV (fun h => der_M_aCarsSecond h) hfx_M hpx_M hkx_M hsx_M (fun ix n g h => by
    unfold cx_M_aCarsSecond at h
    by_cases e : ix = 482
    · rw [if_pos e] at h
      cases h
      subst e
      exact call_V (ix := 241) (n := 3) (ci := 10) (met_M_sets l) ⟨ml_M_241, wq_M_sets⟩ rfl (by decide) (by decide) wn_M_sets
    rw [if_neg e] at h
    by_cases e : ix = 496
    · rw [if_pos e] at h
      cases h
      subst e
      exact call_V (ix := 248) (n := 2) (ci := 10) (met_M_ofCar l) ⟨ml_M_248, wq_M_ofCar⟩ rfl (by decide) (by decide) wn_M_ofCar
    rw [if_neg e] at h
    by_cases e : ix = 652
    · rw [if_pos e] at h
      cases h
      subst e
      exact call_V (ix := 326) (n := 1) (ci := 10) (met_M_looks l) ⟨ml_M_326, wq_M_looks⟩ rfl (by decide) (by decide) wn_M_looks
    rw [if_neg e] at h
    cases h)
theorem ml_M_329 : Jvm.Cond.methodLink "FourCarsModel" 329 ⟨"FourCarsModel", "givesCall", "(I)V"⟩ ∈ gT := gt6 195 rfl rfl
theorem ml_M_332 : Jvm.Cond.methodLink "FourCarsModel" 332 ⟨"FourCarsModel", "aCarsSecond", "(I)V"⟩ ∈ gT := gt6 203 rfl rfl
theorem met_M_aSecond (l : Launch) : mMet l y_M_aSecond prog_13_method_63_code 2 none 7 f_M_aSecond := met_of (S := S_M_aSecond) (cx := cx_M_aSecond) (by decide) okV (fun h => der_M_aSecond h) hfx_M hpx_M hkx_M hsx_M (fun ix n g h => by
    unfold cx_M_aSecond at h
    by_cases e : ix = 524
    · rw [if_pos e] at h
      cases h
      subst e
      exact call_V (ix := 262) (n := 3) (ci := 10) (met_M_gives l) ⟨ml_M_262, wq_M_gives⟩ rfl (by decide) (by decide) wn_M_gives
    rw [if_neg e] at h
    by_cases e : ix = 542
    · rw [if_pos e] at h
      cases h
      subst e
      exact call_V (ix := 271) (n := 2) (ci := 10) (met_M_own l) ⟨ml_M_271, wq_M_own⟩ rfl (by decide) (by decide) wn_M_own
    rw [if_neg e] at h
    by_cases e : ix = 658
    · rw [if_pos e] at h
      cases h
      subst e
      exact call_V (ix := 329) (n := 1) (ci := 10) (met_M_givesCall l) ⟨ml_M_329, wq_M_givesCall⟩ rfl (by decide) (by decide) wn_M_givesCall
    rw [if_neg e] at h
    by_cases e : ix = 664
    · rw [if_pos e] at h
      cases h
      subst e
      exact call_V (ix := 332) (n := 1) (ci := 10) (met_M_aCarsSecond l) ⟨ml_M_332, wq_M_aCarsSecond⟩ rfl (by decide) (by decide) wn_M_aCarsSecond
    rw [if_neg e] at h
    cases h)
theorem met_M_there (l : Launch) : mMet l y_M_there prog_13_method_64_code 3 (some .int) 2 f_M_there := met_of (S := S_M_there) (cx := cx_M_there) (by decide) okI (fun h => der_M_there h) hfx_M hpx_M hkx_M hsx_M (fun ix n g h => by
    unfold cx_M_there at h
    by_cases e : ix = 542
    · rw [if_pos e] at h
      cases h
      subst e
      exact call_V (ix := 271) (n := 2) (ci := 10) (met_M_own l) ⟨ml_M_271, wq_M_own⟩ rfl (by decide) (by decide) wn_M_own
    rw [if_neg e] at h
    cases h)
theorem ml_M_335 : Jvm.Cond.methodLink "FourCarsModel" 335 ⟨"FourCarsModel", "there", "()I"⟩ ∈ gT := gt6 187 rfl rfl
theorem ml_M_338 : Jvm.Cond.methodLink "FourCarsModel" 338 ⟨"FourCarsModel", "aSecond", "()V"⟩ ∈ gT := gt6 191 rfl rfl
theorem met_M_seconds (l : Launch) : mMet l y_M_seconds prog_13_method_65_code 4 (some .int) 8 f_M_seconds := met_of (S := S_M_seconds) (cx := cx_M_seconds) (by decide) okI (fun h => der_M_seconds h) hfx_M hpx_M hkx_M hsx_M (fun ix n g h => by
    unfold cx_M_seconds at h
    by_cases e : ix = 133
    · rw [if_pos e] at h
      cases h
      subst e
      exact call_S (ix := 66) (n := 3) (met_M_isIn l) ⟨ml_M_66, wq_M_isIn⟩ (by decide) (by decide) wn_M_isIn
    rw [if_neg e] at h
    by_cases e : ix = 670
    · rw [if_pos e] at h
      cases h
      subst e
      exact call_V (ix := 335) (n := 0) (ci := 10) (met_M_there l) ⟨ml_M_335, wq_M_there⟩ rfl (by decide) (by decide) wn_M_there
    rw [if_neg e] at h
    by_cases e : ix = 676
    · rw [if_pos e] at h
      cases h
      subst e
      exact call_V (ix := 338) (n := 0) (ci := 10) (met_M_aSecond l) ⟨ml_M_338, wq_M_aSecond⟩ rfl (by decide) (by decide) wn_M_aSecond
    rw [if_neg e] at h
    cases h)
theorem met_M_car (l : Launch) : mMet l y_M_car prog_13_method_66_code 3 (some .int) 3 f_M_car := met_of (S := S_M_car) (cx := cx_M_car) (by decide) okI (fun h => der_M_car h) hfx_M hpx_M hkx_M hsx_M (fun ix n g h => by
    unfold cx_M_car at h
    by_cases e : ix = 133
    · rw [if_pos e] at h
      cases h
      subst e
      exact call_S (ix := 66) (n := 3) (met_M_isIn l) ⟨ml_M_66, wq_M_isIn⟩ (by decide) (by decide) wn_M_isIn
    rw [if_neg e] at h
    by_cases e : ix = 496
    · rw [if_pos e] at h
      cases h
      subst e
      exact call_V (ix := 248) (n := 2) (ci := 10) (met_M_ofCar l) ⟨ml_M_248, wq_M_ofCar⟩ rfl (by decide) (by decide) wn_M_ofCar
    rw [if_neg e] at h
    by_cases e : ix = 530
    · rw [if_pos e] at h
      cases h
      subst e
      exact call_V (ix := 265) (n := 1) (ci := 10) (met_M_isCar l) ⟨ml_M_265, wq_M_isCar⟩ rfl (by decide) (by decide) wn_M_isCar
    rw [if_neg e] at h
    by_cases e : ix = 560
    · rw [if_pos e] at h
      cases h
      subst e
      exact call_V (ix := 280) (n := 1) (ci := 10) (met_M_riding l) ⟨ml_M_280, wq_M_riding⟩ rfl (by decide) (by decide) wn_M_riding
    rw [if_neg e] at h
    by_cases e : ix = 566
    · rw [if_pos e] at h
      cases h
      subst e
      exact call_V (ix := 283) (n := 1) (ci := 10) (met_M_given l) ⟨ml_M_283, wq_M_given⟩ rfl (by decide) (by decide) wn_M_given
    rw [if_neg e] at h
    by_cases e : ix = 604
    · rw [if_pos e] at h
      cases h
      subst e
      exact call_V (ix := 302) (n := 2) (ci := 10) (met_M_serves l) ⟨ml_M_302, wq_M_serves⟩ rfl (by decide) (by decide) wn_M_serves
    rw [if_neg e] at h
    cases h)
theorem met_M_person (l : Launch) : mMet l y_M_person prog_13_method_67_code 3 (some .int) 3 f_M_person := met_of (S := S_M_person) (cx := cx_M_person) (by decide) okI (fun h => der_M_person h) hfx_M hpx_M hkx_M hsx_M (fun ix n g h => by
    unfold cx_M_person at h
    by_cases e : ix = 133
    · rw [if_pos e] at h
      cases h
      subst e
      exact call_S (ix := 66) (n := 3) (met_M_isIn l) ⟨ml_M_66, wq_M_isIn⟩ (by decide) (by decide) wn_M_isIn
    rw [if_neg e] at h
    by_cases e : ix = 542
    · rw [if_pos e] at h
      cases h
      subst e
      exact call_V (ix := 271) (n := 2) (ci := 10) (met_M_own l) ⟨ml_M_271, wq_M_own⟩ rfl (by decide) (by decide) wn_M_own
    rw [if_neg e] at h
    by_cases e : ix = 582
    · rw [if_pos e] at h
      cases h
      subst e
      exact call_V (ix := 291) (n := 1) (ci := 10) (met_M_isOne l) ⟨ml_M_291, wq_M_isOne⟩ rfl (by decide) (by decide) wn_M_isOne
    rw [if_neg e] at h
    cases h)
theorem ml_M_341 : Jvm.Cond.methodLink "FourCarsModel" 341 ⟨"FourCarsModel", "person", "(II)I"⟩ ∈ gT := gt7 7 rfl rfl
theorem met_M_sums (l : Launch) : mMet l y_M_sums prog_13_method_68_code 6 (some .int) 4 f_M_sums := met_of (S := S_M_sums) (cx := cx_M_sums) (by decide) okI (fun h => der_M_sums h) hfx_M hpx_M hkx_M hsx_M (fun ix n g h => by
    unfold cx_M_sums at h
    by_cases e : ix = 133
    · rw [if_pos e] at h
      cases h
      subst e
      exact call_S (ix := 66) (n := 3) (met_M_isIn l) ⟨ml_M_66, wq_M_isIn⟩ (by decide) (by decide) wn_M_isIn
    rw [if_neg e] at h
    by_cases e : ix = 670
    · rw [if_pos e] at h
      cases h
      subst e
      exact call_V (ix := 335) (n := 0) (ci := 10) (met_M_there l) ⟨ml_M_335, wq_M_there⟩ rfl (by decide) (by decide) wn_M_there
    rw [if_neg e] at h
    by_cases e : ix = 682
    · rw [if_pos e] at h
      cases h
      subst e
      exact call_V (ix := 341) (n := 2) (ci := 10) (met_M_person l) ⟨ml_M_341, wq_M_person⟩ rfl (by decide) (by decide) wn_M_person
    rw [if_neg e] at h
    cases h)
theorem met_M_setsOut (l : Launch) : mMet l y_M_setsOut prog_13_method_69_code 2 none 1 f_M_setsOut := met_of (S := S_M_setsOut) (cx := cx_M_setsOut) (by decide) okV (fun h => der_M_setsOut h) hfx_M hpx_M hkx_M hsx_M (fun ix n g h => by
    unfold cx_M_setsOut at h
    cases h)
theorem met_M_comesBack (l : Launch) : mMet l y_M_comesBack prog_13_method_70_code 2 none 1 f_M_comesBack := met_of (S := S_M_comesBack) (cx := cx_M_comesBack) (by decide) okV (fun h => der_M_comesBack h) hfx_M hpx_M hkx_M hsx_M (fun ix n g h => by
    unfold cx_M_comesBack at h
    cases h)
theorem met_M_ends (l : Launch) : mMet l y_M_ends prog_13_method_71_code 2 (some .boolean) 8 f_M_ends := met_of (S := S_M_ends) (cx := cx_M_ends) (by decide) okZ (fun h => der_M_ends h) hfx_M hpx_M hkx_M hsx_M (fun ix n g h => by
    unfold cx_M_ends at h
    by_cases e : ix = 670
    · rw [if_pos e] at h
      cases h
      subst e
      exact call_V (ix := 335) (n := 0) (ci := 10) (met_M_there l) ⟨ml_M_335, wq_M_there⟩ rfl (by decide) (by decide) wn_M_there
    rw [if_neg e] at h
    by_cases e : ix = 676
    · rw [if_pos e] at h
      cases h
      subst e
      exact call_V (ix := 338) (n := 0) (ci := 10) (met_M_aSecond l) ⟨ml_M_338, wq_M_aSecond⟩ rfl (by decide) (by decide) wn_M_aSecond
    rw [if_neg e] at h
    cases h)
theorem met_M_over (l : Launch) : mMet l y_M_over prog_13_method_72_code 2 (some .int) 2 f_M_over := met_of (S := S_M_over) (cx := cx_M_over) (by decide) okI (fun h => der_M_over h) hfx_M hpx_M hkx_M hsx_M (fun ix n g h => by
    unfold cx_M_over at h
    by_cases e : ix = 542
    · rw [if_pos e] at h
      cases h
      subst e
      exact call_V (ix := 271) (n := 2) (ci := 10) (met_M_own l) ⟨ml_M_271, wq_M_own⟩ rfl (by decide) (by decide) wn_M_own
    rw [if_neg e] at h
    cases h)
theorem ml_M_347 : Jvm.Cond.methodLink "FourCarsModel" 347 ⟨"FourCarsModel", "over", "(I)I"⟩ ∈ gT := gt7 24 rfl rfl
theorem met_M_overAll (l : Launch) : mMet l y_M_overAll prog_13_method_73_code 4 (some .int) 3 f_M_overAll := met_of (S := S_M_overAll) (cx := cx_M_overAll) (by decide) okI (fun h => der_M_overAll h) hfx_M hpx_M hkx_M hsx_M (fun ix n g h => by
    unfold cx_M_overAll at h
    by_cases e : ix = 694
    · rw [if_pos e] at h
      cases h
      subst e
      exact call_V (ix := 347) (n := 1) (ci := 10) (met_M_over l) ⟨ml_M_347, wq_M_over⟩ rfl (by decide) (by decide) wn_M_over
    rw [if_neg e] at h
    cases h)
theorem ml_M_350 : Jvm.Cond.methodLink "FourCarsModel" 350 ⟨"FourCarsModel", "setsOut", "()V"⟩ ∈ gT := gt7 12 rfl rfl
theorem ml_M_353 : Jvm.Cond.methodLink "FourCarsModel" 353 ⟨"FourCarsModel", "ends", "(I)Z"⟩ ∈ gT := gt7 16 rfl rfl
theorem ml_M_356 : Jvm.Cond.methodLink "FourCarsModel" 356 ⟨"FourCarsModel", "overAll", "(I)I"⟩ ∈ gT := gt7 20 rfl rfl
theorem ml_M_359 : Jvm.Cond.methodLink "FourCarsModel" 359 ⟨"FourCarsModel", "comesBack", "()V"⟩ ∈ gT := gt7 28 rfl rfl
theorem met_M_thought (l : Launch) : mMet l y_M_thought prog_13_method_74_code 5 (some .int) 9 f_M_thought := met_of (S := S_M_thought) (cx := cx_M_thought) (by decide) okI (fun h => der_M_thought h) hfx_M hpx_M hkx_M hsx_M (fun ix n g h => by
    unfold cx_M_thought at h
    by_cases e : ix = 133
    · rw [if_pos e] at h
      cases h
      subst e
      exact call_S (ix := 66) (n := 3) (met_M_isIn l) ⟨ml_M_66, wq_M_isIn⟩ (by decide) (by decide) wn_M_isIn
    rw [if_neg e] at h
    by_cases e : ix = 694
    · rw [if_pos e] at h
      cases h
      subst e
      exact call_V (ix := 347) (n := 1) (ci := 10) (met_M_over l) ⟨ml_M_347, wq_M_over⟩ rfl (by decide) (by decide) wn_M_over
    rw [if_neg e] at h
    by_cases e : ix = 700
    · rw [if_pos e] at h
      cases h
      subst e
      exact call_V (ix := 350) (n := 0) (ci := 10) (met_M_setsOut l) ⟨ml_M_350, wq_M_setsOut⟩ rfl (by decide) (by decide) wn_M_setsOut
    rw [if_neg e] at h
    by_cases e : ix = 706
    · rw [if_pos e] at h
      cases h
      subst e
      exact call_V (ix := 353) (n := 1) (ci := 10) (met_M_ends l) ⟨ml_M_353, wq_M_ends⟩ rfl (by decide) (by decide) wn_M_ends
    rw [if_neg e] at h
    by_cases e : ix = 712
    · rw [if_pos e] at h
      cases h
      subst e
      exact call_V (ix := 356) (n := 1) (ci := 10) (met_M_overAll l) ⟨ml_M_356, wq_M_overAll⟩ rfl (by decide) (by decide) wn_M_overAll
    rw [if_neg e] at h
    by_cases e : ix = 718
    · rw [if_pos e] at h
      cases h
      subst e
      exact call_V (ix := 359) (n := 0) (ci := 10) (met_M_comesBack l) ⟨ml_M_359, wq_M_comesBack⟩ rfl (by decide) (by decide) wn_M_comesBack
    rw [if_neg e] at h
    cases h)
theorem ml_M_362 : Jvm.Cond.methodLink "FourCarsModel" 362 ⟨"FourCarsModel", "thought", "(II)I"⟩ ∈ gT := gt7 36 rfl rfl
theorem met_M_better (l : Launch) : mMet l y_M_better prog_13_method_75_code 5 (some .int) 10 f_M_better := met_of (S := S_M_better) (cx := cx_M_better) (by decide) okI (fun h => der_M_better h) hfx_M hpx_M hkx_M hsx_M (fun ix n g h => by
    unfold cx_M_better at h
    by_cases e : ix = 133
    · rw [if_pos e] at h
      cases h
      subst e
      exact call_S (ix := 66) (n := 3) (met_M_isIn l) ⟨ml_M_66, wq_M_isIn⟩ (by decide) (by decide) wn_M_isIn
    rw [if_neg e] at h
    by_cases e : ix = 724
    · rw [if_pos e] at h
      cases h
      subst e
      exact call_V (ix := 362) (n := 2) (ci := 10) (met_M_thought l) ⟨ml_M_362, wq_M_thought⟩ rfl (by decide) (by decide) wn_M_thought
    rw [if_neg e] at h
    cases h)
theorem gr_M_triesGiving : ∀ (k i : Nat) (as : List Value) (C : mMem) (q : Option Int32 × mMem), g_M_triesGiving k i as C = some q → rcv [10] (g_M_triesGiving k i) as C = some q := by
  intro k i as C q h
  cases k with
  | zero => cases h
  | succ k =>
    have e : ∃ f0, g_M_triesGiving (k + 1) i = rcv [10] f0 := by
      match i with
        | j => exact ⟨_, rfl⟩
    obtain ⟨f0, e⟩ := e
    rw [e] at h ⊢
    obtain ⟨kk, bs, h1, ⟨cj, fs, h2, h3⟩, h4⟩ := rcv_spec h
    cases List.mem_singleton.mp h3
    exact rcv_sub (cs := []) h1 h2 h
theorem ml_M_365 : Jvm.Cond.methodLink "FourCarsModel" 365 ⟨"FourCarsModel", "triesGiving", "(I)V"⟩ ∈ gT := gt7 45 rfl rfl
set_option maxHeartbeats 4000000 in
theorem gm_M_triesGiving (l : Launch) : ∀ k : Nat, mMet l y_M_triesGiving prog_13_method_76_code 5 none (8 + k) (g_M_triesGiving k 0) := by
  intro k
  induction k with
  | zero => exact ((fun _ _ _ _ _ _ _ _ _ _ _ h => (by cases h)))
  | succ k ih =>
    have m0 : mMet l y_M_triesGiving prog_13_method_76_code 5 none (8 + (k + 1)) (g_M_triesGiving (k + 1) 0) := (met_of (S := S_M_triesGiving (g_M_triesGiving k 0)) (cx := cx_M_triesGiving (g_M_triesGiving k 0)) (by decide) okV (fun h => der_M_triesGiving (g_M_triesGiving k 0) h) hfx_M hpx_M hkx_M hsx_M (fun ix n g h => by
    unfold cx_M_triesGiving at h
    by_cases e : ix = 542
    · rw [if_pos e] at h
      cases h
      subst e
      exact call_V (ix := 271) (n := 2) (ci := 10) (met_M_own l) ⟨ml_M_271, wq_M_own⟩ rfl (by omega) (by decide) wn_M_own
    rw [if_neg e] at h
    by_cases e : ix = 604
    · rw [if_pos e] at h
      cases h
      subst e
      exact call_V (ix := 302) (n := 2) (ci := 10) (met_M_serves l) ⟨ml_M_302, wq_M_serves⟩ rfl (by omega) (by decide) wn_M_serves
    rw [if_neg e] at h
    by_cases e : ix = 706
    · rw [if_pos e] at h
      cases h
      subst e
      exact call_V (ix := 353) (n := 1) (ci := 10) (met_M_ends l) ⟨ml_M_353, wq_M_ends⟩ rfl (by omega) (by decide) wn_M_ends
    rw [if_neg e] at h
    by_cases e : ix = 712
    · rw [if_pos e] at h
      cases h
      subst e
      exact call_V (ix := 356) (n := 1) (ci := 10) (met_M_overAll l) ⟨ml_M_356, wq_M_overAll⟩ rfl (by omega) (by decide) wn_M_overAll
    rw [if_neg e] at h
    by_cases e : ix = 718
    · rw [if_pos e] at h
      cases h
      subst e
      exact call_V (ix := 359) (n := 0) (ci := 10) (met_M_comesBack l) ⟨ml_M_359, wq_M_comesBack⟩ rfl (by omega) (by decide) wn_M_comesBack
    rw [if_neg e] at h
    by_cases e : ix = 730
    · rw [if_pos e] at h
      cases h
      subst e
      exact call_rec (ix := 365) (n := 1) (ci := 10) (ih) (gr_M_triesGiving k 0) ⟨ml_M_365, wq_M_triesGiving⟩ rfl (by omega) (by decide) wn_M_triesGiving
    rw [if_neg e] at h
    cases h))
    exact m0
theorem met_M_triesGiving (l : Launch) : mMet l y_M_triesGiving prog_13_method_76_code 5 none 18 f_M_triesGiving := (gm_M_triesGiving l 10)
theorem met_M_canGive (l : Launch) : mMet l y_M_canGive prog_13_method_77_code 2 (some .boolean) 2 f_M_canGive := met_of (S := S_M_canGive) (cx := cx_M_canGive) (by decide) okZ (fun h => der_M_canGive h) hfx_M hpx_M hkx_M hsx_M (fun ix n g h => by
    unfold cx_M_canGive at h
    by_cases e : ix = 133
    · rw [if_pos e] at h
      cases h
      subst e
      exact call_S (ix := 66) (n := 3) (met_M_isIn l) ⟨ml_M_66, wq_M_isIn⟩ (by decide) (by decide) wn_M_isIn
    rw [if_neg e] at h
    by_cases e : ix = 496
    · rw [if_pos e] at h
      cases h
      subst e
      exact call_V (ix := 248) (n := 2) (ci := 10) (met_M_ofCar l) ⟨ml_M_248, wq_M_ofCar⟩ rfl (by decide) (by decide) wn_M_ofCar
    rw [if_neg e] at h
    by_cases e : ix = 542
    · rw [if_pos e] at h
      cases h
      subst e
      exact call_V (ix := 271) (n := 2) (ci := 10) (met_M_own l) ⟨ml_M_271, wq_M_own⟩ rfl (by decide) (by decide) wn_M_own
    rw [if_neg e] at h
    cases h)
theorem ml_M_371 : Jvm.Cond.methodLink "FourCarsModel" 371 ⟨"FourCarsModel", "canGive", "()Z"⟩ ∈ gT := gt7 41 rfl rfl
theorem met_M_best (l : Launch) : mMet l y_M_best prog_13_method_78_code 2 (some .int) 19 f_M_best := met_of (S := S_M_best) (cx := cx_M_best) (by decide) okI (fun h => der_M_best h) hfx_M hpx_M hkx_M hsx_M (fun ix n g h => by
    unfold cx_M_best at h
    by_cases e : ix = 133
    · rw [if_pos e] at h
      cases h
      subst e
      exact call_S (ix := 66) (n := 3) (met_M_isIn l) ⟨ml_M_66, wq_M_isIn⟩ (by decide) (by decide) wn_M_isIn
    rw [if_neg e] at h
    by_cases e : ix = 700
    · rw [if_pos e] at h
      cases h
      subst e
      exact call_V (ix := 350) (n := 0) (ci := 10) (met_M_setsOut l) ⟨ml_M_350, wq_M_setsOut⟩ rfl (by decide) (by decide) wn_M_setsOut
    rw [if_neg e] at h
    by_cases e : ix = 730
    · rw [if_pos e] at h
      cases h
      subst e
      exact call_V (ix := 365) (n := 1) (ci := 10) (met_M_triesGiving l) ⟨ml_M_365, wq_M_triesGiving⟩ rfl (by decide) (by decide) wn_M_triesGiving
    rw [if_neg e] at h
    by_cases e : ix = 742
    · rw [if_pos e] at h
      cases h
      subst e
      exact call_V (ix := 371) (n := 0) (ci := 10) (met_M_canGive l) ⟨ml_M_371, wq_M_canGive⟩ rfl (by decide) (by decide) wn_M_canGive
    rw [if_neg e] at h
    cases h)
theorem met_M_laysCall (l : Launch) : mMet l y_M_laysCall prog_13_method_79_code 5 none 3 f_M_laysCall := met_of (S := S_M_laysCall) (cx := cx_M_laysCall) (by decide) okV (fun h => der_M_laysCall h) hfx_M hpx_M hkx_M hsx_M (fun ix n g h => by
    unfold cx_M_laysCall at h
    by_cases e : ix = 518
    · rw [if_pos e] at h
      cases h
      subst e
      exact call_V (ix := 259) (n := 3) (ci := 10) (met_M_comes l) ⟨ml_M_259, wq_M_comes⟩ rfl (by decide) (by decide) wn_M_comes
    rw [if_neg e] at h
    cases h)
theorem ml_M_374 : Jvm.Cond.methodLink "FourCarsModel" 374 ⟨"FourCarsModel", "laysCall", "(I)V"⟩ ∈ gT := gt7 57 rfl rfl
theorem met_M_overOf (l : Launch) : mMet l y_M_overOf prog_13_method_80_code 6 (some .int) 9 f_M_overOf := met_of (S := S_M_overOf) (cx := cx_M_overOf) (by decide) okI (fun h => der_M_overOf h) hfx_M hpx_M hkx_M hsx_M (fun ix n g h => by
    unfold cx_M_overOf at h
    by_cases e : ix = 482
    · rw [if_pos e] at h
      cases h
      subst e
      exact call_V (ix := 241) (n := 3) (ci := 10) (met_M_sets l) ⟨ml_M_241, wq_M_sets⟩ rfl (by decide) (by decide) wn_M_sets
    rw [if_neg e] at h
    by_cases e : ix = 490
    · rw [if_pos e] at h
      cases h
      subst e
      exact call_V (ix := 245) (n := 0) (ci := 10) (met_M_parks l) ⟨ml_M_245, wq_M_parks⟩ rfl (by decide) (by decide) wn_M_parks
    rw [if_neg e] at h
    by_cases e : ix = 706
    · rw [if_pos e] at h
      cases h
      subst e
      exact call_V (ix := 353) (n := 1) (ci := 10) (met_M_ends l) ⟨ml_M_353, wq_M_ends⟩ rfl (by decide) (by decide) wn_M_ends
    rw [if_neg e] at h
    by_cases e : ix = 712
    · rw [if_pos e] at h
      cases h
      subst e
      exact call_V (ix := 356) (n := 1) (ci := 10) (met_M_overAll l) ⟨ml_M_356, wq_M_overAll⟩ rfl (by decide) (by decide) wn_M_overAll
    rw [if_neg e] at h
    by_cases e : ix = 748
    · rw [if_pos e] at h
      cases h
      subst e
      exact call_V (ix := 374) (n := 1) (ci := 10) (met_M_laysCall l) ⟨ml_M_374, wq_M_laysCall⟩ rfl (by decide) (by decide) wn_M_laysCall
    rw [if_neg e] at h
    cases h)
theorem ml_M_378 : Jvm.Cond.methodLink "FourCarsModel" 378 ⟨"FourCarsModel", "overOf", "(IIII)I"⟩ ∈ gT := gt7 53 rfl rfl
theorem met_M_mornings (l : Launch) : mMet l y_M_mornings prog_13_method_81_code 9 (some .int) 10 f_M_mornings := met_of (S := S_M_mornings) (cx := cx_M_mornings) (by decide) okI (fun h => der_M_mornings h) hfx_M hpx_M hkx_M hsx_M (fun ix n g h => by
    unfold cx_M_mornings at h
    by_cases e : ix = 133
    · rw [if_pos e] at h
      cases h
      subst e
      exact call_S (ix := 66) (n := 3) (met_M_isIn l) ⟨ml_M_66, wq_M_isIn⟩ (by decide) (by decide) wn_M_isIn
    rw [if_neg e] at h
    by_cases e : ix = 700
    · rw [if_pos e] at h
      cases h
      subst e
      exact call_V (ix := 350) (n := 0) (ci := 10) (met_M_setsOut l) ⟨ml_M_350, wq_M_setsOut⟩ rfl (by decide) (by decide) wn_M_setsOut
    rw [if_neg e] at h
    by_cases e : ix = 718
    · rw [if_pos e] at h
      cases h
      subst e
      exact call_V (ix := 359) (n := 0) (ci := 10) (met_M_comesBack l) ⟨ml_M_359, wq_M_comesBack⟩ rfl (by decide) (by decide) wn_M_comesBack
    rw [if_neg e] at h
    by_cases e : ix = 756
    · rw [if_pos e] at h
      cases h
      subst e
      exact call_V (ix := 378) (n := 4) (ci := 10) (met_M_overOf l) ⟨ml_M_378, wq_M_overOf⟩ rfl (by decide) (by decide) wn_M_overOf
    rw [if_neg e] at h
    cases h)
theorem met_M_fun (l : Launch) : mMet l y_M_fun prog_13_method_82_code 6 (some .int) 9 f_M_fun := met_of (S := S_M_fun) (cx := cx_M_fun) (by decide) okI (fun h => der_M_fun h) hfx_M hpx_M hkx_M hsx_M (fun ix n g h => by
    unfold cx_M_fun at h
    by_cases e : ix = 512
    · rw [if_pos e] at h
      cases h
      subst e
      exact call_V (ix := 256) (n := 1) (ci := 10) (met_M_isFloor l) ⟨ml_M_256, wq_M_isFloor⟩ rfl (by decide) (by decide) wn_M_isFloor
    rw [if_neg e] at h
    by_cases e : ix = 542
    · rw [if_pos e] at h
      cases h
      subst e
      exact call_V (ix := 271) (n := 2) (ci := 10) (met_M_own l) ⟨ml_M_271, wq_M_own⟩ rfl (by decide) (by decide) wn_M_own
    rw [if_neg e] at h
    by_cases e : ix = 582
    · rw [if_pos e] at h
      cases h
      subst e
      exact call_V (ix := 291) (n := 1) (ci := 10) (met_M_isOne l) ⟨ml_M_291, wq_M_isOne⟩ rfl (by decide) (by decide) wn_M_isOne
    rw [if_neg e] at h
    by_cases e : ix = 700
    · rw [if_pos e] at h
      cases h
      subst e
      exact call_V (ix := 350) (n := 0) (ci := 10) (met_M_setsOut l) ⟨ml_M_350, wq_M_setsOut⟩ rfl (by decide) (by decide) wn_M_setsOut
    rw [if_neg e] at h
    by_cases e : ix = 706
    · rw [if_pos e] at h
      cases h
      subst e
      exact call_V (ix := 353) (n := 1) (ci := 10) (met_M_ends l) ⟨ml_M_353, wq_M_ends⟩ rfl (by decide) (by decide) wn_M_ends
    rw [if_neg e] at h
    by_cases e : ix = 712
    · rw [if_pos e] at h
      cases h
      subst e
      exact call_V (ix := 356) (n := 1) (ci := 10) (met_M_overAll l) ⟨ml_M_356, wq_M_overAll⟩ rfl (by decide) (by decide) wn_M_overAll
    rw [if_neg e] at h
    by_cases e : ix = 718
    · rw [if_pos e] at h
      cases h
      subst e
      exact call_V (ix := 359) (n := 0) (ci := 10) (met_M_comesBack l) ⟨ml_M_359, wq_M_comesBack⟩ rfl (by decide) (by decide) wn_M_comesBack
    rw [if_neg e] at h
    cases h)
theorem met_M_weight (l : Launch) : mMet l y_M_weight prog_13_method_83_code 2 (some .int) 1 f_M_weight := met_of (S := S_M_weight) (cx := cx_M_weight) (by decide) okI (fun h => der_M_weight h) hfx_M hpx_M hkx_M hsx_M (fun ix n g h => by
    unfold cx_M_weight at h
    cases h)
theorem ml_M_383 : Jvm.Cond.methodLink "FourCarsModel" 383 ⟨"FourCarsModel", "weight", "(I)I"⟩ ∈ gT := gt7 79 rfl rfl
theorem met_M_between (l : Launch) : mMet l y_M_between prog_13_method_84_code 5 (some .int) 2 f_M_between := met_of (S := S_M_between) (cx := cx_M_between) (by decide) okI (fun h => der_M_between h) hfx_M hpx_M hkx_M hsx_M (fun ix n g h => by
    unfold cx_M_between at h
    by_cases e : ix = 766
    · rw [if_pos e] at h
      cases h
      subst e
      exact call_V (ix := 383) (n := 1) (ci := 10) (met_M_weight l) ⟨ml_M_383, wq_M_weight⟩ rfl (by decide) (by decide) wn_M_weight
    rw [if_neg e] at h
    cases h)
theorem met_M_below (l : Launch) : mMet l y_M_below prog_13_method_85_code 4 (some .int) 2 f_M_below := met_of (S := S_M_below) (cx := cx_M_below) (by decide) okI (fun h => der_M_below h) hfx_M hpx_M hkx_M hsx_M (fun ix n g h => by
    unfold cx_M_below at h
    by_cases e : ix = 766
    · rw [if_pos e] at h
      cases h
      subst e
      exact call_V (ix := 383) (n := 1) (ci := 10) (met_M_weight l) ⟨ml_M_383, wq_M_weight⟩ rfl (by decide) (by decide) wn_M_weight
    rw [if_neg e] at h
    cases h)
theorem ml_M_386 : Jvm.Cond.methodLink "FourCarsModel" 386 ⟨"FourCarsModel", "between", "(II)I"⟩ ∈ gT := gt7 75 rfl rfl
theorem met_M_laysAbove (l : Launch) : mMet l y_M_laysAbove prog_13_method_86_code 8 none 3 f_M_laysAbove := met_of (S := S_M_laysAbove) (cx := cx_M_laysAbove) (by decide) okV (fun h => der_M_laysAbove h) hfx_M hpx_M hkx_M hsx_M (fun ix n g h => by
    unfold cx_M_laysAbove at h
    by_cases e : ix = 772
    · rw [if_pos e] at h
      cases h
      subst e
      exact call_V (ix := 386) (n := 2) (ci := 10) (met_M_between l) ⟨ml_M_386, wq_M_between⟩ rfl (by decide) (by decide) wn_M_between
    rw [if_neg e] at h
    cases h)
theorem ml_M_389 : Jvm.Cond.methodLink "FourCarsModel" 389 ⟨"FourCarsModel", "laysAbove", "(I)V"⟩ ∈ gT := gt7 71 rfl rfl
theorem ml_M_392 : Jvm.Cond.methodLink "FourCarsModel" 392 ⟨"FourCarsModel", "below", "(I)I"⟩ ∈ gT := gt7 83 rfl rfl
theorem met_M_places (l : Launch) : mMet l y_M_places prog_13_method_87_code 7 (some .int) 4 f_M_places := met_of (S := S_M_places) (cx := cx_M_places) (by decide) okI (fun h => der_M_places h) hfx_M hpx_M hkx_M hsx_M (fun ix n g h => by
    unfold cx_M_places at h
    by_cases e : ix = 133
    · rw [if_pos e] at h
      cases h
      subst e
      exact call_S (ix := 66) (n := 3) (met_M_isIn l) ⟨ml_M_66, wq_M_isIn⟩ (by decide) (by decide) wn_M_isIn
    rw [if_neg e] at h
    by_cases e : ix = 772
    · rw [if_pos e] at h
      cases h
      subst e
      exact call_V (ix := 386) (n := 2) (ci := 10) (met_M_between l) ⟨ml_M_386, wq_M_between⟩ rfl (by decide) (by decide) wn_M_between
    rw [if_neg e] at h
    by_cases e : ix = 778
    · rw [if_pos e] at h
      cases h
      subst e
      exact call_V (ix := 389) (n := 1) (ci := 10) (met_M_laysAbove l) ⟨ml_M_389, wq_M_laysAbove⟩ rfl (by decide) (by decide) wn_M_laysAbove
    rw [if_neg e] at h
    by_cases e : ix = 784
    · rw [if_pos e] at h
      cases h
      subst e
      exact call_V (ix := 392) (n := 1) (ci := 10) (met_M_below l) ⟨ml_M_392, wq_M_below⟩ rfl (by decide) (by decide) wn_M_below
    rw [if_neg e] at h
    cases h)
theorem met_M_zone (l : Launch) : mMet l y_M_zone prog_13_method_88_code 5 (some .int) 2 f_M_zone := met_of (S := S_M_zone) (cx := cx_M_zone) (by decide) okI (fun h => der_M_zone h) hfx_M hpx_M hkx_M hsx_M (fun ix n g h => by
    unfold cx_M_zone at h
    by_cases e : ix = 496
    · rw [if_pos e] at h
      cases h
      subst e
      exact call_V (ix := 248) (n := 2) (ci := 10) (met_M_ofCar l) ⟨ml_M_248, wq_M_ofCar⟩ rfl (by decide) (by decide) wn_M_ofCar
    rw [if_neg e] at h
    by_cases e : ix = 766
    · rw [if_pos e] at h
      cases h
      subst e
      exact call_V (ix := 383) (n := 1) (ci := 10) (met_M_weight l) ⟨ml_M_383, wq_M_weight⟩ rfl (by decide) (by decide) wn_M_weight
    rw [if_neg e] at h
    cases h)
theorem gr_M_triesCuts : ∀ (k i : Nat) (as : List Value) (C : mMem) (q : Option Int32 × mMem), g_M_triesCuts k i as C = some q → rcv [10] (g_M_triesCuts k i) as C = some q := by
  intro k i as C q h
  cases k with
  | zero => cases h
  | succ k =>
    have e : ∃ f0, g_M_triesCuts (k + 1) i = rcv [10] f0 := by
      match i with
        | j => exact ⟨_, rfl⟩
    obtain ⟨f0, e⟩ := e
    rw [e] at h ⊢
    obtain ⟨kk, bs, h1, ⟨cj, fs, h2, h3⟩, h4⟩ := rcv_spec h
    cases List.mem_singleton.mp h3
    exact rcv_sub (cs := []) h1 h2 h
theorem ml_M_398 : Jvm.Cond.methodLink "FourCarsModel" 398 ⟨"FourCarsModel", "zone", "(II)I"⟩ ∈ gT := gt7 95 rfl rfl
theorem ml_M_401 : Jvm.Cond.methodLink "FourCarsModel" 401 ⟨"FourCarsModel", "triesCuts", "(IIII)V"⟩ ∈ gT := gt7 91 rfl rfl
set_option maxHeartbeats 4000000 in
theorem gm_M_triesCuts (l : Launch) : ∀ k : Nat, mMet l y_M_triesCuts prog_13_method_89_code 7 none (2 + k) (g_M_triesCuts k 0) := by
  intro k
  induction k with
  | zero => exact ((fun _ _ _ _ _ _ _ _ _ _ _ h => (by cases h)))
  | succ k ih =>
    have m0 : mMet l y_M_triesCuts prog_13_method_89_code 7 none (2 + (k + 1)) (g_M_triesCuts (k + 1) 0) := (met_of (S := S_M_triesCuts (g_M_triesCuts k 0)) (cx := cx_M_triesCuts (g_M_triesCuts k 0)) (by decide) okV (fun h => der_M_triesCuts (g_M_triesCuts k 0) h) hfx_M hpx_M hkx_M hsx_M (fun ix n g h => by
    unfold cx_M_triesCuts at h
    by_cases e : ix = 796
    · rw [if_pos e] at h
      cases h
      subst e
      exact call_V (ix := 398) (n := 2) (ci := 10) (met_M_zone l) ⟨ml_M_398, wq_M_zone⟩ rfl (by omega) (by decide) wn_M_zone
    rw [if_neg e] at h
    by_cases e : ix = 802
    · rw [if_pos e] at h
      cases h
      subst e
      exact call_rec (ix := 401) (n := 4) (ci := 10) (ih) (gr_M_triesCuts k 0) ⟨ml_M_401, wq_M_triesCuts⟩ rfl (by omega) (by decide) wn_M_triesCuts
    rw [if_neg e] at h
    cases h))
    exact m0
theorem met_M_triesCuts (l : Launch) : mMet l y_M_triesCuts prog_13_method_89_code 7 none 10 f_M_triesCuts := (gm_M_triesCuts l 8)
theorem met_M_zones (l : Launch) : mMet l y_M_zones prog_13_method_90_code 3 (some .int) 11 f_M_zones := met_of (S := S_M_zones) (cx := cx_M_zones) (by decide) okI (fun h => der_M_zones h) hfx_M hpx_M hkx_M hsx_M (fun ix n g h => by
    unfold cx_M_zones at h
    by_cases e : ix = 133
    · rw [if_pos e] at h
      cases h
      subst e
      exact call_S (ix := 66) (n := 3) (met_M_isIn l) ⟨ml_M_66, wq_M_isIn⟩ (by decide) (by decide) wn_M_isIn
    rw [if_neg e] at h
    by_cases e : ix = 802
    · rw [if_pos e] at h
      cases h
      subst e
      exact call_V (ix := 401) (n := 4) (ci := 10) (met_M_triesCuts l) ⟨ml_M_401, wq_M_triesCuts⟩ rfl (by decide) (by decide) wn_M_triesCuts
    rw [if_neg e] at h
    cases h)
theorem met_M_image (l : Launch) : mMet l y_M_image prog_13_method_91_code 3 (some .boolean) 1 f_M_image := met_of (S := S_M_image) (cx := cx_M_image) (by decide) okZ (fun h => der_M_image h) hfx_M hpx_M hkx_M hsx_M (fun ix n g h => by
    unfold cx_M_image at h
    cases h)
theorem met_M_inState (l : Launch) : mMet l y_M_inState prog_13_method_92_code 4 (some .int) 2 f_M_inState := met_of (S := S_M_inState) (cx := cx_M_inState) (by decide) okI (fun h => der_M_inState h) hfx_M hpx_M hkx_M hsx_M (fun ix n g h => by
    unfold cx_M_inState at h
    by_cases e : ix = 542
    · rw [if_pos e] at h
      cases h
      subst e
      exact call_V (ix := 271) (n := 2) (ci := 10) (met_M_own l) ⟨ml_M_271, wq_M_own⟩ rfl (by decide) (by decide) wn_M_own
    rw [if_neg e] at h
    cases h)
theorem ml_M_408 : Jvm.Cond.methodLink "FourCarsModel" 408 ⟨"FourCarsModel", "inState", "(I)I"⟩ ∈ gT := gt7 107 rfl rfl
theorem met_M_look (l : Launch) : mMet l y_M_look prog_13_method_93_code 2 (some .int) 3 f_M_look := met_of (S := S_M_look) (cx := cx_M_look) (by decide) okI (fun h => der_M_look h) hfx_M hpx_M hkx_M hsx_M (fun ix n g h => by
    unfold cx_M_look at h
    by_cases e : ix = 133
    · rw [if_pos e] at h
      cases h
      subst e
      exact call_S (ix := 66) (n := 3) (met_M_isIn l) ⟨ml_M_66, wq_M_isIn⟩ (by decide) (by decide) wn_M_isIn
    rw [if_neg e] at h
    by_cases e : ix = 766
    · rw [if_pos e] at h
      cases h
      subst e
      exact call_V (ix := 383) (n := 1) (ci := 10) (met_M_weight l) ⟨ml_M_383, wq_M_weight⟩ rfl (by decide) (by decide) wn_M_weight
    rw [if_neg e] at h
    by_cases e : ix = 816
    · rw [if_pos e] at h
      cases h
      subst e
      exact call_V (ix := 408) (n := 1) (ci := 10) (met_M_inState l) ⟨ml_M_408, wq_M_inState⟩ rfl (by decide) (by decide) wn_M_inState
    rw [if_neg e] at h
    cases h)

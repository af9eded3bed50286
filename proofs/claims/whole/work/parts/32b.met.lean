/-! CONTRACTS by program -/
theorem ml_Sc_65 : Jvm.Cond.methodLink "FourCars$Scene" 65 ⟨"FourCars$People", "become", "(LFourCars$People;)V"⟩ ∈ gT := gt4 117 rfl rfl
theorem ml_Sc_69 : Jvm.Cond.methodLink "FourCars$Scene" 69 ⟨"FourCars$Cars", "become", "(LFourCars$Cars;)V"⟩ ∈ gT := gt4 122 rfl rfl
theorem met_Sc_become (l : Launch) : mMet l y_Sc_become prog_8_method_3_code 2 none 2 f_Sc_become := met_of (S := S_Sc_become) (cx := cx_Sc_become) (by decide) okV (fun h => der_Sc_become h) hfx_Sc hpx_Sc hkx_Sc hsx_Sc (fun ix n g h => by
    unfold cx_Sc_become at h
    by_cases e : ix = 100
    · rw [if_pos e] at h
      cases h
      subst e
      exact call_V (ix := 50) (n := 0) (ci := 5) (met_Sc_forgetFun l) ⟨ml_Sc_50, wq_Sc_forgetFun⟩ rfl (by decide) (by decide) wn_Sc_forgetFun
    rw [if_neg e] at h
    by_cases e : ix = 130
    · rw [if_pos e] at h
      cases h
      subst e
      exact call_V (ix := 65) (n := 1) (ci := 3) (met_Pe_become l) ⟨ml_Sc_65, wq_Pe_become⟩ rfl (by decide) (by decide) wn_Pe_become
    rw [if_neg e] at h
    by_cases e : ix = 138
    · rw [if_pos e] at h
      cases h
      subst e
      exact call_V (ix := 69) (n := 1) (ci := 0) (met_Ca_become l) ⟨ml_Sc_69, wq_Ca_become⟩ rfl (by decide) (by decide) wn_Ca_become
    rw [if_neg e] at h
    cases h)
theorem met_Sc_toTheEnd (l : Launch) : mMet l y_Sc_toTheEnd prog_8_method_7_code 4 (some .int) 5 f_Sc_toTheEnd := met_of (S := S_Sc_toTheEnd) (cx := cx_Sc_toTheEnd) (by decide) okI (fun h => der_Sc_toTheEnd h) hfx_Sc hpx_Sc hkx_Sc hsx_Sc (fun ix n g h => by
    unfold cx_Sc_toTheEnd at h
    by_cases e : ix = 204
    · rw [if_pos e] at h
      cases h
      subst e
      exact call_V (ix := 102) (n := 1) (ci := 5) (met_Sc_goOn l) ⟨ml_Sc_102, wq_Sc_goOn⟩ rfl (by decide) (by decide) wn_Sc_goOn
    rw [if_neg e] at h
    by_cases e : ix = 212
    · rw [if_pos e] at h
      cases h
      subst e
      exact call_V (ix := 106) (n := 2) (ci := 5) (met_Sc_leap l) ⟨ml_Sc_106, wq_Sc_leap⟩ rfl (by decide) (by decide) wn_Sc_leap
    rw [if_neg e] at h
    cases h)
theorem ml_F_248 : Jvm.Cond.methodLink "FourCars" 248 ⟨"FourCars$Scene", "become", "(LFourCars$Scene;)V"⟩ ∈ gT := gt4 113 rfl rfl
theorem ml_F_251 : Jvm.Cond.methodLink "FourCars" 251 ⟨"FourCars$Scene", "toTheEnd", "(LFourCars$Rule;I)I"⟩ ∈ gT := gt4 126 rfl rfl
theorem met_F_think (l : Launch) : mMet l y_F_think prog_1_method_22_code 2 (some .int) 6 f_F_think := met_of (S := S_F_think) (cx := cx_F_think) (by decide) okI (fun h => der_F_think h) hfx_F hpx_F hkx_F hsx_F (fun ix n g h => by
    unfold cx_F_think at h
    by_cases e : ix = 496
    · rw [if_pos e] at h
      cases h
      subst e
      exact call_V (ix := 248) (n := 1) (ci := 5) (met_Sc_become l) ⟨ml_F_248, wq_Sc_become⟩ rfl (by decide) (by decide) wn_Sc_become
    rw [if_neg e] at h
    by_cases e : ix = 502
    · rw [if_pos e] at h
      cases h
      subst e
      exact call_V (ix := 251) (n := 2) (ci := 5) (met_Sc_toTheEnd l) ⟨ml_F_251, wq_Sc_toTheEnd⟩ rfl (by decide) (by decide) wn_Sc_toTheEnd
    rw [if_neg e] at h
    cases h)
theorem met_Pe_overOf (l : Launch) : mMet l y_Pe_overOf prog_6_method_15_code 2 (some .int) 1 f_Pe_overOf := met_of (S := S_Pe_overOf) (cx := cx_Pe_overOf) (by decide) okI (fun h => der_Pe_overOf h) hfx_Pe hpx_Pe hkx_Pe hsx_Pe (fun ix n g h => by
    unfold cx_Pe_overOf at h
    cases h)
theorem ml_Pe_80 : Jvm.Cond.methodLink "FourCars$People" 80 ⟨"FourCars$People", "overOf", "(I)I"⟩ ∈ gT := gt4 140 rfl rfl
theorem met_Pe_greatestOver (l : Launch) : mMet l y_Pe_greatestOver prog_6_method_17_code 3 (some .int) 2 f_Pe_greatestOver := met_of (S := S_Pe_greatestOver) (cx := cx_Pe_greatestOver) (by decide) okI (fun h => der_Pe_greatestOver h) hfx_Pe hpx_Pe hkx_Pe hsx_Pe (fun ix n g h => by
    unfold cx_Pe_greatestOver at h
    by_cases e : ix = 135
    · rw [if_pos e] at h
      cases h
      subst e
      exact call_max (ix := 67) ⟨ml_Pe_67, wm_max⟩ (by decide)
    rw [if_neg e] at h
    by_cases e : ix = 160
    · rw [if_pos e] at h
      cases h
      subst e
      exact call_V (ix := 80) (n := 1) (ci := 3) (met_Pe_overOf l) ⟨ml_Pe_80, wq_Pe_overOf⟩ rfl (by decide) (by decide) wn_Pe_overOf
    rw [if_neg e] at h
    cases h)
theorem ml_Pe_73 : Jvm.Cond.methodLink "FourCars$People" 73 ⟨"FourCars$People", "waitAdded", "()I"⟩ ∈ gT := gt4 134 rfl rfl
theorem ml_Pe_77 : Jvm.Cond.methodLink "FourCars$People" 77 ⟨"FourCars$People", "rideAdded", "()I"⟩ ∈ gT := gt4 135 rfl rfl
theorem met_Pe_overAdded (l : Launch) : mMet l y_Pe_overAdded prog_6_method_16_code 1 (some .int) 2 f_Pe_overAdded := met_of (S := S_Pe_overAdded) (cx := cx_Pe_overAdded) (by decide) okI (fun h => der_Pe_overAdded h) hfx_Pe hpx_Pe hkx_Pe hsx_Pe (fun ix n g h => by
    unfold cx_Pe_overAdded at h
    by_cases e : ix = 146
    · rw [if_pos e] at h
      cases h
      subst e
      exact call_V (ix := 73) (n := 0) (ci := 3) (met_Pe_waitAdded l) ⟨ml_Pe_73, wq_Pe_waitAdded⟩ rfl (by decide) (by decide) wn_Pe_waitAdded
    rw [if_neg e] at h
    by_cases e : ix = 154
    · rw [if_pos e] at h
      cases h
      subst e
      exact call_V (ix := 77) (n := 0) (ci := 3) (met_Pe_rideAdded l) ⟨ml_Pe_77, wq_Pe_rideAdded⟩ rfl (by decide) (by decide) wn_Pe_rideAdded
    rw [if_neg e] at h
    cases h)
theorem ml_F_239 : Jvm.Cond.methodLink "FourCars" 239 ⟨"FourCars", "think", "(I)I"⟩ ∈ gT := gt4 109 rfl rfl
theorem ml_F_242 : Jvm.Cond.methodLink "FourCars" 242 ⟨"FourCars$People", "overAdded", "()I"⟩ ∈ gT := gt4 130 rfl rfl
theorem ml_F_245 : Jvm.Cond.methodLink "FourCars" 245 ⟨"FourCars$People", "greatestOver", "()I"⟩ ∈ gT := gt4 136 rfl rfl
theorem met_F_thought (l : Launch) : mMet l y_F_thought prog_1_method_21_code 4 (some .int) 7 f_F_thought := met_of (S := S_F_thought) (cx := cx_F_thought) (by decide) okI (fun h => der_F_thought h) hfx_F hpx_F hkx_F hsx_F (fun ix n g h => by
    unfold cx_F_thought at h
    by_cases e : ix = 331
    · rw [if_pos e] at h
      cases h
      subst e
      exact call_S (ix := 165) (n := 1) (met_F_isRule l) ⟨ml_F_165, wq_F_isRule⟩ (by decide) (by decide) wn_F_isRule
    rw [if_neg e] at h
    by_cases e : ix = 478
    · rw [if_pos e] at h
      cases h
      subst e
      exact call_V (ix := 239) (n := 1) (ci := 9) (met_F_think l) ⟨ml_F_239, wq_F_think⟩ rfl (by decide) (by decide) wn_F_think
    rw [if_neg e] at h
    by_cases e : ix = 484
    · rw [if_pos e] at h
      cases h
      subst e
      exact call_V (ix := 242) (n := 0) (ci := 3) (met_Pe_overAdded l) ⟨ml_F_242, wq_Pe_overAdded⟩ rfl (by decide) (by decide) wn_Pe_overAdded
    rw [if_neg e] at h
    by_cases e : ix = 490
    · rw [if_pos e] at h
      cases h
      subst e
      exact call_V (ix := 245) (n := 0) (ci := 3) (met_Pe_greatestOver l) ⟨ml_F_245, wq_Pe_greatestOver⟩ rfl (by decide) (by decide) wn_Pe_greatestOver
    rw [if_neg e] at h
    cases h)
theorem met_F_overOf (l : Launch) : mMet l y_F_overOf prog_1_method_24_code 2 (some .int) 7 f_F_overOf := met_of (S := S_F_overOf) (cx := cx_F_overOf) (by decide) okI (fun h => der_F_overOf h) hfx_F hpx_F hkx_F hsx_F (fun ix n g h => by
    unfold cx_F_overOf at h
    by_cases e : ix = 478
    · rw [if_pos e] at h
      cases h
      subst e
      exact call_V (ix := 239) (n := 1) (ci := 9) (met_F_think l) ⟨ml_F_239, wq_F_think⟩ rfl (by decide) (by decide) wn_F_think
    rw [if_neg e] at h
    by_cases e : ix = 484
    · rw [if_pos e] at h
      cases h
      subst e
      exact call_V (ix := 242) (n := 0) (ci := 3) (met_Pe_overAdded l) ⟨ml_F_242, wq_Pe_overAdded⟩ rfl (by decide) (by decide) wn_Pe_overAdded
    rw [if_neg e] at h
    cases h)
theorem ml_F_255 : Jvm.Cond.methodLink "FourCars" 255 ⟨"java/lang/Math", "min", "(II)I"⟩ ∈ gT := gt4 148 rfl rfl
theorem ml_F_260 : Jvm.Cond.methodLink "FourCars" 260 ⟨"java/lang/Math", "max", "(II)I"⟩ ∈ gT := gt4 149 rfl rfl
theorem ml_F_263 : Jvm.Cond.methodLink "FourCars" 263 ⟨"FourCars", "overOf", "(I)I"⟩ ∈ gT := gt4 150 rfl rfl
theorem met_F_better (l : Launch) : mMet l y_F_better prog_1_method_23_code 5 (some .int) 8 f_F_better := met_of (S := S_F_better) (cx := cx_F_better) (by decide) okI (fun h => der_F_better h) hfx_F hpx_F hkx_F hsx_F (fun ix n g h => by
    unfold cx_F_better at h
    by_cases e : ix = 331
    · rw [if_pos e] at h
      cases h
      subst e
      exact call_S (ix := 165) (n := 1) (met_F_isRule l) ⟨ml_F_165, wq_F_isRule⟩ (by decide) (by decide) wn_F_isRule
    rw [if_neg e] at h
    by_cases e : ix = 511
    · rw [if_pos e] at h
      cases h
      subst e
      exact call_min (ix := 255) ⟨ml_F_255, wm_min⟩ (by decide)
    rw [if_neg e] at h
    by_cases e : ix = 521
    · rw [if_pos e] at h
      cases h
      subst e
      exact call_max (ix := 260) ⟨ml_F_260, wm_max⟩ (by decide)
    rw [if_neg e] at h
    by_cases e : ix = 526
    · rw [if_pos e] at h
      cases h
      subst e
      exact call_V (ix := 263) (n := 1) (ci := 9) (met_F_overOf l) ⟨ml_F_263, wq_F_overOf⟩ rfl (by decide) (by decide) wn_F_overOf
    rw [if_neg e] at h
    cases h)
theorem met_F_overOfWay (l : Launch) : mMet l y_F_overOfWay prog_1_method_31_code 8 (some .int) 1 f_F_overOfWay := met_of (S := S_F_overOfWay) (cx := cx_F_overOfWay) (by decide) okI (fun h => der_F_overOfWay h) hfx_F hpx_F hkx_F hsx_F (fun ix n g h => by
    unfold cx_F_overOfWay at h
    cases h)
theorem ml_F_279 : Jvm.Cond.methodLink "FourCars" 279 ⟨"FourCars", "overOfWay", "(III)I"⟩ ∈ gT := gt4 192 rfl rfl
theorem met_F_bestWay (l : Launch) : mMet l y_F_bestWay prog_1_method_30_code 8 (some .int) 2 f_F_bestWay := met_of (S := S_F_bestWay) (cx := cx_F_bestWay) (by decide) okI (fun h => der_F_bestWay h) hfx_F hpx_F hkx_F hsx_F (fun ix n g h => by
    unfold cx_F_bestWay at h
    by_cases e : ix = 558
    · rw [if_pos e] at h
      cases h
      subst e
      exact call_V (ix := 279) (n := 3) (ci := 9) (met_F_overOfWay l) ⟨ml_F_279, wq_F_overOfWay⟩ rfl (by decide) (by decide) wn_F_overOfWay
    rw [if_neg e] at h
    cases h)
theorem met_F_carInWay (l : Launch) : mMet l y_F_carInWay prog_1_method_32_code 6 (some .int) 1 f_F_carInWay := met_of (S := S_F_carInWay) (cx := cx_F_carInWay) (by decide) okI0 (fun h => der_F_carInWay h) hfx_F hpx_F hkx_F hsx_F (fun ix n g h => by
    unfold cx_F_carInWay at h
    cases h)
theorem met_F_hasBest (l : Launch) : mMet l y_F_hasBest prog_1_method_26_code 3 (some .boolean) 1 f_F_hasBest := met_of (S := S_F_hasBest) (cx := cx_F_hasBest) (by decide) okZ (fun h => der_F_hasBest h) hfx_F hpx_F hkx_F hsx_F (fun ix n g h => by
    unfold cx_F_hasBest at h
    cases h)
theorem ml_F_312 : Jvm.Cond.methodLink "FourCars" 312 ⟨"FourCars$Tower", "servesBoth", "(III)Z"⟩ ∈ gT := gt4 175 rfl rfl
theorem met_F_servesGroup (l : Launch) : mMet l y_F_servesGroup prog_1_method_29_code 5 (some .boolean) 3 f_F_servesGroup := met_of (S := S_F_servesGroup) (cx := cx_F_servesGroup) (by decide) okZ (fun h => der_F_servesGroup h) hfx_F hpx_F hkx_F hsx_F (fun ix n g h => by
    unfold cx_F_servesGroup at h
    by_cases e : ix = 624
    · rw [if_pos e] at h
      cases h
      subst e
      exact call_V (ix := 312) (n := 3) (ci := 7) (met_Tw_servesBoth l) ⟨ml_F_312, wq_Tw_servesBoth⟩ rfl (by decide) (by decide) wn_Tw_servesBoth
    rw [if_neg e] at h
    cases h)
theorem ml_Pe_52 : Jvm.Cond.methodLink "FourCars$People" 52 ⟨"FourCars$People", "clear", "()V"⟩ ∈ gT := gt4 184 rfl rfl
theorem ml_Pe_55 : Jvm.Cond.methodLink "FourCars$People" 55 ⟨"FourCars$People", "add", "(III)V"⟩ ∈ gT := gt4 185 rfl rfl
theorem ml_Pe_59 : Jvm.Cond.methodLink "FourCars$People" 59 ⟨"FourCars$People", "come", "(I)V"⟩ ∈ gT := gt4 186 rfl rfl
theorem met_Pe_becomePart (l : Launch) : mMet l y_Pe_becomePart prog_6_method_5_code 4 none 2 f_Pe_becomePart := met_of (S := S_Pe_becomePart) (cx := cx_Pe_becomePart) (by decide) okV (fun h => der_Pe_becomePart h) hfx_Pe hpx_Pe hkx_Pe hsx_Pe (fun ix n g h => by
    unfold cx_Pe_becomePart at h
    by_cases e : ix = 104
    · rw [if_pos e] at h
      cases h
      subst e
      exact call_V (ix := 52) (n := 0) (ci := 3) (met_Pe_clear l) ⟨ml_Pe_52, wq_Pe_clear⟩ rfl (by decide) (by decide) wn_Pe_clear
    rw [if_neg e] at h
    by_cases e : ix = 110
    · rw [if_pos e] at h
      cases h
      subst e
      exact call_V (ix := 55) (n := 3) (ci := 3) (met_Pe_add l) ⟨ml_Pe_55, wq_Pe_add⟩ rfl (by decide) (by decide) wn_Pe_add
    rw [if_neg e] at h
    by_cases e : ix = 118
    · rw [if_pos e] at h
      cases h
      subst e
      exact call_V (ix := 59) (n := 1) (ci := 3) (met_Pe_come l) ⟨ml_Pe_59, wq_Pe_come⟩ rfl (by decide) (by decide) wn_Pe_come
    rw [if_neg e] at h
    cases h)
theorem ml_Sc_72 : Jvm.Cond.methodLink "FourCars$Scene" 72 ⟨"FourCars$People", "becomePart", "(LFourCars$People;I)V"⟩ ∈ gT := gt4 180 rfl rfl
theorem met_Sc_becomePart (l : Launch) : mMet l y_Sc_becomePart prog_8_method_4_code 5 none 3 f_Sc_becomePart := met_of (S := S_Sc_becomePart) (cx := cx_Sc_becomePart) (by decide) okV (fun h => der_Sc_becomePart h) hfx_Sc hpx_Sc hkx_Sc hsx_Sc (fun ix n g h => by
    unfold cx_Sc_becomePart at h
    by_cases e : ix = 100
    · rw [if_pos e] at h
      cases h
      subst e
      exact call_V (ix := 50) (n := 0) (ci := 5) (met_Sc_forgetFun l) ⟨ml_Sc_50, wq_Sc_forgetFun⟩ rfl (by decide) (by decide) wn_Sc_forgetFun
    rw [if_neg e] at h
    by_cases e : ix = 138
    · rw [if_pos e] at h
      cases h
      subst e
      exact call_V (ix := 69) (n := 1) (ci := 0) (met_Ca_become l) ⟨ml_Sc_69, wq_Ca_become⟩ rfl (by decide) (by decide) wn_Ca_become
    rw [if_neg e] at h
    by_cases e : ix = 144
    · rw [if_pos e] at h
      cases h
      subst e
      exact call_V (ix := 72) (n := 2) (ci := 3) (met_Pe_becomePart l) ⟨ml_Sc_72, wq_Pe_becomePart⟩ rfl (by decide) (by decide) wn_Pe_becomePart
    rw [if_neg e] at h
    cases h)
theorem ml_F_296 : Jvm.Cond.methodLink "FourCars" 296 ⟨"FourCars", "servesGroup", "(II)Z"⟩ ∈ gT := gt4 171 rfl rfl
theorem ml_F_299 : Jvm.Cond.methodLink "FourCars" 299 ⟨"FourCars$Scene", "becomePart", "(LFourCars$Scene;II)V"⟩ ∈ gT := gt4 176 rfl rfl
theorem ml_F_303 : Jvm.Cond.methodLink "FourCars" 303 ⟨"FourCars$Rule", "clear", "()V"⟩ ∈ gT := gt4 187 rfl rfl
theorem met_F_weighGroup (l : Launch) : mMet l y_F_weighGroup prog_1_method_28_code 4 (some .int) 6 f_F_weighGroup := met_of (S := S_F_weighGroup) (cx := cx_F_weighGroup) (by decide) okI (fun h => der_F_weighGroup h) hfx_F hpx_F hkx_F hsx_F (fun ix n g h => by
    unfold cx_F_weighGroup at h
    by_cases e : ix = 484
    · rw [if_pos e] at h
      cases h
      subst e
      exact call_V (ix := 242) (n := 0) (ci := 3) (met_Pe_overAdded l) ⟨ml_F_242, wq_Pe_overAdded⟩ rfl (by decide) (by decide) wn_Pe_overAdded
    rw [if_neg e] at h
    by_cases e : ix = 502
    · rw [if_pos e] at h
      cases h
      subst e
      exact call_V (ix := 251) (n := 2) (ci := 5) (met_Sc_toTheEnd l) ⟨ml_F_251, wq_Sc_toTheEnd⟩ rfl (by decide) (by decide) wn_Sc_toTheEnd
    rw [if_neg e] at h
    by_cases e : ix = 592
    · rw [if_pos e] at h
      cases h
      subst e
      exact call_V (ix := 296) (n := 2) (ci := 9) (met_F_servesGroup l) ⟨ml_F_296, wq_F_servesGroup⟩ rfl (by decide) (by decide) wn_F_servesGroup
    rw [if_neg e] at h
    by_cases e : ix = 598
    · rw [if_pos e] at h
      cases h
      subst e
      exact call_V (ix := 299) (n := 3) (ci := 5) (met_Sc_becomePart l) ⟨ml_F_299, wq_Sc_becomePart⟩ rfl (by decide) (by decide) wn_Sc_becomePart
    rw [if_neg e] at h
    by_cases e : ix = 606
    · rw [if_pos e] at h
      cases h
      subst e
      exact call_V (ix := 303) (n := 0) (ci := 4) (met_Ru_clear l) ⟨ml_F_303, wq_Ru_clear⟩ rfl (by decide) (by decide) wn_Ru_clear
    rw [if_neg e] at h
    cases h)
theorem ml_F_293 : Jvm.Cond.methodLink "FourCars" 293 ⟨"FourCars", "weighGroup", "(II)I"⟩ ∈ gT := gt4 167 rfl rfl
theorem met_F_weighGroups (l : Launch) : mMet l y_F_weighGroups prog_1_method_27_code 5 none 7 f_F_weighGroups := met_of (S := S_F_weighGroups) (cx := cx_F_weighGroups) (by decide) okV (fun h => der_F_weighGroups h) hfx_F hpx_F hkx_F hsx_F (fun ix n g h => by
    unfold cx_F_weighGroups at h
    by_cases e : ix = 586
    · rw [if_pos e] at h
      cases h
      subst e
      exact call_V (ix := 293) (n := 2) (ci := 9) (met_F_weighGroup l) ⟨ml_F_293, wq_F_weighGroup⟩ rfl (by decide) (by decide) wn_F_weighGroup
    rw [if_neg e] at h
    cases h)
theorem ml_F_267 : Jvm.Cond.methodLink "FourCars" 267 ⟨"FourCars", "hasBest", "()Z"⟩ ∈ gT := gt4 159 rfl rfl
theorem ml_F_273 : Jvm.Cond.methodLink "FourCars" 273 ⟨"FourCars", "weighGroups", "(II)V"⟩ ∈ gT := gt4 163 rfl rfl
theorem ml_F_276 : Jvm.Cond.methodLink "FourCars" 276 ⟨"FourCars", "bestWay", "(II)I"⟩ ∈ gT := gt4 188 rfl rfl
theorem ml_F_283 : Jvm.Cond.methodLink "FourCars" 283 ⟨"FourCars", "carInWay", "(IIII)I"⟩ ∈ gT := gt4 196 rfl rfl
theorem met_F_best (l : Launch) : mMet l y_F_best prog_1_method_25_code 5 (some .int) 8 f_F_best := met_of (S := S_F_best) (cx := cx_F_best) (by decide) okI (fun h => der_F_best h) hfx_F hpx_F hkx_F hsx_F (fun ix n g h => by
    unfold cx_F_best at h
    by_cases e : ix = 534
    · rw [if_pos e] at h
      cases h
      subst e
      exact call_V (ix := 267) (n := 0) (ci := 9) (met_F_hasBest l) ⟨ml_F_267, wq_F_hasBest⟩ rfl (by decide) (by decide) wn_F_hasBest
    rw [if_neg e] at h
    by_cases e : ix = 546
    · rw [if_pos e] at h
      cases h
      subst e
      exact call_V (ix := 273) (n := 2) (ci := 9) (met_F_weighGroups l) ⟨ml_F_273, wq_F_weighGroups⟩ rfl (by decide) (by decide) wn_F_weighGroups
    rw [if_neg e] at h
    by_cases e : ix = 552
    · rw [if_pos e] at h
      cases h
      subst e
      exact call_V (ix := 276) (n := 2) (ci := 9) (met_F_bestWay l) ⟨ml_F_276, wq_F_bestWay⟩ rfl (by decide) (by decide) wn_F_bestWay
    rw [if_neg e] at h
    by_cases e : ix = 558
    · rw [if_pos e] at h
      cases h
      subst e
      exact call_V (ix := 279) (n := 3) (ci := 9) (met_F_overOfWay l) ⟨ml_F_279, wq_F_overOfWay⟩ rfl (by decide) (by decide) wn_F_overOfWay
    rw [if_neg e] at h
    by_cases e : ix = 567
    · rw [if_pos e] at h
      cases h
      subst e
      exact call_S (ix := 283) (n := 4) (met_F_carInWay l) ⟨ml_F_283, wq_F_carInWay⟩ (by decide) (by decide) wn_F_carInWay
    rw [if_neg e] at h
    cases h)
theorem met_F_hasMornings (l : Launch) : mMet l y_F_hasMornings prog_1_method_34_code 1 (some .boolean) 1 f_F_hasMornings := met_of (S := S_F_hasMornings) (cx := cx_F_hasMornings) (by decide) okZ (fun h => der_F_hasMornings h) hfx_F hpx_F hkx_F hsx_F (fun ix n g h => by
    unfold cx_F_hasMornings at h
    cases h)
theorem met_F_addCall (l : Launch) : mMet l y_F_addCall prog_1_method_39_code 5 none 2 f_F_addCall := met_of (S := S_F_addCall) (cx := cx_F_addCall) (by decide) okV (fun h => der_F_addCall h) hfx_F hpx_F hkx_F hsx_F (fun ix n g h => by
    unfold cx_F_addCall at h
    by_cases e : ix = 296
    · rw [if_pos e] at h
      cases h
      subst e
      exact call_V (ix := 148) (n := 3) (ci := 3) (met_Pe_add l) ⟨ml_F_148, wq_Pe_add⟩ rfl (by decide) (by decide) wn_Pe_add
    rw [if_neg e] at h
    cases h)
theorem ml_F_342 : Jvm.Cond.methodLink "FourCars" 342 ⟨"FourCars$Scene", "begin", "()V"⟩ ∈ gT := gt4 219 rfl rfl
theorem ml_F_343 : Jvm.Cond.methodLink "FourCars" 343 ⟨"FourCars", "addCall", "(II)V"⟩ ∈ gT := gt4 220 rfl rfl
theorem met_F_beginMorning (l : Launch) : mMet l y_F_beginMorning prog_1_method_38_code 5 none 4 f_F_beginMorning := met_of (S := S_F_beginMorning) (cx := cx_F_beginMorning) (by decide) okV (fun h => der_F_beginMorning h) hfx_F hpx_F hkx_F hsx_F (fun ix n g h => by
    unfold cx_F_beginMorning at h
    by_cases e : ix = 684
    · rw [if_pos e] at h
      cases h
      subst e
      exact call_V (ix := 342) (n := 0) (ci := 5) (met_Sc_begin l) ⟨ml_F_342, wq_Sc_begin⟩ rfl (by decide) (by decide) wn_Sc_begin
    rw [if_neg e] at h
    by_cases e : ix = 686
    · rw [if_pos e] at h
      cases h
      subst e
      exact call_V (ix := 343) (n := 2) (ci := 9) (met_F_addCall l) ⟨ml_F_343, wq_F_addCall⟩ rfl (by decide) (by decide) wn_F_addCall
    rw [if_neg e] at h
    cases h)
theorem ml_F_332 : Jvm.Cond.methodLink "FourCars" 332 ⟨"FourCars", "beginMorning", "(II)V"⟩ ∈ gT := gt4 215 rfl rfl
theorem ml_F_335 : Jvm.Cond.methodLink "FourCars" 335 ⟨"FourCars$Scene", "goOn", "(LFourCars$Rule;)V"⟩ ∈ gT := gt4 224 rfl rfl
theorem met_F_firstGiving (l : Launch) : mMet l y_F_firstGiving prog_1_method_36_code 6 (some .int) 5 f_F_firstGiving := met_of (S := S_F_firstGiving) (cx := cx_F_firstGiving) (by decide) okI (fun h => der_F_firstGiving h) hfx_F hpx_F hkx_F hsx_F (fun ix n g h => by
    unfold cx_F_firstGiving at h
    by_cases e : ix = 664
    · rw [if_pos e] at h
      cases h
      subst e
      exact call_V (ix := 332) (n := 2) (ci := 9) (met_F_beginMorning l) ⟨ml_F_332, wq_F_beginMorning⟩ rfl (by decide) (by decide) wn_F_beginMorning
    rw [if_neg e] at h
    by_cases e : ix = 670
    · rw [if_pos e] at h
      cases h
      subst e
      exact call_V (ix := 335) (n := 1) (ci := 5) (met_Sc_goOn l) ⟨ml_F_335, wq_Sc_goOn⟩ rfl (by decide) (by decide) wn_Sc_goOn
    rw [if_neg e] at h
    cases h)
theorem met_F_overOfMorning (l : Launch) : mMet l y_F_overOfMorning prog_1_method_37_code 5 (some .int) 6 f_F_overOfMorning := met_of (S := S_F_overOfMorning) (cx := cx_F_overOfMorning) (by decide) okI (fun h => der_F_overOfMorning h) hfx_F hpx_F hkx_F hsx_F (fun ix n g h => by
    unfold cx_F_overOfMorning at h
    by_cases e : ix = 484
    · rw [if_pos e] at h
      cases h
      subst e
      exact call_V (ix := 242) (n := 0) (ci := 3) (met_Pe_overAdded l) ⟨ml_F_242, wq_Pe_overAdded⟩ rfl (by decide) (by decide) wn_Pe_overAdded
    rw [if_neg e] at h
    by_cases e : ix = 502
    · rw [if_pos e] at h
      cases h
      subst e
      exact call_V (ix := 251) (n := 2) (ci := 5) (met_Sc_toTheEnd l) ⟨ml_F_251, wq_Sc_toTheEnd⟩ rfl (by decide) (by decide) wn_Sc_toTheEnd
    rw [if_neg e] at h
    by_cases e : ix = 664
    · rw [if_pos e] at h
      cases h
      subst e
      exact call_V (ix := 332) (n := 2) (ci := 9) (met_F_beginMorning l) ⟨ml_F_332, wq_F_beginMorning⟩ rfl (by decide) (by decide) wn_F_beginMorning
    rw [if_neg e] at h
    cases h)
theorem ml_F_326 : Jvm.Cond.methodLink "FourCars" 326 ⟨"FourCars", "firstGiving", "(III)I"⟩ ∈ gT := gt4 211 rfl rfl
theorem ml_F_329 : Jvm.Cond.methodLink "FourCars" 329 ⟨"FourCars", "overOfMorning", "(III)I"⟩ ∈ gT := gt4 225 rfl rfl
theorem met_F_isWorse (l : Launch) : mMet l y_F_isWorse prog_1_method_35_code 7 (some .boolean) 7 f_F_isWorse := met_of (S := S_F_isWorse) (cx := cx_F_isWorse) (by decide) okZ (fun h => der_F_isWorse h) hfx_F hpx_F hkx_F hsx_F (fun ix n g h => by
    unfold cx_F_isWorse at h
    by_cases e : ix = 652
    · rw [if_pos e] at h
      cases h
      subst e
      exact call_V (ix := 326) (n := 3) (ci := 9) (met_F_firstGiving l) ⟨ml_F_326, wq_F_firstGiving⟩ rfl (by decide) (by decide) wn_F_firstGiving
    rw [if_neg e] at h
    by_cases e : ix = 658
    · rw [if_pos e] at h
      cases h
      subst e
      exact call_V (ix := 329) (n := 3) (ci := 9) (met_F_overOfMorning l) ⟨ml_F_329, wq_F_overOfMorning⟩ rfl (by decide) (by decide) wn_F_overOfMorning
    rw [if_neg e] at h
    cases h)
theorem ml_F_316 : Jvm.Cond.methodLink "FourCars" 316 ⟨"FourCars", "hasMornings", "()Z"⟩ ∈ gT := gt4 203 rfl rfl
theorem ml_F_322 : Jvm.Cond.methodLink "FourCars" 322 ⟨"FourCars", "isWorse", "(IIII)Z"⟩ ∈ gT := gt4 207 rfl rfl
theorem met_F_mornings (l : Launch) : mMet l y_F_mornings prog_1_method_33_code 8 (some .int) 8 f_F_mornings := met_of (S := S_F_mornings) (cx := cx_F_mornings) (by decide) okI (fun h => der_F_mornings h) hfx_F hpx_F hkx_F hsx_F (fun ix n g h => by
    unfold cx_F_mornings at h
    by_cases e : ix = 331
    · rw [if_pos e] at h
      cases h
      subst e
      exact call_S (ix := 165) (n := 1) (met_F_isRule l) ⟨ml_F_165, wq_F_isRule⟩ (by decide) (by decide) wn_F_isRule
    rw [if_neg e] at h
    by_cases e : ix = 632
    · rw [if_pos e] at h
      cases h
      subst e
      exact call_V (ix := 316) (n := 0) (ci := 9) (met_F_hasMornings l) ⟨ml_F_316, wq_F_hasMornings⟩ rfl (by decide) (by decide) wn_F_hasMornings
    rw [if_neg e] at h
    by_cases e : ix = 644
    · rw [if_pos e] at h
      cases h
      subst e
      exact call_V (ix := 322) (n := 4) (ci := 9) (met_F_isWorse l) ⟨ml_F_322, wq_F_isWorse⟩ rfl (by decide) (by decide) wn_F_isWorse
    rw [if_neg e] at h
    cases h)
theorem ml_F_347 : Jvm.Cond.methodLink "FourCars" 347 ⟨"FourCars$People", "overOf", "(I)I"⟩ ∈ gT := gt4 235 rfl rfl
theorem met_F_fun (l : Launch) : mMet l y_F_fun prog_1_method_40_code 5 (some .int) 7 f_F_fun := met_of (S := S_F_fun) (cx := cx_F_fun) (by decide) okI (fun h => der_F_fun h) hfx_F hpx_F hkx_F hsx_F (fun ix n g h => by
    unfold cx_F_fun at h
    by_cases e : ix = 288
    · rw [if_pos e] at h
      cases h
      subst e
      exact call_V (ix := 144) (n := 1) (ci := 7) (met_Tw_hasFloor l) ⟨ml_F_144, wq_Tw_hasFloor⟩ rfl (by decide) (by decide) wn_Tw_hasFloor
    rw [if_neg e] at h
    by_cases e : ix = 424
    · rw [if_pos e] at h
      cases h
      subst e
      exact call_V (ix := 212) (n := 1) (ci := 3) (met_Pe_waits l) ⟨ml_F_212, wq_Pe_waits⟩ rfl (by decide) (by decide) wn_Pe_waits
    rw [if_neg e] at h
    by_cases e : ix = 478
    · rw [if_pos e] at h
      cases h
      subst e
      exact call_V (ix := 239) (n := 1) (ci := 9) (met_F_think l) ⟨ml_F_239, wq_F_think⟩ rfl (by decide) (by decide) wn_F_think
    rw [if_neg e] at h
    by_cases e : ix = 484
    · rw [if_pos e] at h
      cases h
      subst e
      exact call_V (ix := 242) (n := 0) (ci := 3) (met_Pe_overAdded l) ⟨ml_F_242, wq_Pe_overAdded⟩ rfl (by decide) (by decide) wn_Pe_overAdded
    rw [if_neg e] at h
    by_cases e : ix = 496
    · rw [if_pos e] at h
      cases h
      subst e
      exact call_V (ix := 248) (n := 1) (ci := 5) (met_Sc_become l) ⟨ml_F_248, wq_Sc_become⟩ rfl (by decide) (by decide) wn_Sc_become
    rw [if_neg e] at h
    by_cases e : ix = 502
    · rw [if_pos e] at h
      cases h
      subst e
      exact call_V (ix := 251) (n := 2) (ci := 5) (met_Sc_toTheEnd l) ⟨ml_F_251, wq_Sc_toTheEnd⟩ rfl (by decide) (by decide) wn_Sc_toTheEnd
    rw [if_neg e] at h
    by_cases e : ix = 694
    · rw [if_pos e] at h
      cases h
      subst e
      exact call_V (ix := 347) (n := 1) (ci := 3) (met_Pe_overOf l) ⟨ml_F_347, wq_Pe_overOf⟩ rfl (by decide) (by decide) wn_Pe_overOf
    rw [if_neg e] at h
    cases h)
theorem met_Ch_weightOf (l : Launch) : mMet l y_Ch_weightOf prog_3_method_4_code 3 (some .int) 1 f_Ch_weightOf := met_of (S := S_Ch_weightOf) (cx := cx_Ch_weightOf) (by decide) okI (fun h => der_Ch_weightOf h) hfx_Ch hpx_Ch hkx_Ch hsx_Ch (fun ix n g h => by
    unfold cx_Ch_weightOf at h
    cases h)
theorem ml_Ch_31 : Jvm.Cond.methodLink "FourCars$Chain" 31 ⟨"FourCars$Chain", "weightOf", "(II)I"⟩ ∈ gT := gt5 27 rfl rfl
theorem met_Ch_distanceOf (l : Launch) : mMet l y_Ch_distanceOf prog_3_method_5_code 4 (some .int) 2 f_Ch_distanceOf := met_of (S := S_Ch_distanceOf) (cx := cx_Ch_distanceOf) (by decide) okI (fun h => der_Ch_distanceOf h) hfx_Ch hpx_Ch hkx_Ch hsx_Ch (fun ix n g h => by
    unfold cx_Ch_distanceOf at h
    by_cases e : ix = 62
    · rw [if_pos e] at h
      cases h
      subst e
      exact call_two (call_U (own := "FourCars$Chain") (ix := 31) (n := 2) (ci := 1) (x := ⟨"FourCars$Chain", "weightOf", "(II)I"⟩) (C := "FourCars$Gaps") (owner := "FourCars$Chain") (met_Ch_weightOf l) ⟨ml_Ch_31, gt5 29 rfl rfl, wq_Ch_weightOf.1, wq_Ch_weightOf.2.1, wq_Ch_weightOf.2.2, fun args s hts => hts _ (gt5 30 rfl rfl), fun args s hts _ => va_Decl.of (hts _ wq_Ch_weightOf.1) (hts _ wq_Ch_weightOf.2.2)⟩ rfl (by decide) (by decide) (by decide +kernel)) (call_U (own := "FourCars$Chain") (ix := 31) (n := 2) (ci := 2) (x := ⟨"FourCars$Chain", "weightOf", "(II)I"⟩) (C := "FourCars$Parts") (owner := "FourCars$Chain") (met_Ch_weightOf l) ⟨ml_Ch_31, gt5 29 rfl rfl, wq_Ch_weightOf.1, wq_Ch_weightOf.2.1, wq_Ch_weightOf.2.2, fun args s hts => hts _ (gt5 31 rfl rfl), fun args s hts _ => va_Decl.of (hts _ wq_Ch_weightOf.1) (hts _ wq_Ch_weightOf.2.2)⟩ rfl (by decide) (by decide) (by decide +kernel)) rcv_two
    rw [if_neg e] at h
    cases h)
theorem ml_Ga_9 : Jvm.Cond.methodLink "FourCars$Gaps" 9 ⟨"FourCars$Gaps", "distanceOf", "(III)I"⟩ ∈ gT := gt5 21 rfl rfl
theorem met_Ga_piece (l : Launch) : mMet l y_Ga_piece prog_4_method_2_code 4 (some .int) 3 f_Ga_piece := met_of (S := S_Ga_piece) (cx := cx_Ga_piece) (by decide) okI (fun h => der_Ga_piece h) hfx_Ga hpx_Ga hkx_Ga hsx_Ga (fun ix n g h => by
    unfold cx_Ga_piece at h
    by_cases e : ix = 18
    · rw [if_pos e] at h
      cases h
      subst e
      exact (call_U (own := "FourCars$Gaps") (ix := 9) (n := 3) (ci := 1) (x := ⟨"FourCars$Gaps", "distanceOf", "(III)I"⟩) (C := "FourCars$Gaps") (owner := "FourCars$Chain") (met_Ch_distanceOf l) ⟨ml_Ga_9, gt5 22 rfl rfl, wq_Ch_distanceOf.1, wq_Ch_distanceOf.2.1, wq_Ch_distanceOf.2.2, fun args s hts => hts _ (gt5 24 rfl rfl), fun args s hts _ => va_Decl.of (hts _ wq_Ch_distanceOf.1) (hts _ wq_Ch_distanceOf.2.2)⟩ rfl (by decide) (by decide) (by decide +kernel))
    rw [if_neg e] at h
    cases h)
theorem ml_Pa_18 : Jvm.Cond.methodLink "FourCars$Parts" 18 ⟨"FourCars$Parts", "weightOf", "(II)I"⟩ ∈ gT := gt5 36 rfl rfl
theorem met_Pa_piece (l : Launch) : mMet l y_Pa_piece prog_5_method_2_code 5 (some .int) 2 f_Pa_piece := met_of (S := S_Pa_piece) (cx := cx_Pa_piece) (by decide) okI (fun h => der_Pa_piece h) hfx_Pa hpx_Pa hkx_Pa hsx_Pa (fun ix n g h => by
    unfold cx_Pa_piece at h
    by_cases e : ix = 36
    · rw [if_pos e] at h
      cases h
      subst e
      exact (call_U (own := "FourCars$Parts") (ix := 18) (n := 2) (ci := 2) (x := ⟨"FourCars$Parts", "weightOf", "(II)I"⟩) (C := "FourCars$Parts") (owner := "FourCars$Chain") (met_Ch_weightOf l) ⟨ml_Pa_18, gt5 37 rfl rfl, wq_Ch_weightOf.1, wq_Ch_weightOf.2.1, wq_Ch_weightOf.2.2, fun args s hts => hts _ (gt5 39 rfl rfl), fun args s hts _ => va_Decl.of (hts _ wq_Ch_weightOf.1) (hts _ wq_Ch_weightOf.2.2)⟩ rfl (by decide) (by decide) (by decide +kernel))
    rw [if_neg e] at h
    cases h)
theorem piece_two : ∀ as C q, f_Ch_piece as C = some q → rcv [1] f_Ga_piece as C = some q ∨ rcv [2] f_Pa_piece as C = some q := by
  intro as C q h
  unfold f_Ch_piece at h
  split at h
  · next k bs =>
    split at h
    · next o ho =>
      obtain ⟨ci, fs⟩ := o
      by_cases h1 : ci = 1
      · rw [if_pos h1] at h
        subst h1
        exact Or.inl (rcv_sub (cs := []) rfl ho h)
      · rw [if_neg h1] at h
        by_cases h2 : ci = 2
        · rw [if_pos h2] at h
          subst h2
          exact Or.inr (rcv_sub (cs := []) rfl ho h)
        · rw [if_neg h2] at h
          cases h
    · cases h
  · cases h
theorem ml_Ch_35 : Jvm.Cond.methodLink "FourCars$Chain" 35 ⟨"FourCars$Chain", "piece", "(II)I"⟩ ∈ gT := gt5 15 rfl rfl
theorem met_Ch_bestNext (l : Launch) : mMet l y_Ch_bestNext prog_3_method_7_code 8 (some .int) 4 f_Ch_bestNext := met_of (S := S_Ch_bestNext) (cx := cx_Ch_bestNext) (by decide) okI (fun h => der_Ch_bestNext h) hfx_Ch hpx_Ch hkx_Ch hsx_Ch (fun ix n g h => by
    unfold cx_Ch_bestNext at h
    by_cases e : ix = 70
    · rw [if_pos e] at h
      cases h
      subst e
      exact call_two (call_U (own := "FourCars$Chain") (ix := 35) (n := 2) (ci := 1) (x := ⟨"FourCars$Chain", "piece", "(II)I"⟩) (C := "FourCars$Gaps") (owner := "FourCars$Chain") (met_Ga_piece l) ⟨ml_Ch_35, gt5 17 rfl rfl, wq_Ga_piece.1, wq_Ga_piece.2.1, wq_Ga_piece.2.2, fun args s hts => hts _ (gt5 18 rfl rfl), fun args s hts hz => va_Decl.abs hz⟩ rfl (by decide) (by decide) (by decide +kernel)) (call_U (own := "FourCars$Chain") (ix := 35) (n := 2) (ci := 2) (x := ⟨"FourCars$Chain", "piece", "(II)I"⟩) (C := "FourCars$Parts") (owner := "FourCars$Chain") (met_Pa_piece l) ⟨ml_Ch_35, gt5 17 rfl rfl, wq_Pa_piece.1, wq_Pa_piece.2.1, wq_Pa_piece.2.2, fun args s hts => hts _ (gt5 33 rfl rfl), fun args s hts hz => va_Decl.abs hz⟩ rfl (by decide) (by decide) (by decide +kernel)) piece_two
    rw [if_neg e] at h
    cases h)
theorem ml_Ch_38 : Jvm.Cond.methodLink "FourCars$Chain" 38 ⟨"FourCars$Chain", "bestNext", "(III)I"⟩ ∈ gT := gt5 40 rfl rfl
theorem met_Ch_solve (l : Launch) : mMet l y_Ch_solve prog_3_method_6_code 6 (some .int) 5 f_Ch_solve := met_of (S := S_Ch_solve) (cx := cx_Ch_solve) (by decide) okI (fun h => der_Ch_solve h) hfx_Ch hpx_Ch hkx_Ch hsx_Ch (fun ix n g h => by
    unfold cx_Ch_solve at h
    by_cases e : ix = 70
    · rw [if_pos e] at h
      cases h
      subst e
      exact call_two (call_U (own := "FourCars$Chain") (ix := 35) (n := 2) (ci := 1) (x := ⟨"FourCars$Chain", "piece", "(II)I"⟩) (C := "FourCars$Gaps") (owner := "FourCars$Chain") (met_Ga_piece l) ⟨ml_Ch_35, gt5 17 rfl rfl, wq_Ga_piece.1, wq_Ga_piece.2.1, wq_Ga_piece.2.2, fun args s hts => hts _ (gt5 18 rfl rfl), fun args s hts hz => va_Decl.abs hz⟩ rfl (by decide) (by decide) (by decide +kernel)) (call_U (own := "FourCars$Chain") (ix := 35) (n := 2) (ci := 2) (x := ⟨"FourCars$Chain", "piece", "(II)I"⟩) (C := "FourCars$Parts") (owner := "FourCars$Chain") (met_Pa_piece l) ⟨ml_Ch_35, gt5 17 rfl rfl, wq_Pa_piece.1, wq_Pa_piece.2.1, wq_Pa_piece.2.2, fun args s hts => hts _ (gt5 33 rfl rfl), fun args s hts hz => va_Decl.abs hz⟩ rfl (by decide) (by decide) (by decide +kernel)) piece_two
    rw [if_neg e] at h
    by_cases e : ix = 76
    · rw [if_pos e] at h
      cases h
      subst e
      exact call_two (call_U (own := "FourCars$Chain") (ix := 38) (n := 3) (ci := 1) (x := ⟨"FourCars$Chain", "bestNext", "(III)I"⟩) (C := "FourCars$Gaps") (owner := "FourCars$Chain") (met_Ch_bestNext l) ⟨ml_Ch_38, gt7 111 rfl rfl, wq_Ch_bestNext.1, wq_Ch_bestNext.2.1, wq_Ch_bestNext.2.2, fun args s hts => hts _ gX_1, fun args s hts _ => va_Decl.of (hts _ wq_Ch_bestNext.1) (hts _ wq_Ch_bestNext.2.2)⟩ rfl (by decide) (by decide) (by decide +kernel)) (call_U (own := "FourCars$Chain") (ix := 38) (n := 3) (ci := 2) (x := ⟨"FourCars$Chain", "bestNext", "(III)I"⟩) (C := "FourCars$Parts") (owner := "FourCars$Chain") (met_Ch_bestNext l) ⟨ml_Ch_38, gt7 111 rfl rfl, wq_Ch_bestNext.1, wq_Ch_bestNext.2.1, wq_Ch_bestNext.2.2, fun args s hts => hts _ gX_2, fun args s hts _ => va_Decl.of (hts _ wq_Ch_bestNext.1) (hts _ wq_Ch_bestNext.2.2)⟩ rfl (by decide) (by decide) (by decide +kernel)) rcv_two
    rw [if_neg e] at h
    cases h)
theorem met_Ch_weigh (l : Launch) : mMet l y_Ch_weigh prog_3_method_3_code 4 none 1 f_Ch_weigh := met_of (S := S_Ch_weigh) (cx := cx_Ch_weigh) (by decide) okV (fun h => der_Ch_weigh h) hfx_Ch hpx_Ch hkx_Ch hsx_Ch (fun ix n g h => by
    unfold cx_Ch_weigh at h
    cases h)
theorem met_F_asksChain (l : Launch) : mMet l y_F_asksChain prog_1_method_43_code 2 (some .boolean) 1 f_F_asksChain := met_of (S := S_F_asksChain) (cx := cx_F_asksChain) (by decide) okZ0 (fun h => der_F_asksChain h) hfx_F hpx_F hkx_F hsx_F (fun ix n g h => by
    unfold cx_F_asksChain at h
    cases h)
theorem ml_F_356 : Jvm.Cond.methodLink "FourCars" 356 ⟨"FourCars", "asksChain", "(II)Z"⟩ ∈ gT := gt5 0 rfl rfl
theorem ml_F_359 : Jvm.Cond.methodLink "FourCars" 359 ⟨"FourCars$Gaps", "weigh", "([II)V"⟩ ∈ gT := gt5 3 rfl rfl
theorem ml_F_363 : Jvm.Cond.methodLink "FourCars" 363 ⟨"FourCars$Gaps", "solve", "(II)I"⟩ ∈ gT := gt5 9 rfl rfl
theorem met_F_places (l : Launch) : mMet l y_F_places prog_1_method_41_code 4 (some .int) 6 f_F_places := met_of (S := S_F_places) (cx := cx_F_places) (by decide) okI (fun h => der_F_places h) hfx_F hpx_F hkx_F hsx_F (fun ix n g h => by
    unfold cx_F_places at h
    by_cases e : ix = 713
    · rw [if_pos e] at h
      cases h
      subst e
      exact call_S (ix := 356) (n := 2) (met_F_asksChain l) ⟨ml_F_356, wq_F_asksChain⟩ (by decide) (by decide) wn_F_asksChain
    rw [if_neg e] at h
    by_cases e : ix = 718
    · rw [if_pos e] at h
      cases h
      subst e
      exact (call_U (own := "FourCars") (ix := 359) (n := 2) (ci := 1) (x := ⟨"FourCars$Gaps", "weigh", "([II)V"⟩) (C := "FourCars$Gaps") (owner := "FourCars$Chain") (met_Ch_weigh l) ⟨ml_F_359, gt5 4 rfl rfl, wq_Ch_weigh.1, wq_Ch_weigh.2.1, wq_Ch_weigh.2.2, fun args s hts => hts _ (gt5 6 rfl rfl), fun args s hts _ => va_Decl.of (hts _ wq_Ch_weigh.1) (hts _ wq_Ch_weigh.2.2)⟩ rfl (by decide) (by decide) (by decide +kernel))
    rw [if_neg e] at h
    by_cases e : ix = 726
    · rw [if_pos e] at h
      cases h
      subst e
      exact (call_U (own := "FourCars") (ix := 363) (n := 2) (ci := 1) (x := ⟨"FourCars$Gaps", "solve", "(II)I"⟩) (C := "FourCars$Gaps") (owner := "FourCars$Chain") (met_Ch_solve l) ⟨ml_F_363, gt5 10 rfl rfl, wq_Ch_solve.1, wq_Ch_solve.2.1, wq_Ch_solve.2.2, fun args s hts => hts _ (gt5 12 rfl rfl), fun args s hts _ => va_Decl.of (hts _ wq_Ch_solve.1) (hts _ wq_Ch_solve.2.2)⟩ rfl (by decide) (by decide) (by decide +kernel))
    rw [if_neg e] at h
    cases h)
theorem ml_F_369 : Jvm.Cond.methodLink "FourCars" 369 ⟨"FourCars$Parts", "weigh", "([II)V"⟩ ∈ gT := gt5 49 rfl rfl
theorem ml_F_380 : Jvm.Cond.methodLink "FourCars" 380 ⟨"FourCars$Parts", "solve", "(II)I"⟩ ∈ gT := gt5 52 rfl rfl
theorem met_F_zones (l : Launch) : mMet l y_F_zones prog_1_method_42_code 5 (some .int) 6 f_F_zones := met_of (S := S_F_zones) (cx := cx_F_zones) (by decide) okI (fun h => der_F_zones h) hfx_F hpx_F hkx_F hsx_F (fun ix n g h => by
    unfold cx_F_zones at h
    by_cases e : ix = 713
    · rw [if_pos e] at h
      cases h
      subst e
      exact call_S (ix := 356) (n := 2) (met_F_asksChain l) ⟨ml_F_356, wq_F_asksChain⟩ (by decide) (by decide) wn_F_asksChain
    rw [if_neg e] at h
    by_cases e : ix = 738
    · rw [if_pos e] at h
      cases h
      subst e
      exact (call_U (own := "FourCars") (ix := 369) (n := 2) (ci := 2) (x := ⟨"FourCars$Parts", "weigh", "([II)V"⟩) (C := "FourCars$Parts") (owner := "FourCars$Chain") (met_Ch_weigh l) ⟨ml_F_369, gt5 50 rfl rfl, wq_Ch_weigh.1, wq_Ch_weigh.2.1, wq_Ch_weigh.2.2, fun args s hts => hts _ (gt5 51 rfl rfl), fun args s hts _ => va_Decl.of (hts _ wq_Ch_weigh.1) (hts _ wq_Ch_weigh.2.2)⟩ rfl (by decide) (by decide) (by decide +kernel))
    rw [if_neg e] at h
    by_cases e : ix = 760
    · rw [if_pos e] at h
      cases h
      subst e
      exact (call_U (own := "FourCars") (ix := 380) (n := 2) (ci := 2) (x := ⟨"FourCars$Parts", "solve", "(II)I"⟩) (C := "FourCars$Parts") (owner := "FourCars$Chain") (met_Ch_solve l) ⟨ml_F_380, gt5 53 rfl rfl, wq_Ch_solve.1, wq_Ch_solve.2.1, wq_Ch_solve.2.2, fun args s hts => hts _ (gt5 54 rfl rfl), fun args s hts _ => va_Decl.of (hts _ wq_Ch_solve.1) (hts _ wq_Ch_solve.2.2)⟩ rfl (by decide) (by decide) (by decide +kernel))
    rw [if_neg e] at h
    cases h)
theorem ml_Wo_45 : Jvm.Cond.methodLink "FourCars$World" 45 ⟨"FourCars$Tower", "become", "(LFourCars$Tower;)V"⟩ ∈ gT := gt5 63 rfl rfl
theorem ml_Wo_48 : Jvm.Cond.methodLink "FourCars$World" 48 ⟨"FourCars$Rule", "become", "(LFourCars$Rule;)V"⟩ ∈ gT := gt5 64 rfl rfl
theorem ml_Wo_51 : Jvm.Cond.methodLink "FourCars$World" 51 ⟨"java/lang/System", "arraycopy", "(Ljava/lang/Object;ILjava/lang/Object;II)V"⟩ ∈ gT := gt5 65 rfl rfl
theorem ml_Wo_57 : Jvm.Cond.methodLink "FourCars$World" 57 ⟨"FourCars$Scene", "become", "(LFourCars$Scene;)V"⟩ ∈ gT := gt5 66 rfl rfl
theorem met_Wo_become (l : Launch) : mMet l y_Wo_become prog_11_method_3_code 3 none 3 f_Wo_become := met_of (S := S_Wo_become) (cx := cx_Wo_become) (by decide) okV (fun h => der_Wo_become h) hfx_Wo hpx_Wo hkx_Wo hsx_Wo (fun ix n g h => by
    unfold cx_Wo_become at h
    by_cases e : ix = 90
    · rw [if_pos e] at h
      cases h
      subst e
      exact call_V (ix := 45) (n := 1) (ci := 7) (met_Tw_become l) ⟨ml_Wo_45, wq_Tw_become⟩ rfl (by decide) (by decide) wn_Tw_become
    rw [if_neg e] at h
    by_cases e : ix = 96
    · rw [if_pos e] at h
      cases h
      subst e
      exact call_V (ix := 48) (n := 1) (ci := 4) (met_Ru_become l) ⟨ml_Wo_48, wq_Ru_become⟩ rfl (by decide) (by decide) wn_Ru_become
    rw [if_neg e] at h
    by_cases e : ix = 103
    · rw [if_pos e] at h
      cases h
      subst e
      exact call_copy (ix := 51) ⟨ml_Wo_51, wm_copy⟩ (by decide)
    rw [if_neg e] at h
    by_cases e : ix = 114
    · rw [if_pos e] at h
      cases h
      subst e
      exact call_V (ix := 57) (n := 1) (ci := 5) (met_Sc_become l) ⟨ml_Wo_57, wq_Sc_become⟩ rfl (by decide) (by decide) wn_Sc_become
    rw [if_neg e] at h
    cases h)
theorem ml_F_382 : Jvm.Cond.methodLink "FourCars" 382 ⟨"FourCars$World", "become", "(LFourCars$World;)V"⟩ ∈ gT := gt5 59 rfl rfl
theorem met_F_image (l : Launch) : mMet l y_F_image prog_1_method_44_code 2 (some .boolean) 4 f_F_image := met_of (S := S_F_image) (cx := cx_F_image) (by decide) okZ (fun h => der_F_image h) hfx_F hpx_F hkx_F hsx_F (fun ix n g h => by
    unfold cx_F_image at h
    by_cases e : ix = 764
    · rw [if_pos e] at h
      cases h
      subst e
      exact call_V (ix := 382) (n := 1) (ci := 8) (met_Wo_become l) ⟨ml_F_382, wq_Wo_become⟩ rfl (by decide) (by decide) wn_Wo_become
    rw [if_neg e] at h
    cases h)
theorem met_F_lookFurther (l : Launch) : mMet l y_F_lookFurther prog_1_method_46_code 2 (some .int) 2 f_F_lookFurther := met_of (S := S_F_lookFurther) (cx := cx_F_lookFurther) (by decide) okI (fun h => der_F_lookFurther h) hfx_F hpx_F hkx_F hsx_F (fun ix n g h => by
    unfold cx_F_lookFurther at h
    by_cases e : ix = 288
    · rw [if_pos e] at h
      cases h
      subst e
      exact call_V (ix := 144) (n := 1) (ci := 7) (met_Tw_hasFloor l) ⟨ml_F_144, wq_Tw_hasFloor⟩ rfl (by decide) (by decide) wn_Tw_hasFloor
    rw [if_neg e] at h
    cases h)
theorem met_Pe_howMany (l : Launch) : mMet l y_Pe_howMany prog_6_method_11_code 4 (some .int) 1 f_Pe_howMany := met_of (S := S_Pe_howMany) (cx := cx_Pe_howMany) (by decide) okI (fun h => der_Pe_howMany h) hfx_Pe hpx_Pe hkx_Pe hsx_Pe (fun ix n g h => by
    unfold cx_Pe_howMany at h
    cases h)
theorem ml_F_385 : Jvm.Cond.methodLink "FourCars" 385 ⟨"FourCars$People", "howMany", "(I)I"⟩ ∈ gT := gt5 71 rfl rfl
theorem ml_F_388 : Jvm.Cond.methodLink "FourCars" 388 ⟨"FourCars", "lookFurther", "(I)I"⟩ ∈ gT := gt5 75 rfl rfl
theorem met_F_look (l : Launch) : mMet l y_F_look prog_1_method_45_code 2 (some .int) 3 f_F_look := met_of (S := S_F_look) (cx := cx_F_look) (by decide) okI (fun h => der_F_look h) hfx_F hpx_F hkx_F hsx_F (fun ix n g h => by
    unfold cx_F_look at h
    by_cases e : ix = 770
    · rw [if_pos e] at h
      cases h
      subst e
      exact call_V (ix := 385) (n := 1) (ci := 3) (met_Pe_howMany l) ⟨ml_F_385, wq_Pe_howMany⟩ rfl (by decide) (by decide) wn_Pe_howMany
    rw [if_neg e] at h
    by_cases e : ix = 776
    · rw [if_pos e] at h
      cases h
      subst e
      exact call_V (ix := 388) (n := 1) (ci := 9) (met_F_lookFurther l) ⟨ml_F_388, wq_F_lookFurther⟩ rfl (by decide) (by decide) wn_F_lookFurther
    rw [if_neg e] at h
    cases h)
theorem met_M_isIn (l : Launch) : mMet l y_M_isIn prog_13_method_2_code 3 (some .boolean) 1 f_M_isIn := met_of (S := S_M_isIn) (cx := cx_M_isIn) (by decide) okZ0 (fun h => der_M_isIn h) hfx_M hpx_M hkx_M hsx_M (fun ix n g h => by
    unfold cx_M_isIn at h
    cases h)
theorem met_M_apart (l : Launch) : mMet l y_M_apart prog_13_method_3_code 2 (some .int) 1 f_M_apart := met_of (S := S_M_apart) (cx := cx_M_apart) (by decide) okI0 (fun h => der_M_apart h) hfx_M hpx_M hkx_M hsx_M (fun ix n g h => by
    unfold cx_M_apart at h
    cases h)
theorem ml_M_66 : Jvm.Cond.methodLink "FourCarsModel" 66 ⟨"FourCarsModel", "isIn", "(III)Z"⟩ ∈ gT := gt5 211 rfl rfl
theorem met_M_isFloor (l : Launch) : mMet l y_M_isFloor prog_13_method_4_code 2 (some .boolean) 2 f_M_isFloor := met_of (S := S_M_isFloor) (cx := cx_M_isFloor) (by decide) okZ (fun h => der_M_isFloor h) hfx_M hpx_M hkx_M hsx_M (fun ix n g h => by
    unfold cx_M_isFloor at h
    by_cases e : ix = 133
    · rw [if_pos e] at h
      cases h
      subst e
      exact call_S (ix := 66) (n := 3) (met_M_isIn l) ⟨ml_M_66, wq_M_isIn⟩ (by decide) (by decide) wn_M_isIn
    rw [if_neg e] at h
    cases h)
theorem met_M_isCar (l : Launch) : mMet l y_M_isCar prog_13_method_5_code 2 (some .boolean) 2 f_M_isCar := met_of (S := S_M_isCar) (cx := cx_M_isCar) (by decide) okZ (fun h => der_M_isCar h) hfx_M hpx_M hkx_M hsx_M (fun ix n g h => by
    unfold cx_M_isCar at h
    by_cases e : ix = 133
    · rw [if_pos e] at h
      cases h
      subst e
      exact call_S (ix := 66) (n := 3) (met_M_isIn l) ⟨ml_M_66, wq_M_isIn⟩ (by decide) (by decide) wn_M_isIn
    rw [if_neg e] at h
    cases h)
theorem met_M_isOne (l : Launch) : mMet l y_M_isOne prog_13_method_6_code 2 (some .boolean) 2 f_M_isOne := met_of (S := S_M_isOne) (cx := cx_M_isOne) (by decide) okZ (fun h => der_M_isOne h) hfx_M hpx_M hkx_M hsx_M (fun ix n g h => by
    unfold cx_M_isOne at h
    by_cases e : ix = 133
    · rw [if_pos e] at h
      cases h
      subst e
      exact call_S (ix := 66) (n := 3) (met_M_isIn l) ⟨ml_M_66, wq_M_isIn⟩ (by decide) (by decide) wn_M_isIn
    rw [if_neg e] at h
    cases h)
theorem met_M_ofCar (l : Launch) : mMet l y_M_ofCar prog_13_method_7_code 3 (some .int) 1 f_M_ofCar := met_of (S := S_M_ofCar) (cx := cx_M_ofCar) (by decide) okI (fun h => der_M_ofCar h) hfx_M hpx_M hkx_M hsx_M (fun ix n g h => by
    unfold cx_M_ofCar at h
    cases h)
theorem met_M_sets (l : Launch) : mMet l y_M_sets prog_13_method_8_code 4 none 1 f_M_sets := met_of (S := S_M_sets) (cx := cx_M_sets) (by decide) okV (fun h => der_M_sets h) hfx_M hpx_M hkx_M hsx_M (fun ix n g h => by
    unfold cx_M_sets at h
    cases h)
theorem met_M_own (l : Launch) : mMet l y_M_own prog_13_method_9_code 3 (some .int) 1 f_M_own := met_of (S := S_M_own) (cx := cx_M_own) (by decide) okI (fun h => der_M_own h) hfx_M hpx_M hkx_M hsx_M (fun ix n g h => by
    unfold cx_M_own at h
    cases h)
theorem met_M_gives (l : Launch) : mMet l y_M_gives prog_13_method_10_code 4 none 1 f_M_gives := met_of (S := S_M_gives) (cx := cx_M_gives) (by decide) okV (fun h => der_M_gives h) hfx_M hpx_M hkx_M hsx_M (fun ix n g h => by
    unfold cx_M_gives at h
    cases h)
theorem met_M_serves (l : Launch) : mMet l y_M_serves prog_13_method_11_code 3 (some .boolean) 1 f_M_serves := met_of (S := S_M_serves) (cx := cx_M_serves) (by decide) okZ (fun h => der_M_serves h) hfx_M hpx_M hkx_M hsx_M (fun ix n g h => by
    unfold cx_M_serves at h
    cases h)
theorem met_M_feed (l : Launch) : mMet l y_M_feed prog_13_method_12_code 8 (some .int) 1 f_M_feed := met_of (S := S_M_feed) (cx := cx_M_feed) (by decide) okI (fun h => der_M_feed h) hfx_M hpx_M hkx_M hsx_M (fun ix n g h => by
    unfold cx_M_feed at h
    cases h)
theorem met_M_end (l : Launch) : mMet l y_M_end prog_13_method_13_code 2 (some .boolean) 2 f_M_end := met_of (S := S_M_end) (cx := cx_M_end) (by decide) okZ (fun h => der_M_end h) hfx_M hpx_M hkx_M hsx_M (fun ix n g h => by
    unfold cx_M_end at h
    by_cases e : ix = 133
    · rw [if_pos e] at h
      cases h
      subst e
      exact call_S (ix := 66) (n := 3) (met_M_isIn l) ⟨ml_M_66, wq_M_isIn⟩ (by decide) (by decide) wn_M_isIn
    rw [if_neg e] at h
    cases h)
theorem met_M_see (l : Launch) : mMet l y_M_see prog_13_method_14_code 2 (some .int) 1 f_M_see := met_of (S := S_M_see) (cx := cx_M_see) (by decide) okI (fun h => der_M_see h) hfx_M hpx_M hkx_M hsx_M (fun ix n g h => by
    unfold cx_M_see at h
    cases h)
theorem met_M_isLetter (l : Launch) : mMet l y_M_isLetter prog_13_method_15_code 1 (some .boolean) 2 f_M_isLetter := met_of (S := S_M_isLetter) (cx := cx_M_isLetter) (by decide) okZ0 (fun h => der_M_isLetter h) hfx_M hpx_M hkx_M hsx_M (fun ix n g h => by
    unfold cx_M_isLetter at h
    by_cases e : ix = 133
    · rw [if_pos e] at h
      cases h
      subst e
      exact call_S (ix := 66) (n := 3) (met_M_isIn l) ⟨ml_M_66, wq_M_isIn⟩ (by decide) (by decide) wn_M_isIn
    rw [if_neg e] at h
    cases h)
theorem met_M_isDigit (l : Launch) : mMet l y_M_isDigit prog_13_method_16_code 1 (some .boolean) 2 f_M_isDigit := met_of (S := S_M_isDigit) (cx := cx_M_isDigit) (by decide) okZ0 (fun h => der_M_isDigit h) hfx_M hpx_M hkx_M hsx_M (fun ix n g h => by
    unfold cx_M_isDigit at h
    by_cases e : ix = 133
    · rw [if_pos e] at h
      cases h
      subst e
      exact call_S (ix := 66) (n := 3) (met_M_isIn l) ⟨ml_M_66, wq_M_isIn⟩ (by decide) (by decide) wn_M_isIn
    rw [if_neg e] at h
    cases h)
theorem ml_M_79 : Jvm.Cond.methodLink "FourCarsModel" 79 ⟨"java/lang/String", "length", "()I"⟩ ∈ gT := gt6 2 rfl rfl
theorem ml_M_85 : Jvm.Cond.methodLink "FourCarsModel" 85 ⟨"java/lang/String", "charAt", "(I)C"⟩ ∈ gT := gt6 3 rfl rfl
theorem met_M_is (l : Launch) : mMet l y_M_is prog_13_method_17_code 4 (some .boolean) 5 f_M_is := met_of (S := S_M_is) (cx := cx_M_is) (by decide) okZ (fun h => der_M_is h) hfx_M hpx_M hkx_M hsx_M (fun ix n g h => by
    unfold cx_M_is at h
    by_cases e : ix = 158
    · rw [if_pos e] at h
      cases h
      subst e
      exact call_len (ix := 79) ⟨ml_M_79, wq_jLe⟩ (by decide)
    rw [if_neg e] at h
    by_cases e : ix = 170
    · rw [if_pos e] at h
      cases h
      subst e
      exact call_chr (ix := 85) ⟨ml_M_85, wq_jCh⟩ (by decide)
    rw [if_neg e] at h
    cases h)
theorem ml_M_91 : Jvm.Cond.methodLink "FourCarsModel" 91 ⟨"FourCarsModel", "is", "(Ljava/lang/String;)Z"⟩ ∈ gT := gt5 238 rfl rfl
theorem met_M_towerWord (l : Launch) : mMet l y_M_towerWord prog_13_method_18_code 1 (some .int) 6 f_M_towerWord := met_of (S := S_M_towerWord) (cx := cx_M_towerWord) (by decide) okI (fun h => der_M_towerWord h) hfx_M hpx_M hkx_M hsx_M (fun ix n g h => by
    unfold cx_M_towerWord at h
    by_cases e : ix = 182
    · rw [if_pos e] at h
      cases h
      subst e
      exact call_V (ix := 91) (n := 1) (ci := 10) (met_M_is l) ⟨ml_M_91, wq_M_is⟩ rfl (by decide) (by decide) wn_M_is
    rw [if_neg e] at h
    cases h)
theorem met_M_nameWord (l : Launch) : mMet l y_M_nameWord prog_13_method_19_code 1 (some .int) 6 f_M_nameWord := met_of (S := S_M_nameWord) (cx := cx_M_nameWord) (by decide) okI (fun h => der_M_nameWord h) hfx_M hpx_M hkx_M hsx_M (fun ix n g h => by
    unfold cx_M_nameWord at h
    by_cases e : ix = 182
    · rw [if_pos e] at h
      cases h
      subst e
      exact call_V (ix := 91) (n := 1) (ci := 10) (met_M_is l) ⟨ml_M_91, wq_M_is⟩ rfl (by decide) (by decide) wn_M_is
    rw [if_neg e] at h
    cases h)
theorem ml_M_120 : Jvm.Cond.methodLink "FourCarsModel" 120 ⟨"FourCarsModel", "towerWord", "()I"⟩ ∈ gT := gt5 233 rfl rfl
theorem ml_M_135 : Jvm.Cond.methodLink "FourCarsModel" 135 ⟨"FourCarsModel", "nameWord", "()I"⟩ ∈ gT := gt6 12 rfl rfl
theorem met_M_word (l : Launch) : mMet l y_M_word prog_13_method_20_code 1 (some .int) 7 f_M_word := met_of (S := S_M_word) (cx := cx_M_word) (by decide) okI (fun h => der_M_word h) hfx_M hpx_M hkx_M hsx_M (fun ix n g h => by
    unfold cx_M_word at h
    by_cases e : ix = 182
    · rw [if_pos e] at h
      cases h
      subst e
      exact call_V (ix := 91) (n := 1) (ci := 10) (met_M_is l) ⟨ml_M_91, wq_M_is⟩ rfl (by decide) (by decide) wn_M_is
    rw [if_neg e] at h
    by_cases e : ix = 240
    · rw [if_pos e] at h
      cases h
      subst e
      exact call_V (ix := 120) (n := 0) (ci := 10) (met_M_towerWord l) ⟨ml_M_120, wq_M_towerWord⟩ rfl (by decide) (by decide) wn_M_towerWord
    rw [if_neg e] at h
    by_cases e : ix = 270
    · rw [if_pos e] at h
      cases h
      subst e
      exact call_V (ix := 135) (n := 0) (ci := 10) (met_M_nameWord l) ⟨ml_M_135, wq_M_nameWord⟩ rfl (by decide) (by decide) wn_M_nameWord
    rw [if_neg e] at h
    cases h)
theorem ml_M_138 : Jvm.Cond.methodLink "FourCarsModel" 138 ⟨"FourCarsModel", "see", "(I)I"⟩ ∈ gT := gt5 222 rfl rfl
theorem ml_M_145 : Jvm.Cond.methodLink "FourCarsModel" 145 ⟨"FourCarsModel", "isLetter", "(I)Z"⟩ ∈ gT := gt5 226 rfl rfl
theorem ml_M_149 : Jvm.Cond.methodLink "FourCarsModel" 149 ⟨"FourCarsModel", "word", "()I"⟩ ∈ gT := gt5 229 rfl rfl
theorem ml_M_152 : Jvm.Cond.methodLink "FourCarsModel" 152 ⟨"FourCarsModel", "isDigit", "(I)Z"⟩ ∈ gT := gt6 25 rfl rfl
theorem met_M_next0 (l : Launch) : mMet l y_M_next0 prog_13_method_21_code 3 none 8 f_M_next0 := met_of (S := S_M_next0) (cx := cx_M_next0) (by decide) okV (fun h => der_M_next0 h) hfx_M hpx_M hkx_M hsx_M (fun ix n g h => by
    unfold cx_M_next0 at h
    by_cases e : ix = 276
    · rw [if_pos e] at h
      cases h
      subst e
      exact call_V (ix := 138) (n := 1) (ci := 10) (met_M_see l) ⟨ml_M_138, wq_M_see⟩ rfl (by decide) (by decide) wn_M_see
    rw [if_neg e] at h
    by_cases e : ix = 291
    · rw [if_pos e] at h
      cases h
      subst e
      exact call_S (ix := 145) (n := 1) (met_M_isLetter l) ⟨ml_M_145, wq_M_isLetter⟩ (by decide) (by decide) wn_M_isLetter
    rw [if_neg e] at h
    by_cases e : ix = 298
    · rw [if_pos e] at h
      cases h
      subst e
      exact call_V (ix := 149) (n := 0) (ci := 10) (met_M_word l) ⟨ml_M_149, wq_M_word⟩ rfl (by decide) (by decide) wn_M_word
    rw [if_neg e] at h
    by_cases e : ix = 305
    · rw [if_pos e] at h
      cases h
      subst e
      exact call_S (ix := 152) (n := 1) (met_M_isDigit l) ⟨ml_M_152, wq_M_isDigit⟩ (by decide) (by decide) wn_M_isDigit
    rw [if_neg e] at h
    cases h)
theorem met_M_bad (l : Launch) : mMet l y_M_bad prog_13_method_22_code 2 (some .boolean) 1 f_M_bad := met_of (S := S_M_bad) (cx := cx_M_bad) (by decide) okZ (fun h => der_M_bad h) hfx_M hpx_M hkx_M hsx_M (fun ix n g h => by
    unfold cx_M_bad at h
    cases h)
theorem ml_M_164 : Jvm.Cond.methodLink "FourCarsModel" 164 ⟨"FourCarsModel", "bad", "(I)Z"⟩ ∈ gT := gt6 32 rfl rfl
theorem ml_M_167 : Jvm.Cond.methodLink "FourCarsModel" 167 ⟨"FourCarsModel", "next0", "()V"⟩ ∈ gT := gt5 218 rfl rfl
theorem met_M_need (l : Launch) : mMet l y_M_need prog_13_method_23_code 2 (some .boolean) 9 f_M_need := met_of (S := S_M_need) (cx := cx_M_need) (by decide) okZ (fun h => der_M_need h) hfx_M hpx_M hkx_M hsx_M (fun ix n g h => by
    unfold cx_M_need at h
    by_cases e : ix = 328
    · rw [if_pos e] at h
      cases h
      subst e
      exact call_V (ix := 164) (n := 1) (ci := 10) (met_M_bad l) ⟨ml_M_164, wq_M_bad⟩ rfl (by decide) (by decide) wn_M_bad
    rw [if_neg e] at h
    by_cases e : ix = 334
    · rw [if_pos e] at h
      cases h
      subst e
      exact call_V (ix := 167) (n := 0) (ci := 10) (met_M_next0 l) ⟨ml_M_167, wq_M_next0⟩ rfl (by decide) (by decide) wn_M_next0
    rw [if_neg e] at h
    cases h)
theorem met_M_number (l : Launch) : mMet l y_M_number prog_13_method_24_code 3 (some .boolean) 9 f_M_number := met_of (S := S_M_number) (cx := cx_M_number) (by decide) okZ (fun h => der_M_number h) hfx_M hpx_M hkx_M hsx_M (fun ix n g h => by
    unfold cx_M_number at h
    by_cases e : ix = 133
    · rw [if_pos e] at h
      cases h
      subst e
      exact call_S (ix := 66) (n := 3) (met_M_isIn l) ⟨ml_M_66, wq_M_isIn⟩ (by decide) (by decide) wn_M_isIn
    rw [if_neg e] at h
    by_cases e : ix = 328
    · rw [if_pos e] at h
      cases h
      subst e
      exact call_V (ix := 164) (n := 1) (ci := 10) (met_M_bad l) ⟨ml_M_164, wq_M_bad⟩ rfl (by decide) (by decide) wn_M_bad
    rw [if_neg e] at h
    by_cases e : ix = 334
    · rw [if_pos e] at h
      cases h
      subst e
      exact call_V (ix := 167) (n := 0) (ci := 10) (met_M_next0 l) ⟨ml_M_167, wq_M_next0⟩ rfl (by decide) (by decide) wn_M_next0
    rw [if_neg e] at h
    cases h)
theorem met_M_lay (l : Launch) : mMet l y_M_lay prog_13_method_25_code 3 none 1 f_M_lay := met_of (S := S_M_lay) (cx := cx_M_lay) (by decide) okV (fun h => der_M_lay h) hfx_M hpx_M hkx_M hsx_M (fun ix n g h => by
    unfold cx_M_lay at h
    cases h)
theorem met_M_opens (l : Launch) : mMet l y_M_opens prog_13_method_26_code 1 (some .boolean) 9 f_M_opens := met_of (S := S_M_opens) (cx := cx_M_opens) (by decide) okZ (fun h => der_M_opens h) hfx_M hpx_M hkx_M hsx_M (fun ix n g h => by
    unfold cx_M_opens at h
    by_cases e : ix = 328
    · rw [if_pos e] at h
      cases h
      subst e
      exact call_V (ix := 164) (n := 1) (ci := 10) (met_M_bad l) ⟨ml_M_164, wq_M_bad⟩ rfl (by decide) (by decide) wn_M_bad
    rw [if_neg e] at h
    by_cases e : ix = 334
    · rw [if_pos e] at h
      cases h
      subst e
      exact call_V (ix := 167) (n := 0) (ci := 10) (met_M_next0 l) ⟨ml_M_167, wq_M_next0⟩ rfl (by decide) (by decide) wn_M_next0
    rw [if_neg e] at h
    cases h)
theorem ml_M_180 : Jvm.Cond.methodLink "FourCarsModel" 180 ⟨"FourCarsModel", "lay", "(II)V"⟩ ∈ gT := gt6 48 rfl rfl
theorem met_M_unit (l : Launch) : mMet l y_M_unit prog_13_method_29_code 2 (some .boolean) 9 f_M_unit := met_of (S := S_M_unit) (cx := cx_M_unit) (by decide) okZ (fun h => der_M_unit h) hfx_M hpx_M hkx_M hsx_M (fun ix n g h => by
    unfold cx_M_unit at h
    by_cases e : ix = 133
    · rw [if_pos e] at h
      cases h
      subst e
      exact call_S (ix := 66) (n := 3) (met_M_isIn l) ⟨ml_M_66, wq_M_isIn⟩ (by decide) (by decide) wn_M_isIn
    rw [if_neg e] at h
    by_cases e : ix = 328
    · rw [if_pos e] at h
      cases h
      subst e
      exact call_V (ix := 164) (n := 1) (ci := 10) (met_M_bad l) ⟨ml_M_164, wq_M_bad⟩ rfl (by decide) (by decide) wn_M_bad
    rw [if_neg e] at h
    by_cases e : ix = 334
    · rw [if_pos e] at h
      cases h
      subst e
      exact call_V (ix := 167) (n := 0) (ci := 10) (met_M_next0 l) ⟨ml_M_167, wq_M_next0⟩ rfl (by decide) (by decide) wn_M_next0
    rw [if_neg e] at h
    by_cases e : ix = 360
    · rw [if_pos e] at h
      cases h
      subst e
      exact call_V (ix := 180) (n := 2) (ci := 10) (met_M_lay l) ⟨ml_M_180, wq_M_lay⟩ rfl (by decide) (by decide) wn_M_lay
    rw [if_neg e] at h
    cases h)
theorem ml_M_184 : Jvm.Cond.methodLink "FourCarsModel" 184 ⟨"FourCarsModel", "unit", "()Z"⟩ ∈ gT := gt6 44 rfl rfl
theorem met_M_product (l : Launch) : mMet l y_M_product prog_13_method_28_code 3 (some .boolean) 10 f_M_product := met_of (S := S_M_product) (cx := cx_M_product) (by decide) okZ (fun h => der_M_product h) hfx_M hpx_M hkx_M hsx_M (fun ix n g h => by
    unfold cx_M_product at h
    by_cases e : ix = 328
    · rw [if_pos e] at h
      cases h
      subst e
      exact call_V (ix := 164) (n := 1) (ci := 10) (met_M_bad l) ⟨ml_M_164, wq_M_bad⟩ rfl (by decide) (by decide) wn_M_bad
    rw [if_neg e] at h
    by_cases e : ix = 334
    · rw [if_pos e] at h
      cases h
      subst e
      exact call_V (ix := 167) (n := 0) (ci := 10) (met_M_next0 l) ⟨ml_M_167, wq_M_next0⟩ rfl (by decide) (by decide) wn_M_next0
    rw [if_neg e] at h
    by_cases e : ix = 360
    · rw [if_pos e] at h
      cases h
      subst e
      exact call_V (ix := 180) (n := 2) (ci := 10) (met_M_lay l) ⟨ml_M_180, wq_M_lay⟩ rfl (by decide) (by decide) wn_M_lay
    rw [if_neg e] at h
    by_cases e : ix = 368
    · rw [if_pos e] at h
      cases h
      subst e
      exact call_V (ix := 184) (n := 0) (ci := 10) (met_M_unit l) ⟨ml_M_184, wq_M_unit⟩ rfl (by decide) (by decide) wn_M_unit
    rw [if_neg e] at h
    cases h)
theorem ml_M_176 : Jvm.Cond.methodLink "FourCarsModel" 176 ⟨"FourCarsModel", "product", "()Z"⟩ ∈ gT := gt6 40 rfl rfl
theorem met_M_sumUp (l : Launch) : mMet l y_M_sumUp prog_13_method_27_code 2 (some .boolean) 11 f_M_sumUp := met_of (S := S_M_sumUp) (cx := cx_M_sumUp) (by decide) okZ (fun h => der_M_sumUp h) hfx_M hpx_M hkx_M hsx_M (fun ix n g h => by
    unfold cx_M_sumUp at h
    by_cases e : ix = 334
    · rw [if_pos e] at h
      cases h
      subst e
      exact call_V (ix := 167) (n := 0) (ci := 10) (met_M_next0 l) ⟨ml_M_167, wq_M_next0⟩ rfl (by decide) (by decide) wn_M_next0
    rw [if_neg e] at h
    by_cases e : ix = 352
    · rw [if_pos e] at h
      cases h
      subst e
      exact call_V (ix := 176) (n := 0) (ci := 10) (met_M_product l) ⟨ml_M_176, wq_M_product⟩ rfl (by decide) (by decide) wn_M_product
    rw [if_neg e] at h
    by_cases e : ix = 360
    · rw [if_pos e] at h
      cases h
      subst e
      exact call_V (ix := 180) (n := 2) (ci := 10) (met_M_lay l) ⟨ml_M_180, wq_M_lay⟩ rfl (by decide) (by decide) wn_M_lay
    rw [if_neg e] at h
    cases h)
theorem gr_M_oneTest : ∀ (k i : Nat) (as : List Value) (C : mMem) (q : Option Int32 × mMem), g_M_oneTest k i as C = some q → rcv [10] (g_M_oneTest k i) as C = some q := by
  intro k i as C q h
  cases k with
  | zero => cases h
  | succ k =>
    have e : ∃ f0, g_M_oneTest (k + 1) i = rcv [10] f0 := by
      match i with
        | 0 => exact ⟨_, rfl⟩
        | 1 => exact ⟨_, rfl⟩
        | (j + 2) => exact ⟨_, rfl⟩
    obtain ⟨f0, e⟩ := e
    rw [e] at h ⊢
    obtain ⟨kk, bs, h1, ⟨cj, fs, h2, h3⟩, h4⟩ := rcv_spec h
    cases List.mem_singleton.mp h3
    exact rcv_sub (cs := []) h1 h2 h
theorem ml_M_190 : Jvm.Cond.methodLink "FourCarsModel" 190 ⟨"FourCarsModel", "oneTest", "()Z"⟩ ∈ gT := gt6 60 rfl rfl
theorem ml_M_193 : Jvm.Cond.methodLink "FourCarsModel" 193 ⟨"FourCarsModel", "opens", "()Z"⟩ ∈ gT := gt6 64 rfl rfl
theorem ml_M_196 : Jvm.Cond.methodLink "FourCarsModel" 196 ⟨"FourCarsModel", "any", "()Z"⟩ ∈ gT := gt6 52 rfl rfl
theorem ml_M_199 : Jvm.Cond.methodLink "FourCarsModel" 199 ⟨"FourCarsModel", "need", "(I)Z"⟩ ∈ gT := gt6 68 rfl rfl
theorem ml_M_202 : Jvm.Cond.methodLink "FourCarsModel" 202 ⟨"FourCarsModel", "sumUp", "()Z"⟩ ∈ gT := gt6 36 rfl rfl
theorem ml_M_187 : Jvm.Cond.methodLink "FourCarsModel" 187 ⟨"FourCarsModel", "every", "()Z"⟩ ∈ gT := gt6 56 rfl rfl
set_option maxHeartbeats 4000000 in
theorem gm_M_oneTest (l : Launch) : ∀ k : Nat, mMet l y_M_oneTest prog_13_method_32_code 2 (some .boolean) (11 + k) (g_M_oneTest k 0) ∧ mMet l y_M_any prog_13_method_30_code 1 (some .boolean) (11 + k) (g_M_oneTest k 1) ∧ mMet l y_M_every prog_13_method_31_code 1 (some .boolean) (11 + k) (g_M_oneTest k 2) := by
  intro k
  induction k with
  | zero => exact ⟨(fun _ _ _ _ _ _ _ _ _ _ _ h => (by cases h)), (fun _ _ _ _ _ _ _ _ _ _ _ h => (by cases h)), (fun _ _ _ _ _ _ _ _ _ _ _ h => (by cases h))⟩
  | succ k ih =>
    have m0 : mMet l y_M_oneTest prog_13_method_32_code 2 (some .boolean) (11 + (k + 1)) (g_M_oneTest (k + 1) 0) := (met_of (S := S_M_oneTest (g_M_oneTest k 0) (g_M_oneTest k 1) (g_M_oneTest k 2)) (cx := cx_M_oneTest (g_M_oneTest k 0) (g_M_oneTest k 1) (g_M_oneTest k 2)) (by decide) okZ (fun h => der_M_oneTest (g_M_oneTest k 0) (g_M_oneTest k 1) (g_M_oneTest k 2) h) hfx_M hpx_M hkx_M hsx_M (fun ix n g h => by
    unfold cx_M_oneTest at h
    by_cases e : ix = 328
    · rw [if_pos e] at h
      cases h
      subst e
      exact call_V (ix := 164) (n := 1) (ci := 10) (met_M_bad l) ⟨ml_M_164, wq_M_bad⟩ rfl (by omega) (by decide) wn_M_bad
    rw [if_neg e] at h
    by_cases e : ix = 334
    · rw [if_pos e] at h
      cases h
      subst e
      exact call_V (ix := 167) (n := 0) (ci := 10) (met_M_next0 l) ⟨ml_M_167, wq_M_next0⟩ rfl (by omega) (by decide) wn_M_next0
    rw [if_neg e] at h
    by_cases e : ix = 360
    · rw [if_pos e] at h
      cases h
      subst e
      exact call_V (ix := 180) (n := 2) (ci := 10) (met_M_lay l) ⟨ml_M_180, wq_M_lay⟩ rfl (by omega) (by decide) wn_M_lay
    rw [if_neg e] at h
    by_cases e : ix = 380
    · rw [if_pos e] at h
      cases h
      subst e
      exact call_rec (ix := 190) (n := 0) (ci := 10) (ih.1) (gr_M_oneTest k 0) ⟨ml_M_190, wq_M_oneTest⟩ rfl (by omega) (by decide) wn_M_oneTest
    rw [if_neg e] at h
    by_cases e : ix = 386
    · rw [if_pos e] at h
      cases h
      subst e
      exact call_V (ix := 193) (n := 0) (ci := 10) (met_M_opens l) ⟨ml_M_193, wq_M_opens⟩ rfl (by omega) (by decide) wn_M_opens
    rw [if_neg e] at h
    by_cases e : ix = 392
    · rw [if_pos e] at h
      cases h
      subst e
      exact call_rec (ix := 196) (n := 0) (ci := 10) (ih.2.1) (gr_M_oneTest k 1) ⟨ml_M_196, wq_M_any⟩ rfl (by omega) (by decide) wn_M_any
    rw [if_neg e] at h
    by_cases e : ix = 398
    · rw [if_pos e] at h
      cases h
      subst e
      exact call_V (ix := 199) (n := 1) (ci := 10) (met_M_need l) ⟨ml_M_199, wq_M_need⟩ rfl (by omega) (by decide) wn_M_need
    rw [if_neg e] at h
    by_cases e : ix = 404
    · rw [if_pos e] at h
      cases h
      subst e
      exact call_V (ix := 202) (n := 0) (ci := 10) (met_M_sumUp l) ⟨ml_M_202, wq_M_sumUp⟩ rfl (by omega) (by decide) wn_M_sumUp
    rw [if_neg e] at h
    cases h))
    have m1 : mMet l y_M_any prog_13_method_30_code 1 (some .boolean) (11 + (k + 1)) (g_M_oneTest (k + 1) 1) := (met_of (S := S_M_any (g_M_oneTest k 0) (g_M_oneTest k 1) (g_M_oneTest k 2)) (cx := cx_M_any (g_M_oneTest k 0) (g_M_oneTest k 1) (g_M_oneTest k 2)) (by decide) okZ (fun h => der_M_any (g_M_oneTest k 0) (g_M_oneTest k 1) (g_M_oneTest k 2) h) hfx_M hpx_M hkx_M hsx_M (fun ix n g h => by
    unfold cx_M_any at h
    by_cases e : ix = 334
    · rw [if_pos e] at h
      cases h
      subst e
      exact call_V (ix := 167) (n := 0) (ci := 10) (met_M_next0 l) ⟨ml_M_167, wq_M_next0⟩ rfl (by omega) (by decide) wn_M_next0
    rw [if_neg e] at h
    by_cases e : ix = 360
    · rw [if_pos e] at h
      cases h
      subst e
      exact call_V (ix := 180) (n := 2) (ci := 10) (met_M_lay l) ⟨ml_M_180, wq_M_lay⟩ rfl (by omega) (by decide) wn_M_lay
    rw [if_neg e] at h
    by_cases e : ix = 374
    · rw [if_pos e] at h
      cases h
      subst e
      exact call_rec (ix := 187) (n := 0) (ci := 10) (ih.2.2) (gr_M_oneTest k 2) ⟨ml_M_187, wq_M_every⟩ rfl (by omega) (by decide) wn_M_every
    rw [if_neg e] at h
    cases h))
    have m2 : mMet l y_M_every prog_13_method_31_code 1 (some .boolean) (11 + (k + 1)) (g_M_oneTest (k + 1) 2) := (met_of (S := S_M_every (g_M_oneTest k 0) (g_M_oneTest k 1) (g_M_oneTest k 2)) (cx := cx_M_every (g_M_oneTest k 0) (g_M_oneTest k 1) (g_M_oneTest k 2)) (by decide) okZ (fun h => der_M_every (g_M_oneTest k 0) (g_M_oneTest k 1) (g_M_oneTest k 2) h) hfx_M hpx_M hkx_M hsx_M (fun ix n g h => by
    unfold cx_M_every at h
    by_cases e : ix = 334
    · rw [if_pos e] at h
      cases h
      subst e
      exact call_V (ix := 167) (n := 0) (ci := 10) (met_M_next0 l) ⟨ml_M_167, wq_M_next0⟩ rfl (by omega) (by decide) wn_M_next0
    rw [if_neg e] at h
    by_cases e : ix = 360
    · rw [if_pos e] at h
      cases h
      subst e
      exact call_V (ix := 180) (n := 2) (ci := 10) (met_M_lay l) ⟨ml_M_180, wq_M_lay⟩ rfl (by omega) (by decide) wn_M_lay
    rw [if_neg e] at h
    by_cases e : ix = 380
    · rw [if_pos e] at h
      cases h
      subst e
      exact call_rec (ix := 190) (n := 0) (ci := 10) (ih.1) (gr_M_oneTest k 0) ⟨ml_M_190, wq_M_oneTest⟩ rfl (by omega) (by decide) wn_M_oneTest
    rw [if_neg e] at h
    cases h))
    exact ⟨m0, m1, m2⟩
theorem met_M_oneTest (l : Launch) : mMet l y_M_oneTest prog_13_method_32_code 2 (some .boolean) 51 f_M_oneTest := (gm_M_oneTest l 40).1
theorem met_M_any (l : Launch) : mMet l y_M_any prog_13_method_30_code 1 (some .boolean) 51 f_M_any := (gm_M_oneTest l 40).2.1
theorem met_M_every (l : Launch) : mMet l y_M_every prog_13_method_31_code 1 (some .boolean) 51 f_M_every := (gm_M_oneTest l 40).2.2
theorem met_M_aLine (l : Launch) : mMet l y_M_aLine prog_13_method_33_code 2 (some .boolean) 52 f_M_aLine := met_of (S := S_M_aLine) (cx := cx_M_aLine) (by decide) okZ (fun h => der_M_aLine h) hfx_M hpx_M hkx_M hsx_M (fun ix n g h => by
    unfold cx_M_aLine at h
    by_cases e : ix = 133
    · rw [if_pos e] at h
      cases h
      subst e
      exact call_S (ix := 66) (n := 3) (met_M_isIn l) ⟨ml_M_66, wq_M_isIn⟩ (by decide) (by decide) wn_M_isIn
    rw [if_neg e] at h
    by_cases e : ix = 328
    · rw [if_pos e] at h
      cases h
      subst e
      exact call_V (ix := 164) (n := 1) (ci := 10) (met_M_bad l) ⟨ml_M_164, wq_M_bad⟩ rfl (by decide) (by decide) wn_M_bad
    rw [if_neg e] at h
    by_cases e : ix = 334
    · rw [if_pos e] at h
      cases h
      subst e
      exact call_V (ix := 167) (n := 0) (ci := 10) (met_M_next0 l) ⟨ml_M_167, wq_M_next0⟩ rfl (by decide) (by decide) wn_M_next0
    rw [if_neg e] at h
    by_cases e : ix = 392
    · rw [if_pos e] at h
      cases h
      subst e
      exact call_V (ix := 196) (n := 0) (ci := 10) (met_M_any l) ⟨ml_M_196, wq_M_any⟩ rfl (by decide) (by decide) wn_M_any
    rw [if_neg e] at h
    by_cases e : ix = 398
    · rw [if_pos e] at h
      cases h
      subst e
      exact call_V (ix := 199) (n := 1) (ci := 10) (met_M_need l) ⟨ml_M_199, wq_M_need⟩ rfl (by decide) (by decide) wn_M_need
    rw [if_neg e] at h
    by_cases e : ix = 404
    · rw [if_pos e] at h
      cases h
      subst e
      exact call_V (ix := 202) (n := 0) (ci := 10) (met_M_sumUp l) ⟨ml_M_202, wq_M_sumUp⟩ rfl (by decide) (by decide) wn_M_sumUp
    rw [if_neg e] at h
    cases h)
theorem ml_M_211 : Jvm.Cond.methodLink "FourCarsModel" 211 ⟨"FourCarsModel", "number", "(II)Z"⟩ ∈ gT := gt6 80 rfl rfl
theorem met_M_floors (l : Launch) : mMet l y_M_floors prog_13_method_34_code 2 (some .boolean) 10 f_M_floors := met_of (S := S_M_floors) (cx := cx_M_floors) (by decide) okZ (fun h => der_M_floors h) hfx_M hpx_M hkx_M hsx_M (fun ix n g h => by
    unfold cx_M_floors at h
    by_cases e : ix = 328
    · rw [if_pos e] at h
      cases h
      subst e
      exact call_V (ix := 164) (n := 1) (ci := 10) (met_M_bad l) ⟨ml_M_164, wq_M_bad⟩ rfl (by decide) (by decide) wn_M_bad
    rw [if_neg e] at h
    by_cases e : ix = 334
    · rw [if_pos e] at h
      cases h
      subst e
      exact call_V (ix := 167) (n := 0) (ci := 10) (met_M_next0 l) ⟨ml_M_167, wq_M_next0⟩ rfl (by decide) (by decide) wn_M_next0
    rw [if_neg e] at h
    by_cases e : ix = 422
    · rw [if_pos e] at h
      cases h
      subst e
      exact call_V (ix := 211) (n := 2) (ci := 10) (met_M_number l) ⟨ml_M_211, wq_M_number⟩ rfl (by decide) (by decide) wn_M_number
    rw [if_neg e] at h
    cases h)
theorem met_M_aCar (l : Launch) : mMet l y_M_aCar prog_13_method_35_code 4 (some .boolean) 10 f_M_aCar := met_of (S := S_M_aCar) (cx := cx_M_aCar) (by decide) okZ (fun h => der_M_aCar h) hfx_M hpx_M hkx_M hsx_M (fun ix n g h => by
    unfold cx_M_aCar at h
    by_cases e : ix = 328
    · rw [if_pos e] at h
      cases h
      subst e
      exact call_V (ix := 164) (n := 1) (ci := 10) (met_M_bad l) ⟨ml_M_164, wq_M_bad⟩ rfl (by decide) (by decide) wn_M_bad
    rw [if_neg e] at h
    by_cases e : ix = 334
    · rw [if_pos e] at h
      cases h
      subst e
      exact call_V (ix := 167) (n := 0) (ci := 10) (met_M_next0 l) ⟨ml_M_167, wq_M_next0⟩ rfl (by decide) (by decide) wn_M_next0
    rw [if_neg e] at h
    by_cases e : ix = 422
    · rw [if_pos e] at h
      cases h
      subst e
      exact call_V (ix := 211) (n := 2) (ci := 10) (met_M_number l) ⟨ml_M_211, wq_M_number⟩ rfl (by decide) (by decide) wn_M_number
    rw [if_neg e] at h
    cases h)

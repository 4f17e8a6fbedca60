/-- the model, as it lies in the heap: h its object, q its rows by the fields that hold them; fi its numbers, fs those that come and go, ga its rows of ints, gs those that come and go, pl pile, it item, asd aside -/
def Mw (h : Nat) (q : Nat → Nat) (cA : Nat → ClassId) (fi fs : Nat → Int32) (ga gs : Nat → Nat → Int32) (pl : Nat → Int32) (it asd : Nat → Int64) : va_W := [(h, .inr (7, [.int (fi 0), .int (fi 1), .int (fi 2), .int (fi 3), .int (fi 4), .int (fi 5), .ref (q 6), .ref (q 7), .ref (q 8), .ref (q 9), .ref (q 10), .int (fi 11), .int (fi 12), .int (fi 13), .int (fs 14), .int (fs 15), .ref (q 16), .ref (q 17), .ref (q 18), .ref (q 19), .ref (q 20), .ref (q 21), .ref (q 22), .ref (q 23), .int (fs 24), .int (fs 25), .int (fs 26), .ref (q 27), .ref (q 28), .int (fs 29), .int (fs 30), .int (fs 31), .int (fs 32), .int (fs 33), .int (fs 34), .ref (q 35), .int (fi 36), .ref (q 37), .ref (q 38), .int (fi 39), .int (fi 40), .ref (q 41), .ref (q 42), .ref (q 43), .ref (q 44), .int (fi 45), .int (fi 46), .int (fi 47), .int (fi 48), .int (fi 49), .int (fi 50), .int (fi 51), .int (fi 52), .int (fi 53), .int (fi 54), .int (fi 55), .ref (q 56), .ref (q 57), .ref (q 58), .ref (q 59), .ref (q 60), .ref (q 61), .ref (q 62), .ref (q 63), .ref (q 64), .ref (q 65), .ref (q 66), .int (fi 67), .ref (q 68), .ref (q 69), .ref (q 70), .ref (q 71), .ref (q 72)])), ((q 6), .inl (cA 0, 6, .inl (ga 6))), ((q 7), .inl (cA 0, 6, .inl (ga 7))), ((q 8), .inl (cA 0, 6, .inl (ga 8))), ((q 9), .inl (cA 0, 6, .inl (ga 9))), ((q 10), .inl (cA 0, 24, .inl (ga 10))), ((q 16), .inl (cA 0, 100, .inl (ga 16))), ((q 17), .inl (cA 0, 6, .inl (ga 17))), ((q 18), .inl (cA 0, 60, .inl (ga 18))), ((q 19), .inl (cA 0, 60, .inl (ga 19))), ((q 20), .inl (cA 0, 60, .inl (ga 20))), ((q 21), .inl (cA 0, 60, .inl (ga 21))), ((q 22), .inl (cA 0, 600, .inl (ga 22))), ((q 23), .inl (cA 0, 101, .inl (gs 23))), ((q 27), .inl (cA 0, 12, .inl (ga 27))), ((q 28), .inl (cA 3, 100, .inl pl)), ((q 35), .inl (cA 0, 6, .inl (gs 35))), ((q 37), .inl (cA 0, 5, .inl (ga 37))), ((q 38), .inl (cA 0, 5, .inl (ga 38))), ((q 41), .inl (cA 0, 10, .inl (ga 41))), ((q 42), .inl (cA 0, 10, .inl (ga 42))), ((q 43), .inl (cA 0, 8, .inl (ga 43))), ((q 44), .inl (cA 0, 8, .inl (ga 44))), ((q 56), .inl (cA 0, 6, .inl (ga 56))), ((q 57), .inl (cA 0, 6, .inl (ga 57))), ((q 58), .inl (cA 0, 6, .inl (ga 58))), ((q 59), .inl (cA 0, 6, .inl (ga 59))), ((q 60), .inl (cA 0, 24, .inl (ga 60))), ((q 61), .inl (cA 0, 5, .inl (ga 61))), ((q 62), .inl (cA 0, 5, .inl (ga 62))), ((q 63), .inl (cA 0, 10, .inl (ga 63))), ((q 64), .inl (cA 0, 10, .inl (ga 64))), ((q 65), .inl (cA 0, 8, .inl (ga 65))), ((q 66), .inl (cA 0, 8, .inl (ga 66))), ((q 68), .inl (cA 0, 20, .inl (ga 68))), ((q 69), .inl (cA 0, 6, .inl (ga 69))), ((q 70), .inl (cA 0, 6, .inl (ga 70))), ((q 71), .inl (cA 2, 360, .inr (.inl it))), ((q 72), .inl (cA 2, 60, .inr (.inl asd)))]
theorem m_methodLink_M_233_M_has_II_Z : (Cond.methodLink RX7 233 yX7_has) ∈ BW := bw_in (tw_5 _ (List.mem_of_getElem? (i := 36) (by decide +kernel))) rfl
theorem m_instanceMethod_M_has_II_Z : (Cond.instanceMethod yX7_has) ∈ BW := bw_in (tw_5 _ (List.mem_of_getElem? (i := 38) (by decide +kernel))) rfl
theorem m_selects_M_M_has_II_Z_M_has_II_Z : (Cond.selects RX7 yX7_has yX7_has) ∈ BW := bw_in (List.mem_append_left _ (pw_2 _ (List.mem_of_getElem? (i := 13) (by decide +kernel)))) rfl
theorem m_initialized_M : (Cond.initialized RX7) ∈ BW := bw_in (tw_1 _ (List.mem_of_getElem? (i := 7) (by decide +kernel))) rfl
theorem m_code_M_has_II_Z : (Cond.code yX7_has cX7_has 3 (some .boolean)) ∈ BW := bw_in (tw_5 _ (List.mem_of_getElem? (i := 39) (by decide +kernel))) rfl
theorem m_fieldLink_M_7_M_men_I : (Cond.fieldLink RX7 7 "CellarPlotModel" "men" "I") ∈ BW := bw_in (tw_4 _ (List.mem_of_getElem? (i := 31) (by decide +kernel))) rfl
theorem m_methodLink_M_237_M_in_III_Z : (Cond.methodLink RX7 237 yX7_in) ∈ BW := bw_in (tw_5 _ (List.mem_of_getElem? (i := 16) (by decide +kernel))) rfl
theorem m_instanceMethod_M_in_III_Z : (Cond.instanceMethod yX7_in) ∈ BW := bw_in (tw_5 _ (List.mem_of_getElem? (i := 18) (by decide +kernel))) rfl
theorem m_selects_M_M_in_III_Z_M_in_III_Z : (Cond.selects RX7 yX7_in yX7_in) ∈ BW := bw_in (List.mem_append_left _ (pw_2 _ (List.mem_of_getElem? (i := 10) (by decide +kernel)))) rfl
theorem m_code_M_in_III_Z : (Cond.code yX7_in cX7_in 4 (some .boolean)) ∈ BW := bw_in (tw_5 _ (List.mem_of_getElem? (i := 19) (by decide +kernel))) rfl
theorem m_methodLink_M_241_M_isNerve_I_Z : (Cond.methodLink RX7 241 yX7_isNerve) ∈ BW := bw_in (tw_5 _ (List.mem_of_getElem? (i := 20) (by decide +kernel))) rfl
theorem m_instanceMethod_M_isNerve_I_Z : (Cond.instanceMethod yX7_isNerve) ∈ BW := bw_in (tw_5 _ (List.mem_of_getElem? (i := 22) (by decide +kernel))) rfl
theorem m_selects_M_M_isNerve_I_Z_M_isNerve_I_Z : (Cond.selects RX7 yX7_isNerve yX7_isNerve) ∈ BW := bw_in (List.mem_append_left _ (pw_2 _ (List.mem_of_getElem? (i := 11) (by decide +kernel)))) rfl
theorem m_code_M_isNerve_I_Z : (Cond.code yX7_isNerve cX7_isNerve 2 (some .boolean)) ∈ BW := bw_in (tw_5 _ (List.mem_of_getElem? (i := 23) (by decide +kernel))) rfl
theorem m_fieldLink_M_28_M_kind_aI : (Cond.fieldLink RX7 28 "CellarPlotModel" "kind" "[I") ∈ BW := bw_in (tw_4 _ (List.mem_of_getElem? (i := 37) (by decide +kernel))) rfl
theorem m_fieldLink_M_32_M_v_aI : (Cond.fieldLink RX7 32 "CellarPlotModel" "v" "[I") ∈ BW := bw_in (tw_4 _ (List.mem_of_getElem? (i := 38) (by decide +kernel))) rfl
theorem m_fieldLink_M_35_M_nerve_aI : (Cond.fieldLink RX7 35 "CellarPlotModel" "nerve" "[I") ∈ BW := bw_in (tw_4 _ (List.mem_of_getElem? (i := 39) (by decide +kernel))) rfl
theorem m_fieldLink_M_38_M_spell_aI : (Cond.fieldLink RX7 38 "CellarPlotModel" "spell" "[I") ∈ BW := bw_in (tw_4 _ (List.mem_of_getElem? (i := 40) (by decide +kernel))) rfl
theorem m_fieldLink_M_13_M_up_I : (Cond.fieldLink RX7 13 "CellarPlotModel" "up" "I") ∈ BW := bw_in (tw_4 _ (List.mem_of_getElem? (i := 32) (by decide +kernel))) rfl
theorem m_fieldLink_M_41_M_rows_aI : (Cond.fieldLink RX7 41 "CellarPlotModel" "rows" "[I") ∈ BW := bw_in (tw_4 _ (List.mem_of_getElem? (i := 41) (by decide +kernel))) rfl
theorem m_methodLink_M_245_M_isMan_I_Z : (Cond.methodLink RX7 245 yX7_isMan) ∈ BW := bw_in (tw_5 _ (List.mem_of_getElem? (i := 28) (by decide +kernel))) rfl
theorem m_instanceMethod_M_isMan_I_Z : (Cond.instanceMethod yX7_isMan) ∈ BW := bw_in (tw_5 _ (List.mem_of_getElem? (i := 30) (by decide +kernel))) rfl
theorem m_selects_M_M_isMan_I_Z_M_isMan_I_Z : (Cond.selects RX7 yX7_isMan yX7_isMan) ∈ BW := bw_in (List.mem_append_left _ (pw_2 _ (List.mem_of_getElem? (i := 12) (by decide +kernel)))) rfl
theorem m_code_M_isMan_I_Z : (Cond.code yX7_isMan cX7_isMan 2 (some .boolean)) ∈ BW := bw_in (tw_5 _ (List.mem_of_getElem? (i := 31) (by decide +kernel))) rfl
theorem m_methodLink_M_248_M_goes_IZ_V : (Cond.methodLink RX7 248 yX7_goes) ∈ BW := bw_in (tw_5 _ (List.mem_of_getElem? (i := 40) (by decide +kernel))) rfl
theorem m_instanceMethod_M_goes_IZ_V : (Cond.instanceMethod yX7_goes) ∈ BW := bw_in (tw_5 _ (List.mem_of_getElem? (i := 42) (by decide +kernel))) rfl
theorem m_selects_M_M_goes_IZ_V_M_goes_IZ_V : (Cond.selects RX7 yX7_goes yX7_goes) ∈ BW := bw_in (List.mem_append_left _ (pw_2 _ (List.mem_of_getElem? (i := 14) (by decide +kernel)))) rfl
theorem m_code_M_goes_IZ_V : (Cond.code yX7_goes cX7_goes 3 none) ∈ BW := bw_in (tw_5 _ (List.mem_of_getElem? (i := 43) (by decide +kernel))) rfl
theorem m_fieldLink_M_16_M_fears_I : (Cond.fieldLink RX7 16 "CellarPlotModel" "fears" "I") ∈ BW := bw_in (tw_4 _ (List.mem_of_getElem? (i := 33) (by decide +kernel))) rfl
theorem m_fieldLink_M_50_M_fed_I : (Cond.fieldLink RX7 50 "CellarPlotModel" "fed" "I") ∈ BW := bw_in (tw_4 _ (List.mem_of_getElem? (i := 44) (by decide +kernel))) rfl
theorem m_fieldLink_M_59_M_text_aI : (Cond.fieldLink RX7 59 "CellarPlotModel" "text" "[I") ∈ BW := bw_in (tw_4 _ (List.mem_of_getElem? (i := 47) (by decide +kernel))) rfl
theorem m_fieldLink_M_53_M_at_I : (Cond.fieldLink RX7 53 "CellarPlotModel" "at" "I") ∈ BW := bw_in (tw_4 _ (List.mem_of_getElem? (i := 45) (by decide +kernel))) rfl
theorem m_methodLink_M_252_M_next__I : (Cond.methodLink RX7 252 yX7_next) ∈ BW := bw_in (tw_5 _ (List.mem_of_getElem? (i := 72) (by decide +kernel))) rfl
theorem m_instanceMethod_M_next__I : (Cond.instanceMethod yX7_next) ∈ BW := bw_in (tw_5 _ (List.mem_of_getElem? (i := 74) (by decide +kernel))) rfl
theorem m_selects_M_M_next__I_M_next__I : (Cond.selects RX7 yX7_next yX7_next) ∈ BW := bw_in (List.mem_append_left _ (pw_3 _ (List.mem_of_getElem? (i := 2) (by decide +kernel)))) rfl
theorem m_code_M_next__I : (Cond.code yX7_next cX7_next 1 (some .int)) ∈ BW := bw_in (tw_5 _ (List.mem_of_getElem? (i := 75) (by decide +kernel))) rfl
theorem m_methodLink_M_256_M_takes_I_Z : (Cond.methodLink RX7 256 yX7_takes) ∈ BW := bw_in (tw_5 _ (List.mem_of_getElem? (i := 80) (by decide +kernel))) rfl
theorem m_instanceMethod_M_takes_I_Z : (Cond.instanceMethod yX7_takes) ∈ BW := bw_in (tw_5 _ (List.mem_of_getElem? (i := 82) (by decide +kernel))) rfl
theorem m_selects_M_M_takes_I_Z_M_takes_I_Z : (Cond.selects RX7 yX7_takes yX7_takes) ∈ BW := bw_in (List.mem_append_left _ (pw_3 _ (List.mem_of_getElem? (i := 4) (by decide +kernel)))) rfl
theorem m_code_M_takes_I_Z : (Cond.code yX7_takes cX7_takes 2 (some .boolean)) ∈ BW := bw_in (tw_5 _ (List.mem_of_getElem? (i := 83) (by decide +kernel))) rfl
theorem m_fieldLink_M_92_M_letters_aI : (Cond.fieldLink RX7 92 "CellarPlotModel" "letters" "[I") ∈ BW := bw_in (tw_4 _ (List.mem_of_getElem? (i := 58) (by decide +kernel))) rfl
theorem m_methodLink_M_259_M_isDigit__Z : (Cond.methodLink RX7 259 yX7_isDigit) ∈ BW := bw_in (tw_5 _ (List.mem_of_getElem? (i := 88) (by decide +kernel))) rfl
theorem m_instanceMethod_M_isDigit__Z : (Cond.instanceMethod yX7_isDigit) ∈ BW := bw_in (tw_5 _ (List.mem_of_getElem? (i := 90) (by decide +kernel))) rfl
theorem m_selects_M_M_isDigit__Z_M_isDigit__Z : (Cond.selects RX7 yX7_isDigit yX7_isDigit) ∈ BW := bw_in (List.mem_append_left _ (pw_3 _ (List.mem_of_getElem? (i := 6) (by decide +kernel)))) rfl
theorem m_code_M_isDigit__Z : (Cond.code yX7_isDigit cX7_isDigit 1 (some .boolean)) ∈ BW := bw_in (tw_5 _ (List.mem_of_getElem? (i := 91) (by decide +kernel))) rfl
theorem m_fieldLink_M_56_M_digits_I : (Cond.fieldLink RX7 56 "CellarPlotModel" "digits" "I") ∈ BW := bw_in (tw_4 _ (List.mem_of_getElem? (i := 46) (by decide +kernel))) rfl
theorem m_fieldLink_M_77_M_sign_aI : (Cond.fieldLink RX7 77 "CellarPlotModel" "sign" "[I") ∈ BW := bw_in (tw_4 _ (List.mem_of_getElem? (i := 53) (by decide +kernel))) rfl
theorem m_fieldLink_M_83_M_signs_I : (Cond.fieldLink RX7 83 "CellarPlotModel" "signs" "I") ∈ BW := bw_in (tw_4 _ (List.mem_of_getElem? (i := 55) (by decide +kernel))) rfl
theorem m_fieldLink_M_86_M_waiting_I : (Cond.fieldLink RX7 86 "CellarPlotModel" "waiting" "I") ∈ BW := bw_in (tw_4 _ (List.mem_of_getElem? (i := 56) (by decide +kernel))) rfl
theorem m_fieldLink_M_80_M_waits_aI : (Cond.fieldLink RX7 80 "CellarPlotModel" "waits" "[I") ∈ BW := bw_in (tw_4 _ (List.mem_of_getElem? (i := 54) (by decide +kernel))) rfl
theorem m_methodLink_M_263_M_emits_I_V : (Cond.methodLink RX7 263 yX7_emits) ∈ BW := bw_in (tw_5 _ (List.mem_of_getElem? (i := 104) (by decide +kernel))) rfl
theorem m_instanceMethod_M_emits_I_V : (Cond.instanceMethod yX7_emits) ∈ BW := bw_in (tw_5 _ (List.mem_of_getElem? (i := 106) (by decide +kernel))) rfl
theorem m_selects_M_M_emits_I_V_M_emits_I_V : (Cond.selects RX7 yX7_emits yX7_emits) ∈ BW := bw_in (List.mem_append_left _ (pw_3 _ (List.mem_of_getElem? (i := 10) (by decide +kernel)))) rfl
theorem m_code_M_emits_I_V : (Cond.code yX7_emits cX7_emits 2 none) ∈ BW := bw_in (tw_5 _ (List.mem_of_getElem? (i := 107) (by decide +kernel))) rfl
theorem m_fieldLink_M_89_M_open_I : (Cond.fieldLink RX7 89 "CellarPlotModel" "open" "I") ∈ BW := bw_in (tw_4 _ (List.mem_of_getElem? (i := 57) (by decide +kernel))) rfl
theorem m_methodLink_M_267_M_place_I_I : (Cond.methodLink RX7 267 yX7_place) ∈ BW := bw_in (tw_5 _ (List.mem_of_getElem? (i := 100) (by decide +kernel))) rfl
theorem m_instanceMethod_M_place_I_I : (Cond.instanceMethod yX7_place) ∈ BW := bw_in (tw_5 _ (List.mem_of_getElem? (i := 102) (by decide +kernel))) rfl
theorem m_selects_M_M_place_I_I_M_place_I_I : (Cond.selects RX7 yX7_place yX7_place) ∈ BW := bw_in (List.mem_append_left _ (pw_3 _ (List.mem_of_getElem? (i := 9) (by decide +kernel)))) rfl
theorem m_code_M_place_I_I : (Cond.code yX7_place cX7_place 2 (some .int)) ∈ BW := bw_in (tw_5 _ (List.mem_of_getElem? (i := 103) (by decide +kernel))) rfl
theorem m_methodLink_M_271_M_takesNumber__Z : (Cond.methodLink RX7 271 yX7_takesNumber) ∈ BW := bw_in (tw_5 _ (List.mem_of_getElem? (i := 84) (by decide +kernel))) rfl
theorem m_instanceMethod_M_takesNumber__Z : (Cond.instanceMethod yX7_takesNumber) ∈ BW := bw_in (tw_5 _ (List.mem_of_getElem? (i := 86) (by decide +kernel))) rfl
theorem m_selects_M_M_takesNumber__Z_M_takesNumber__Z : (Cond.selects RX7 yX7_takesNumber yX7_takesNumber) ∈ BW := bw_in (List.mem_append_left _ (pw_3 _ (List.mem_of_getElem? (i := 5) (by decide +kernel)))) rfl
theorem m_code_M_takesNumber__Z : (Cond.code yX7_takesNumber cX7_takesNumber 2 (some .boolean)) ∈ BW := bw_in (tw_5 _ (List.mem_of_getElem? (i := 87) (by decide +kernel))) rfl
theorem m_methodLink_M_274_M_whole__V : (Cond.methodLink RX7 274 yX7_whole) ∈ BW := bw_in (tw_5 _ (List.mem_of_getElem? (i := 108) (by decide +kernel))) rfl
theorem m_instanceMethod_M_whole__V : (Cond.instanceMethod yX7_whole) ∈ BW := bw_in (tw_5 _ (List.mem_of_getElem? (i := 110) (by decide +kernel))) rfl
theorem m_selects_M_M_whole__V_M_whole__V : (Cond.selects RX7 yX7_whole yX7_whole) ∈ BW := bw_in (List.mem_append_left _ (pw_3 _ (List.mem_of_getElem? (i := 11) (by decide +kernel)))) rfl
theorem m_code_M_whole__V : (Cond.code yX7_whole cX7_whole 1 none) ∈ BW := bw_in (tw_5 _ (List.mem_of_getElem? (i := 111) (by decide +kernel))) rfl
theorem m_fieldLink_M_71_M_from_aI : (Cond.fieldLink RX7 71 "CellarPlotModel" "from" "[I") ∈ BW := bw_in (tw_4 _ (List.mem_of_getElem? (i := 51) (by decide +kernel))) rfl
theorem m_methodLink_M_280_M_settle_I_V : (Cond.methodLink RX7 280 yX7_settle) ∈ BW := bw_in (tw_5 _ (List.mem_of_getElem? (i := 112) (by decide +kernel))) rfl
theorem m_instanceMethod_M_settle_I_V : (Cond.instanceMethod yX7_settle) ∈ BW := bw_in (tw_5 _ (List.mem_of_getElem? (i := 114) (by decide +kernel))) rfl
theorem m_selects_M_M_settle_I_V_M_settle_I_V : (Cond.selects RX7 yX7_settle yX7_settle) ∈ BW := bw_in (List.mem_append_left _ (pw_3 _ (List.mem_of_getElem? (i := 12) (by decide +kernel)))) rfl
theorem m_code_M_settle_I_V : (Cond.code yX7_settle cX7_settle 2 none) ∈ BW := bw_in (tw_5 _ (List.mem_of_getElem? (i := 115) (by decide +kernel))) rfl
theorem m_fieldLink_M_74_M_to_aI : (Cond.fieldLink RX7 74 "CellarPlotModel" "to" "[I") ∈ BW := bw_in (tw_4 _ (List.mem_of_getElem? (i := 52) (by decide +kernel))) rfl
theorem m_methodLink_M_277_M_takesTest__Z : (Cond.methodLink RX7 277 yX7_takesTest) ∈ BW := bw_in (tw_5 _ (List.mem_of_getElem? (i := 96) (by decide +kernel))) rfl
theorem m_instanceMethod_M_takesTest__Z : (Cond.instanceMethod yX7_takesTest) ∈ BW := bw_in (tw_5 _ (List.mem_of_getElem? (i := 98) (by decide +kernel))) rfl
theorem m_selects_M_M_takesTest__Z_M_takesTest__Z : (Cond.selects RX7 yX7_takesTest yX7_takesTest) ∈ BW := bw_in (List.mem_append_left _ (pw_3 _ (List.mem_of_getElem? (i := 8) (by decide +kernel)))) rfl
theorem m_code_M_takesTest__Z : (Cond.code yX7_takesTest cX7_takesTest 3 (some .boolean)) ∈ BW := bw_in (tw_5 _ (List.mem_of_getElem? (i := 99) (by decide +kernel))) rfl
theorem m_fieldLink_M_65_M_word_aI : (Cond.fieldLink RX7 65 "CellarPlotModel" "word" "[I") ∈ BW := bw_in (tw_4 _ (List.mem_of_getElem? (i := 49) (by decide +kernel))) rfl
theorem m_methodLink_M_283_M_takesWord_II_Z : (Cond.methodLink RX7 283 yX7_takesWord) ∈ BW := bw_in (tw_5 _ (List.mem_of_getElem? (i := 76) (by decide +kernel))) rfl
theorem m_instanceMethod_M_takesWord_II_Z : (Cond.instanceMethod yX7_takesWord) ∈ BW := bw_in (tw_5 _ (List.mem_of_getElem? (i := 78) (by decide +kernel))) rfl
theorem m_selects_M_M_takesWord_II_Z_M_takesWord_II_Z : (Cond.selects RX7 yX7_takesWord yX7_takesWord) ∈ BW := bw_in (List.mem_append_left _ (pw_3 _ (List.mem_of_getElem? (i := 3) (by decide +kernel)))) rfl
theorem m_code_M_takesWord_II_Z : (Cond.code yX7_takesWord cX7_takesWord 4 (some .boolean)) ∈ BW := bw_in (tw_5 _ (List.mem_of_getElem? (i := 79) (by decide +kernel))) rfl
theorem m_methodLink_M_286_M_takesHead_I_Z : (Cond.methodLink RX7 286 yX7_takesHead) ∈ BW := bw_in (tw_5 _ (List.mem_of_getElem? (i := 68) (by decide +kernel))) rfl
theorem m_instanceMethod_M_takesHead_I_Z : (Cond.instanceMethod yX7_takesHead) ∈ BW := bw_in (tw_5 _ (List.mem_of_getElem? (i := 70) (by decide +kernel))) rfl
theorem m_selects_M_M_takesHead_I_Z_M_takesHead_I_Z : (Cond.selects RX7 yX7_takesHead yX7_takesHead) ∈ BW := bw_in (List.mem_append_left _ (pw_3 _ (List.mem_of_getElem? (i := 1) (by decide +kernel)))) rfl
theorem m_code_M_takesHead_I_Z : (Cond.code yX7_takesHead cX7_takesHead 2 (some .boolean)) ∈ BW := bw_in (tw_5 _ (List.mem_of_getElem? (i := 71) (by decide +kernel))) rfl
theorem m_fieldLink_M_68_M_number_aI : (Cond.fieldLink RX7 68 "CellarPlotModel" "number" "[I") ∈ BW := bw_in (tw_4 _ (List.mem_of_getElem? (i := 50) (by decide +kernel))) rfl
theorem m_methodLink_M_289_M_takesE_I_Z : (Cond.methodLink RX7 289 yX7_takesE) ∈ BW := bw_in (tw_5 _ (List.mem_of_getElem? (i := 92) (by decide +kernel))) rfl
theorem m_instanceMethod_M_takesE_I_Z : (Cond.instanceMethod yX7_takesE) ∈ BW := bw_in (tw_5 _ (List.mem_of_getElem? (i := 94) (by decide +kernel))) rfl
theorem m_selects_M_M_takesE_I_Z_M_takesE_I_Z : (Cond.selects RX7 yX7_takesE yX7_takesE) ∈ BW := bw_in (List.mem_append_left _ (pw_3 _ (List.mem_of_getElem? (i := 7) (by decide +kernel)))) rfl
theorem m_code_M_takesE_I_Z : (Cond.code yX7_takesE cX7_takesE 4 (some .boolean)) ∈ BW := bw_in (tw_5 _ (List.mem_of_getElem? (i := 95) (by decide +kernel))) rfl
theorem m_methodLink_M_292_M_takesClause_I_Z : (Cond.methodLink RX7 292 yX7_takesClause) ∈ BW := bw_in (tw_5 _ (List.mem_of_getElem? (i := 64) (by decide +kernel))) rfl
theorem m_instanceMethod_M_takesClause_I_Z : (Cond.instanceMethod yX7_takesClause) ∈ BW := bw_in (tw_5 _ (List.mem_of_getElem? (i := 66) (by decide +kernel))) rfl
theorem m_selects_M_M_takesClause_I_Z_M_takesClause_I_Z : (Cond.selects RX7 yX7_takesClause yX7_takesClause) ∈ BW := bw_in (List.mem_append_left _ (pw_3 _ (List.mem_of_getElem? (i := 0) (by decide +kernel)))) rfl
theorem m_code_M_takesClause_I_Z : (Cond.code yX7_takesClause cX7_takesClause 2 (some .boolean)) ∈ BW := bw_in (tw_5 _ (List.mem_of_getElem? (i := 67) (by decide +kernel))) rfl
theorem m_fieldLink_M_62_M_clauses_aI : (Cond.fieldLink RX7 62 "CellarPlotModel" "clauses" "[I") ∈ BW := bw_in (tw_4 _ (List.mem_of_getElem? (i := 48) (by decide +kernel))) rfl
theorem m_fieldLink_M_44_M_charters_I : (Cond.fieldLink RX7 44 "CellarPlotModel" "charters" "I") ∈ BW := bw_in (tw_4 _ (List.mem_of_getElem? (i := 42) (by decide +kernel))) rfl
theorem m_methodLink_M_295_M_goesText_I_Z : (Cond.methodLink RX7 295 yX7_goesText) ∈ BW := bw_in (tw_5 _ (List.mem_of_getElem? (i := 60) (by decide +kernel))) rfl
theorem m_instanceMethod_M_goesText_I_Z : (Cond.instanceMethod yX7_goesText) ∈ BW := bw_in (tw_5 _ (List.mem_of_getElem? (i := 62) (by decide +kernel))) rfl
theorem m_selects_M_M_goesText_I_Z_M_goesText_I_Z : (Cond.selects RX7 yX7_goesText yX7_goesText) ∈ BW := bw_in (List.mem_append_left _ (pw_2 _ (List.mem_of_getElem? (i := 15) (by decide +kernel)))) rfl
theorem m_code_M_goesText_I_Z : (Cond.code yX7_goesText cX7_goesText 3 (some .boolean)) ∈ BW := bw_in (tw_5 _ (List.mem_of_getElem? (i := 63) (by decide +kernel))) rfl
theorem m_fieldLink_M_47_M_the_I : (Cond.fieldLink RX7 47 "CellarPlotModel" "the" "I") ∈ BW := bw_in (tw_4 _ (List.mem_of_getElem? (i := 43) (by decide +kernel))) rfl
theorem m_methodLink_M_298_M_begin__I : (Cond.methodLink RX7 298 yX7_begin) ∈ BW := bw_in (tw_5 _ (List.mem_of_getElem? (i := 148) (by decide +kernel))) rfl
theorem m_instanceMethod_M_begin__I : (Cond.instanceMethod yX7_begin) ∈ BW := bw_in (tw_5 _ (List.mem_of_getElem? (i := 150) (by decide +kernel))) rfl
theorem m_selects_M_M_begin__I_M_begin__I : (Cond.selects RX7 yX7_begin yX7_begin) ∈ BW := bw_in (List.mem_append_left _ (pw_4 _ (List.mem_of_getElem? (i := 4) (by decide +kernel)))) rfl
theorem m_code_M_begin__I : (Cond.code yX7_begin cX7_begin 1 (some .int)) ∈ BW := bw_in (tw_5 _ (List.mem_of_getElem? (i := 151) (by decide +kernel))) rfl
theorem m_methodLink_M_301_M_behind__I : (Cond.methodLink RX7 301 yX7_behind) ∈ BW := bw_in (tw_5 _ (List.mem_of_getElem? (i := 152) (by decide +kernel))) rfl
theorem m_instanceMethod_M_behind__I : (Cond.instanceMethod yX7_behind) ∈ BW := bw_in (tw_5 _ (List.mem_of_getElem? (i := 154) (by decide +kernel))) rfl
theorem m_selects_M_M_behind__I_M_behind__I : (Cond.selects RX7 yX7_behind yX7_behind) ∈ BW := bw_in (List.mem_append_left _ (pw_4 _ (List.mem_of_getElem? (i := 5) (by decide +kernel)))) rfl
theorem m_code_M_behind__I : (Cond.code yX7_behind cX7_behind 1 (some .int)) ∈ BW := bw_in (tw_5 _ (List.mem_of_getElem? (i := 155) (by decide +kernel))) rfl
theorem m_fieldLink_M_25_M_day_I : (Cond.fieldLink RX7 25 "CellarPlotModel" "day" "I") ∈ BW := bw_in (tw_4 _ (List.mem_of_getElem? (i := 36) (by decide +kernel))) rfl
theorem m_fieldLink_M_95_M_pile_aZ : (Cond.fieldLink RX7 95 "CellarPlotModel" "pile" "[Z") ∈ BW := bw_in (tw_4 _ (List.mem_of_getElem? (i := 59) (by decide +kernel))) rfl
theorem m_methodLink_M_304_M_factOf_II_I : (Cond.methodLink RX7 304 yX7_factOf) ∈ BW := bw_in (tw_5 _ (List.mem_of_getElem? (i := 160) (by decide +kernel))) rfl
theorem m_instanceMethod_M_factOf_II_I : (Cond.instanceMethod yX7_factOf) ∈ BW := bw_in (tw_5 _ (List.mem_of_getElem? (i := 162) (by decide +kernel))) rfl
theorem m_selects_M_M_factOf_II_I_M_factOf_II_I : (Cond.selects RX7 yX7_factOf yX7_factOf) ∈ BW := bw_in (List.mem_append_left _ (pw_4 _ (List.mem_of_getElem? (i := 7) (by decide +kernel)))) rfl
theorem m_code_M_factOf_II_I : (Cond.code yX7_factOf cX7_factOf 3 (some .int)) ∈ BW := bw_in (tw_5 _ (List.mem_of_getElem? (i := 163) (by decide +kernel))) rfl
theorem m_methodLink_M_308_M_holds_II_Z : (Cond.methodLink RX7 308 yX7_holds) ∈ BW := bw_in (tw_5 _ (List.mem_of_getElem? (i := 156) (by decide +kernel))) rfl
theorem m_instanceMethod_M_holds_II_Z : (Cond.instanceMethod yX7_holds) ∈ BW := bw_in (tw_5 _ (List.mem_of_getElem? (i := 158) (by decide +kernel))) rfl
theorem m_selects_M_M_holds_II_Z_M_holds_II_Z : (Cond.selects RX7 yX7_holds yX7_holds) ∈ BW := bw_in (List.mem_append_left _ (pw_4 _ (List.mem_of_getElem? (i := 6) (by decide +kernel)))) rfl
theorem m_code_M_holds_II_Z : (Cond.code yX7_holds cX7_holds 8 (some .boolean)) ∈ BW := bw_in (tw_5 _ (List.mem_of_getElem? (i := 159) (by decide +kernel))) rfl
theorem m_methodLink_M_311_M_sum_I_I : (Cond.methodLink RX7 311 yX7_sum) ∈ BW := bw_in (tw_5 _ (List.mem_of_getElem? (i := 144) (by decide +kernel))) rfl
theorem m_instanceMethod_M_sum_I_I : (Cond.instanceMethod yX7_sum) ∈ BW := bw_in (tw_5 _ (List.mem_of_getElem? (i := 146) (by decide +kernel))) rfl
theorem m_selects_M_M_sum_I_I_M_sum_I_I : (Cond.selects RX7 yX7_sum yX7_sum) ∈ BW := bw_in (List.mem_append_left _ (pw_4 _ (List.mem_of_getElem? (i := 3) (by decide +kernel)))) rfl
theorem m_code_M_sum_I_I : (Cond.code yX7_sum cX7_sum 4 (some .int)) ∈ BW := bw_in (tw_5 _ (List.mem_of_getElem? (i := 147) (by decide +kernel))) rfl
theorem m_methodLink_M_314_M_least_II_I : (Cond.methodLink RX7 314 yX7_least) ∈ BW := bw_in (tw_5 _ (List.mem_of_getElem? (i := 164) (by decide +kernel))) rfl
theorem m_instanceMethod_M_least_II_I : (Cond.instanceMethod yX7_least) ∈ BW := bw_in (tw_5 _ (List.mem_of_getElem? (i := 166) (by decide +kernel))) rfl
theorem m_selects_M_M_least_II_I_M_least_II_I : (Cond.selects RX7 yX7_least yX7_least) ∈ BW := bw_in (List.mem_append_left _ (pw_4 _ (List.mem_of_getElem? (i := 8) (by decide +kernel)))) rfl
theorem m_code_M_least_II_I : (Cond.code yX7_least cX7_least 3 (some .int)) ∈ BW := bw_in (tw_5 _ (List.mem_of_getElem? (i := 167) (by decide +kernel))) rfl
theorem m_methodLink_M_317_M_isDancerBelow_I_Z : (Cond.methodLink RX7 317 yX7_isDancerBelow) ∈ BW := bw_in (tw_5 _ (List.mem_of_getElem? (i := 168) (by decide +kernel))) rfl
theorem m_instanceMethod_M_isDancerBelow_I_Z : (Cond.instanceMethod yX7_isDancerBelow) ∈ BW := bw_in (tw_5 _ (List.mem_of_getElem? (i := 170) (by decide +kernel))) rfl
theorem m_selects_M_M_isDancerBelow_I_Z_M_isDancerBelow_I_Z : (Cond.selects RX7 yX7_isDancerBelow yX7_isDancerBelow) ∈ BW := bw_in (List.mem_append_left _ (pw_4 _ (List.mem_of_getElem? (i := 9) (by decide +kernel)))) rfl
theorem m_code_M_isDancerBelow_I_Z : (Cond.code yX7_isDancerBelow cX7_isDancerBelow 3 (some .boolean)) ∈ BW := bw_in (tw_5 _ (List.mem_of_getElem? (i := 171) (by decide +kernel))) rfl
theorem m_methodLink_M_320_M_noise_I_I : (Cond.methodLink RX7 320 yX7_noise) ∈ BW := bw_in (tw_5 _ (List.mem_of_getElem? (i := 140) (by decide +kernel))) rfl
theorem m_instanceMethod_M_noise_I_I : (Cond.instanceMethod yX7_noise) ∈ BW := bw_in (tw_5 _ (List.mem_of_getElem? (i := 142) (by decide +kernel))) rfl
theorem m_selects_M_M_noise_I_I_M_noise_I_I : (Cond.selects RX7 yX7_noise yX7_noise) ∈ BW := bw_in (List.mem_append_left _ (pw_4 _ (List.mem_of_getElem? (i := 2) (by decide +kernel)))) rfl
theorem m_code_M_noise_I_I : (Cond.code yX7_noise cX7_noise 4 (some .int)) ∈ BW := bw_in (tw_5 _ (List.mem_of_getElem? (i := 143) (by decide +kernel))) rfl
theorem m_methodLink_M_323_M_heardOf_I_I : (Cond.methodLink RX7 323 yX7_heardOf) ∈ BW := bw_in (tw_5 _ (List.mem_of_getElem? (i := 136) (by decide +kernel))) rfl
theorem m_instanceMethod_M_heardOf_I_I : (Cond.instanceMethod yX7_heardOf) ∈ BW := bw_in (tw_5 _ (List.mem_of_getElem? (i := 138) (by decide +kernel))) rfl
theorem m_selects_M_M_heardOf_I_I_M_heardOf_I_I : (Cond.selects RX7 yX7_heardOf yX7_heardOf) ∈ BW := bw_in (List.mem_append_left _ (pw_4 _ (List.mem_of_getElem? (i := 1) (by decide +kernel)))) rfl
theorem m_code_M_heardOf_I_I : (Cond.code yX7_heardOf cX7_heardOf 3 (some .int)) ∈ BW := bw_in (tw_5 _ (List.mem_of_getElem? (i := 139) (by decide +kernel))) rfl
theorem m_methodLink_M_326_M_sound__I : (Cond.methodLink RX7 326 yX7_sound) ∈ BW := bw_in (tw_5 _ (List.mem_of_getElem? (i := 132) (by decide +kernel))) rfl
theorem m_instanceMethod_M_sound__I : (Cond.instanceMethod yX7_sound) ∈ BW := bw_in (tw_5 _ (List.mem_of_getElem? (i := 134) (by decide +kernel))) rfl
theorem m_selects_M_M_sound__I_M_sound__I : (Cond.selects RX7 yX7_sound yX7_sound) ∈ BW := bw_in (List.mem_append_left _ (pw_4 _ (List.mem_of_getElem? (i := 0) (by decide +kernel)))) rfl
theorem m_code_M_sound__I : (Cond.code yX7_sound cX7_sound 3 (some .int)) ∈ BW := bw_in (tw_5 _ (List.mem_of_getElem? (i := 135) (by decide +kernel))) rfl
theorem m_fieldLink_M_22_M_silences_I : (Cond.fieldLink RX7 22 "CellarPlotModel" "silences" "I") ∈ BW := bw_in (tw_4 _ (List.mem_of_getElem? (i := 35) (by decide +kernel))) rfl
theorem m_fieldLink_M_99_M_mostCount_I : (Cond.fieldLink RX7 99 "CellarPlotModel" "mostCount" "I") ∈ BW := bw_in (tw_4 _ (List.mem_of_getElem? (i := 60) (by decide +kernel))) rfl
theorem m_methodLink_M_329_M_calm__I : (Cond.methodLink RX7 329 yX7_calm) ∈ BW := bw_in (tw_5 _ (List.mem_of_getElem? (i := 172) (by decide +kernel))) rfl
theorem m_instanceMethod_M_calm__I : (Cond.instanceMethod yX7_calm) ∈ BW := bw_in (tw_5 _ (List.mem_of_getElem? (i := 174) (by decide +kernel))) rfl
theorem m_selects_M_M_calm__I_M_calm__I : (Cond.selects RX7 yX7_calm yX7_calm) ∈ BW := bw_in (List.mem_append_left _ (pw_4 _ (List.mem_of_getElem? (i := 10) (by decide +kernel)))) rfl
theorem m_code_M_calm__I : (Cond.code yX7_calm cX7_calm 3 (some .int)) ∈ BW := bw_in (tw_5 _ (List.mem_of_getElem? (i := 175) (by decide +kernel))) rfl
theorem m_fieldLink_M_19_M_truths_I : (Cond.fieldLink RX7 19 "CellarPlotModel" "truths" "I") ∈ BW := bw_in (tw_4 _ (List.mem_of_getElem? (i := 34) (by decide +kernel))) rfl
theorem m_methodLink_M_332_M_goDay__V : (Cond.methodLink RX7 332 yX7_goDay) ∈ BW := bw_in (tw_5 _ (List.mem_of_getElem? (i := 128) (by decide +kernel))) rfl
theorem m_instanceMethod_M_goDay__V : (Cond.instanceMethod yX7_goDay) ∈ BW := bw_in (tw_5 _ (List.mem_of_getElem? (i := 130) (by decide +kernel))) rfl
theorem m_selects_M_M_goDay__V_M_goDay__V : (Cond.selects RX7 yX7_goDay yX7_goDay) ∈ BW := bw_in (List.mem_append_left _ (pw_3 _ (List.mem_of_getElem? (i := 15) (by decide +kernel)))) rfl
theorem m_code_M_goDay__V : (Cond.code yX7_goDay cX7_goDay 4 none) ∈ BW := bw_in (tw_5 _ (List.mem_of_getElem? (i := 131) (by decide +kernel))) rfl
theorem m_methodLink_M_335_M_isDays_I_Z : (Cond.methodLink RX7 335 yX7_isDays) ∈ BW := bw_in (tw_5 _ (List.mem_of_getElem? (i := 120) (by decide +kernel))) rfl
theorem m_instanceMethod_M_isDays_I_Z : (Cond.instanceMethod yX7_isDays) ∈ BW := bw_in (tw_5 _ (List.mem_of_getElem? (i := 122) (by decide +kernel))) rfl
theorem m_selects_M_M_isDays_I_Z_M_isDays_I_Z : (Cond.selects RX7 yX7_isDays yX7_isDays) ∈ BW := bw_in (List.mem_append_left _ (pw_3 _ (List.mem_of_getElem? (i := 13) (by decide +kernel)))) rfl
theorem m_code_M_isDays_I_Z : (Cond.code yX7_isDays cX7_isDays 2 (some .boolean)) ∈ BW := bw_in (tw_5 _ (List.mem_of_getElem? (i := 123) (by decide +kernel))) rfl
theorem m_methodLink_M_338_M_goDays_I_V : (Cond.methodLink RX7 338 yX7_goDays) ∈ BW := bw_in (tw_5 _ (List.mem_of_getElem? (i := 124) (by decide +kernel))) rfl
theorem m_instanceMethod_M_goDays_I_V : (Cond.instanceMethod yX7_goDays) ∈ BW := bw_in (tw_5 _ (List.mem_of_getElem? (i := 126) (by decide +kernel))) rfl
theorem m_selects_M_M_goDays_I_V_M_goDays_I_V : (Cond.selects RX7 yX7_goDays yX7_goDays) ∈ BW := bw_in (List.mem_append_left _ (pw_3 _ (List.mem_of_getElem? (i := 14) (by decide +kernel)))) rfl
theorem m_code_M_goDays_I_V : (Cond.code yX7_goDays cX7_goDays 3 none) ∈ BW := bw_in (tw_5 _ (List.mem_of_getElem? (i := 127) (by decide +kernel))) rfl
theorem m_constant_M_341_2000000000 : (Cond.constant RX7 341 (2000000000)) ∈ BW := bw_in (tw_5 _ (List.mem_of_getElem? (i := 188) (by decide +kernel))) rfl
theorem m_fieldLink_M_102_M_keptUp_I : (Cond.fieldLink RX7 102 "CellarPlotModel" "keptUp" "I") ∈ BW := bw_in (tw_4 _ (List.mem_of_getElem? (i := 61) (by decide +kernel))) rfl
theorem m_fieldLink_M_105_M_keptFears_I : (Cond.fieldLink RX7 105 "CellarPlotModel" "keptFears" "I") ∈ BW := bw_in (tw_4 _ (List.mem_of_getElem? (i := 62) (by decide +kernel))) rfl
theorem m_fieldLink_M_108_M_keptTruths_I : (Cond.fieldLink RX7 108 "CellarPlotModel" "keptTruths" "I") ∈ BW := bw_in (tw_4 _ (List.mem_of_getElem? (i := 63) (by decide +kernel))) rfl
theorem m_fieldLink_M_111_M_keptSilences_I : (Cond.fieldLink RX7 111 "CellarPlotModel" "keptSilences" "I") ∈ BW := bw_in (tw_4 _ (List.mem_of_getElem? (i := 64) (by decide +kernel))) rfl
theorem m_fieldLink_M_114_M_keptDay_I : (Cond.fieldLink RX7 114 "CellarPlotModel" "keptDay" "I") ∈ BW := bw_in (tw_4 _ (List.mem_of_getElem? (i := 65) (by decide +kernel))) rfl
theorem m_fieldLink_M_117_M_keptSpell_aI : (Cond.fieldLink RX7 117 "CellarPlotModel" "keptSpell" "[I") ∈ BW := bw_in (tw_4 _ (List.mem_of_getElem? (i := 66) (by decide +kernel))) rfl
theorem m_methodLink_M_342_M_save__V : (Cond.methodLink RX7 342 yX7_save) ∈ BW := bw_in (tw_5 _ (List.mem_of_getElem? (i := 184) (by decide +kernel))) rfl
theorem m_instanceMethod_M_save__V : (Cond.instanceMethod yX7_save) ∈ BW := bw_in (tw_5 _ (List.mem_of_getElem? (i := 186) (by decide +kernel))) rfl
theorem m_selects_M_M_save__V_M_save__V : (Cond.selects RX7 yX7_save yX7_save) ∈ BW := bw_in (List.mem_append_left _ (pw_4 _ (List.mem_of_getElem? (i := 12) (by decide +kernel)))) rfl
theorem m_code_M_save__V : (Cond.code yX7_save cX7_save 2 none) ∈ BW := bw_in (tw_5 _ (List.mem_of_getElem? (i := 187) (by decide +kernel))) rfl
theorem m_methodLink_M_345_M_putBack__V : (Cond.methodLink RX7 345 yX7_putBack) ∈ BW := bw_in (tw_5 _ (List.mem_of_getElem? (i := 189) (by decide +kernel))) rfl
theorem m_instanceMethod_M_putBack__V : (Cond.instanceMethod yX7_putBack) ∈ BW := bw_in (tw_5 _ (List.mem_of_getElem? (i := 191) (by decide +kernel))) rfl
theorem m_selects_M_M_putBack__V_M_putBack__V : (Cond.selects RX7 yX7_putBack yX7_putBack) ∈ BW := bw_in (List.mem_append_left _ (pw_4 _ (List.mem_of_getElem? (i := 13) (by decide +kernel)))) rfl
theorem m_code_M_putBack__V : (Cond.code yX7_putBack cX7_putBack 2 none) ∈ BW := bw_in (tw_5 _ (List.mem_of_getElem? (i := 192) (by decide +kernel))) rfl
theorem m_methodLink_M_348_M_below__I : (Cond.methodLink RX7 348 yX7_below) ∈ BW := bw_in (tw_5 _ (List.mem_of_getElem? (i := 197) (by decide +kernel))) rfl
theorem m_instanceMethod_M_below__I : (Cond.instanceMethod yX7_below) ∈ BW := bw_in (tw_5 _ (List.mem_of_getElem? (i := 199) (by decide +kernel))) rfl
theorem m_selects_M_M_below__I_M_below__I : (Cond.selects RX7 yX7_below yX7_below) ∈ BW := bw_in (List.mem_append_left _ (pw_4 _ (List.mem_of_getElem? (i := 15) (by decide +kernel)))) rfl
theorem m_code_M_below__I : (Cond.code yX7_below cX7_below 1 (some .int)) ∈ BW := bw_in (tw_5 _ (List.mem_of_getElem? (i := 200) (by decide +kernel))) rfl
theorem m_methodLink_M_351_M_watchApart_I_I : (Cond.methodLink RX7 351 yX7_watchApart) ∈ BW := bw_in (tw_5 _ (List.mem_of_getElem? (i := 201) (by decide +kernel))) rfl
theorem m_instanceMethod_M_watchApart_I_I : (Cond.instanceMethod yX7_watchApart) ∈ BW := bw_in (tw_5 _ (List.mem_of_getElem? (i := 203) (by decide +kernel))) rfl
theorem m_selects_M_M_watchApart_I_I_M_watchApart_I_I : (Cond.selects RX7 yX7_watchApart yX7_watchApart) ∈ BW := bw_in (List.mem_append_left _ (pw_5 _ (List.mem_of_getElem? (i := 0) (by decide +kernel)))) rfl
theorem m_code_M_watchApart_I_I : (Cond.code yX7_watchApart cX7_watchApart 4 (some .int)) ∈ BW := bw_in (tw_5 _ (List.mem_of_getElem? (i := 204) (by decide +kernel))) rfl
theorem m_methodLink_M_354_M_hushed__I : (Cond.methodLink RX7 354 yX7_hushed) ∈ BW := bw_in (tw_5 _ (List.mem_of_getElem? (i := 180) (by decide +kernel))) rfl
theorem m_instanceMethod_M_hushed__I : (Cond.instanceMethod yX7_hushed) ∈ BW := bw_in (tw_5 _ (List.mem_of_getElem? (i := 182) (by decide +kernel))) rfl
theorem m_selects_M_M_hushed__I_M_hushed__I : (Cond.selects RX7 yX7_hushed yX7_hushed) ∈ BW := bw_in (List.mem_append_left _ (pw_4 _ (List.mem_of_getElem? (i := 11) (by decide +kernel)))) rfl
theorem m_code_M_hushed__I : (Cond.code yX7_hushed cX7_hushed 2 (some .int)) ∈ BW := bw_in (tw_5 _ (List.mem_of_getElem? (i := 183) (by decide +kernel))) rfl
theorem m_methodLink_M_357_M_watch__I : (Cond.methodLink RX7 357 yX7_watch) ∈ BW := bw_in (tw_5 _ (List.mem_of_getElem? (i := 193) (by decide +kernel))) rfl
theorem m_instanceMethod_M_watch__I : (Cond.instanceMethod yX7_watch) ∈ BW := bw_in (tw_5 _ (List.mem_of_getElem? (i := 195) (by decide +kernel))) rfl
theorem m_selects_M_M_watch__I_M_watch__I : (Cond.selects RX7 yX7_watch yX7_watch) ∈ BW := bw_in (List.mem_append_left _ (pw_4 _ (List.mem_of_getElem? (i := 14) (by decide +kernel)))) rfl
theorem m_code_M_watch__I : (Cond.code yX7_watch cX7_watch 5 (some .int)) ∈ BW := bw_in (tw_5 _ (List.mem_of_getElem? (i := 196) (by decide +kernel))) rfl
theorem m_methodLink_M_360_M_truthsBy_II_I : (Cond.methodLink RX7 360 yX7_truthsBy) ∈ BW := bw_in (tw_5 _ (List.mem_of_getElem? (i := 221) (by decide +kernel))) rfl
theorem m_instanceMethod_M_truthsBy_II_I : (Cond.instanceMethod yX7_truthsBy) ∈ BW := bw_in (tw_5 _ (List.mem_of_getElem? (i := 223) (by decide +kernel))) rfl
theorem m_selects_M_M_truthsBy_II_I_M_truthsBy_II_I : (Cond.selects RX7 yX7_truthsBy yX7_truthsBy) ∈ BW := bw_in (List.mem_append_left _ (pw_5 _ (List.mem_of_getElem? (i := 3) (by decide +kernel)))) rfl
theorem m_code_M_truthsBy_II_I : (Cond.code yX7_truthsBy cX7_truthsBy 4 (some .int)) ∈ BW := bw_in (tw_5 _ (List.mem_of_getElem? (i := 224) (by decide +kernel))) rfl
theorem m_methodLink_M_363_M_bits_I_I : (Cond.methodLink RX7 363 yX7_bits) ∈ BW := bw_in (tw_5 _ (List.mem_of_getElem? (i := 217) (by decide +kernel))) rfl
theorem m_instanceMethod_M_bits_I_I : (Cond.instanceMethod yX7_bits) ∈ BW := bw_in (tw_5 _ (List.mem_of_getElem? (i := 219) (by decide +kernel))) rfl
theorem m_selects_M_M_bits_I_I_M_bits_I_I : (Cond.selects RX7 yX7_bits yX7_bits) ∈ BW := bw_in (List.mem_append_left _ (pw_5 _ (List.mem_of_getElem? (i := 2) (by decide +kernel)))) rfl
theorem m_code_M_bits_I_I : (Cond.code yX7_bits cX7_bits 4 (some .int)) ∈ BW := bw_in (tw_5 _ (List.mem_of_getElem? (i := 220) (by decide +kernel))) rfl
theorem m_methodLink_M_366_M_fright_I_I : (Cond.methodLink RX7 366 yX7_fright) ∈ BW := bw_in (tw_5 _ (List.mem_of_getElem? (i := 213) (by decide +kernel))) rfl
theorem m_instanceMethod_M_fright_I_I : (Cond.instanceMethod yX7_fright) ∈ BW := bw_in (tw_5 _ (List.mem_of_getElem? (i := 215) (by decide +kernel))) rfl
theorem m_selects_M_M_fright_I_I_M_fright_I_I : (Cond.selects RX7 yX7_fright yX7_fright) ∈ BW := bw_in (List.mem_append_left _ (pw_5 _ (List.mem_of_getElem? (i := 1) (by decide +kernel)))) rfl
theorem m_code_M_fright_I_I : (Cond.code yX7_fright cX7_fright 5 (some .int)) ∈ BW := bw_in (tw_5 _ (List.mem_of_getElem? (i := 216) (by decide +kernel))) rfl
theorem m_methodLink_M_369_M_changed_IZ_I : (Cond.methodLink RX7 369 yX7_changed) ∈ BW := bw_in (tw_5 _ (List.mem_of_getElem? (i := 225) (by decide +kernel))) rfl
theorem m_instanceMethod_M_changed_IZ_I : (Cond.instanceMethod yX7_changed) ∈ BW := bw_in (tw_5 _ (List.mem_of_getElem? (i := 227) (by decide +kernel))) rfl
theorem m_selects_M_M_changed_IZ_I_M_changed_IZ_I : (Cond.selects RX7 yX7_changed yX7_changed) ∈ BW := bw_in (List.mem_append_left _ (pw_5 _ (List.mem_of_getElem? (i := 4) (by decide +kernel)))) rfl
theorem m_code_M_changed_IZ_I : (Cond.code yX7_changed cX7_changed 7 (some .int)) ∈ BW := bw_in (tw_5 _ (List.mem_of_getElem? (i := 228) (by decide +kernel))) rfl
theorem m_fieldLink_M_120_M_heard_I : (Cond.fieldLink RX7 120 "CellarPlotModel" "heard" "I") ∈ BW := bw_in (tw_4 _ (List.mem_of_getElem? (i := 67) (by decide +kernel))) rfl
theorem m_fieldLink_M_123_M_heardWhen_aI : (Cond.fieldLink RX7 123 "CellarPlotModel" "heardWhen" "[I") ∈ BW := bw_in (tw_4 _ (List.mem_of_getElem? (i := 68) (by decide +kernel))) rfl
theorem m_fieldLink_M_126_M_heardSound_aI : (Cond.fieldLink RX7 126 "CellarPlotModel" "heardSound" "[I") ∈ BW := bw_in (tw_4 _ (List.mem_of_getElem? (i := 69) (by decide +kernel))) rfl
theorem m_methodLink_M_373_M_isHeard__Z : (Cond.methodLink RX7 373 yX7_isHeard) ∈ BW := bw_in (tw_6 _ (List.mem_of_getElem? (i := 1) (by decide +kernel))) rfl
theorem m_instanceMethod_M_isHeard__Z : (Cond.instanceMethod yX7_isHeard) ∈ BW := bw_in (tw_6 _ (List.mem_of_getElem? (i := 3) (by decide +kernel))) rfl
theorem m_selects_M_M_isHeard__Z_M_isHeard__Z : (Cond.selects RX7 yX7_isHeard yX7_isHeard) ∈ BW := bw_in (List.mem_append_left _ (pw_5 _ (List.mem_of_getElem? (i := 6) (by decide +kernel)))) rfl
theorem m_code_M_isHeard__Z : (Cond.code yX7_isHeard cX7_isHeard 3 (some .boolean)) ∈ BW := bw_in (tw_6 _ (List.mem_of_getElem? (i := 4) (by decide +kernel))) rfl
theorem m_methodLink_M_376_M_nerves_I_I : (Cond.methodLink RX7 376 yX7_nerves) ∈ BW := bw_in (tw_5 _ (List.mem_of_getElem? (i := 237) (by decide +kernel))) rfl
theorem m_instanceMethod_M_nerves_I_I : (Cond.instanceMethod yX7_nerves) ∈ BW := bw_in (tw_5 _ (List.mem_of_getElem? (i := 239) (by decide +kernel))) rfl
theorem m_selects_M_M_nerves_I_I_M_nerves_I_I : (Cond.selects RX7 yX7_nerves yX7_nerves) ∈ BW := bw_in (List.mem_append_left _ (pw_5 _ (List.mem_of_getElem? (i := 5) (by decide +kernel)))) rfl
theorem m_code_M_nerves_I_I : (Cond.code yX7_nerves cX7_nerves 5 (some .int)) ∈ BW := bw_in (tw_6 _ (List.mem_of_getElem? (i := 0) (by decide +kernel))) rfl
theorem m_methodLink_M_379_M_divisor_II_I : (Cond.methodLink RX7 379 yX7_divisor) ∈ BW := bw_in (tw_6 _ (List.mem_of_getElem? (i := 18) (by decide +kernel))) rfl
theorem m_instanceMethod_M_divisor_II_I : (Cond.instanceMethod yX7_divisor) ∈ BW := bw_in (tw_6 _ (List.mem_of_getElem? (i := 20) (by decide +kernel))) rfl
theorem m_selects_M_M_divisor_II_I_M_divisor_II_I : (Cond.selects RX7 yX7_divisor yX7_divisor) ∈ BW := bw_in (List.mem_append_left _ (pw_5 _ (List.mem_of_getElem? (i := 8) (by decide +kernel)))) rfl
theorem m_code_M_divisor_II_I : (Cond.code yX7_divisor cX7_divisor 6 (some .int)) ∈ BW := bw_in (tw_6 _ (List.mem_of_getElem? (i := 21) (by decide +kernel))) rfl
theorem m_constantLong_M_382_n9223372036854775808 : (Cond.constantLong RX7 382 (-9223372036854775808)) ∈ BW := bw_in (tw_6 _ (List.mem_of_getElem? (i := 13) (by decide +kernel))) rfl
theorem m_methodLink_M_384_M_lowest_III_J : (Cond.methodLink RX7 384 yX7_lowest) ∈ BW := bw_in (tw_6 _ (List.mem_of_getElem? (i := 14) (by decide +kernel))) rfl
theorem m_instanceMethod_M_lowest_III_J : (Cond.instanceMethod yX7_lowest) ∈ BW := bw_in (tw_6 _ (List.mem_of_getElem? (i := 16) (by decide +kernel))) rfl
theorem m_selects_M_M_lowest_III_J_M_lowest_III_J : (Cond.selects RX7 yX7_lowest yX7_lowest) ∈ BW := bw_in (List.mem_append_left _ (pw_5 _ (List.mem_of_getElem? (i := 7) (by decide +kernel)))) rfl
theorem m_code_M_lowest_III_J : (Cond.code yX7_lowest cX7_lowest 5 (some .long)) ∈ BW := bw_in (tw_6 _ (List.mem_of_getElem? (i := 17) (by decide +kernel))) rfl
theorem m_fieldLink_M_129_M_plans_I : (Cond.fieldLink RX7 129 "CellarPlotModel" "plans" "I") ∈ BW := bw_in (tw_4 _ (List.mem_of_getElem? (i := 70) (by decide +kernel))) rfl
theorem m_fieldLink_M_135_M_planWhat_aI : (Cond.fieldLink RX7 135 "CellarPlotModel" "planWhat" "[I") ∈ BW := bw_in (tw_4 _ (List.mem_of_getElem? (i := 72) (by decide +kernel))) rfl
theorem m_fieldLink_M_138_M_planMan_aI : (Cond.fieldLink RX7 138 "CellarPlotModel" "planMan" "[I") ∈ BW := bw_in (tw_4 _ (List.mem_of_getElem? (i := 73) (by decide +kernel))) rfl
theorem m_methodLink_M_388_M_goPlan_II_V : (Cond.methodLink RX7 388 yX7_goPlan) ∈ BW := bw_in (tw_6 _ (List.mem_of_getElem? (i := 34) (by decide +kernel))) rfl
theorem m_instanceMethod_M_goPlan_II_V : (Cond.instanceMethod yX7_goPlan) ∈ BW := bw_in (tw_6 _ (List.mem_of_getElem? (i := 36) (by decide +kernel))) rfl
theorem m_selects_M_M_goPlan_II_V_M_goPlan_II_V : (Cond.selects RX7 yX7_goPlan yX7_goPlan) ∈ BW := bw_in (List.mem_append_left _ (pw_5 _ (List.mem_of_getElem? (i := 9) (by decide +kernel)))) rfl
theorem m_code_M_goPlan_II_V : (Cond.code yX7_goPlan cX7_goPlan 3 none) ∈ BW := bw_in (tw_6 _ (List.mem_of_getElem? (i := 37) (by decide +kernel))) rfl
theorem m_fieldLink_M_132_M_books_I : (Cond.fieldLink RX7 132 "CellarPlotModel" "books" "I") ∈ BW := bw_in (tw_4 _ (List.mem_of_getElem? (i := 71) (by decide +kernel))) rfl
theorem m_fieldLink_M_141_M_bookMan_aI : (Cond.fieldLink RX7 141 "CellarPlotModel" "bookMan" "[I") ∈ BW := bw_in (tw_4 _ (List.mem_of_getElem? (i := 74) (by decide +kernel))) rfl
theorem m_fieldLink_M_144_M_bookNerve_aI : (Cond.fieldLink RX7 144 "CellarPlotModel" "bookNerve" "[I") ∈ BW := bw_in (tw_4 _ (List.mem_of_getElem? (i := 75) (by decide +kernel))) rfl
theorem m_methodLink_M_392_M_isTape_I_Z : (Cond.methodLink RX7 392 yX7_isTape) ∈ BW := bw_in (tw_6 _ (List.mem_of_getElem? (i := 50) (by decide +kernel))) rfl
theorem m_instanceMethod_M_isTape_I_Z : (Cond.instanceMethod yX7_isTape) ∈ BW := bw_in (tw_6 _ (List.mem_of_getElem? (i := 52) (by decide +kernel))) rfl
theorem m_selects_M_M_isTape_I_Z_M_isTape_I_Z : (Cond.selects RX7 yX7_isTape yX7_isTape) ∈ BW := bw_in (List.mem_append_left _ (pw_5 _ (List.mem_of_getElem? (i := 10) (by decide +kernel)))) rfl
theorem m_code_M_isTape_I_Z : (Cond.code yX7_isTape cX7_isTape 2 (some .boolean)) ∈ BW := bw_in (tw_6 _ (List.mem_of_getElem? (i := 53) (by decide +kernel))) rfl
theorem m_fieldLink_M_220_M_sort_aI : (Cond.fieldLink RX7 220 "CellarPlotModel" "sort" "[I") ∈ BW := bw_in (tw_4 _ (List.mem_of_getElem? (i := 100) (by decide +kernel))) rfl
theorem m_fieldLink_M_223_M_length_aI : (Cond.fieldLink RX7 223 "CellarPlotModel" "length" "[I") ∈ BW := bw_in (tw_4 _ (List.mem_of_getElem? (i := 101) (by decide +kernel))) rfl
theorem m_fieldLink_M_226_M_item_aJ : (Cond.fieldLink RX7 226 "CellarPlotModel" "item" "[J") ∈ BW := bw_in (tw_4 _ (List.mem_of_getElem? (i := 102) (by decide +kernel))) rfl
theorem m_fieldLink_M_147_M_hasImage_Z : (Cond.fieldLink RX7 147 "CellarPlotModel" "hasImage" "Z") ∈ BW := bw_in (tw_4 _ (List.mem_of_getElem? (i := 76) (by decide +kernel))) rfl
theorem m_fieldLink_M_151_M_imageThe_I : (Cond.fieldLink RX7 151 "CellarPlotModel" "imageThe" "I") ∈ BW := bw_in (tw_4 _ (List.mem_of_getElem? (i := 77) (by decide +kernel))) rfl
theorem m_fieldLink_M_154_M_imageMen_I : (Cond.fieldLink RX7 154 "CellarPlotModel" "imageMen" "I") ∈ BW := bw_in (tw_4 _ (List.mem_of_getElem? (i := 78) (by decide +kernel))) rfl
theorem m_fieldLink_M_157_M_imageUp_I : (Cond.fieldLink RX7 157 "CellarPlotModel" "imageUp" "I") ∈ BW := bw_in (tw_4 _ (List.mem_of_getElem? (i := 79) (by decide +kernel))) rfl
theorem m_fieldLink_M_160_M_imageFears_I : (Cond.fieldLink RX7 160 "CellarPlotModel" "imageFears" "I") ∈ BW := bw_in (tw_4 _ (List.mem_of_getElem? (i := 80) (by decide +kernel))) rfl
theorem m_fieldLink_M_163_M_imageTruths_I : (Cond.fieldLink RX7 163 "CellarPlotModel" "imageTruths" "I") ∈ BW := bw_in (tw_4 _ (List.mem_of_getElem? (i := 81) (by decide +kernel))) rfl
theorem m_fieldLink_M_166_M_imageSilences_I : (Cond.fieldLink RX7 166 "CellarPlotModel" "imageSilences" "I") ∈ BW := bw_in (tw_4 _ (List.mem_of_getElem? (i := 82) (by decide +kernel))) rfl
theorem m_fieldLink_M_169_M_imageDay_I : (Cond.fieldLink RX7 169 "CellarPlotModel" "imageDay" "I") ∈ BW := bw_in (tw_4 _ (List.mem_of_getElem? (i := 83) (by decide +kernel))) rfl
theorem m_fieldLink_M_172_M_imageHeard_I : (Cond.fieldLink RX7 172 "CellarPlotModel" "imageHeard" "I") ∈ BW := bw_in (tw_4 _ (List.mem_of_getElem? (i := 84) (by decide +kernel))) rfl
theorem m_fieldLink_M_175_M_imagePlans_I : (Cond.fieldLink RX7 175 "CellarPlotModel" "imagePlans" "I") ∈ BW := bw_in (tw_4 _ (List.mem_of_getElem? (i := 85) (by decide +kernel))) rfl
theorem m_fieldLink_M_178_M_imageBooks_I : (Cond.fieldLink RX7 178 "CellarPlotModel" "imageBooks" "I") ∈ BW := bw_in (tw_4 _ (List.mem_of_getElem? (i := 86) (by decide +kernel))) rfl
theorem m_fieldLink_M_181_M_imageKind_aI : (Cond.fieldLink RX7 181 "CellarPlotModel" "imageKind" "[I") ∈ BW := bw_in (tw_4 _ (List.mem_of_getElem? (i := 87) (by decide +kernel))) rfl
theorem m_fieldLink_M_184_M_imageV_aI : (Cond.fieldLink RX7 184 "CellarPlotModel" "imageV" "[I") ∈ BW := bw_in (tw_4 _ (List.mem_of_getElem? (i := 88) (by decide +kernel))) rfl
theorem m_fieldLink_M_187_M_imageNerve_aI : (Cond.fieldLink RX7 187 "CellarPlotModel" "imageNerve" "[I") ∈ BW := bw_in (tw_4 _ (List.mem_of_getElem? (i := 89) (by decide +kernel))) rfl
theorem m_fieldLink_M_190_M_imageSpell_aI : (Cond.fieldLink RX7 190 "CellarPlotModel" "imageSpell" "[I") ∈ BW := bw_in (tw_4 _ (List.mem_of_getElem? (i := 90) (by decide +kernel))) rfl
theorem m_fieldLink_M_193_M_imageRows_aI : (Cond.fieldLink RX7 193 "CellarPlotModel" "imageRows" "[I") ∈ BW := bw_in (tw_4 _ (List.mem_of_getElem? (i := 91) (by decide +kernel))) rfl
theorem m_fieldLink_M_196_M_imageWhen_aI : (Cond.fieldLink RX7 196 "CellarPlotModel" "imageWhen" "[I") ∈ BW := bw_in (tw_4 _ (List.mem_of_getElem? (i := 92) (by decide +kernel))) rfl
theorem m_fieldLink_M_199_M_imageSound_aI : (Cond.fieldLink RX7 199 "CellarPlotModel" "imageSound" "[I") ∈ BW := bw_in (tw_4 _ (List.mem_of_getElem? (i := 93) (by decide +kernel))) rfl
theorem m_fieldLink_M_202_M_imageWhat_aI : (Cond.fieldLink RX7 202 "CellarPlotModel" "imageWhat" "[I") ∈ BW := bw_in (tw_4 _ (List.mem_of_getElem? (i := 94) (by decide +kernel))) rfl
theorem m_fieldLink_M_205_M_imageMan_aI : (Cond.fieldLink RX7 205 "CellarPlotModel" "imageMan" "[I") ∈ BW := bw_in (tw_4 _ (List.mem_of_getElem? (i := 95) (by decide +kernel))) rfl
theorem m_fieldLink_M_208_M_imageBookMan_aI : (Cond.fieldLink RX7 208 "CellarPlotModel" "imageBookMan" "[I") ∈ BW := bw_in (tw_4 _ (List.mem_of_getElem? (i := 96) (by decide +kernel))) rfl
theorem m_fieldLink_M_211_M_imageBookNerve_aI : (Cond.fieldLink RX7 211 "CellarPlotModel" "imageBookNerve" "[I") ∈ BW := bw_in (tw_4 _ (List.mem_of_getElem? (i := 97) (by decide +kernel))) rfl
theorem m_fieldLink_M_214_M_ran_I : (Cond.fieldLink RX7 214 "CellarPlotModel" "ran" "I") ∈ BW := bw_in (tw_4 _ (List.mem_of_getElem? (i := 98) (by decide +kernel))) rfl
theorem m_fieldLink_M_217_M_bodies_aI : (Cond.fieldLink RX7 217 "CellarPlotModel" "bodies" "[I") ∈ BW := bw_in (tw_4 _ (List.mem_of_getElem? (i := 99) (by decide +kernel))) rfl
theorem m_methodLink_M_395_M_body_I_V : (Cond.methodLink RX7 395 yX7_body) ∈ BW := bw_in (tw_6 _ (List.mem_of_getElem? (i := 70) (by decide +kernel))) rfl
theorem m_instanceMethod_M_body_I_V : (Cond.instanceMethod yX7_body) ∈ BW := bw_in (tw_6 _ (List.mem_of_getElem? (i := 72) (by decide +kernel))) rfl
theorem m_selects_M_M_body_I_V_M_body_I_V : (Cond.selects RX7 yX7_body yX7_body) ∈ BW := bw_in (List.mem_append_left _ (pw_5 _ (List.mem_of_getElem? (i := 12) (by decide +kernel)))) rfl
theorem m_code_M_body_I_V : (Cond.code yX7_body cX7_body 2 none) ∈ BW := bw_in (tw_6 _ (List.mem_of_getElem? (i := 73) (by decide +kernel))) rfl
theorem m_methodLink_M_398_M_manRolls_II_I : (Cond.methodLink RX7 398 yX7_manRolls) ∈ BW := bw_in (tw_6 _ (List.mem_of_getElem? (i := 74) (by decide +kernel))) rfl
theorem m_instanceMethod_M_manRolls_II_I : (Cond.instanceMethod yX7_manRolls) ∈ BW := bw_in (tw_6 _ (List.mem_of_getElem? (i := 76) (by decide +kernel))) rfl
theorem m_selects_M_M_manRolls_II_I_M_manRolls_II_I : (Cond.selects RX7 yX7_manRolls yX7_manRolls) ∈ BW := bw_in (List.mem_append_left _ (pw_5 _ (List.mem_of_getElem? (i := 13) (by decide +kernel)))) rfl
theorem m_code_M_manRolls_II_I : (Cond.code yX7_manRolls cX7_manRolls 3 (some .int)) ∈ BW := bw_in (tw_6 _ (List.mem_of_getElem? (i := 77) (by decide +kernel))) rfl
theorem m_methodLink_M_401_M_rollsAct_II_I : (Cond.methodLink RX7 401 yX7_rollsAct) ∈ BW := bw_in (tw_6 _ (List.mem_of_getElem? (i := 66) (by decide +kernel))) rfl
theorem m_instanceMethod_M_rollsAct_II_I : (Cond.instanceMethod yX7_rollsAct) ∈ BW := bw_in (tw_6 _ (List.mem_of_getElem? (i := 68) (by decide +kernel))) rfl
theorem m_selects_M_M_rollsAct_II_I_M_rollsAct_II_I : (Cond.selects RX7 yX7_rollsAct yX7_rollsAct) ∈ BW := bw_in (List.mem_append_left _ (pw_5 _ (List.mem_of_getElem? (i := 11) (by decide +kernel)))) rfl
theorem m_code_M_rollsAct_II_I : (Cond.code yX7_rollsAct cX7_rollsAct 3 (some .int)) ∈ BW := bw_in (tw_6 _ (List.mem_of_getElem? (i := 69) (by decide +kernel))) rfl
theorem m_methodLink_M_404_M_manHums_II_I : (Cond.methodLink RX7 404 yX7_manHums) ∈ BW := bw_in (tw_6 _ (List.mem_of_getElem? (i := 86) (by decide +kernel))) rfl
theorem m_instanceMethod_M_manHums_II_I : (Cond.instanceMethod yX7_manHums) ∈ BW := bw_in (tw_6 _ (List.mem_of_getElem? (i := 88) (by decide +kernel))) rfl
theorem m_selects_M_M_manHums_II_I_M_manHums_II_I : (Cond.selects RX7 yX7_manHums yX7_manHums) ∈ BW := bw_in (List.mem_append_left _ (pw_6 _ (List.mem_of_getElem? (i := 0) (by decide +kernel)))) rfl
theorem m_code_M_manHums_II_I : (Cond.code yX7_manHums cX7_manHums 3 (some .int)) ∈ BW := bw_in (tw_6 _ (List.mem_of_getElem? (i := 89) (by decide +kernel))) rfl
theorem m_methodLink_M_407_M_cookHums_II_I : (Cond.methodLink RX7 407 yX7_cookHums) ∈ BW := bw_in (tw_6 _ (List.mem_of_getElem? (i := 82) (by decide +kernel))) rfl
theorem m_instanceMethod_M_cookHums_II_I : (Cond.instanceMethod yX7_cookHums) ∈ BW := bw_in (tw_6 _ (List.mem_of_getElem? (i := 84) (by decide +kernel))) rfl
theorem m_selects_M_M_cookHums_II_I_M_cookHums_II_I : (Cond.selects RX7 yX7_cookHums yX7_cookHums) ∈ BW := bw_in (List.mem_append_left _ (pw_5 _ (List.mem_of_getElem? (i := 15) (by decide +kernel)))) rfl
theorem m_code_M_cookHums_II_I : (Cond.code yX7_cookHums cX7_cookHums 3 (some .int)) ∈ BW := bw_in (tw_6 _ (List.mem_of_getElem? (i := 85) (by decide +kernel))) rfl
theorem m_methodLink_M_410_M_humsAct_II_I : (Cond.methodLink RX7 410 yX7_humsAct) ∈ BW := bw_in (tw_6 _ (List.mem_of_getElem? (i := 78) (by decide +kernel))) rfl
theorem m_instanceMethod_M_humsAct_II_I : (Cond.instanceMethod yX7_humsAct) ∈ BW := bw_in (tw_6 _ (List.mem_of_getElem? (i := 80) (by decide +kernel))) rfl
theorem m_selects_M_M_humsAct_II_I_M_humsAct_II_I : (Cond.selects RX7 yX7_humsAct yX7_humsAct) ∈ BW := bw_in (List.mem_append_left _ (pw_5 _ (List.mem_of_getElem? (i := 14) (by decide +kernel)))) rfl
theorem m_code_M_humsAct_II_I : (Cond.code yX7_humsAct cX7_humsAct 4 (some .int)) ∈ BW := bw_in (tw_6 _ (List.mem_of_getElem? (i := 81) (by decide +kernel))) rfl
theorem m_methodLink_M_413_M_manTells_II_I : (Cond.methodLink RX7 413 yX7_manTells) ∈ BW := bw_in (tw_6 _ (List.mem_of_getElem? (i := 94) (by decide +kernel))) rfl
theorem m_instanceMethod_M_manTells_II_I : (Cond.instanceMethod yX7_manTells) ∈ BW := bw_in (tw_6 _ (List.mem_of_getElem? (i := 96) (by decide +kernel))) rfl
theorem m_selects_M_M_manTells_II_I_M_manTells_II_I : (Cond.selects RX7 yX7_manTells yX7_manTells) ∈ BW := bw_in (List.mem_append_left _ (pw_6 _ (List.mem_of_getElem? (i := 2) (by decide +kernel)))) rfl
theorem m_code_M_manTells_II_I : (Cond.code yX7_manTells cX7_manTells 3 (some .int)) ∈ BW := bw_in (tw_6 _ (List.mem_of_getElem? (i := 97) (by decide +kernel))) rfl
theorem m_methodLink_M_416_M_tellsAct_II_I : (Cond.methodLink RX7 416 yX7_tellsAct) ∈ BW := bw_in (tw_6 _ (List.mem_of_getElem? (i := 90) (by decide +kernel))) rfl
theorem m_instanceMethod_M_tellsAct_II_I : (Cond.instanceMethod yX7_tellsAct) ∈ BW := bw_in (tw_6 _ (List.mem_of_getElem? (i := 92) (by decide +kernel))) rfl
theorem m_selects_M_M_tellsAct_II_I_M_tellsAct_II_I : (Cond.selects RX7 yX7_tellsAct yX7_tellsAct) ∈ BW := bw_in (List.mem_append_left _ (pw_6 _ (List.mem_of_getElem? (i := 1) (by decide +kernel)))) rfl
theorem m_code_M_tellsAct_II_I : (Cond.code yX7_tellsAct cX7_tellsAct 4 (some .int)) ∈ BW := bw_in (tw_6 _ (List.mem_of_getElem? (i := 93) (by decide +kernel))) rfl
theorem m_methodLink_M_419_M_narrow_IJ_J : (Cond.methodLink RX7 419 yX7_narrow) ∈ BW := bw_in (tw_6 _ (List.mem_of_getElem? (i := 118) (by decide +kernel))) rfl
theorem m_instanceMethod_M_narrow_IJ_J : (Cond.instanceMethod yX7_narrow) ∈ BW := bw_in (tw_6 _ (List.mem_of_getElem? (i := 120) (by decide +kernel))) rfl
theorem m_selects_M_M_narrow_IJ_J_M_narrow_IJ_J : (Cond.selects RX7 yX7_narrow yX7_narrow) ∈ BW := bw_in (List.mem_append_left _ (pw_6 _ (List.mem_of_getElem? (i := 3) (by decide +kernel)))) rfl
theorem m_code_M_narrow_IJ_J : (Cond.code yX7_narrow cX7_narrow 4 (some .long)) ∈ BW := bw_in (tw_6 _ (List.mem_of_getElem? (i := 121) (by decide +kernel))) rfl
theorem m_fieldLink_M_230_M_aside_aJ : (Cond.fieldLink RX7 230 "CellarPlotModel" "aside" "[J") ∈ BW := bw_in (tw_4 _ (List.mem_of_getElem? (i := 103) (by decide +kernel))) rfl
theorem lk_X7_233_X7_has : LinkV RX7 233 yX7_has cX7_has 3 (some .boolean) 2 := ⟨m_methodLink_M_233_M_has_II_Z, m_instanceMethod_M_has_II_Z, m_selects_M_M_has_II_Z_M_has_II_Z, m_initialized_M, m_code_M_has_II_Z, by decide +kernel, by decide +kernel, by decide +kernel⟩
theorem lk_X7_237_X7_in : LinkV RX7 237 yX7_in cX7_in 4 (some .boolean) 3 := ⟨m_methodLink_M_237_M_in_III_Z, m_instanceMethod_M_in_III_Z, m_selects_M_M_in_III_Z_M_in_III_Z, m_initialized_M, m_code_M_in_III_Z, by decide +kernel, by decide +kernel, by decide +kernel⟩
theorem lk_X7_241_X7_isNerve : LinkV RX7 241 yX7_isNerve cX7_isNerve 2 (some .boolean) 1 := ⟨m_methodLink_M_241_M_isNerve_I_Z, m_instanceMethod_M_isNerve_I_Z, m_selects_M_M_isNerve_I_Z_M_isNerve_I_Z, m_initialized_M, m_code_M_isNerve_I_Z, by decide +kernel, by decide +kernel, by decide +kernel⟩
theorem lk_X7_245_X7_isMan : LinkV RX7 245 yX7_isMan cX7_isMan 2 (some .boolean) 1 := ⟨m_methodLink_M_245_M_isMan_I_Z, m_instanceMethod_M_isMan_I_Z, m_selects_M_M_isMan_I_Z_M_isMan_I_Z, m_initialized_M, m_code_M_isMan_I_Z, by decide +kernel, by decide +kernel, by decide +kernel⟩
theorem lk_X7_248_X7_goes : LinkV RX7 248 yX7_goes cX7_goes 3 none 2 := ⟨m_methodLink_M_248_M_goes_IZ_V, m_instanceMethod_M_goes_IZ_V, m_selects_M_M_goes_IZ_V_M_goes_IZ_V, m_initialized_M, m_code_M_goes_IZ_V, by decide +kernel, by decide +kernel, by decide +kernel⟩
theorem lk_X7_252_X7_next : LinkV RX7 252 yX7_next cX7_next 1 (some .int) 0 := ⟨m_methodLink_M_252_M_next__I, m_instanceMethod_M_next__I, m_selects_M_M_next__I_M_next__I, m_initialized_M, m_code_M_next__I, by decide +kernel, by decide +kernel, by decide +kernel⟩
theorem lk_X7_256_X7_takes : LinkV RX7 256 yX7_takes cX7_takes 2 (some .boolean) 1 := ⟨m_methodLink_M_256_M_takes_I_Z, m_instanceMethod_M_takes_I_Z, m_selects_M_M_takes_I_Z_M_takes_I_Z, m_initialized_M, m_code_M_takes_I_Z, by decide +kernel, by decide +kernel, by decide +kernel⟩
theorem lk_X7_259_X7_isDigit : LinkV RX7 259 yX7_isDigit cX7_isDigit 1 (some .boolean) 0 := ⟨m_methodLink_M_259_M_isDigit__Z, m_instanceMethod_M_isDigit__Z, m_selects_M_M_isDigit__Z_M_isDigit__Z, m_initialized_M, m_code_M_isDigit__Z, by decide +kernel, by decide +kernel, by decide +kernel⟩
theorem lk_X7_263_X7_emits : LinkV RX7 263 yX7_emits cX7_emits 2 none 1 := ⟨m_methodLink_M_263_M_emits_I_V, m_instanceMethod_M_emits_I_V, m_selects_M_M_emits_I_V_M_emits_I_V, m_initialized_M, m_code_M_emits_I_V, by decide +kernel, by decide +kernel, by decide +kernel⟩
theorem lk_X7_267_X7_place : LinkV RX7 267 yX7_place cX7_place 2 (some .int) 1 := ⟨m_methodLink_M_267_M_place_I_I, m_instanceMethod_M_place_I_I, m_selects_M_M_place_I_I_M_place_I_I, m_initialized_M, m_code_M_place_I_I, by decide +kernel, by decide +kernel, by decide +kernel⟩
theorem lk_X7_271_X7_takesNumber : LinkV RX7 271 yX7_takesNumber cX7_takesNumber 2 (some .boolean) 0 := ⟨m_methodLink_M_271_M_takesNumber__Z, m_instanceMethod_M_takesNumber__Z, m_selects_M_M_takesNumber__Z_M_takesNumber__Z, m_initialized_M, m_code_M_takesNumber__Z, by decide +kernel, by decide +kernel, by decide +kernel⟩
theorem lk_X7_274_X7_whole : LinkV RX7 274 yX7_whole cX7_whole 1 none 0 := ⟨m_methodLink_M_274_M_whole__V, m_instanceMethod_M_whole__V, m_selects_M_M_whole__V_M_whole__V, m_initialized_M, m_code_M_whole__V, by decide +kernel, by decide +kernel, by decide +kernel⟩
theorem lk_X7_280_X7_settle : LinkV RX7 280 yX7_settle cX7_settle 2 none 1 := ⟨m_methodLink_M_280_M_settle_I_V, m_instanceMethod_M_settle_I_V, m_selects_M_M_settle_I_V_M_settle_I_V, m_initialized_M, m_code_M_settle_I_V, by decide +kernel, by decide +kernel, by decide +kernel⟩
theorem lk_X7_277_X7_takesTest : LinkV RX7 277 yX7_takesTest cX7_takesTest 3 (some .boolean) 0 := ⟨m_methodLink_M_277_M_takesTest__Z, m_instanceMethod_M_takesTest__Z, m_selects_M_M_takesTest__Z_M_takesTest__Z, m_initialized_M, m_code_M_takesTest__Z, by decide +kernel, by decide +kernel, by decide +kernel⟩
theorem lk_X7_283_X7_takesWord : LinkV RX7 283 yX7_takesWord cX7_takesWord 4 (some .boolean) 2 := ⟨m_methodLink_M_283_M_takesWord_II_Z, m_instanceMethod_M_takesWord_II_Z, m_selects_M_M_takesWord_II_Z_M_takesWord_II_Z, m_initialized_M, m_code_M_takesWord_II_Z, by decide +kernel, by decide +kernel, by decide +kernel⟩
theorem lk_X7_286_X7_takesHead : LinkV RX7 286 yX7_takesHead cX7_takesHead 2 (some .boolean) 1 := ⟨m_methodLink_M_286_M_takesHead_I_Z, m_instanceMethod_M_takesHead_I_Z, m_selects_M_M_takesHead_I_Z_M_takesHead_I_Z, m_initialized_M, m_code_M_takesHead_I_Z, by decide +kernel, by decide +kernel, by decide +kernel⟩
theorem lk_X7_289_X7_takesE : LinkV RX7 289 yX7_takesE cX7_takesE 4 (some .boolean) 1 := ⟨m_methodLink_M_289_M_takesE_I_Z, m_instanceMethod_M_takesE_I_Z, m_selects_M_M_takesE_I_Z_M_takesE_I_Z, m_initialized_M, m_code_M_takesE_I_Z, by decide +kernel, by decide +kernel, by decide +kernel⟩
theorem lk_X7_292_X7_takesClause : LinkV RX7 292 yX7_takesClause cX7_takesClause 2 (some .boolean) 1 := ⟨m_methodLink_M_292_M_takesClause_I_Z, m_instanceMethod_M_takesClause_I_Z, m_selects_M_M_takesClause_I_Z_M_takesClause_I_Z, m_initialized_M, m_code_M_takesClause_I_Z, by decide +kernel, by decide +kernel, by decide +kernel⟩
theorem lk_X7_295_X7_goesText : LinkV RX7 295 yX7_goesText cX7_goesText 3 (some .boolean) 1 := ⟨m_methodLink_M_295_M_goesText_I_Z, m_instanceMethod_M_goesText_I_Z, m_selects_M_M_goesText_I_Z_M_goesText_I_Z, m_initialized_M, m_code_M_goesText_I_Z, by decide +kernel, by decide +kernel, by decide +kernel⟩
theorem lk_X7_298_X7_begin : LinkV RX7 298 yX7_begin cX7_begin 1 (some .int) 0 := ⟨m_methodLink_M_298_M_begin__I, m_instanceMethod_M_begin__I, m_selects_M_M_begin__I_M_begin__I, m_initialized_M, m_code_M_begin__I, by decide +kernel, by decide +kernel, by decide +kernel⟩
theorem lk_X7_301_X7_behind : LinkV RX7 301 yX7_behind cX7_behind 1 (some .int) 0 := ⟨m_methodLink_M_301_M_behind__I, m_instanceMethod_M_behind__I, m_selects_M_M_behind__I_M_behind__I, m_initialized_M, m_code_M_behind__I, by decide +kernel, by decide +kernel, by decide +kernel⟩
theorem lk_X7_304_X7_factOf : LinkV RX7 304 yX7_factOf cX7_factOf 3 (some .int) 2 := ⟨m_methodLink_M_304_M_factOf_II_I, m_instanceMethod_M_factOf_II_I, m_selects_M_M_factOf_II_I_M_factOf_II_I, m_initialized_M, m_code_M_factOf_II_I, by decide +kernel, by decide +kernel, by decide +kernel⟩
theorem lk_X7_308_X7_holds : LinkV RX7 308 yX7_holds cX7_holds 8 (some .boolean) 2 := ⟨m_methodLink_M_308_M_holds_II_Z, m_instanceMethod_M_holds_II_Z, m_selects_M_M_holds_II_Z_M_holds_II_Z, m_initialized_M, m_code_M_holds_II_Z, by decide +kernel, by decide +kernel, by decide +kernel⟩
theorem lk_X7_311_X7_sum : LinkV RX7 311 yX7_sum cX7_sum 4 (some .int) 1 := ⟨m_methodLink_M_311_M_sum_I_I, m_instanceMethod_M_sum_I_I, m_selects_M_M_sum_I_I_M_sum_I_I, m_initialized_M, m_code_M_sum_I_I, by decide +kernel, by decide +kernel, by decide +kernel⟩
theorem lk_X7_314_X7_least : LinkV RX7 314 yX7_least cX7_least 3 (some .int) 2 := ⟨m_methodLink_M_314_M_least_II_I, m_instanceMethod_M_least_II_I, m_selects_M_M_least_II_I_M_least_II_I, m_initialized_M, m_code_M_least_II_I, by decide +kernel, by decide +kernel, by decide +kernel⟩
theorem lk_X7_317_X7_isDancerBelow : LinkV RX7 317 yX7_isDancerBelow cX7_isDancerBelow 3 (some .boolean) 1 := ⟨m_methodLink_M_317_M_isDancerBelow_I_Z, m_instanceMethod_M_isDancerBelow_I_Z, m_selects_M_M_isDancerBelow_I_Z_M_isDancerBelow_I_Z, m_initialized_M, m_code_M_isDancerBelow_I_Z, by decide +kernel, by decide +kernel, by decide +kernel⟩
theorem lk_X7_320_X7_noise : LinkV RX7 320 yX7_noise cX7_noise 4 (some .int) 1 := ⟨m_methodLink_M_320_M_noise_I_I, m_instanceMethod_M_noise_I_I, m_selects_M_M_noise_I_I_M_noise_I_I, m_initialized_M, m_code_M_noise_I_I, by decide +kernel, by decide +kernel, by decide +kernel⟩
theorem lk_X7_323_X7_heardOf : LinkV RX7 323 yX7_heardOf cX7_heardOf 3 (some .int) 1 := ⟨m_methodLink_M_323_M_heardOf_I_I, m_instanceMethod_M_heardOf_I_I, m_selects_M_M_heardOf_I_I_M_heardOf_I_I, m_initialized_M, m_code_M_heardOf_I_I, by decide +kernel, by decide +kernel, by decide +kernel⟩
theorem lk_X7_326_X7_sound : LinkV RX7 326 yX7_sound cX7_sound 3 (some .int) 0 := ⟨m_methodLink_M_326_M_sound__I, m_instanceMethod_M_sound__I, m_selects_M_M_sound__I_M_sound__I, m_initialized_M, m_code_M_sound__I, by decide +kernel, by decide +kernel, by decide +kernel⟩
theorem lk_X7_329_X7_calm : LinkV RX7 329 yX7_calm cX7_calm 3 (some .int) 0 := ⟨m_methodLink_M_329_M_calm__I, m_instanceMethod_M_calm__I, m_selects_M_M_calm__I_M_calm__I, m_initialized_M, m_code_M_calm__I, by decide +kernel, by decide +kernel, by decide +kernel⟩
theorem lk_X7_332_X7_goDay : LinkV RX7 332 yX7_goDay cX7_goDay 4 none 0 := ⟨m_methodLink_M_332_M_goDay__V, m_instanceMethod_M_goDay__V, m_selects_M_M_goDay__V_M_goDay__V, m_initialized_M, m_code_M_goDay__V, by decide +kernel, by decide +kernel, by decide +kernel⟩
theorem lk_X7_335_X7_isDays : LinkV RX7 335 yX7_isDays cX7_isDays 2 (some .boolean) 1 := ⟨m_methodLink_M_335_M_isDays_I_Z, m_instanceMethod_M_isDays_I_Z, m_selects_M_M_isDays_I_Z_M_isDays_I_Z, m_initialized_M, m_code_M_isDays_I_Z, by decide +kernel, by decide +kernel, by decide +kernel⟩
theorem lk_X7_338_X7_goDays : LinkV RX7 338 yX7_goDays cX7_goDays 3 none 1 := ⟨m_methodLink_M_338_M_goDays_I_V, m_instanceMethod_M_goDays_I_V, m_selects_M_M_goDays_I_V_M_goDays_I_V, m_initialized_M, m_code_M_goDays_I_V, by decide +kernel, by decide +kernel, by decide +kernel⟩
theorem lk_X7_342_X7_save : LinkV RX7 342 yX7_save cX7_save 2 none 0 := ⟨m_methodLink_M_342_M_save__V, m_instanceMethod_M_save__V, m_selects_M_M_save__V_M_save__V, m_initialized_M, m_code_M_save__V, by decide +kernel, by decide +kernel, by decide +kernel⟩
theorem lk_X7_345_X7_putBack : LinkV RX7 345 yX7_putBack cX7_putBack 2 none 0 := ⟨m_methodLink_M_345_M_putBack__V, m_instanceMethod_M_putBack__V, m_selects_M_M_putBack__V_M_putBack__V, m_initialized_M, m_code_M_putBack__V, by decide +kernel, by decide +kernel, by decide +kernel⟩
theorem lk_X7_348_X7_below : LinkV RX7 348 yX7_below cX7_below 1 (some .int) 0 := ⟨m_methodLink_M_348_M_below__I, m_instanceMethod_M_below__I, m_selects_M_M_below__I_M_below__I, m_initialized_M, m_code_M_below__I, by decide +kernel, by decide +kernel, by decide +kernel⟩
theorem lk_X7_351_X7_watchApart : LinkV RX7 351 yX7_watchApart cX7_watchApart 4 (some .int) 1 := ⟨m_methodLink_M_351_M_watchApart_I_I, m_instanceMethod_M_watchApart_I_I, m_selects_M_M_watchApart_I_I_M_watchApart_I_I, m_initialized_M, m_code_M_watchApart_I_I, by decide +kernel, by decide +kernel, by decide +kernel⟩
theorem lk_X7_354_X7_hushed : LinkV RX7 354 yX7_hushed cX7_hushed 2 (some .int) 0 := ⟨m_methodLink_M_354_M_hushed__I, m_instanceMethod_M_hushed__I, m_selects_M_M_hushed__I_M_hushed__I, m_initialized_M, m_code_M_hushed__I, by decide +kernel, by decide +kernel, by decide +kernel⟩
theorem lk_X7_357_X7_watch : LinkV RX7 357 yX7_watch cX7_watch 5 (some .int) 0 := ⟨m_methodLink_M_357_M_watch__I, m_instanceMethod_M_watch__I, m_selects_M_M_watch__I_M_watch__I, m_initialized_M, m_code_M_watch__I, by decide +kernel, by decide +kernel, by decide +kernel⟩
theorem lk_X7_360_X7_truthsBy : LinkV RX7 360 yX7_truthsBy cX7_truthsBy 4 (some .int) 2 := ⟨m_methodLink_M_360_M_truthsBy_II_I, m_instanceMethod_M_truthsBy_II_I, m_selects_M_M_truthsBy_II_I_M_truthsBy_II_I, m_initialized_M, m_code_M_truthsBy_II_I, by decide +kernel, by decide +kernel, by decide +kernel⟩
theorem lk_X7_363_X7_bits : LinkV RX7 363 yX7_bits cX7_bits 4 (some .int) 1 := ⟨m_methodLink_M_363_M_bits_I_I, m_instanceMethod_M_bits_I_I, m_selects_M_M_bits_I_I_M_bits_I_I, m_initialized_M, m_code_M_bits_I_I, by decide +kernel, by decide +kernel, by decide +kernel⟩
theorem lk_X7_366_X7_fright : LinkV RX7 366 yX7_fright cX7_fright 5 (some .int) 1 := ⟨m_methodLink_M_366_M_fright_I_I, m_instanceMethod_M_fright_I_I, m_selects_M_M_fright_I_I_M_fright_I_I, m_initialized_M, m_code_M_fright_I_I, by decide +kernel, by decide +kernel, by decide +kernel⟩
theorem lk_X7_369_X7_changed : LinkV RX7 369 yX7_changed cX7_changed 7 (some .int) 2 := ⟨m_methodLink_M_369_M_changed_IZ_I, m_instanceMethod_M_changed_IZ_I, m_selects_M_M_changed_IZ_I_M_changed_IZ_I, m_initialized_M, m_code_M_changed_IZ_I, by decide +kernel, by decide +kernel, by decide +kernel⟩
theorem lk_X7_373_X7_isHeard : LinkV RX7 373 yX7_isHeard cX7_isHeard 3 (some .boolean) 0 := ⟨m_methodLink_M_373_M_isHeard__Z, m_instanceMethod_M_isHeard__Z, m_selects_M_M_isHeard__Z_M_isHeard__Z, m_initialized_M, m_code_M_isHeard__Z, by decide +kernel, by decide +kernel, by decide +kernel⟩
theorem lk_X7_376_X7_nerves : LinkV RX7 376 yX7_nerves cX7_nerves 5 (some .int) 1 := ⟨m_methodLink_M_376_M_nerves_I_I, m_instanceMethod_M_nerves_I_I, m_selects_M_M_nerves_I_I_M_nerves_I_I, m_initialized_M, m_code_M_nerves_I_I, by decide +kernel, by decide +kernel, by decide +kernel⟩
theorem lk_X7_379_X7_divisor : LinkV RX7 379 yX7_divisor cX7_divisor 6 (some .int) 2 := ⟨m_methodLink_M_379_M_divisor_II_I, m_instanceMethod_M_divisor_II_I, m_selects_M_M_divisor_II_I_M_divisor_II_I, m_initialized_M, m_code_M_divisor_II_I, by decide +kernel, by decide +kernel, by decide +kernel⟩
theorem lk_X7_384_X7_lowest : LinkV RX7 384 yX7_lowest cX7_lowest 5 (some .long) 3 := ⟨m_methodLink_M_384_M_lowest_III_J, m_instanceMethod_M_lowest_III_J, m_selects_M_M_lowest_III_J_M_lowest_III_J, m_initialized_M, m_code_M_lowest_III_J, by decide +kernel, by decide +kernel, by decide +kernel⟩
theorem lk_X7_388_X7_goPlan : LinkV RX7 388 yX7_goPlan cX7_goPlan 3 none 2 := ⟨m_methodLink_M_388_M_goPlan_II_V, m_instanceMethod_M_goPlan_II_V, m_selects_M_M_goPlan_II_V_M_goPlan_II_V, m_initialized_M, m_code_M_goPlan_II_V, by decide +kernel, by decide +kernel, by decide +kernel⟩
theorem lk_X7_392_X7_isTape : LinkV RX7 392 yX7_isTape cX7_isTape 2 (some .boolean) 1 := ⟨m_methodLink_M_392_M_isTape_I_Z, m_instanceMethod_M_isTape_I_Z, m_selects_M_M_isTape_I_Z_M_isTape_I_Z, m_initialized_M, m_code_M_isTape_I_Z, by decide +kernel, by decide +kernel, by decide +kernel⟩
theorem lk_X7_395_X7_body : LinkV RX7 395 yX7_body cX7_body 2 none 1 := ⟨m_methodLink_M_395_M_body_I_V, m_instanceMethod_M_body_I_V, m_selects_M_M_body_I_V_M_body_I_V, m_initialized_M, m_code_M_body_I_V, by decide +kernel, by decide +kernel, by decide +kernel⟩
theorem lk_X7_398_X7_manRolls : LinkV RX7 398 yX7_manRolls cX7_manRolls 3 (some .int) 2 := ⟨m_methodLink_M_398_M_manRolls_II_I, m_instanceMethod_M_manRolls_II_I, m_selects_M_M_manRolls_II_I_M_manRolls_II_I, m_initialized_M, m_code_M_manRolls_II_I, by decide +kernel, by decide +kernel, by decide +kernel⟩
theorem lk_X7_401_X7_rollsAct : LinkV RX7 401 yX7_rollsAct cX7_rollsAct 3 (some .int) 2 := ⟨m_methodLink_M_401_M_rollsAct_II_I, m_instanceMethod_M_rollsAct_II_I, m_selects_M_M_rollsAct_II_I_M_rollsAct_II_I, m_initialized_M, m_code_M_rollsAct_II_I, by decide +kernel, by decide +kernel, by decide +kernel⟩
theorem lk_X7_404_X7_manHums : LinkV RX7 404 yX7_manHums cX7_manHums 3 (some .int) 2 := ⟨m_methodLink_M_404_M_manHums_II_I, m_instanceMethod_M_manHums_II_I, m_selects_M_M_manHums_II_I_M_manHums_II_I, m_initialized_M, m_code_M_manHums_II_I, by decide +kernel, by decide +kernel, by decide +kernel⟩
theorem lk_X7_407_X7_cookHums : LinkV RX7 407 yX7_cookHums cX7_cookHums 3 (some .int) 2 := ⟨m_methodLink_M_407_M_cookHums_II_I, m_instanceMethod_M_cookHums_II_I, m_selects_M_M_cookHums_II_I_M_cookHums_II_I, m_initialized_M, m_code_M_cookHums_II_I, by decide +kernel, by decide +kernel, by decide +kernel⟩
theorem lk_X7_410_X7_humsAct : LinkV RX7 410 yX7_humsAct cX7_humsAct 4 (some .int) 2 := ⟨m_methodLink_M_410_M_humsAct_II_I, m_instanceMethod_M_humsAct_II_I, m_selects_M_M_humsAct_II_I_M_humsAct_II_I, m_initialized_M, m_code_M_humsAct_II_I, by decide +kernel, by decide +kernel, by decide +kernel⟩
theorem lk_X7_413_X7_manTells : LinkV RX7 413 yX7_manTells cX7_manTells 3 (some .int) 2 := ⟨m_methodLink_M_413_M_manTells_II_I, m_instanceMethod_M_manTells_II_I, m_selects_M_M_manTells_II_I_M_manTells_II_I, m_initialized_M, m_code_M_manTells_II_I, by decide +kernel, by decide +kernel, by decide +kernel⟩
theorem lk_X7_416_X7_tellsAct : LinkV RX7 416 yX7_tellsAct cX7_tellsAct 4 (some .int) 2 := ⟨m_methodLink_M_416_M_tellsAct_II_I, m_instanceMethod_M_tellsAct_II_I, m_selects_M_M_tellsAct_II_I_M_tellsAct_II_I, m_initialized_M, m_code_M_tellsAct_II_I, by decide +kernel, by decide +kernel, by decide +kernel⟩
theorem lk_X7_419_X7_narrow : LinkV RX7 419 yX7_narrow cX7_narrow 4 (some .long) 2 := ⟨m_methodLink_M_419_M_narrow_IJ_J, m_instanceMethod_M_narrow_IJ_J, m_selects_M_M_narrow_IJ_J_M_narrow_IJ_J, m_initialized_M, m_code_M_narrow_IJ_J, by decide +kernel, by decide +kernel, by decide +kernel⟩

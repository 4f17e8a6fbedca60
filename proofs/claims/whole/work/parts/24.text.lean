theorem m_methodLink_P_Text_66_java_lang_String_length__I : (Cond.methodLink RX5 66 yJ0_length_8abf5) ∈ BW := bw_in (tw_2 _ (List.mem_of_getElem? (i := 155) (by decide +kernel))) rfl
theorem m_methodLink_P_Text_70_java_lang_String_charAt_I_C : (Cond.methodLink RX5 70 yJ0_charAt_5068e) ∈ BW := bw_in (tw_2 _ (List.mem_of_getElem? (i := 165) (by decide +kernel))) rfl
theorem m_instanceMethod_java_lang_String_charAt_I_C : (Cond.instanceMethod yJ0_charAt_5068e) ∈ BW := bw_in (tw_2 _ (List.mem_of_getElem? (i := 166) (by decide +kernel))) rfl
theorem m_selects_java_lang_String_java_lang_String_charAt_I_C_java_lang_String_charAt_I_C : (Cond.selects RJ0 yJ0_charAt_5068e yJ0_charAt_5068e) ∈ BW := bw_in (tw_2 _ (List.mem_of_getElem? (i := 167) (by decide +kernel))) rfl
theorem m_code_java_lang_String_charAt_I_C : (Cond.code yJ0_charAt_5068e cJ0_charAt_5068e 2 (some .char)) ∈ BW := bw_in (tw_2 _ (List.mem_of_getElem? (i := 168) (by decide +kernel))) rfl
theorem m_methodLink_P_Text_35_P_Text_take_C_Z : (Cond.methodLink RX5 35 yX5_take) ∈ BW := bw_in (tw_2 _ (List.mem_of_getElem? (i := 203) (by decide +kernel))) rfl
theorem m_instanceMethod_P_Text_take_C_Z : (Cond.instanceMethod yX5_take) ∈ BW := bw_in (tw_2 _ (List.mem_of_getElem? (i := 205) (by decide +kernel))) rfl
theorem m_selects_P_Text_P_Text_take_C_Z_P_Text_take_C_Z : (Cond.selects RX5 yX5_take yX5_take) ∈ BW := bw_in (List.mem_append_left _ (pw_1 _ (List.mem_of_getElem? (i := 10) (by decide +kernel)))) rfl
theorem m_code_P_Text_take_C_Z : (Cond.code yX5_take cX5_take 2 (some .boolean)) ∈ BW := bw_in (tw_2 _ (List.mem_of_getElem? (i := 206) (by decide +kernel))) rfl
theorem m_methodLink_P_Text_50_P_Text_readEither_I_Z : (Cond.methodLink RX5 50 yX5_readEither) ∈ BW := bw_in (tw_2 _ (List.mem_of_getElem? (i := 212) (by decide +kernel))) rfl
theorem m_instanceMethod_P_Text_readEither_I_Z : (Cond.instanceMethod yX5_readEither) ∈ BW := bw_in (tw_2 _ (List.mem_of_getElem? (i := 214) (by decide +kernel))) rfl
theorem m_selects_P_Text_P_Text_readEither_I_Z_P_Text_readEither_I_Z : (Cond.selects RX5 yX5_readEither yX5_readEither) ∈ BW := bw_in (List.mem_append_left _ (pw_1 _ (List.mem_of_getElem? (i := 12) (by decide +kernel)))) rfl
theorem m_code_P_Text_readEither_I_Z : (Cond.code yX5_readEither cX5_readEither 3 (some .boolean)) ∈ BW := bw_in (tw_2 _ (List.mem_of_getElem? (i := 215) (by decide +kernel))) rfl
theorem m_methodLink_P_Text_80_P_Text_readFact_I_Z : (Cond.methodLink RX5 80 yX5_readFact) ∈ BW := bw_in (tw_2 _ (List.mem_of_getElem? (i := 220) (by decide +kernel))) rfl
theorem m_instanceMethod_P_Text_readFact_I_Z : (Cond.instanceMethod yX5_readFact) ∈ BW := bw_in (tw_2 _ (List.mem_of_getElem? (i := 222) (by decide +kernel))) rfl
theorem m_selects_P_Text_P_Text_readFact_I_Z_P_Text_readFact_I_Z : (Cond.selects RX5 yX5_readFact yX5_readFact) ∈ BW := bw_in (List.mem_append_left _ (pw_1 _ (List.mem_of_getElem? (i := 14) (by decide +kernel)))) rfl
theorem m_code_P_Text_readFact_I_Z : (Cond.code yX5_readFact cX5_readFact 6 (some .boolean)) ∈ BW := bw_in (tw_2 _ (List.mem_of_getElem? (i := 223) (by decide +kernel))) rfl
theorem m_fieldLink_P_Text_19_P_Text_charter_LP_Charter : (Cond.fieldLink RX5 19 "CellarPlot$Text" "charter" "LCellarPlot$Charter;") ∈ BW := bw_in (tw_1 _ (List.mem_of_getElem? (i := 125) (by decide +kernel))) rfl
theorem m_methodLink_P_Text_77_P_Charter_addStep_I_Z : (Cond.methodLink RX5 77 yX2_addStep) ∈ BW := bw_in (tw_2 _ (List.mem_of_getElem? (i := 224) (by decide +kernel))) rfl
theorem m_methodLink_P_Text_85_java_lang_String_indexOf_I_I : (Cond.methodLink RX5 85 yJ0_indexOf_0f7a4) ∈ BW := bw_in (tw_2 _ (List.mem_of_getElem? (i := 229) (by decide +kernel))) rfl
theorem m_instanceMethod_java_lang_String_indexOf_I_I : (Cond.instanceMethod yJ0_indexOf_0f7a4) ∈ BW := bw_in (tw_2 _ (List.mem_of_getElem? (i := 230) (by decide +kernel))) rfl
theorem m_selects_java_lang_String_java_lang_String_indexOf_I_I_java_lang_String_indexOf_I_I : (Cond.selects RJ0 yJ0_indexOf_0f7a4 yJ0_indexOf_0f7a4) ∈ BW := bw_in (tw_2 _ (List.mem_of_getElem? (i := 231) (by decide +kernel))) rfl
theorem m_code_java_lang_String_indexOf_I_I : (Cond.code yJ0_indexOf_0f7a4 cJ0_indexOf_0f7a4 2 (some .int)) ∈ BW := bw_in (tw_2 _ (List.mem_of_getElem? (i := 232) (by decide +kernel))) rfl
theorem m_methodLink_P_Text_47_P_Text_readNumber__I : (Cond.methodLink RX5 47 yX5_readNumber) ∈ BW := bw_in (tw_2 _ (List.mem_of_getElem? (i := 207) (by decide +kernel))) rfl
theorem m_instanceMethod_P_Text_readNumber__I : (Cond.instanceMethod yX5_readNumber) ∈ BW := bw_in (tw_2 _ (List.mem_of_getElem? (i := 209) (by decide +kernel))) rfl
theorem m_selects_P_Text_P_Text_readNumber__I_P_Text_readNumber__I : (Cond.selects RX5 yX5_readNumber yX5_readNumber) ∈ BW := bw_in (List.mem_append_left _ (pw_1 _ (List.mem_of_getElem? (i := 11) (by decide +kernel)))) rfl
theorem m_code_P_Text_readNumber__I : (Cond.code yX5_readNumber cX5_readNumber 4 (some .int)) ∈ BW := bw_in (tw_2 _ (List.mem_of_getElem? (i := 210) (by decide +kernel))) rfl
theorem m_methodLink_P_Text_89_P_Charter_addTest_III_Z : (Cond.methodLink RX5 89 yX2_addTest) ∈ BW := bw_in (tw_3 _ (List.mem_of_getElem? (i := 44) (by decide +kernel))) rfl
theorem m_instanceMethod_P_Charter_addTest_III_Z : (Cond.instanceMethod yX2_addTest) ∈ BW := bw_in (tw_3 _ (List.mem_of_getElem? (i := 45) (by decide +kernel))) rfl
theorem m_selects_P_Charter_P_Charter_addTest_III_Z_P_Charter_addTest_III_Z : (Cond.selects RX2 yX2_addTest yX2_addTest) ∈ BW := bw_in (tw_3 _ (List.mem_of_getElem? (i := 46) (by decide +kernel))) rfl
theorem m_code_P_Charter_addTest_III_Z : (Cond.code yX2_addTest cX2_addTest 4 (some .boolean)) ∈ BW := bw_in (tw_3 _ (List.mem_of_getElem? (i := 47) (by decide +kernel))) rfl
theorem m_methodLink_P_Text_74_P_Text_readBoth_I_Z : (Cond.methodLink RX5 74 yX5_readBoth) ∈ BW := bw_in (tw_2 _ (List.mem_of_getElem? (i := 216) (by decide +kernel))) rfl
theorem m_instanceMethod_P_Text_readBoth_I_Z : (Cond.instanceMethod yX5_readBoth) ∈ BW := bw_in (tw_2 _ (List.mem_of_getElem? (i := 218) (by decide +kernel))) rfl
theorem m_selects_P_Text_P_Text_readBoth_I_Z_P_Text_readBoth_I_Z : (Cond.selects RX5 yX5_readBoth yX5_readBoth) ∈ BW := bw_in (List.mem_append_left _ (pw_1 _ (List.mem_of_getElem? (i := 13) (by decide +kernel)))) rfl
theorem m_code_P_Text_readBoth_I_Z : (Cond.code yX5_readBoth cX5_readBoth 3 (some .boolean)) ∈ BW := bw_in (tw_2 _ (List.mem_of_getElem? (i := 219) (by decide +kernel))) rfl
theorem m_methodLink_P_Text_39_P_Text_sortAhead__I : (Cond.methodLink RX5 39 yX5_sortAhead) ∈ BW := bw_in (tw_2 _ (List.mem_of_getElem? (i := 140) (by decide +kernel))) rfl
theorem m_instanceMethod_P_Text_sortAhead__I : (Cond.instanceMethod yX5_sortAhead) ∈ BW := bw_in (tw_2 _ (List.mem_of_getElem? (i := 142) (by decide +kernel))) rfl
theorem m_selects_P_Text_P_Text_sortAhead__I_P_Text_sortAhead__I : (Cond.selects RX5 yX5_sortAhead yX5_sortAhead) ∈ BW := bw_in (List.mem_append_left _ (pw_1 _ (List.mem_of_getElem? (i := 7) (by decide +kernel)))) rfl
theorem m_code_P_Text_sortAhead__I : (Cond.code yX5_sortAhead cX5_sortAhead 1 (some .int)) ∈ BW := bw_in (tw_2 _ (List.mem_of_getElem? (i := 143) (by decide +kernel))) rfl
theorem m_methodLink_P_Text_43_P_Text_takeWord_I_Z : (Cond.methodLink RX5 43 yX5_takeWord) ∈ BW := bw_in (tw_2 _ (List.mem_of_getElem? (i := 148) (by decide +kernel))) rfl
theorem m_instanceMethod_P_Text_takeWord_I_Z : (Cond.instanceMethod yX5_takeWord) ∈ BW := bw_in (tw_2 _ (List.mem_of_getElem? (i := 150) (by decide +kernel))) rfl
theorem m_selects_P_Text_P_Text_takeWord_I_Z_P_Text_takeWord_I_Z : (Cond.selects RX5 yX5_takeWord yX5_takeWord) ∈ BW := bw_in (List.mem_append_left _ (pw_1 _ (List.mem_of_getElem? (i := 9) (by decide +kernel)))) rfl
theorem m_code_P_Text_takeWord_I_Z : (Cond.code yX5_takeWord cX5_takeWord 4 (some .boolean)) ∈ BW := bw_in (tw_2 _ (List.mem_of_getElem? (i := 151) (by decide +kernel))) rfl
theorem m_methodLink_P_Text_53_P_Charter_addClause_II_Z : (Cond.methodLink RX5 53 yX2_addClause) ∈ BW := bw_in (tw_3 _ (List.mem_of_getElem? (i := 49) (by decide +kernel))) rfl
theorem m_instanceMethod_P_Charter_addClause_II_Z : (Cond.instanceMethod yX2_addClause) ∈ BW := bw_in (tw_3 _ (List.mem_of_getElem? (i := 50) (by decide +kernel))) rfl
theorem m_selects_P_Charter_P_Charter_addClause_II_Z_P_Charter_addClause_II_Z : (Cond.selects RX2 yX2_addClause yX2_addClause) ∈ BW := bw_in (tw_3 _ (List.mem_of_getElem? (i := 51) (by decide +kernel))) rfl
theorem m_code_P_Charter_addClause_II_Z : (Cond.code yX2_addClause cX2_addClause 3 (some .boolean)) ∈ BW := bw_in (tw_3 _ (List.mem_of_getElem? (i := 52) (by decide +kernel))) rfl
theorem m_methodLink_P_Text_23_P_Charter_clear__V : (Cond.methodLink RX5 23 yX2_clear) ∈ BW := bw_in (tw_2 _ (List.mem_of_getElem? (i := 132) (by decide +kernel))) rfl
theorem m_instanceMethod_P_Charter_clear__V : (Cond.instanceMethod yX2_clear) ∈ BW := bw_in (tw_2 _ (List.mem_of_getElem? (i := 133) (by decide +kernel))) rfl
theorem m_selects_P_Charter_P_Charter_clear__V_P_Charter_clear__V : (Cond.selects RX2 yX2_clear yX2_clear) ∈ BW := bw_in (tw_2 _ (List.mem_of_getElem? (i := 134) (by decide +kernel))) rfl
theorem m_code_P_Charter_clear__V : (Cond.code yX2_clear cX2_clear 1 none) ∈ BW := bw_in (tw_2 _ (List.mem_of_getElem? (i := 135) (by decide +kernel))) rfl
theorem m_methodLink_P_Text_31_P_Text_readClause__Z : (Cond.methodLink RX5 31 yX5_readClause) ∈ BW := bw_in (tw_2 _ (List.mem_of_getElem? (i := 136) (by decide +kernel))) rfl
theorem m_instanceMethod_P_Text_readClause__Z : (Cond.instanceMethod yX5_readClause) ∈ BW := bw_in (tw_2 _ (List.mem_of_getElem? (i := 138) (by decide +kernel))) rfl
theorem m_selects_P_Text_P_Text_readClause__Z_P_Text_readClause__Z : (Cond.selects RX5 yX5_readClause yX5_readClause) ∈ BW := bw_in (List.mem_append_left _ (pw_1 _ (List.mem_of_getElem? (i := 6) (by decide +kernel)))) rfl
theorem m_code_P_Text_readClause__Z : (Cond.code yX5_readClause cX5_readClause 3 (some .boolean)) ∈ BW := bw_in (tw_2 _ (List.mem_of_getElem? (i := 139) (by decide +kernel))) rfl
theorem lk_X5_66_J0_length_8abf5 : LinkV RX5 66 yJ0_length_8abf5 cJ0_length_8abf5 1 (some .int) 0 := ⟨m_methodLink_P_Text_66_java_lang_String_length__I, m_instanceMethod_java_lang_String_length__I, m_selects_java_lang_String_java_lang_String_length__I_java_lang_String_length__I, m_initialized_java_lang_String, m_code_java_lang_String_length__I, by decide +kernel, by decide +kernel, by decide +kernel⟩
theorem lk_X5_70_J0_charAt_5068e : LinkV RX5 70 yJ0_charAt_5068e cJ0_charAt_5068e 2 (some .char) 1 := ⟨m_methodLink_P_Text_70_java_lang_String_charAt_I_C, m_instanceMethod_java_lang_String_charAt_I_C, m_selects_java_lang_String_java_lang_String_charAt_I_C_java_lang_String_charAt_I_C, m_initialized_java_lang_String, m_code_java_lang_String_charAt_I_C, by decide +kernel, by decide +kernel, by decide +kernel⟩
theorem lk_X5_35_X5_take : LinkV RX5 35 yX5_take cX5_take 2 (some .boolean) 1 := ⟨m_methodLink_P_Text_35_P_Text_take_C_Z, m_instanceMethod_P_Text_take_C_Z, m_selects_P_Text_P_Text_take_C_Z_P_Text_take_C_Z, m_initialized_P_Text, m_code_P_Text_take_C_Z, by decide +kernel, by decide +kernel, by decide +kernel⟩
theorem lk_X5_50_X5_readEither : LinkV RX5 50 yX5_readEither cX5_readEither 3 (some .boolean) 1 := ⟨m_methodLink_P_Text_50_P_Text_readEither_I_Z, m_instanceMethod_P_Text_readEither_I_Z, m_selects_P_Text_P_Text_readEither_I_Z_P_Text_readEither_I_Z, m_initialized_P_Text, m_code_P_Text_readEither_I_Z, by decide +kernel, by decide +kernel, by decide +kernel⟩
theorem lk_X5_80_X5_readFact : LinkV RX5 80 yX5_readFact cX5_readFact 6 (some .boolean) 1 := ⟨m_methodLink_P_Text_80_P_Text_readFact_I_Z, m_instanceMethod_P_Text_readFact_I_Z, m_selects_P_Text_P_Text_readFact_I_Z_P_Text_readFact_I_Z, m_initialized_P_Text, m_code_P_Text_readFact_I_Z, by decide +kernel, by decide +kernel, by decide +kernel⟩
theorem lk_X5_77_X2_addStep : LinkV RX5 77 yX2_addStep cX2_addStep 2 (some .boolean) 1 := ⟨m_methodLink_P_Text_77_P_Charter_addStep_I_Z, m_instanceMethod_P_Charter_addStep_I_Z, m_selects_P_Charter_P_Charter_addStep_I_Z_P_Charter_addStep_I_Z, m_initialized_P_Charter, m_code_P_Charter_addStep_I_Z, by decide +kernel, by decide +kernel, by decide +kernel⟩
theorem lk_X5_85_J0_indexOf_0f7a4 : LinkV RX5 85 yJ0_indexOf_0f7a4 cJ0_indexOf_0f7a4 2 (some .int) 1 := ⟨m_methodLink_P_Text_85_java_lang_String_indexOf_I_I, m_instanceMethod_java_lang_String_indexOf_I_I, m_selects_java_lang_String_java_lang_String_indexOf_I_I_java_lang_String_indexOf_I_I, m_initialized_java_lang_String, m_code_java_lang_String_indexOf_I_I, by decide +kernel, by decide +kernel, by decide +kernel⟩
theorem lk_X5_47_X5_readNumber : LinkV RX5 47 yX5_readNumber cX5_readNumber 4 (some .int) 0 := ⟨m_methodLink_P_Text_47_P_Text_readNumber__I, m_instanceMethod_P_Text_readNumber__I, m_selects_P_Text_P_Text_readNumber__I_P_Text_readNumber__I, m_initialized_P_Text, m_code_P_Text_readNumber__I, by decide +kernel, by decide +kernel, by decide +kernel⟩
theorem lk_X5_89_X2_addTest : LinkV RX5 89 yX2_addTest cX2_addTest 4 (some .boolean) 3 := ⟨m_methodLink_P_Text_89_P_Charter_addTest_III_Z, m_instanceMethod_P_Charter_addTest_III_Z, m_selects_P_Charter_P_Charter_addTest_III_Z_P_Charter_addTest_III_Z, m_initialized_P_Charter, m_code_P_Charter_addTest_III_Z, by decide +kernel, by decide +kernel, by decide +kernel⟩
theorem lk_X5_74_X5_readBoth : LinkV RX5 74 yX5_readBoth cX5_readBoth 3 (some .boolean) 1 := ⟨m_methodLink_P_Text_74_P_Text_readBoth_I_Z, m_instanceMethod_P_Text_readBoth_I_Z, m_selects_P_Text_P_Text_readBoth_I_Z_P_Text_readBoth_I_Z, m_initialized_P_Text, m_code_P_Text_readBoth_I_Z, by decide +kernel, by decide +kernel, by decide +kernel⟩
theorem lk_X5_39_X5_sortAhead : LinkV RX5 39 yX5_sortAhead cX5_sortAhead 1 (some .int) 0 := ⟨m_methodLink_P_Text_39_P_Text_sortAhead__I, m_instanceMethod_P_Text_sortAhead__I, m_selects_P_Text_P_Text_sortAhead__I_P_Text_sortAhead__I, m_initialized_P_Text, m_code_P_Text_sortAhead__I, by decide +kernel, by decide +kernel, by decide +kernel⟩
theorem lk_X5_43_X5_takeWord : LinkV RX5 43 yX5_takeWord cX5_takeWord 4 (some .boolean) 1 := ⟨m_methodLink_P_Text_43_P_Text_takeWord_I_Z, m_instanceMethod_P_Text_takeWord_I_Z, m_selects_P_Text_P_Text_takeWord_I_Z_P_Text_takeWord_I_Z, m_initialized_P_Text, m_code_P_Text_takeWord_I_Z, by decide +kernel, by decide +kernel, by decide +kernel⟩
theorem lk_X5_53_X2_addClause : LinkV RX5 53 yX2_addClause cX2_addClause 3 (some .boolean) 2 := ⟨m_methodLink_P_Text_53_P_Charter_addClause_II_Z, m_instanceMethod_P_Charter_addClause_II_Z, m_selects_P_Charter_P_Charter_addClause_II_Z_P_Charter_addClause_II_Z, m_initialized_P_Charter, m_code_P_Charter_addClause_II_Z, by decide +kernel, by decide +kernel, by decide +kernel⟩
theorem lk_X5_23_X2_clear : LinkV RX5 23 yX2_clear cX2_clear 1 none 0 := ⟨m_methodLink_P_Text_23_P_Charter_clear__V, m_instanceMethod_P_Charter_clear__V, m_selects_P_Charter_P_Charter_clear__V_P_Charter_clear__V, m_initialized_P_Charter, m_code_P_Charter_clear__V, by decide +kernel, by decide +kernel, by decide +kernel⟩
theorem lk_X5_31_X5_readClause : LinkV RX5 31 yX5_readClause cX5_readClause 3 (some .boolean) 0 := ⟨m_methodLink_P_Text_31_P_Text_readClause__Z, m_instanceMethod_P_Text_readClause__Z, m_selects_P_Text_P_Text_readClause__Z_P_Text_readClause__Z, m_initialized_P_Text, m_code_P_Text_readClause__Z, by decide +kernel, by decide +kernel, by decide +kernel⟩
noncomputable def k_X5_takeWord_24 (xs : Nat → Int32) : Nat → Nat → Int32 → (Nat → Int32) → Option (Int32 × (Nat → Int32))
  | 0, _, _, _ => none
  | n + 1, x2, x3, xf => gp x2 4 (b1 (k_J0_length_8abf5 x2) (fun r2 => if r2 ≤ x3 then some (1, xf) else gp x2 4 (b1 (k_J0_charAt_5068e x2 x3) (fun r6 => b2 (k_X5_take r6 xf xs) (fun r9 xf_10 => if r9 = 0 then some (0, xf_10) else k_X5_takeWord_24 xs n x2 (x3 + 1) xf_10)))))
noncomputable def k_X5_takeWord (a1 : Int32) (xf0 : Nat → Int32) (xs : Nat → Int32) : Option (Int32 × (Nat → Int32)) := if a1 = 0 then k_X5_takeWord_24 xs 100000 0 0 xf0 else if a1 = 1 then k_X5_takeWord_24 xs 100000 1 0 xf0 else k_X5_takeWord_24 xs 100000 2 0 xf0
set_option maxHeartbeats 4000000 in
set_option maxRecDepth 100000 in
theorem c_X5_takeWord {l : Launch} {D : va_G} {cA : Nat → ClassId} {adK adV : Nat → Nat} (q : Nat → Nat) (xv : Value) (xf0 : Nat → Int32) (xs : Nat → Int32) (a1 : Int32) (o : Int32 × (Nat → Int32)) (hf : k_X5_takeWord a1 xf0 xs = some o) : CIs l D cA adK adV yX5_takeWord cX5_takeWord 4 (some .boolean) 4 85 [.ref (q 0), .int a1] (Tw q cA xf0 xs xv) 0 0 (fun r w => (r = o.1 ∧ w = (Tw q cA o.2 xs xv)) ∧ narrow .boolean (.int r) = .int r) := by
  intro sz
  refine met_start_s (by decide) rfl ?_
  intro p e s m args below meth c ls hsz hargs C0 hname hStr hP hD hS hl
  generalize hAe : va_A (Tw q cA xf0 xs xv) sz = A at C0 hStr hD hS ⊢
  obtain ⟨hx, hb, hr, hml, hown, hts, hlk, hK, hA⟩ := id C0
  replace hl : lv_has ls 4 [(0, .ref (q 0)), (1, .int a1)] := hl
  obtain ⟨Q, hQ⟩ : ∃ Q : State → Prop, Q = QI below D A (fun r w => (r = o.1 ∧ w = (Tw q cA o.2 xs xv)) ∧ narrow .boolean (.int r) = .int r) args s 0 0 := ⟨_, rfl⟩
  refine cast (by rw [hQ]) (?_ : W p l e (RMx 4 85 0 0) s m args below meth c s.heap [] 0 0 Q (F0 m 0 ls []))
  have J24 : ∀ n : Nat, ∀ (x2 : Nat) (x3 : Int32) (xf : Nat → Int32), k_X5_takeWord_24 xs n x2 x3 xf = some o → ∀ (H : Heap) (locs : List Loc), va_P D vwCl (Tw q cA xf xs xv) H → va_D A (Tw q cA xf xs xv) → va_S A s.heap H locs → ∀ ls : Array Slot, lv_has ls 4 [(0, .ref (q 0)), (2, .ref (adK x2)), (3, .int x3)] → W p l e (RMx 4 85 0 0) s m args below meth c H locs 0 0 Q (F0 m 24 ls []) := by
    intro  n
    induction n with
    | zero =>
      intro x2 x3 xf hf
      rw [k_X5_takeWord_24] at hf
      cases hf
    | succ n ih =>
      intro x2 x3 xf hf H locs hP hD hS ls hl
      rw [k_X5_takeWord_24] at hf
      refine lv_iload_n hx hb dX5_takeWord_24 rfl (lv_at hl 2 rfl) ?_
      refine lv_aload_n hx hb dX5_takeWord_25 rfl (lv_at hl 1 rfl) ?_
      obtain ⟨hk1, hf⟩ := gp_of hf
      obtain ⟨r2q, hq3, hf⟩ := b1_of hf
      refine callVIs (As := []) (rest := [.int x3]) (wr := (Tw q cA xf xs xv)) C0 (c_J0_length_8abf5 x2 hk1 _ hq3) lk_X5_66_J0_length_8abf5 rfl hStr hP hD hS (List.Perm.refl _) (vk_recv hStr.1 hk1 hS) hl.1 rfl rfl (Nat.le_of_ble_eq_true rfl) dX5_takeWord_26 ⟨Nat.zero_le _, Nat.zero_le _⟩ (fun r2 w H locs hw hP hD hS => ?_)
      obtain ⟨e1, e2⟩ := hw
      replace e1 : r2 = r2q := e1
      subst e1
      subst e2
      replace hP : va_P D vwCl (Tw q cA xf xs xv) H := hP
      replace hD : va_D A (Tw q cA xf xs xv) := hD
      refine lv_icmp_ge (tgt := 52) hx hb dX5_takeWord_29 (by decide) (fun c4 => ?_) (fun c4 => ?_)
      · replace hf := it_of c4 hf
        refine lv_iconst (v := 1) hx hb dX5_takeWord_52 (by decide) ?_
        rw [hQ]
        exact ret_z C0 hP hD hS (by have e := Option.some.inj hf; rw [← e]; exact ⟨rfl, rfl⟩) rfl dX5_takeWord_53
      · replace hf := ie_of c4 hf
        refine lv_aload_n hx hb dX5_takeWord_32 rfl (lv_at hl 0 rfl) ?_
        refine lv_aload_n hx hb dX5_takeWord_33 rfl (lv_at hl 1 rfl) ?_
        refine lv_iload_n hx hb dX5_takeWord_34 rfl (lv_at hl 2 rfl) ?_
        obtain ⟨hk5, hf⟩ := gp_of hf
        obtain ⟨r6q, hq7, hf⟩ := b1_of hf
        refine callVIs (As := [.int x3]) (rest := [.ref (q 0)]) (wr := (Tw q cA xf xs xv)) C0 (c_J0_charAt_5068e x2 x3 hk5 _ hq7) lk_X5_70_J0_charAt_5068e rfl hStr hP hD hS (List.Perm.refl _) (vk_recv hStr.1 hk5 hS) hl.1 rfl rfl (Nat.le_of_ble_eq_true rfl) dX5_takeWord_35 ⟨Nat.zero_le _, Nat.zero_le _⟩ (fun r6 w H locs hw hP hD hS => ?_)
        obtain ⟨⟨e1, e2⟩, z8⟩ := hw
        replace e1 : r6 = r6q := e1
        subst e1
        subst e2
        replace hP : va_P D vwCl (Tw q cA xf xs xv) H := hP
        replace hD : va_D A (Tw q cA xf xs xv) := hD
        obtain ⟨r9q, xf_10, hq11, hf⟩ := b2_of hf
        refine callVI (As := [.int r6]) (rest := []) (wr := []) C0 (c_X5_take q xv xf xs r6 _ hq11) lk_X5_35_X5_take rfl hP hD hS perm_nil 0 5 rfl rfl rfl hl.1 rfl rfl (Nat.le_of_ble_eq_true rfl) dX5_takeWord_38 ⟨Nat.zero_le _, Nat.zero_le _⟩ (fun r9 w H locs hw hP hD hS => ?_)
        obtain ⟨⟨e1, e2⟩, z12⟩ := hw
        replace e1 : r9 = r9q := e1
        subst e1
        subst e2
        replace hP : va_P D vwCl (Tw q cA xf_10 xs xv) H := hP.nil
        replace hD : va_D A (Tw q cA xf_10 xs xv) := hD.nil
        refine lv_if_ne (tgt := 46) hx hb dX5_takeWord_41 (by decide) (fun c13 => ?_) (fun c13 => ?_)
        · replace hf := ie_of c13 hf
          refine lv_iinc (v := (x3 + 1)) (lv' := [(3, .int (x3 + 1)), (0, .ref (q 0)), (2, .ref (adK x2))]) hx hb dX5_takeWord_46 hl (k := 2) rfl rfl (by decide) rfl (fun ls hl => ?_)
          refine lv_goto (tgt := 24) hx hb dX5_takeWord_49 (by decide) ?_
          exact ih x2 (x3 + 1) xf_10 hf _ _ hP hD hS _ (lv_sub hl [1, 2, 0] rfl)
        · replace hf := it_of c13 hf
          refine lv_iconst (v := 0) hx hb dX5_takeWord_44 (by decide) ?_
          rw [hQ]
          exact ret_z C0 hP hD hS (by have e := Option.some.inj hf; rw [← e]; exact ⟨rfl, rfl⟩) rfl dX5_takeWord_45
  unfold k_X5_takeWord at hf
  refine lv_iload_n hx hb dX5_takeWord_0 rfl (lv_at hl 1 rfl) ?_
  refine lv_if_ne (tgt := 9) hx hb dX5_takeWord_1 (by decide) (fun c1 => ?_) (fun c1 => ?_)
  · replace hf := ie_of c1 hf
    refine lv_iload_n hx hb dX5_takeWord_9 rfl (lv_at hl 1 rfl) ?_
    refine lv_iconst (v := 1) hx hb dX5_takeWord_10 (by decide) ?_
    refine lv_icmp_ne (tgt := 19) hx hb dX5_takeWord_11 (by decide) (fun c2 => ?_) (fun c2 => ?_)
    · replace hf := ie_of c2 hf
      refine va_ldcS hx hb hown hStr.2.2.2.2.2.1 dX5_takeWord_19 ?_
      refine lv_astore_n (lv' := [(2, .ref (adK 2)), (0, .ref (q 0)), (1, .int a1)]) hx hb dX5_takeWord_21 rfl hl (by decide) rfl (fun ls hl => ?_)
      refine lv_iconst (v := 0) hx hb dX5_takeWord_22 (by decide) ?_
      refine lv_istore_n (lv' := [(3, .int 0), (2, .ref (adK 2)), (0, .ref (q 0)), (1, .int a1)]) hx hb dX5_takeWord_23 rfl hl (by decide) rfl (fun ls hl => ?_)
      exact J24 100000 2 0 xf0 hf _ _ hP hD hS _ (lv_sub hl [2, 1, 0] rfl)
    · replace hf := it_of c2 hf
      refine va_ldcS hx hb hown hStr.2.2.2.2.1 dX5_takeWord_14 ?_
      refine lv_goto (tgt := 21) hx hb dX5_takeWord_16 (by decide) ?_
      refine lv_astore_n (lv' := [(2, .ref (adK 1)), (0, .ref (q 0)), (1, .int a1)]) hx hb dX5_takeWord_21 rfl hl (by decide) rfl (fun ls hl => ?_)
      refine lv_iconst (v := 0) hx hb dX5_takeWord_22 (by decide) ?_
      refine lv_istore_n (lv' := [(3, .int 0), (2, .ref (adK 1)), (0, .ref (q 0)), (1, .int a1)]) hx hb dX5_takeWord_23 rfl hl (by decide) rfl (fun ls hl => ?_)
      exact J24 100000 1 0 xf0 hf _ _ hP hD hS _ (lv_sub hl [2, 1, 0] rfl)
  · replace hf := it_of c1 hf
    refine va_ldcS hx hb hown hStr.2.2.2.1 dX5_takeWord_4 ?_
    refine lv_goto (tgt := 21) hx hb dX5_takeWord_6 (by decide) ?_
    refine lv_astore_n (lv' := [(2, .ref (adK 0)), (0, .ref (q 0)), (1, .int a1)]) hx hb dX5_takeWord_21 rfl hl (by decide) rfl (fun ls hl => ?_)
    refine lv_iconst (v := 0) hx hb dX5_takeWord_22 (by decide) ?_
    refine lv_istore_n (lv' := [(3, .int 0), (2, .ref (adK 0)), (0, .ref (q 0)), (1, .int a1)]) hx hb dX5_takeWord_23 rfl hl (by decide) rfl (fun ls hl => ?_)
    exact J24 100000 0 0 xf0 hf _ _ hP hD hS _ (lv_sub hl [2, 1, 0] rfl)
noncomputable def k_X5_readBoth_34 (xs : Nat → Int32) (kc2 : Int32 → (Nat → Int32) → (Nat → Int32) → (Nat → Nat → Int32) → Option (Int32 × (Nat → Int32) × (Nat → Int32) × (Nat → Nat → Int32))) (x2 : Int32) (xf : Nat → Int32) (cif : Nat → Int32) (cig : Nat → Nat → Int32) : Option (Int32 × (Nat → Int32) × (Nat → Int32) × (Nat → Nat → Int32)) := b2 (k_X5_take 38 xf xs) (fun r1 xf_2 => if r1 = 0 then some (1, xf_2, cif, cig) else kc2 (x2 + 1) xf_2 cif cig)
noncomputable def k_X5_readBoth_2 (kF : Int32 → (Nat → Int32) → (Nat → Int32) → (Nat → Int32) → (Nat → Nat → Int32) → Option (Int32 × (Nat → Int32) × (Nat → Int32) × (Nat → Nat → Int32))) (a1 : Int32) (xs : Nat → Int32) : Nat → Int32 → (Nat → Int32) → (Nat → Int32) → (Nat → Nat → Int32) → Option (Int32 × (Nat → Int32) × (Nat → Int32) × (Nat → Nat → Int32))
  | 0, _, _, _, _ => none
  | n + 1, x2, xf, cif, cig => if 100 ≤ x2 then some (0, xf, cif, cig) else b4 (kF a1 xf xs cif cig) (fun r2 xf_3 cif_4 cig_5 => if r2 = 0 then some (0, xf_3, cif_4, cig_5) else if x2 ≤ 0 then k_X5_readBoth_34 xs (k_X5_readBoth_2 kF a1 xs n) x2 xf_3 cif_4 cig_5 else b3 (k_X2_addStep 7 cif_4 cig_5) (fun r10 cif_11 cig_12 => if r10 = 0 then some (0, xf_3, cif_11, cig_12) else k_X5_readBoth_34 xs (k_X5_readBoth_2 kF a1 xs n) x2 xf_3 cif_11 cig_12))
noncomputable def k_X5_readBoth_g (kF : Int32 → (Nat → Int32) → (Nat → Int32) → (Nat → Int32) → (Nat → Nat → Int32) → Option (Int32 × (Nat → Int32) × (Nat → Int32) × (Nat → Nat → Int32))) (a1 : Int32) (xf0 : Nat → Int32) (xs : Nat → Int32) (cif0 : Nat → Int32) (cig0 : Nat → Nat → Int32) : Option (Int32 × (Nat → Int32) × (Nat → Int32) × (Nat → Nat → Int32)) := k_X5_readBoth_2 kF a1 xs 100000 0 xf0 cif0 cig0
noncomputable def k_X5_readEither_34 (xs : Nat → Int32) (kc2 : Int32 → (Nat → Int32) → (Nat → Int32) → (Nat → Nat → Int32) → Option (Int32 × (Nat → Int32) × (Nat → Int32) × (Nat → Nat → Int32))) (x2 : Int32) (xf : Nat → Int32) (cif : Nat → Int32) (cig : Nat → Nat → Int32) : Option (Int32 × (Nat → Int32) × (Nat → Int32) × (Nat → Nat → Int32)) := b2 (k_X5_take 124 xf xs) (fun r1 xf_2 => if r1 = 0 then some (1, xf_2, cif, cig) else kc2 (x2 + 1) xf_2 cif cig)
noncomputable def k_X5_readEither_2 (kF : Int32 → (Nat → Int32) → (Nat → Int32) → (Nat → Int32) → (Nat → Nat → Int32) → Option (Int32 × (Nat → Int32) × (Nat → Int32) × (Nat → Nat → Int32))) (a1 : Int32) (xs : Nat → Int32) : Nat → Int32 → (Nat → Int32) → (Nat → Int32) → (Nat → Nat → Int32) → Option (Int32 × (Nat → Int32) × (Nat → Int32) × (Nat → Nat → Int32))
  | 0, _, _, _, _ => none
  | n + 1, x2, xf, cif, cig => if 100 ≤ x2 then some (0, xf, cif, cig) else b4 ((k_X5_readBoth_g kF) a1 xf xs cif cig) (fun r2 xf_3 cif_4 cig_5 => if r2 = 0 then some (0, xf_3, cif_4, cig_5) else if x2 ≤ 0 then k_X5_readEither_34 xs (k_X5_readEither_2 kF a1 xs n) x2 xf_3 cif_4 cig_5 else b3 (k_X2_addStep 8 cif_4 cig_5) (fun r10 cif_11 cig_12 => if r10 = 0 then some (0, xf_3, cif_11, cig_12) else k_X5_readEither_34 xs (k_X5_readEither_2 kF a1 xs n) x2 xf_3 cif_11 cig_12))
noncomputable def k_X5_readEither_g (kF : Int32 → (Nat → Int32) → (Nat → Int32) → (Nat → Int32) → (Nat → Nat → Int32) → Option (Int32 × (Nat → Int32) × (Nat → Int32) × (Nat → Nat → Int32))) (a1 : Int32) (xf0 : Nat → Int32) (xs : Nat → Int32) (cif0 : Nat → Int32) (cig0 : Nat → Nat → Int32) : Option (Int32 × (Nat → Int32) × (Nat → Int32) × (Nat → Nat → Int32)) := k_X5_readEither_2 kF a1 xs 100000 0 xf0 cif0 cig0
noncomputable def k_X5_readFact_154 (xs : Nat → Int32) (x3 : Int32) (x4 : Int32) (xf : Nat → Int32) (cif : Nat → Int32) (cig : Nat → Nat → Int32) : Option (Int32 × (Nat → Int32) × (Nat → Int32) × (Nat → Nat → Int32)) := b2 (k_X5_readNumber (upd xf 2 ((xf 2) + 1)) xs) (fun r1 xf_2 => if r1 = (-1) then some (0, xf_2, cif, cig) else b3 (k_X2_addTest x3 x4 r1 cif cig) (fun r5 cif_6 cig_7 => if r5 = 0 then some (0, xf_2, cif_6, cig_7) else some (1, xf_2, cif_6, cig_7)))
noncomputable def k_X5_readFact_108 (xs : Nat → Int32) (t0 : Int32) (xf : Nat → Int32) (cif : Nat → Int32) (cig : Nat → Nat → Int32) : Option (Int32 × (Nat → Int32) × (Nat → Int32) × (Nat → Nat → Int32)) := if 0 ≤ t0 then b1 (k_X5_ahead (upd xf 2 ((xf 2) + 1)) xs) (fun r2 => if r2 = 60 then k_X5_readFact_154 xs t0 r2 (upd xf 2 ((xf 2) + 1)) cif cig else if r2 = 61 then k_X5_readFact_154 xs t0 r2 (upd xf 2 ((xf 2) + 1)) cif cig else if r2 = 62 then k_X5_readFact_154 xs t0 r2 (upd xf 2 ((xf 2) + 1)) cif cig else some (0, (upd xf 2 ((xf 2) + 1)), cif, cig)) else some (0, xf, cif, cig)
noncomputable def k_X5_readFact_93 (xs : Nat → Int32) (x2 : Int32) (xf : Nat → Int32) (cif : Nat → Int32) (cig : Nat → Nat → Int32) : Option (Int32 × (Nat → Int32) × (Nat → Int32) × (Nat → Nat → Int32)) := if 0 ≤ x2 then b1 (k_J0_indexOf_0f7a4 3 ((x2.toUInt32 % 65536).toInt32)) (fun r2 => k_X5_readFact_108 xs r2 xf cif cig) else k_X5_readFact_108 xs (-1) xf cif cig
noncomputable def k_X5_readFact_17 (kF : Int32 → (Nat → Int32) → (Nat → Int32) → (Nat → Int32) → (Nat → Nat → Int32) → Option (Int32 × (Nat → Int32) × (Nat → Int32) × (Nat → Nat → Int32))) (a1 : Int32) (xs : Nat → Int32) (x2 : Int32) (xf : Nat → Int32) (cif : Nat → Int32) (cig : Nat → Nat → Int32) : Option (Int32 × (Nat → Int32) × (Nat → Int32) × (Nat → Nat → Int32)) := if 4 ≤ a1 then k_X5_readFact_93 xs x2 xf cif cig else if x2 = 33 then b4 (kF (a1 + 1) (upd xf 2 ((xf 2) + 1)) xs cif cig) (fun r15 xf_16 cif_17 cig_18 => if r15 = 0 then some (0, xf_16, cif_17, cig_18) else b3 (k_X2_addStep 6 cif_17 cig_18) (fun r22 cif_23 cig_24 => if r22 = 0 then some (0, xf_16, cif_23, cig_24) else some (1, xf_16, cif_23, cig_24))) else b4 ((k_X5_readEither_g kF) (a1 + 1) (upd xf 2 ((xf 2) + 1)) xs cif cig) (fun r3 xf_4 cif_5 cig_6 => if r3 = 0 then some (0, xf_4, cif_5, cig_6) else b2 (k_X5_take 41 xf_4 xs) (fun r10 xf_11 => if r10 = 0 then some (0, xf_11, cif_5, cig_6) else some (1, xf_11, cif_5, cig_6)))
noncomputable def k_X5_readFact_g (kF : Int32 → (Nat → Int32) → (Nat → Int32) → (Nat → Int32) → (Nat → Nat → Int32) → Option (Int32 × (Nat → Int32) × (Nat → Int32) × (Nat → Nat → Int32))) (a1 : Int32) (xf0 : Nat → Int32) (xs : Nat → Int32) (cif0 : Nat → Int32) (cig0 : Nat → Nat → Int32) : Option (Int32 × (Nat → Int32) × (Nat → Int32) × (Nat → Nat → Int32)) := b1 (k_X5_ahead xf0 xs) (fun r1 => if r1 = 33 then k_X5_readFact_17 kF a1 xs r1 xf0 cif0 cig0 else if r1 = 40 then k_X5_readFact_17 kF a1 xs r1 xf0 cif0 cig0 else k_X5_readFact_93 xs r1 xf0 cif0 cig0)
noncomputable def k_X5_readFact : Nat → Int32 → (Nat → Int32) → (Nat → Int32) → (Nat → Int32) → (Nat → Nat → Int32) → Option (Int32 × (Nat → Int32) × (Nat → Int32) × (Nat → Nat → Int32))
  | 0 => fun _ _ _ _ _ => none
  | n + 1 => k_X5_readFact_g (k_X5_readFact n)
theorem c_X5_readFact_0 {l : Launch} {D : va_G} {cA : Nat → ClassId} {adK adV : Nat → Nat} (q : Nat → Nat) (qq : Nat → Nat) (xf0 : Nat → Int32) (xs : Nat → Int32) (cif0 : Nat → Int32) (cig0 : Nat → Nat → Int32) (a1 : Int32) (o : Int32 × (Nat → Int32) × (Nat → Int32) × (Nat → Nat → Int32)) (hf : k_X5_readFact 0 a1 xf0 xs cif0 cig0 = some o) : CIs l D cA adK adV yX5_readFact cX5_readFact 6 (some .boolean) 0 0 [.ref (q 0), .int a1] (List.flatten [(Tw q cA xf0 xs (.ref (qq 0))), (Chw qq cA cif0 cig0)]) 0 0 (fun r w => (r = o.1 ∧ w = (List.flatten [(Tw q cA o.2.1 xs (.ref (qq 0))), (Chw qq cA o.2.2.1 o.2.2.2)])) ∧ narrow .boolean (.int r) = .int r) := by cases hf
set_option maxHeartbeats 4000000 in
set_option maxRecDepth 100000 in
theorem c_X5_readBoth_0 {l : Launch} {D : va_G} {cA : Nat → ClassId} {adK adV : Nat → Nat} (q : Nat → Nat) (qq : Nat → Nat) (xf0 : Nat → Int32) (xs : Nat → Int32) (cif0 : Nat → Int32) (cig0 : Nat → Nat → Int32) (a1 : Int32) (o : Int32 × (Nat → Int32) × (Nat → Int32) × (Nat → Nat → Int32)) (hf : k_X5_readBoth_g (k_X5_readFact 0) a1 xf0 xs cif0 cig0 = some o) : CIs l D cA adK adV yX5_readBoth cX5_readBoth 3 (some .boolean) 2 41 [.ref (q 0), .int a1] (List.flatten [(Tw q cA xf0 xs (.ref (qq 0))), (Chw qq cA cif0 cig0)]) 0 0 (fun r w => (r = o.1 ∧ w = (List.flatten [(Tw q cA o.2.1 xs (.ref (qq 0))), (Chw qq cA o.2.2.1 o.2.2.2)])) ∧ narrow .boolean (.int r) = .int r) := by
  intro sz
  refine met_start_s (by decide) rfl ?_
  intro p e s m args below meth c ls hsz hargs C0 hname hStr hP hD hS hl
  generalize hAe : va_A (List.flatten [(Tw q cA xf0 xs (.ref (qq 0))), (Chw qq cA cif0 cig0)]) sz = A at C0 hStr hD hS ⊢
  obtain ⟨hx, hb, hr, hml, hown, hts, hlk, hK, hA⟩ := id C0
  replace hl : lv_has ls 3 [(0, .ref (q 0)), (1, .int a1)] := hl
  obtain ⟨Q, hQ⟩ : ∃ Q : State → Prop, Q = QI below D A (fun r w => (r = o.1 ∧ w = (List.flatten [(Tw q cA o.2.1 xs (.ref (qq 0))), (Chw qq cA o.2.2.1 o.2.2.2)])) ∧ narrow .boolean (.int r) = .int r) args s 0 0 := ⟨_, rfl⟩
  refine cast (by rw [hQ]) (?_ : W p l e (RMx 2 41 0 0) s m args below meth c s.heap [] 0 0 Q (F0 m 0 ls []))
  obtain ⟨kF, hkF⟩ : ∃ z, z = k_X5_readFact 0 := ⟨_, rfl⟩
  have J34 : ∀ (kc2 : Int32 → (Nat → Int32) → (Nat → Int32) → (Nat → Nat → Int32) → Option (Int32 × (Nat → Int32) × (Nat → Int32) × (Nat → Nat → Int32))) (hkc2 : ∀ (x2 : Int32) (xf : Nat → Int32) (cif : Nat → Int32) (cig : Nat → Nat → Int32), kc2 x2 xf cif cig = some o → ∀ (H : Heap) (locs : List Loc), va_P D vwCl (List.flatten [(Tw q cA xf xs (.ref (qq 0))), (Chw qq cA cif cig)]) H → va_D A (List.flatten [(Tw q cA xf xs (.ref (qq 0))), (Chw qq cA cif cig)]) → va_S A s.heap H locs → ∀ ls : Array Slot, lv_has ls 3 [(0, .ref (q 0)), (1, .int a1), (2, .int x2)] → W p l e (RMx 2 41 0 0) s m args below meth c H locs 0 0 Q (F0 m 2 ls [])), ∀ (x2 : Int32) (xf : Nat → Int32) (cif : Nat → Int32) (cig : Nat → Nat → Int32), k_X5_readBoth_34 xs kc2 x2 xf cif cig = some o → ∀ (H : Heap) (locs : List Loc), va_P D vwCl (List.flatten [(Tw q cA xf xs (.ref (qq 0))), (Chw qq cA cif cig)]) H → va_D A (List.flatten [(Tw q cA xf xs (.ref (qq 0))), (Chw qq cA cif cig)]) → va_S A s.heap H locs → ∀ ls : Array Slot, lv_has ls 3 [(0, .ref (q 0)), (1, .int a1), (2, .int x2)] → W p l e (RMx 2 41 0 0) s m args below meth c H locs 0 0 Q (F0 m 34 ls []) := by
    intro kc2 hkc2 x2 xf cif cig hf H locs hP hD hS ls hl
    unfold k_X5_readBoth_34 at hf
    refine lv_aload_n hx hb dX5_readBoth_34 rfl (lv_at hl 0 rfl) ?_
    refine lv_bipush (v := 38) hx hb dX5_readBoth_35 (by decide) ?_
    obtain ⟨r1q, xf_2, hq3, hf⟩ := b2_of hf
    refine callVI (As := [.int 38]) (rest := []) (wr := segpick [(Tw q cA xf xs (.ref (qq 0))), (Chw qq cA cif cig)] [1]) C0 (c_X5_take q (.ref (qq 0)) xf xs 38 _ hq3) lk_X5_35_X5_take rfl hP hD hS (seg_out [(Tw q cA xf xs (.ref (qq 0))), (Chw qq cA cif cig)] [0] [1] 2 rfl (by decide)) 0 5 rfl rfl rfl hl.1 rfl rfl (Nat.le_of_ble_eq_true rfl) dX5_readBoth_37 ⟨Nat.zero_le _, Nat.zero_le _⟩ (fun r1 w H locs hw hP hD hS => ?_)
    obtain ⟨⟨e1, e2⟩, z4⟩ := hw
    replace e1 : r1 = r1q := e1
    subst e1
    subst e2
    replace hP : va_P D vwCl (List.flatten [(Tw q cA xf_2 xs (.ref (qq 0))), (Chw qq cA cif cig)]) H := hP.perm (seg_out [(Tw q cA xf_2 xs (.ref (qq 0))), (Chw qq cA cif cig)] [0] [1] 2 rfl (by decide)).symm
    replace hD : va_D A (List.flatten [(Tw q cA xf_2 xs (.ref (qq 0))), (Chw qq cA cif cig)]) := hD.perm (seg_out [(Tw q cA xf_2 xs (.ref (qq 0))), (Chw qq cA cif cig)] [0] [1] 2 rfl (by decide)).symm
    refine lv_if_ne (tgt := 45) hx hb dX5_readBoth_40 (by decide) (fun c5 => ?_) (fun c5 => ?_)
    · replace hf := ie_of c5 hf
      refine lv_iinc (v := (x2 + 1)) (lv' := [(2, .int (x2 + 1)), (0, .ref (q 0)), (1, .int a1)]) hx hb dX5_readBoth_45 hl (k := 2) rfl rfl (by decide) rfl (fun ls hl => ?_)
      refine lv_goto (tgt := 2) hx hb dX5_readBoth_48 (by decide) ?_
      exact hkc2 (x2 + 1) xf_2 cif cig hf _ _ hP hD hS _ (lv_sub hl [1, 2, 0] rfl)
    · replace hf := it_of c5 hf
      refine lv_iconst (v := 1) hx hb dX5_readBoth_43 (by decide) ?_
      rw [hQ]
      exact ret_z C0 hP hD hS (by have e := Option.some.inj hf; rw [← e]; exact ⟨rfl, rfl⟩) rfl dX5_readBoth_44
  have J2 : ∀ n : Nat, ∀ (x2 : Int32) (xf : Nat → Int32) (cif : Nat → Int32) (cig : Nat → Nat → Int32), k_X5_readBoth_2 kF a1 xs n x2 xf cif cig = some o → ∀ (H : Heap) (locs : List Loc), va_P D vwCl (List.flatten [(Tw q cA xf xs (.ref (qq 0))), (Chw qq cA cif cig)]) H → va_D A (List.flatten [(Tw q cA xf xs (.ref (qq 0))), (Chw qq cA cif cig)]) → va_S A s.heap H locs → ∀ ls : Array Slot, lv_has ls 3 [(0, .ref (q 0)), (1, .int a1), (2, .int x2)] → W p l e (RMx 2 41 0 0) s m args below meth c H locs 0 0 Q (F0 m 2 ls []) := by
    intro  n
    induction n with
    | zero =>
      intro x2 xf cif cig hf
      rw [k_X5_readBoth_2] at hf
      cases hf
    | succ n ih =>
      intro x2 xf cif cig hf H locs hP hD hS ls hl
      rw [k_X5_readBoth_2] at hf
      refine lv_iload_n hx hb dX5_readBoth_2 rfl (lv_at hl 2 rfl) ?_
      refine lv_bipush (v := 100) hx hb dX5_readBoth_3 (by decide) ?_
      refine lv_icmp_ge (tgt := 51) hx hb dX5_readBoth_5 (by decide) (fun c1 => ?_) (fun c1 => ?_)
      · replace hf := it_of c1 hf
        refine lv_iconst (v := 0) hx hb dX5_readBoth_51 (by decide) ?_
        rw [hQ]
        exact ret_z C0 hP hD hS (by have e := Option.some.inj hf; rw [← e]; exact ⟨rfl, rfl⟩) rfl dX5_readBoth_52
      · replace hf := ie_of c1 hf
        refine lv_aload_n hx hb dX5_readBoth_8 rfl (lv_at hl 0 rfl) ?_
        refine lv_iload_n hx hb dX5_readBoth_9 rfl (lv_at hl 1 rfl) ?_
        obtain ⟨r2q, xf_3, cif_4, cig_5, hq6, hf⟩ := b4_of hf
        refine callVIs (As := [.int a1]) (rest := []) (wr := []) C0 (c_X5_readFact_0 q qq xf xs cif cig a1 _ (by rw [← hkF]; exact hq6)) lk_X5_80_X5_readFact rfl hStr hP hD hS perm_nil (recv_w (q0 := 0) (ci := 5) C0 hP rfl rfl rfl) hl.1 rfl rfl (Nat.le_of_ble_eq_true rfl) dX5_readBoth_10 ⟨Nat.zero_le _, Nat.zero_le _⟩ (fun r2 w H locs hw hP hD hS => ?_)
        obtain ⟨⟨e1, e2⟩, z7⟩ := hw
        replace e1 : r2 = r2q := e1
        subst e1
        subst e2
        replace hP : va_P D vwCl (List.flatten [(Tw q cA xf_3 xs (.ref (qq 0))), (Chw qq cA cif_4 cig_5)]) H := hP.nil
        replace hD : va_D A (List.flatten [(Tw q cA xf_3 xs (.ref (qq 0))), (Chw qq cA cif_4 cig_5)]) := hD.nil
        refine lv_if_eq (tgt := 32) hx hb dX5_readBoth_13 (by decide) (fun c8 => ?_) (fun c8 => ?_)
        · replace hf := it_of c8 hf
          refine lv_iconst (v := 0) hx hb dX5_readBoth_32 (by decide) ?_
          rw [hQ]
          exact ret_z C0 hP hD hS (by have e := Option.some.inj hf; rw [← e]; exact ⟨rfl, rfl⟩) rfl dX5_readBoth_33
        · replace hf := ie_of c8 hf
          refine lv_iload_n hx hb dX5_readBoth_16 rfl (lv_at hl 2 rfl) ?_
          refine lv_if_le (tgt := 34) hx hb dX5_readBoth_17 (by decide) (fun c9 => ?_) (fun c9 => ?_)
          · replace hf := it_of c9 hf
            exact J34 _ ih x2 xf_3 cif_4 cig_5 hf _ _ hP hD hS _ (lv_sub hl [0, 1, 2] rfl)
          · replace hf := ie_of c9 hf
            refine lv_aload_n hx hb dX5_readBoth_20 rfl (lv_at hl 0 rfl) ?_
            refine va_get (D := D) (ci := 5) (v := .ref (qq 0)) (C := RX5) (T := TX5) (N := 4) hx hb hts fw_5 hown hK hP 0 rfl rfl 3 (by decide) (hts _ m_fieldLink_P_Text_19_P_Text_charter_LP_Charter) (fun _ h9 => h9) rfl dX5_readBoth_21 ?_
            refine lv_bipush (v := 7) hx hb dX5_readBoth_24 (by decide) ?_
            obtain ⟨r10q, cif_11, cig_12, hq13, hf⟩ := b3_of hf
            refine callVI (As := [.int 7]) (rest := []) (wr := segpick [(Tw q cA xf_3 xs (.ref (qq 0))), (Chw qq cA cif_4 cig_5)] [0]) C0 (c_X2_addStep qq cif_4 cig_5 7 _ hq13) lk_X5_77_X2_addStep rfl hP hD hS (seg_out [(Tw q cA xf_3 xs (.ref (qq 0))), (Chw qq cA cif_4 cig_5)] [1] [0] 2 rfl (by decide)) 2 2 rfl rfl rfl hl.1 rfl rfl (Nat.le_of_ble_eq_true rfl) dX5_readBoth_26 ⟨Nat.zero_le _, Nat.zero_le _⟩ (fun r10 w H locs hw hP hD hS => ?_)
            obtain ⟨⟨e1, e2⟩, z14⟩ := hw
            replace e1 : r10 = r10q := e1
            subst e1
            subst e2
            replace hP : va_P D vwCl (List.flatten [(Tw q cA xf_3 xs (.ref (qq 0))), (Chw qq cA cif_11 cig_12)]) H := hP.perm (seg_out [(Tw q cA xf_3 xs (.ref (qq 0))), (Chw qq cA cif_11 cig_12)] [1] [0] 2 rfl (by decide)).symm
            replace hD : va_D A (List.flatten [(Tw q cA xf_3 xs (.ref (qq 0))), (Chw qq cA cif_11 cig_12)]) := hD.perm (seg_out [(Tw q cA xf_3 xs (.ref (qq 0))), (Chw qq cA cif_11 cig_12)] [1] [0] 2 rfl (by decide)).symm
            refine lv_if_ne (tgt := 34) hx hb dX5_readBoth_29 (by decide) (fun c15 => ?_) (fun c15 => ?_)
            · replace hf := ie_of c15 hf
              exact J34 _ ih x2 xf_3 cif_11 cig_12 hf _ _ hP hD hS _ (lv_sub hl [0, 1, 2] rfl)
            · replace hf := it_of c15 hf
              refine lv_iconst (v := 0) hx hb dX5_readBoth_32 (by decide) ?_
              rw [hQ]
              exact ret_z C0 hP hD hS (by have e := Option.some.inj hf; rw [← e]; exact ⟨rfl, rfl⟩) rfl dX5_readBoth_33
  replace hf : k_X5_readBoth_g kF a1 xf0 xs cif0 cig0 = some o := by rw [hkF]; exact hf
  unfold k_X5_readBoth_g at hf
  refine lv_iconst (v := 0) hx hb dX5_readBoth_0 (by decide) ?_
  refine lv_istore_n (lv' := [(2, .int 0), (0, .ref (q 0)), (1, .int a1)]) hx hb dX5_readBoth_1 rfl hl (by decide) rfl (fun ls hl => ?_)
  exact J2 100000 0 xf0 cif0 cig0 hf _ _ hP hD hS _ (lv_sub hl [1, 2, 0] rfl)
set_option maxHeartbeats 4000000 in
set_option maxRecDepth 100000 in
theorem c_X5_readEither_0 {l : Launch} {D : va_G} {cA : Nat → ClassId} {adK adV : Nat → Nat} (q : Nat → Nat) (qq : Nat → Nat) (xf0 : Nat → Int32) (xs : Nat → Int32) (cif0 : Nat → Int32) (cig0 : Nat → Nat → Int32) (a1 : Int32) (o : Int32 × (Nat → Int32) × (Nat → Int32) × (Nat → Nat → Int32)) (hf : k_X5_readEither_g (k_X5_readFact 0) a1 xf0 xs cif0 cig0 = some o) : CIs l D cA adK adV yX5_readEither cX5_readEither 3 (some .boolean) 3 63 [.ref (q 0), .int a1] (List.flatten [(Tw q cA xf0 xs (.ref (qq 0))), (Chw qq cA cif0 cig0)]) 0 0 (fun r w => (r = o.1 ∧ w = (List.flatten [(Tw q cA o.2.1 xs (.ref (qq 0))), (Chw qq cA o.2.2.1 o.2.2.2)])) ∧ narrow .boolean (.int r) = .int r) := by
  intro sz
  refine met_start_s (by decide) rfl ?_
  intro p e s m args below meth c ls hsz hargs C0 hname hStr hP hD hS hl
  generalize hAe : va_A (List.flatten [(Tw q cA xf0 xs (.ref (qq 0))), (Chw qq cA cif0 cig0)]) sz = A at C0 hStr hD hS ⊢
  obtain ⟨hx, hb, hr, hml, hown, hts, hlk, hK, hA⟩ := id C0
  replace hl : lv_has ls 3 [(0, .ref (q 0)), (1, .int a1)] := hl
  obtain ⟨Q, hQ⟩ : ∃ Q : State → Prop, Q = QI below D A (fun r w => (r = o.1 ∧ w = (List.flatten [(Tw q cA o.2.1 xs (.ref (qq 0))), (Chw qq cA o.2.2.1 o.2.2.2)])) ∧ narrow .boolean (.int r) = .int r) args s 0 0 := ⟨_, rfl⟩
  refine cast (by rw [hQ]) (?_ : W p l e (RMx 3 63 0 0) s m args below meth c s.heap [] 0 0 Q (F0 m 0 ls []))
  obtain ⟨kF, hkF⟩ : ∃ z, z = k_X5_readFact 0 := ⟨_, rfl⟩
  have J34 : ∀ (kc2 : Int32 → (Nat → Int32) → (Nat → Int32) → (Nat → Nat → Int32) → Option (Int32 × (Nat → Int32) × (Nat → Int32) × (Nat → Nat → Int32))) (hkc2 : ∀ (x2 : Int32) (xf : Nat → Int32) (cif : Nat → Int32) (cig : Nat → Nat → Int32), kc2 x2 xf cif cig = some o → ∀ (H : Heap) (locs : List Loc), va_P D vwCl (List.flatten [(Tw q cA xf xs (.ref (qq 0))), (Chw qq cA cif cig)]) H → va_D A (List.flatten [(Tw q cA xf xs (.ref (qq 0))), (Chw qq cA cif cig)]) → va_S A s.heap H locs → ∀ ls : Array Slot, lv_has ls 3 [(0, .ref (q 0)), (1, .int a1), (2, .int x2)] → W p l e (RMx 3 63 0 0) s m args below meth c H locs 0 0 Q (F0 m 2 ls [])), ∀ (x2 : Int32) (xf : Nat → Int32) (cif : Nat → Int32) (cig : Nat → Nat → Int32), k_X5_readEither_34 xs kc2 x2 xf cif cig = some o → ∀ (H : Heap) (locs : List Loc), va_P D vwCl (List.flatten [(Tw q cA xf xs (.ref (qq 0))), (Chw qq cA cif cig)]) H → va_D A (List.flatten [(Tw q cA xf xs (.ref (qq 0))), (Chw qq cA cif cig)]) → va_S A s.heap H locs → ∀ ls : Array Slot, lv_has ls 3 [(0, .ref (q 0)), (1, .int a1), (2, .int x2)] → W p l e (RMx 3 63 0 0) s m args below meth c H locs 0 0 Q (F0 m 34 ls []) := by
    intro kc2 hkc2 x2 xf cif cig hf H locs hP hD hS ls hl
    unfold k_X5_readEither_34 at hf
    refine lv_aload_n hx hb dX5_readEither_34 rfl (lv_at hl 0 rfl) ?_
    refine lv_bipush (v := 124) hx hb dX5_readEither_35 (by decide) ?_
    obtain ⟨r1q, xf_2, hq3, hf⟩ := b2_of hf
    refine callVI (As := [.int 124]) (rest := []) (wr := segpick [(Tw q cA xf xs (.ref (qq 0))), (Chw qq cA cif cig)] [1]) C0 (c_X5_take q (.ref (qq 0)) xf xs 124 _ hq3) lk_X5_35_X5_take rfl hP hD hS (seg_out [(Tw q cA xf xs (.ref (qq 0))), (Chw qq cA cif cig)] [0] [1] 2 rfl (by decide)) 0 5 rfl rfl rfl hl.1 rfl rfl (Nat.le_of_ble_eq_true rfl) dX5_readEither_37 ⟨Nat.zero_le _, Nat.zero_le _⟩ (fun r1 w H locs hw hP hD hS => ?_)
    obtain ⟨⟨e1, e2⟩, z4⟩ := hw
    replace e1 : r1 = r1q := e1
    subst e1
    subst e2
    replace hP : va_P D vwCl (List.flatten [(Tw q cA xf_2 xs (.ref (qq 0))), (Chw qq cA cif cig)]) H := hP.perm (seg_out [(Tw q cA xf_2 xs (.ref (qq 0))), (Chw qq cA cif cig)] [0] [1] 2 rfl (by decide)).symm
    replace hD : va_D A (List.flatten [(Tw q cA xf_2 xs (.ref (qq 0))), (Chw qq cA cif cig)]) := hD.perm (seg_out [(Tw q cA xf_2 xs (.ref (qq 0))), (Chw qq cA cif cig)] [0] [1] 2 rfl (by decide)).symm
    refine lv_if_ne (tgt := 45) hx hb dX5_readEither_40 (by decide) (fun c5 => ?_) (fun c5 => ?_)
    · replace hf := ie_of c5 hf
      refine lv_iinc (v := (x2 + 1)) (lv' := [(2, .int (x2 + 1)), (0, .ref (q 0)), (1, .int a1)]) hx hb dX5_readEither_45 hl (k := 2) rfl rfl (by decide) rfl (fun ls hl => ?_)
      refine lv_goto (tgt := 2) hx hb dX5_readEither_48 (by decide) ?_
      exact hkc2 (x2 + 1) xf_2 cif cig hf _ _ hP hD hS _ (lv_sub hl [1, 2, 0] rfl)
    · replace hf := it_of c5 hf
      refine lv_iconst (v := 1) hx hb dX5_readEither_43 (by decide) ?_
      rw [hQ]
      exact ret_z C0 hP hD hS (by have e := Option.some.inj hf; rw [← e]; exact ⟨rfl, rfl⟩) rfl dX5_readEither_44
  have J2 : ∀ n : Nat, ∀ (x2 : Int32) (xf : Nat → Int32) (cif : Nat → Int32) (cig : Nat → Nat → Int32), k_X5_readEither_2 kF a1 xs n x2 xf cif cig = some o → ∀ (H : Heap) (locs : List Loc), va_P D vwCl (List.flatten [(Tw q cA xf xs (.ref (qq 0))), (Chw qq cA cif cig)]) H → va_D A (List.flatten [(Tw q cA xf xs (.ref (qq 0))), (Chw qq cA cif cig)]) → va_S A s.heap H locs → ∀ ls : Array Slot, lv_has ls 3 [(0, .ref (q 0)), (1, .int a1), (2, .int x2)] → W p l e (RMx 3 63 0 0) s m args below meth c H locs 0 0 Q (F0 m 2 ls []) := by
    intro  n
    induction n with
    | zero =>
      intro x2 xf cif cig hf
      rw [k_X5_readEither_2] at hf
      cases hf
    | succ n ih =>
      intro x2 xf cif cig hf H locs hP hD hS ls hl
      rw [k_X5_readEither_2] at hf
      refine lv_iload_n hx hb dX5_readEither_2 rfl (lv_at hl 2 rfl) ?_
      refine lv_bipush (v := 100) hx hb dX5_readEither_3 (by decide) ?_
      refine lv_icmp_ge (tgt := 51) hx hb dX5_readEither_5 (by decide) (fun c1 => ?_) (fun c1 => ?_)
      · replace hf := it_of c1 hf
        refine lv_iconst (v := 0) hx hb dX5_readEither_51 (by decide) ?_
        rw [hQ]
        exact ret_z C0 hP hD hS (by have e := Option.some.inj hf; rw [← e]; exact ⟨rfl, rfl⟩) rfl dX5_readEither_52
      · replace hf := ie_of c1 hf
        refine lv_aload_n hx hb dX5_readEither_8 rfl (lv_at hl 0 rfl) ?_
        refine lv_iload_n hx hb dX5_readEither_9 rfl (lv_at hl 1 rfl) ?_
        obtain ⟨r2q, xf_3, cif_4, cig_5, hq6, hf⟩ := b4_of hf
        refine callVIs (As := [.int a1]) (rest := []) (wr := []) C0 (c_X5_readBoth_0 q qq xf xs cif cig a1 _ (by rw [← hkF]; exact hq6)) lk_X5_74_X5_readBoth rfl hStr hP hD hS perm_nil (recv_w (q0 := 0) (ci := 5) C0 hP rfl rfl rfl) hl.1 rfl rfl (Nat.le_of_ble_eq_true rfl) dX5_readEither_10 ⟨Nat.zero_le _, Nat.zero_le _⟩ (fun r2 w H locs hw hP hD hS => ?_)
        obtain ⟨⟨e1, e2⟩, z7⟩ := hw
        replace e1 : r2 = r2q := e1
        subst e1
        subst e2
        replace hP : va_P D vwCl (List.flatten [(Tw q cA xf_3 xs (.ref (qq 0))), (Chw qq cA cif_4 cig_5)]) H := hP.nil
        replace hD : va_D A (List.flatten [(Tw q cA xf_3 xs (.ref (qq 0))), (Chw qq cA cif_4 cig_5)]) := hD.nil
        refine lv_if_eq (tgt := 32) hx hb dX5_readEither_13 (by decide) (fun c8 => ?_) (fun c8 => ?_)
        · replace hf := it_of c8 hf
          refine lv_iconst (v := 0) hx hb dX5_readEither_32 (by decide) ?_
          rw [hQ]
          exact ret_z C0 hP hD hS (by have e := Option.some.inj hf; rw [← e]; exact ⟨rfl, rfl⟩) rfl dX5_readEither_33
        · replace hf := ie_of c8 hf
          refine lv_iload_n hx hb dX5_readEither_16 rfl (lv_at hl 2 rfl) ?_
          refine lv_if_le (tgt := 34) hx hb dX5_readEither_17 (by decide) (fun c9 => ?_) (fun c9 => ?_)
          · replace hf := it_of c9 hf
            exact J34 _ ih x2 xf_3 cif_4 cig_5 hf _ _ hP hD hS _ (lv_sub hl [0, 1, 2] rfl)
          · replace hf := ie_of c9 hf
            refine lv_aload_n hx hb dX5_readEither_20 rfl (lv_at hl 0 rfl) ?_
            refine va_get (D := D) (ci := 5) (v := .ref (qq 0)) (C := RX5) (T := TX5) (N := 4) hx hb hts fw_5 hown hK hP 0 rfl rfl 3 (by decide) (hts _ m_fieldLink_P_Text_19_P_Text_charter_LP_Charter) (fun _ h9 => h9) rfl dX5_readEither_21 ?_
            refine lv_bipush (v := 8) hx hb dX5_readEither_24 (by decide) ?_
            obtain ⟨r10q, cif_11, cig_12, hq13, hf⟩ := b3_of hf
            refine callVI (As := [.int 8]) (rest := []) (wr := segpick [(Tw q cA xf_3 xs (.ref (qq 0))), (Chw qq cA cif_4 cig_5)] [0]) C0 (c_X2_addStep qq cif_4 cig_5 8 _ hq13) lk_X5_77_X2_addStep rfl hP hD hS (seg_out [(Tw q cA xf_3 xs (.ref (qq 0))), (Chw qq cA cif_4 cig_5)] [1] [0] 2 rfl (by decide)) 2 2 rfl rfl rfl hl.1 rfl rfl (Nat.le_of_ble_eq_true rfl) dX5_readEither_26 ⟨Nat.zero_le _, Nat.zero_le _⟩ (fun r10 w H locs hw hP hD hS => ?_)
            obtain ⟨⟨e1, e2⟩, z14⟩ := hw
            replace e1 : r10 = r10q := e1
            subst e1
            subst e2
            replace hP : va_P D vwCl (List.flatten [(Tw q cA xf_3 xs (.ref (qq 0))), (Chw qq cA cif_11 cig_12)]) H := hP.perm (seg_out [(Tw q cA xf_3 xs (.ref (qq 0))), (Chw qq cA cif_11 cig_12)] [1] [0] 2 rfl (by decide)).symm
            replace hD : va_D A (List.flatten [(Tw q cA xf_3 xs (.ref (qq 0))), (Chw qq cA cif_11 cig_12)]) := hD.perm (seg_out [(Tw q cA xf_3 xs (.ref (qq 0))), (Chw qq cA cif_11 cig_12)] [1] [0] 2 rfl (by decide)).symm
            refine lv_if_ne (tgt := 34) hx hb dX5_readEither_29 (by decide) (fun c15 => ?_) (fun c15 => ?_)
            · replace hf := ie_of c15 hf
              exact J34 _ ih x2 xf_3 cif_11 cig_12 hf _ _ hP hD hS _ (lv_sub hl [0, 1, 2] rfl)
            · replace hf := it_of c15 hf
              refine lv_iconst (v := 0) hx hb dX5_readEither_32 (by decide) ?_
              rw [hQ]
              exact ret_z C0 hP hD hS (by have e := Option.some.inj hf; rw [← e]; exact ⟨rfl, rfl⟩) rfl dX5_readEither_33
  replace hf : k_X5_readEither_g kF a1 xf0 xs cif0 cig0 = some o := by rw [hkF]; exact hf
  unfold k_X5_readEither_g at hf
  refine lv_iconst (v := 0) hx hb dX5_readEither_0 (by decide) ?_
  refine lv_istore_n (lv' := [(2, .int 0), (0, .ref (q 0)), (1, .int a1)]) hx hb dX5_readEither_1 rfl hl (by decide) rfl (fun ls hl => ?_)
  exact J2 100000 0 xf0 cif0 cig0 hf _ _ hP hD hS _ (lv_sub hl [1, 2, 0] rfl)
set_option maxHeartbeats 4000000 in
set_option maxRecDepth 100000 in
theorem c_X5_readFact_1 {l : Launch} {D : va_G} {cA : Nat → ClassId} {adK adV : Nat → Nat} (q : Nat → Nat) (qq : Nat → Nat) (xf0 : Nat → Int32) (xs : Nat → Int32) (cif0 : Nat → Int32) (cig0 : Nat → Nat → Int32) (a1 : Int32) (o : Int32 × (Nat → Int32) × (Nat → Int32) × (Nat → Nat → Int32)) (hf : k_X5_readFact 1 a1 xf0 xs cif0 cig0 = some o) : CIs l D cA adK adV yX5_readFact cX5_readFact 6 (some .boolean) 4 91 [.ref (q 0), .int a1] (List.flatten [(Tw q cA xf0 xs (.ref (qq 0))), (Chw qq cA cif0 cig0)]) 0 0 (fun r w => (r = o.1 ∧ w = (List.flatten [(Tw q cA o.2.1 xs (.ref (qq 0))), (Chw qq cA o.2.2.1 o.2.2.2)])) ∧ narrow .boolean (.int r) = .int r) := by
  intro sz
  refine met_start_s (by decide) rfl ?_
  intro p e s m args below meth c ls hsz hargs C0 hname hStr hP hD hS hl
  generalize hAe : va_A (List.flatten [(Tw q cA xf0 xs (.ref (qq 0))), (Chw qq cA cif0 cig0)]) sz = A at C0 hStr hD hS ⊢
  obtain ⟨hx, hb, hr, hml, hown, hts, hlk, hK, hA⟩ := id C0
  replace hl : lv_has ls 6 [(0, .ref (q 0)), (1, .int a1)] := hl
  obtain ⟨Q, hQ⟩ : ∃ Q : State → Prop, Q = QI below D A (fun r w => (r = o.1 ∧ w = (List.flatten [(Tw q cA o.2.1 xs (.ref (qq 0))), (Chw qq cA o.2.2.1 o.2.2.2)])) ∧ narrow .boolean (.int r) = .int r) args s 0 0 := ⟨_, rfl⟩
  refine cast (by rw [hQ]) (?_ : W p l e (RMx 4 91 0 0) s m args below meth c s.heap [] 0 0 Q (F0 m 0 ls []))
  obtain ⟨kF, hkF⟩ : ∃ z, z = k_X5_readFact 0 := ⟨_, rfl⟩
  have J154 : ∀ (x3 : Int32) (x4 : Int32) (xf : Nat → Int32) (cif : Nat → Int32) (cig : Nat → Nat → Int32), k_X5_readFact_154 xs x3 x4 xf cif cig = some o → ∀ (H : Heap) (locs : List Loc), va_P D vwCl (List.flatten [(Tw q cA xf xs (.ref (qq 0))), (Chw qq cA cif cig)]) H → va_D A (List.flatten [(Tw q cA xf xs (.ref (qq 0))), (Chw qq cA cif cig)]) → va_S A s.heap H locs → ∀ ls : Array Slot, lv_has ls 6 [(0, .ref (q 0)), (3, .int x3), (4, .int x4)] → W p l e (RMx 4 91 0 0) s m args below meth c H locs 0 0 Q (F0 m 154 ls []) := by
    intro  x3 x4 xf cif cig hf H locs hP hD hS ls hl
    unfold k_X5_readFact_154 at hf
    refine lv_aload_n hx hb dX5_readFact_154 rfl (lv_at hl 0 rfl) ?_
    refine lv_dup hx hb dX5_readFact_155 rfl ?_
    refine va_get (D := D) (ci := 5) (v := .int (xf 2)) (C := RX5) (T := TX5) (N := 4) hx hb hts fw_5 hown hK hP 0 rfl rfl 2 (by decide) (hts _ m_fieldLink_P_Text_28_P_Text_at_I) (fun _ h9 => h9) rfl dX5_readFact_156 ?_
    refine lv_iconst (v := 1) hx hb dX5_readFact_159 (by decide) ?_
    refine lv_iadd hx hb dX5_readFact_160 ?_
    refine va_put (D := D) (ci := 5) (v := .int ((xf 2) + 1)) (ty := .int) (C := RX5) (T := TX5) (N := 4) hx hb hts fw_5 tyX5 tyX5_ok nmX5 hown hK hP hD hS 0 rfl rfl 2 (by decide) (hts _ m_fieldLink_P_Text_28_P_Text_at_I) (fun _ h9 => h9) rfl (by decide +kernel) rfl rfl (Nat.le_of_ble_eq_true rfl) dX5_readFact_161 (fun H locs hP hD hS => ?_)
    replace hP : va_P D vwCl (List.flatten [(Tw q cA (upd xf 2 ((xf 2) + 1)) xs (.ref (qq 0))), (Chw qq cA cif cig)]) H := hP
    replace hD : va_D A (List.flatten [(Tw q cA (upd xf 2 ((xf 2) + 1)) xs (.ref (qq 0))), (Chw qq cA cif cig)]) := hD
    refine lv_aload_n hx hb dX5_readFact_164 rfl (lv_at hl 0 rfl) ?_
    obtain ⟨r1q, xf_2, hq3, hf⟩ := b2_of hf
    refine callVI (As := []) (rest := []) (wr := segpick [(Tw q cA (upd xf 2 ((xf 2) + 1)) xs (.ref (qq 0))), (Chw qq cA cif cig)] [1]) C0 (c_X5_readNumber q (.ref (qq 0)) (upd xf 2 ((xf 2) + 1)) xs _ hq3) lk_X5_47_X5_readNumber rfl hP hD hS (seg_out [(Tw q cA (upd xf 2 ((xf 2) + 1)) xs (.ref (qq 0))), (Chw qq cA cif cig)] [0] [1] 2 rfl (by decide)) 0 5 rfl rfl rfl hl.1 rfl rfl (Nat.le_of_ble_eq_true rfl) dX5_readFact_165 ⟨Nat.zero_le _, Nat.zero_le _⟩ (fun r1 w H locs hw hP hD hS => ?_)
    obtain ⟨e1, e2⟩ := hw
    replace e1 : r1 = r1q := e1
    subst e1
    subst e2
    replace hP : va_P D vwCl (List.flatten [(Tw q cA xf_2 xs (.ref (qq 0))), (Chw qq cA cif cig)]) H := hP.perm (seg_out [(Tw q cA xf_2 xs (.ref (qq 0))), (Chw qq cA cif cig)] [0] [1] 2 rfl (by decide)).symm
    replace hD : va_D A (List.flatten [(Tw q cA xf_2 xs (.ref (qq 0))), (Chw qq cA cif cig)]) := hD.perm (seg_out [(Tw q cA xf_2 xs (.ref (qq 0))), (Chw qq cA cif cig)] [0] [1] 2 rfl (by decide)).symm
    refine lv_istore (lv' := [(5, .int r1), (0, .ref (q 0)), (3, .int x3), (4, .int x4)]) hx hb dX5_readFact_168 hl (by decide) rfl (fun ls hl => ?_)
    refine lv_iload hx hb dX5_readFact_170 (lv_at hl 0 rfl) ?_
    refine lv_iconst (v := (-1)) hx hb dX5_readFact_172 (by decide) ?_
    refine lv_icmp_eq (tgt := 195) hx hb dX5_readFact_173 (by decide) (fun c4 => ?_) (fun c4 => ?_)
    · replace hf := it_of c4 hf
      refine lv_iconst (v := 0) hx hb dX5_readFact_195 (by decide) ?_
      rw [hQ]
      exact ret_z C0 hP hD hS (by have e := Option.some.inj hf; rw [← e]; exact ⟨rfl, rfl⟩) rfl dX5_readFact_196
    · replace hf := ie_of c4 hf
      refine lv_aload_n hx hb dX5_readFact_176 rfl (lv_at hl 1 rfl) ?_
      refine va_get (D := D) (ci := 5) (v := .ref (qq 0)) (C := RX5) (T := TX5) (N := 4) hx hb hts fw_5 hown hK hP 0 rfl rfl 3 (by decide) (hts _ m_fieldLink_P_Text_19_P_Text_charter_LP_Charter) (fun _ h9 => h9) rfl dX5_readFact_177 ?_
      refine lv_iload_n hx hb dX5_readFact_180 rfl (lv_at hl 2 rfl) ?_
      refine lv_iload hx hb dX5_readFact_181 (lv_at hl 3 rfl) ?_
      refine lv_iload hx hb dX5_readFact_183 (lv_at hl 0 rfl) ?_
      obtain ⟨r5q, cif_6, cig_7, hq8, hf⟩ := b3_of hf
      refine callVI (As := [.int x3, .int x4, .int r1]) (rest := []) (wr := segpick [(Tw q cA xf_2 xs (.ref (qq 0))), (Chw qq cA cif cig)] [0]) C0 (c_X2_addTest qq cif cig x3 x4 r1 _ hq8) lk_X5_89_X2_addTest rfl hP hD hS (seg_out [(Tw q cA xf_2 xs (.ref (qq 0))), (Chw qq cA cif cig)] [1] [0] 2 rfl (by decide)) 2 2 rfl rfl rfl hl.1 rfl rfl (Nat.le_of_ble_eq_true rfl) dX5_readFact_185 ⟨Nat.zero_le _, Nat.zero_le _⟩ (fun r5 w H locs hw hP hD hS => ?_)
      obtain ⟨⟨e1, e2⟩, z9⟩ := hw
      replace e1 : r5 = r5q := e1
      subst e1
      subst e2
      replace hP : va_P D vwCl (List.flatten [(Tw q cA xf_2 xs (.ref (qq 0))), (Chw qq cA cif_6 cig_7)]) H := hP.perm (seg_out [(Tw q cA xf_2 xs (.ref (qq 0))), (Chw qq cA cif_6 cig_7)] [1] [0] 2 rfl (by decide)).symm
      replace hD : va_D A (List.flatten [(Tw q cA xf_2 xs (.ref (qq 0))), (Chw qq cA cif_6 cig_7)]) := hD.perm (seg_out [(Tw q cA xf_2 xs (.ref (qq 0))), (Chw qq cA cif_6 cig_7)] [1] [0] 2 rfl (by decide)).symm
      refine lv_if_eq (tgt := 195) hx hb dX5_readFact_188 (by decide) (fun c10 => ?_) (fun c10 => ?_)
      · replace hf := it_of c10 hf
        refine lv_iconst (v := 0) hx hb dX5_readFact_195 (by decide) ?_
        rw [hQ]
        exact ret_z C0 hP hD hS (by have e := Option.some.inj hf; rw [← e]; exact ⟨rfl, rfl⟩) rfl dX5_readFact_196
      · replace hf := ie_of c10 hf
        refine lv_iconst (v := 1) hx hb dX5_readFact_191 (by decide) ?_
        refine lv_goto (tgt := 196) hx hb dX5_readFact_192 (by decide) ?_
        rw [hQ]
        exact ret_z C0 hP hD hS (by have e := Option.some.inj hf; rw [← e]; exact ⟨rfl, rfl⟩) rfl dX5_readFact_196
  have J108 : ∀ (t0 : Int32) (xf : Nat → Int32) (cif : Nat → Int32) (cig : Nat → Nat → Int32), k_X5_readFact_108 xs t0 xf cif cig = some o → ∀ (H : Heap) (locs : List Loc), va_P D vwCl (List.flatten [(Tw q cA xf xs (.ref (qq 0))), (Chw qq cA cif cig)]) H → va_D A (List.flatten [(Tw q cA xf xs (.ref (qq 0))), (Chw qq cA cif cig)]) → va_S A s.heap H locs → ∀ ls : Array Slot, lv_has ls 6 [(0, .ref (q 0))] → W p l e (RMx 4 91 0 0) s m args below meth c H locs 0 0 Q (F0 m 108 ls [.int t0]) := by
    intro  t0 xf cif cig hf H locs hP hD hS ls hl
    unfold k_X5_readFact_108 at hf
    refine lv_istore_n (lv' := [(3, .int t0), (0, .ref (q 0))]) hx hb dX5_readFact_108 rfl hl (by decide) rfl (fun ls hl => ?_)
    refine lv_iload_n hx hb dX5_readFact_109 rfl (lv_at hl 0 rfl) ?_
    refine lv_if_ge (tgt := 115) hx hb dX5_readFact_110 (by decide) (fun c1 => ?_) (fun c1 => ?_)
    · replace hf := it_of c1 hf
      refine lv_aload_n hx hb dX5_readFact_115 rfl (lv_at hl 1 rfl) ?_
      refine lv_dup hx hb dX5_readFact_116 rfl ?_
      refine va_get (D := D) (ci := 5) (v := .int (xf 2)) (C := RX5) (T := TX5) (N := 4) hx hb hts fw_5 hown hK hP 0 rfl rfl 2 (by decide) (hts _ m_fieldLink_P_Text_28_P_Text_at_I) (fun _ h9 => h9) rfl dX5_readFact_117 ?_
      refine lv_iconst (v := 1) hx hb dX5_readFact_120 (by decide) ?_
      refine lv_iadd hx hb dX5_readFact_121 ?_
      refine va_put (D := D) (ci := 5) (v := .int ((xf 2) + 1)) (ty := .int) (C := RX5) (T := TX5) (N := 4) hx hb hts fw_5 tyX5 tyX5_ok nmX5 hown hK hP hD hS 0 rfl rfl 2 (by decide) (hts _ m_fieldLink_P_Text_28_P_Text_at_I) (fun _ h9 => h9) rfl (by decide +kernel) rfl rfl (Nat.le_of_ble_eq_true rfl) dX5_readFact_122 (fun H locs hP hD hS => ?_)
      replace hP : va_P D vwCl (List.flatten [(Tw q cA (upd xf 2 ((xf 2) + 1)) xs (.ref (qq 0))), (Chw qq cA cif cig)]) H := hP
      replace hD : va_D A (List.flatten [(Tw q cA (upd xf 2 ((xf 2) + 1)) xs (.ref (qq 0))), (Chw qq cA cif cig)]) := hD
      refine lv_aload_n hx hb dX5_readFact_125 rfl (lv_at hl 1 rfl) ?_
      obtain ⟨r2q, hq3, hf⟩ := b1_of hf
      refine callVI (As := []) (rest := []) (wr := segpick [(Tw q cA (upd xf 2 ((xf 2) + 1)) xs (.ref (qq 0))), (Chw qq cA cif cig)] [1]) C0 (c_X5_ahead q (.ref (qq 0)) (upd xf 2 ((xf 2) + 1)) xs _ hq3) lk_X5_57_X5_ahead rfl hP hD hS (seg_out [(Tw q cA (upd xf 2 ((xf 2) + 1)) xs (.ref (qq 0))), (Chw qq cA cif cig)] [0] [1] 2 rfl (by decide)) 0 5 rfl rfl rfl hl.1 rfl rfl (Nat.le_of_ble_eq_true rfl) dX5_readFact_126 ⟨Nat.zero_le _, Nat.zero_le _⟩ (fun r2 w H locs hw hP hD hS => ?_)
      obtain ⟨e1, e2⟩ := hw
      replace e1 : r2 = r2q := e1
      subst e1
      subst e2
      replace hP : va_P D vwCl (List.flatten [(Tw q cA (upd xf 2 ((xf 2) + 1)) xs (.ref (qq 0))), (Chw qq cA cif cig)]) H := hP.perm (seg_out [(Tw q cA (upd xf 2 ((xf 2) + 1)) xs (.ref (qq 0))), (Chw qq cA cif cig)] [0] [1] 2 rfl (by decide)).symm
      replace hD : va_D A (List.flatten [(Tw q cA (upd xf 2 ((xf 2) + 1)) xs (.ref (qq 0))), (Chw qq cA cif cig)]) := hD.perm (seg_out [(Tw q cA (upd xf 2 ((xf 2) + 1)) xs (.ref (qq 0))), (Chw qq cA cif cig)] [0] [1] 2 rfl (by decide)).symm
      refine lv_istore (lv' := [(4, .int r2), (3, .int t0), (0, .ref (q 0))]) hx hb dX5_readFact_129 hl (by decide) rfl (fun ls hl => ?_)
      refine lv_iload hx hb dX5_readFact_131 (lv_at hl 0 rfl) ?_
      refine lv_bipush (v := 60) hx hb dX5_readFact_133 (by decide) ?_
      refine lv_icmp_eq (tgt := 154) hx hb dX5_readFact_135 (by decide) (fun c4 => ?_) (fun c4 => ?_)
      · replace hf := it_of c4 hf
        exact J154 t0 r2 (upd xf 2 ((xf 2) + 1)) cif cig hf _ _ hP hD hS _ (lv_sub hl [2, 1, 0] rfl)
      · replace hf := ie_of c4 hf
        refine lv_iload hx hb dX5_readFact_138 (lv_at hl 0 rfl) ?_
        refine lv_bipush (v := 61) hx hb dX5_readFact_140 (by decide) ?_
        refine lv_icmp_eq (tgt := 154) hx hb dX5_readFact_142 (by decide) (fun c5 => ?_) (fun c5 => ?_)
        · replace hf := it_of c5 hf
          exact J154 t0 r2 (upd xf 2 ((xf 2) + 1)) cif cig hf _ _ hP hD hS _ (lv_sub hl [2, 1, 0] rfl)
        · replace hf := ie_of c5 hf
          refine lv_iload hx hb dX5_readFact_145 (lv_at hl 0 rfl) ?_
          refine lv_bipush (v := 62) hx hb dX5_readFact_147 (by decide) ?_
          refine lv_icmp_eq (tgt := 154) hx hb dX5_readFact_149 (by decide) (fun c6 => ?_) (fun c6 => ?_)
          · replace hf := it_of c6 hf
            exact J154 t0 r2 (upd xf 2 ((xf 2) + 1)) cif cig hf _ _ hP hD hS _ (lv_sub hl [2, 1, 0] rfl)
          · replace hf := ie_of c6 hf
            refine lv_iconst (v := 0) hx hb dX5_readFact_152 (by decide) ?_
            rw [hQ]
            exact ret_z C0 hP hD hS (by have e := Option.some.inj hf; rw [← e]; exact ⟨rfl, rfl⟩) rfl dX5_readFact_153
    · replace hf := ie_of c1 hf
      refine lv_iconst (v := 0) hx hb dX5_readFact_113 (by decide) ?_
      rw [hQ]
      exact ret_z C0 hP hD hS (by have e := Option.some.inj hf; rw [← e]; exact ⟨rfl, rfl⟩) rfl dX5_readFact_114
  have J93 : ∀ (x2 : Int32) (xf : Nat → Int32) (cif : Nat → Int32) (cig : Nat → Nat → Int32), k_X5_readFact_93 xs x2 xf cif cig = some o → ∀ (H : Heap) (locs : List Loc), va_P D vwCl (List.flatten [(Tw q cA xf xs (.ref (qq 0))), (Chw qq cA cif cig)]) H → va_D A (List.flatten [(Tw q cA xf xs (.ref (qq 0))), (Chw qq cA cif cig)]) → va_S A s.heap H locs → ∀ ls : Array Slot, lv_has ls 6 [(0, .ref (q 0)), (2, .int x2)] → W p l e (RMx 4 91 0 0) s m args below meth c H locs 0 0 Q (F0 m 93 ls []) := by
    intro  x2 xf cif cig hf H locs hP hD hS ls hl
    unfold k_X5_readFact_93 at hf
    refine lv_iload_n hx hb dX5_readFact_93 rfl (lv_at hl 1 rfl) ?_
    refine lv_if_ge (tgt := 101) hx hb dX5_readFact_94 (by decide) (fun c1 => ?_) (fun c1 => ?_)
    · replace hf := it_of c1 hf
      refine va_ldcS hx hb hown hStr.2.2.2.2.2.2.1 dX5_readFact_101 ?_
      refine lv_iload_n hx hb dX5_readFact_103 rfl (lv_at hl 1 rfl) ?_
      refine lv_i2c (v := ((x2.toUInt32 % 65536).toInt32)) hx hb dX5_readFact_104 rfl ?_
      obtain ⟨r2q, hq3, hf⟩ := b1_of hf
      refine callVIs (As := [.int ((x2.toUInt32 % 65536).toInt32)]) (rest := []) (wr := (List.flatten [(Tw q cA xf xs (.ref (qq 0))), (Chw qq cA cif cig)])) C0 (c_J0_indexOf_0f7a4 3 ((x2.toUInt32 % 65536).toInt32) (by decide) _ hq3) lk_X5_85_J0_indexOf_0f7a4 rfl hStr hP hD hS (List.Perm.refl _) (vk_recv hStr.1 (by decide) hS) hl.1 rfl rfl (Nat.le_of_ble_eq_true rfl) dX5_readFact_105 ⟨Nat.zero_le _, Nat.zero_le _⟩ (fun r2 w H locs hw hP hD hS => ?_)
      obtain ⟨e1, e2⟩ := hw
      replace e1 : r2 = r2q := e1
      subst e1
      subst e2
      replace hP : va_P D vwCl (List.flatten [(Tw q cA xf xs (.ref (qq 0))), (Chw qq cA cif cig)]) H := hP
      replace hD : va_D A (List.flatten [(Tw q cA xf xs (.ref (qq 0))), (Chw qq cA cif cig)]) := hD
      exact J108 r2 xf cif cig hf _ _ hP hD hS _ (lv_sub hl [0] rfl)
    · replace hf := ie_of c1 hf
      refine lv_iconst (v := (-1)) hx hb dX5_readFact_97 (by decide) ?_
      refine lv_goto (tgt := 108) hx hb dX5_readFact_98 (by decide) ?_
      exact J108 (-1) xf cif cig hf _ _ hP hD hS _ (lv_sub hl [0] rfl)
  have J17 : ∀ (x2 : Int32) (xf : Nat → Int32) (cif : Nat → Int32) (cig : Nat → Nat → Int32), k_X5_readFact_17 kF a1 xs x2 xf cif cig = some o → ∀ (H : Heap) (locs : List Loc), va_P D vwCl (List.flatten [(Tw q cA xf xs (.ref (qq 0))), (Chw qq cA cif cig)]) H → va_D A (List.flatten [(Tw q cA xf xs (.ref (qq 0))), (Chw qq cA cif cig)]) → va_S A s.heap H locs → ∀ ls : Array Slot, lv_has ls 6 [(0, .ref (q 0)), (1, .int a1), (2, .int x2)] → W p l e (RMx 4 91 0 0) s m args below meth c H locs 0 0 Q (F0 m 17 ls []) := by
    intro  x2 xf cif cig hf H locs hP hD hS ls hl
    unfold k_X5_readFact_17 at hf
    refine lv_iload_n hx hb dX5_readFact_17 rfl (lv_at hl 1 rfl) ?_
    refine lv_iconst (v := 4) hx hb dX5_readFact_18 (by decide) ?_
    refine lv_icmp_ge (tgt := 93) hx hb dX5_readFact_19 (by decide) (fun c1 => ?_) (fun c1 => ?_)
    · replace hf := it_of c1 hf
      exact J93 x2 xf cif cig hf _ _ hP hD hS _ (lv_sub hl [0, 2] rfl)
    · replace hf := ie_of c1 hf
      refine lv_aload_n hx hb dX5_readFact_22 rfl (lv_at hl 0 rfl) ?_
      refine lv_dup hx hb dX5_readFact_23 rfl ?_
      refine va_get (D := D) (ci := 5) (v := .int (xf 2)) (C := RX5) (T := TX5) (N := 4) hx hb hts fw_5 hown hK hP 0 rfl rfl 2 (by decide) (hts _ m_fieldLink_P_Text_28_P_Text_at_I) (fun _ h9 => h9) rfl dX5_readFact_24 ?_
      refine lv_iconst (v := 1) hx hb dX5_readFact_27 (by decide) ?_
      refine lv_iadd hx hb dX5_readFact_28 ?_
      refine va_put (D := D) (ci := 5) (v := .int ((xf 2) + 1)) (ty := .int) (C := RX5) (T := TX5) (N := 4) hx hb hts fw_5 tyX5 tyX5_ok nmX5 hown hK hP hD hS 0 rfl rfl 2 (by decide) (hts _ m_fieldLink_P_Text_28_P_Text_at_I) (fun _ h9 => h9) rfl (by decide +kernel) rfl rfl (Nat.le_of_ble_eq_true rfl) dX5_readFact_29 (fun H locs hP hD hS => ?_)
      replace hP : va_P D vwCl (List.flatten [(Tw q cA (upd xf 2 ((xf 2) + 1)) xs (.ref (qq 0))), (Chw qq cA cif cig)]) H := hP
      replace hD : va_D A (List.flatten [(Tw q cA (upd xf 2 ((xf 2) + 1)) xs (.ref (qq 0))), (Chw qq cA cif cig)]) := hD
      refine lv_iload_n hx hb dX5_readFact_32 rfl (lv_at hl 2 rfl) ?_
      refine lv_bipush (v := 33) hx hb dX5_readFact_33 (by decide) ?_
      refine lv_icmp_ne (tgt := 68) hx hb dX5_readFact_35 (by decide) (fun c2 => ?_) (fun c2 => ?_)
      · replace hf := ie_of c2 hf
        refine lv_aload_n hx hb dX5_readFact_68 rfl (lv_at hl 0 rfl) ?_
        refine lv_iload_n hx hb dX5_readFact_69 rfl (lv_at hl 1 rfl) ?_
        refine lv_iconst (v := 1) hx hb dX5_readFact_70 (by decide) ?_
        refine lv_iadd hx hb dX5_readFact_71 ?_
        obtain ⟨r3q, xf_4, cif_5, cig_6, hq7, hf⟩ := b4_of hf
        refine callVIs (As := [.int (a1 + 1)]) (rest := []) (wr := []) C0 (c_X5_readEither_0 q qq (upd xf 2 ((xf 2) + 1)) xs cif cig (a1 + 1) _ (by rw [← hkF]; exact hq7)) lk_X5_50_X5_readEither rfl hStr hP hD hS perm_nil (recv_w (q0 := 0) (ci := 5) C0 hP rfl rfl rfl) hl.1 rfl rfl (Nat.le_of_ble_eq_true rfl) dX5_readFact_72 ⟨Nat.zero_le _, Nat.zero_le _⟩ (fun r3 w H locs hw hP hD hS => ?_)
        obtain ⟨⟨e1, e2⟩, z8⟩ := hw
        replace e1 : r3 = r3q := e1
        subst e1
        subst e2
        replace hP : va_P D vwCl (List.flatten [(Tw q cA xf_4 xs (.ref (qq 0))), (Chw qq cA cif_5 cig_6)]) H := hP.nil
        replace hD : va_D A (List.flatten [(Tw q cA xf_4 xs (.ref (qq 0))), (Chw qq cA cif_5 cig_6)]) := hD.nil
        refine lv_if_eq (tgt := 91) hx hb dX5_readFact_75 (by decide) (fun c9 => ?_) (fun c9 => ?_)
        · replace hf := it_of c9 hf
          refine lv_iconst (v := 0) hx hb dX5_readFact_91 (by decide) ?_
          rw [hQ]
          exact ret_z C0 hP hD hS (by have e := Option.some.inj hf; rw [← e]; exact ⟨rfl, rfl⟩) rfl dX5_readFact_92
        · replace hf := ie_of c9 hf
          refine lv_aload_n hx hb dX5_readFact_78 rfl (lv_at hl 0 rfl) ?_
          refine lv_bipush (v := 41) hx hb dX5_readFact_79 (by decide) ?_
          obtain ⟨r10q, xf_11, hq12, hf⟩ := b2_of hf
          refine callVI (As := [.int 41]) (rest := []) (wr := segpick [(Tw q cA xf_4 xs (.ref (qq 0))), (Chw qq cA cif_5 cig_6)] [1]) C0 (c_X5_take q (.ref (qq 0)) xf_4 xs 41 _ hq12) lk_X5_35_X5_take rfl hP hD hS (seg_out [(Tw q cA xf_4 xs (.ref (qq 0))), (Chw qq cA cif_5 cig_6)] [0] [1] 2 rfl (by decide)) 0 5 rfl rfl rfl hl.1 rfl rfl (Nat.le_of_ble_eq_true rfl) dX5_readFact_81 ⟨Nat.zero_le _, Nat.zero_le _⟩ (fun r10 w H locs hw hP hD hS => ?_)
          obtain ⟨⟨e1, e2⟩, z13⟩ := hw
          replace e1 : r10 = r10q := e1
          subst e1
          subst e2
          replace hP : va_P D vwCl (List.flatten [(Tw q cA xf_11 xs (.ref (qq 0))), (Chw qq cA cif_5 cig_6)]) H := hP.perm (seg_out [(Tw q cA xf_11 xs (.ref (qq 0))), (Chw qq cA cif_5 cig_6)] [0] [1] 2 rfl (by decide)).symm
          replace hD : va_D A (List.flatten [(Tw q cA xf_11 xs (.ref (qq 0))), (Chw qq cA cif_5 cig_6)]) := hD.perm (seg_out [(Tw q cA xf_11 xs (.ref (qq 0))), (Chw qq cA cif_5 cig_6)] [0] [1] 2 rfl (by decide)).symm
          refine lv_if_eq (tgt := 91) hx hb dX5_readFact_84 (by decide) (fun c14 => ?_) (fun c14 => ?_)
          · replace hf := it_of c14 hf
            refine lv_iconst (v := 0) hx hb dX5_readFact_91 (by decide) ?_
            rw [hQ]
            exact ret_z C0 hP hD hS (by have e := Option.some.inj hf; rw [← e]; exact ⟨rfl, rfl⟩) rfl dX5_readFact_92
          · replace hf := ie_of c14 hf
            refine lv_iconst (v := 1) hx hb dX5_readFact_87 (by decide) ?_
            refine lv_goto (tgt := 92) hx hb dX5_readFact_88 (by decide) ?_
            rw [hQ]
            exact ret_z C0 hP hD hS (by have e := Option.some.inj hf; rw [← e]; exact ⟨rfl, rfl⟩) rfl dX5_readFact_92
      · replace hf := it_of c2 hf
        refine lv_aload_n hx hb dX5_readFact_38 rfl (lv_at hl 0 rfl) ?_
        refine lv_iload_n hx hb dX5_readFact_39 rfl (lv_at hl 1 rfl) ?_
        refine lv_iconst (v := 1) hx hb dX5_readFact_40 (by decide) ?_
        refine lv_iadd hx hb dX5_readFact_41 ?_
        obtain ⟨r15q, xf_16, cif_17, cig_18, hq19, hf⟩ := b4_of hf
        refine callVIs (As := [.int (a1 + 1)]) (rest := []) (wr := []) C0 (c_X5_readFact_0 q qq (upd xf 2 ((xf 2) + 1)) xs cif cig (a1 + 1) _ (by rw [← hkF]; exact hq19)) lk_X5_80_X5_readFact rfl hStr hP hD hS perm_nil (recv_w (q0 := 0) (ci := 5) C0 hP rfl rfl rfl) hl.1 rfl rfl (Nat.le_of_ble_eq_true rfl) dX5_readFact_42 ⟨Nat.zero_le _, Nat.zero_le _⟩ (fun r15 w H locs hw hP hD hS => ?_)
        obtain ⟨⟨e1, e2⟩, z20⟩ := hw
        replace e1 : r15 = r15q := e1
        subst e1
        subst e2
        replace hP : va_P D vwCl (List.flatten [(Tw q cA xf_16 xs (.ref (qq 0))), (Chw qq cA cif_17 cig_18)]) H := hP.nil
        replace hD : va_D A (List.flatten [(Tw q cA xf_16 xs (.ref (qq 0))), (Chw qq cA cif_17 cig_18)]) := hD.nil
        refine lv_if_eq (tgt := 64) hx hb dX5_readFact_45 (by decide) (fun c21 => ?_) (fun c21 => ?_)
        · replace hf := it_of c21 hf
          refine lv_iconst (v := 0) hx hb dX5_readFact_64 (by decide) ?_
          refine lv_goto (tgt := 92) hx hb dX5_readFact_65 (by decide) ?_
          rw [hQ]
          exact ret_z C0 hP hD hS (by have e := Option.some.inj hf; rw [← e]; exact ⟨rfl, rfl⟩) rfl dX5_readFact_92
        · replace hf := ie_of c21 hf
          refine lv_aload_n hx hb dX5_readFact_48 rfl (lv_at hl 0 rfl) ?_
          refine va_get (D := D) (ci := 5) (v := .ref (qq 0)) (C := RX5) (T := TX5) (N := 4) hx hb hts fw_5 hown hK hP 0 rfl rfl 3 (by decide) (hts _ m_fieldLink_P_Text_19_P_Text_charter_LP_Charter) (fun _ h9 => h9) rfl dX5_readFact_49 ?_
          refine lv_bipush (v := 6) hx hb dX5_readFact_52 (by decide) ?_
          obtain ⟨r22q, cif_23, cig_24, hq25, hf⟩ := b3_of hf
          refine callVI (As := [.int 6]) (rest := []) (wr := segpick [(Tw q cA xf_16 xs (.ref (qq 0))), (Chw qq cA cif_17 cig_18)] [0]) C0 (c_X2_addStep qq cif_17 cig_18 6 _ hq25) lk_X5_77_X2_addStep rfl hP hD hS (seg_out [(Tw q cA xf_16 xs (.ref (qq 0))), (Chw qq cA cif_17 cig_18)] [1] [0] 2 rfl (by decide)) 2 2 rfl rfl rfl hl.1 rfl rfl (Nat.le_of_ble_eq_true rfl) dX5_readFact_54 ⟨Nat.zero_le _, Nat.zero_le _⟩ (fun r22 w H locs hw hP hD hS => ?_)
          obtain ⟨⟨e1, e2⟩, z26⟩ := hw
          replace e1 : r22 = r22q := e1
          subst e1
          subst e2
          replace hP : va_P D vwCl (List.flatten [(Tw q cA xf_16 xs (.ref (qq 0))), (Chw qq cA cif_23 cig_24)]) H := hP.perm (seg_out [(Tw q cA xf_16 xs (.ref (qq 0))), (Chw qq cA cif_23 cig_24)] [1] [0] 2 rfl (by decide)).symm
          replace hD : va_D A (List.flatten [(Tw q cA xf_16 xs (.ref (qq 0))), (Chw qq cA cif_23 cig_24)]) := hD.perm (seg_out [(Tw q cA xf_16 xs (.ref (qq 0))), (Chw qq cA cif_23 cig_24)] [1] [0] 2 rfl (by decide)).symm
          refine lv_if_eq (tgt := 64) hx hb dX5_readFact_57 (by decide) (fun c27 => ?_) (fun c27 => ?_)
          · replace hf := it_of c27 hf
            refine lv_iconst (v := 0) hx hb dX5_readFact_64 (by decide) ?_
            refine lv_goto (tgt := 92) hx hb dX5_readFact_65 (by decide) ?_
            rw [hQ]
            exact ret_z C0 hP hD hS (by have e := Option.some.inj hf; rw [← e]; exact ⟨rfl, rfl⟩) rfl dX5_readFact_92
          · replace hf := ie_of c27 hf
            refine lv_iconst (v := 1) hx hb dX5_readFact_60 (by decide) ?_
            refine lv_goto (tgt := 92) hx hb dX5_readFact_61 (by decide) ?_
            rw [hQ]
            exact ret_z C0 hP hD hS (by have e := Option.some.inj hf; rw [← e]; exact ⟨rfl, rfl⟩) rfl dX5_readFact_92
  replace hf : k_X5_readFact_g kF a1 xf0 xs cif0 cig0 = some o := by rw [hkF]; exact hf
  unfold k_X5_readFact_g at hf
  refine lv_aload_n hx hb dX5_readFact_0 rfl (lv_at hl 0 rfl) ?_
  obtain ⟨r1q, hq2, hf⟩ := b1_of hf
  refine callVI (As := []) (rest := []) (wr := segpick [(Tw q cA xf0 xs (.ref (qq 0))), (Chw qq cA cif0 cig0)] [1]) C0 (c_X5_ahead q (.ref (qq 0)) xf0 xs _ hq2) lk_X5_57_X5_ahead rfl hP hD hS (seg_out [(Tw q cA xf0 xs (.ref (qq 0))), (Chw qq cA cif0 cig0)] [0] [1] 2 rfl (by decide)) 0 5 rfl rfl rfl hl.1 rfl rfl (Nat.le_of_ble_eq_true rfl) dX5_readFact_1 ⟨Nat.zero_le _, Nat.zero_le _⟩ (fun r1 w H locs hw hP hD hS => ?_)
  obtain ⟨e1, e2⟩ := hw
  replace e1 : r1 = r1q := e1
  subst e1
  subst e2
  replace hP : va_P D vwCl (List.flatten [(Tw q cA xf0 xs (.ref (qq 0))), (Chw qq cA cif0 cig0)]) H := hP.perm (seg_out [(Tw q cA xf0 xs (.ref (qq 0))), (Chw qq cA cif0 cig0)] [0] [1] 2 rfl (by decide)).symm
  replace hD : va_D A (List.flatten [(Tw q cA xf0 xs (.ref (qq 0))), (Chw qq cA cif0 cig0)]) := hD.perm (seg_out [(Tw q cA xf0 xs (.ref (qq 0))), (Chw qq cA cif0 cig0)] [0] [1] 2 rfl (by decide)).symm
  refine lv_istore_n (lv' := [(2, .int r1), (0, .ref (q 0)), (1, .int a1)]) hx hb dX5_readFact_4 rfl hl (by decide) rfl (fun ls hl => ?_)
  refine lv_iload_n hx hb dX5_readFact_5 rfl (lv_at hl 0 rfl) ?_
  refine lv_bipush (v := 33) hx hb dX5_readFact_6 (by decide) ?_
  refine lv_icmp_eq (tgt := 17) hx hb dX5_readFact_8 (by decide) (fun c3 => ?_) (fun c3 => ?_)
  · replace hf := it_of c3 hf
    exact J17 r1 xf0 cif0 cig0 hf _ _ hP hD hS _ (lv_sub hl [1, 2, 0] rfl)
  · replace hf := ie_of c3 hf
    refine lv_iload_n hx hb dX5_readFact_11 rfl (lv_at hl 0 rfl) ?_
    refine lv_bipush (v := 40) hx hb dX5_readFact_12 (by decide) ?_
    refine lv_icmp_ne (tgt := 93) hx hb dX5_readFact_14 (by decide) (fun c4 => ?_) (fun c4 => ?_)
    · replace hf := ie_of c4 hf
      exact J93 r1 xf0 cif0 cig0 hf _ _ hP hD hS _ (lv_sub hl [1, 0] rfl)
    · replace hf := it_of c4 hf
      exact J17 r1 xf0 cif0 cig0 hf _ _ hP hD hS _ (lv_sub hl [1, 2, 0] rfl)
set_option maxHeartbeats 4000000 in
set_option maxRecDepth 100000 in
theorem c_X5_readBoth_1 {l : Launch} {D : va_G} {cA : Nat → ClassId} {adK adV : Nat → Nat} (q : Nat → Nat) (qq : Nat → Nat) (xf0 : Nat → Int32) (xs : Nat → Int32) (cif0 : Nat → Int32) (cig0 : Nat → Nat → Int32) (a1 : Int32) (o : Int32 × (Nat → Int32) × (Nat → Int32) × (Nat → Nat → Int32)) (hf : k_X5_readBoth_g (k_X5_readFact 1) a1 xf0 xs cif0 cig0 = some o) : CIs l D cA adK adV yX5_readBoth cX5_readBoth 3 (some .boolean) 5 116 [.ref (q 0), .int a1] (List.flatten [(Tw q cA xf0 xs (.ref (qq 0))), (Chw qq cA cif0 cig0)]) 0 0 (fun r w => (r = o.1 ∧ w = (List.flatten [(Tw q cA o.2.1 xs (.ref (qq 0))), (Chw qq cA o.2.2.1 o.2.2.2)])) ∧ narrow .boolean (.int r) = .int r) := by
  intro sz
  refine met_start_s (by decide) rfl ?_
  intro p e s m args below meth c ls hsz hargs C0 hname hStr hP hD hS hl
  generalize hAe : va_A (List.flatten [(Tw q cA xf0 xs (.ref (qq 0))), (Chw qq cA cif0 cig0)]) sz = A at C0 hStr hD hS ⊢
  obtain ⟨hx, hb, hr, hml, hown, hts, hlk, hK, hA⟩ := id C0
  replace hl : lv_has ls 3 [(0, .ref (q 0)), (1, .int a1)] := hl
  obtain ⟨Q, hQ⟩ : ∃ Q : State → Prop, Q = QI below D A (fun r w => (r = o.1 ∧ w = (List.flatten [(Tw q cA o.2.1 xs (.ref (qq 0))), (Chw qq cA o.2.2.1 o.2.2.2)])) ∧ narrow .boolean (.int r) = .int r) args s 0 0 := ⟨_, rfl⟩
  refine cast (by rw [hQ]) (?_ : W p l e (RMx 5 116 0 0) s m args below meth c s.heap [] 0 0 Q (F0 m 0 ls []))
  obtain ⟨kF, hkF⟩ : ∃ z, z = k_X5_readFact 1 := ⟨_, rfl⟩
  have J34 : ∀ (kc2 : Int32 → (Nat → Int32) → (Nat → Int32) → (Nat → Nat → Int32) → Option (Int32 × (Nat → Int32) × (Nat → Int32) × (Nat → Nat → Int32))) (hkc2 : ∀ (x2 : Int32) (xf : Nat → Int32) (cif : Nat → Int32) (cig : Nat → Nat → Int32), kc2 x2 xf cif cig = some o → ∀ (H : Heap) (locs : List Loc), va_P D vwCl (List.flatten [(Tw q cA xf xs (.ref (qq 0))), (Chw qq cA cif cig)]) H → va_D A (List.flatten [(Tw q cA xf xs (.ref (qq 0))), (Chw qq cA cif cig)]) → va_S A s.heap H locs → ∀ ls : Array Slot, lv_has ls 3 [(0, .ref (q 0)), (1, .int a1), (2, .int x2)] → W p l e (RMx 5 116 0 0) s m args below meth c H locs 0 0 Q (F0 m 2 ls [])), ∀ (x2 : Int32) (xf : Nat → Int32) (cif : Nat → Int32) (cig : Nat → Nat → Int32), k_X5_readBoth_34 xs kc2 x2 xf cif cig = some o → ∀ (H : Heap) (locs : List Loc), va_P D vwCl (List.flatten [(Tw q cA xf xs (.ref (qq 0))), (Chw qq cA cif cig)]) H → va_D A (List.flatten [(Tw q cA xf xs (.ref (qq 0))), (Chw qq cA cif cig)]) → va_S A s.heap H locs → ∀ ls : Array Slot, lv_has ls 3 [(0, .ref (q 0)), (1, .int a1), (2, .int x2)] → W p l e (RMx 5 116 0 0) s m args below meth c H locs 0 0 Q (F0 m 34 ls []) := by
    intro kc2 hkc2 x2 xf cif cig hf H locs hP hD hS ls hl
    unfold k_X5_readBoth_34 at hf
    refine lv_aload_n hx hb dX5_readBoth_34 rfl (lv_at hl 0 rfl) ?_
    refine lv_bipush (v := 38) hx hb dX5_readBoth_35 (by decide) ?_
    obtain ⟨r1q, xf_2, hq3, hf⟩ := b2_of hf
    refine callVI (As := [.int 38]) (rest := []) (wr := segpick [(Tw q cA xf xs (.ref (qq 0))), (Chw qq cA cif cig)] [1]) C0 (c_X5_take q (.ref (qq 0)) xf xs 38 _ hq3) lk_X5_35_X5_take rfl hP hD hS (seg_out [(Tw q cA xf xs (.ref (qq 0))), (Chw qq cA cif cig)] [0] [1] 2 rfl (by decide)) 0 5 rfl rfl rfl hl.1 rfl rfl (Nat.le_of_ble_eq_true rfl) dX5_readBoth_37 ⟨Nat.zero_le _, Nat.zero_le _⟩ (fun r1 w H locs hw hP hD hS => ?_)
    obtain ⟨⟨e1, e2⟩, z4⟩ := hw
    replace e1 : r1 = r1q := e1
    subst e1
    subst e2
    replace hP : va_P D vwCl (List.flatten [(Tw q cA xf_2 xs (.ref (qq 0))), (Chw qq cA cif cig)]) H := hP.perm (seg_out [(Tw q cA xf_2 xs (.ref (qq 0))), (Chw qq cA cif cig)] [0] [1] 2 rfl (by decide)).symm
    replace hD : va_D A (List.flatten [(Tw q cA xf_2 xs (.ref (qq 0))), (Chw qq cA cif cig)]) := hD.perm (seg_out [(Tw q cA xf_2 xs (.ref (qq 0))), (Chw qq cA cif cig)] [0] [1] 2 rfl (by decide)).symm
    refine lv_if_ne (tgt := 45) hx hb dX5_readBoth_40 (by decide) (fun c5 => ?_) (fun c5 => ?_)
    · replace hf := ie_of c5 hf
      refine lv_iinc (v := (x2 + 1)) (lv' := [(2, .int (x2 + 1)), (0, .ref (q 0)), (1, .int a1)]) hx hb dX5_readBoth_45 hl (k := 2) rfl rfl (by decide) rfl (fun ls hl => ?_)
      refine lv_goto (tgt := 2) hx hb dX5_readBoth_48 (by decide) ?_
      exact hkc2 (x2 + 1) xf_2 cif cig hf _ _ hP hD hS _ (lv_sub hl [1, 2, 0] rfl)
    · replace hf := it_of c5 hf
      refine lv_iconst (v := 1) hx hb dX5_readBoth_43 (by decide) ?_
      rw [hQ]
      exact ret_z C0 hP hD hS (by have e := Option.some.inj hf; rw [← e]; exact ⟨rfl, rfl⟩) rfl dX5_readBoth_44
  have J2 : ∀ n : Nat, ∀ (x2 : Int32) (xf : Nat → Int32) (cif : Nat → Int32) (cig : Nat → Nat → Int32), k_X5_readBoth_2 kF a1 xs n x2 xf cif cig = some o → ∀ (H : Heap) (locs : List Loc), va_P D vwCl (List.flatten [(Tw q cA xf xs (.ref (qq 0))), (Chw qq cA cif cig)]) H → va_D A (List.flatten [(Tw q cA xf xs (.ref (qq 0))), (Chw qq cA cif cig)]) → va_S A s.heap H locs → ∀ ls : Array Slot, lv_has ls 3 [(0, .ref (q 0)), (1, .int a1), (2, .int x2)] → W p l e (RMx 5 116 0 0) s m args below meth c H locs 0 0 Q (F0 m 2 ls []) := by
    intro  n
    induction n with
    | zero =>
      intro x2 xf cif cig hf
      rw [k_X5_readBoth_2] at hf
      cases hf
    | succ n ih =>
      intro x2 xf cif cig hf H locs hP hD hS ls hl
      rw [k_X5_readBoth_2] at hf
      refine lv_iload_n hx hb dX5_readBoth_2 rfl (lv_at hl 2 rfl) ?_
      refine lv_bipush (v := 100) hx hb dX5_readBoth_3 (by decide) ?_
      refine lv_icmp_ge (tgt := 51) hx hb dX5_readBoth_5 (by decide) (fun c1 => ?_) (fun c1 => ?_)
      · replace hf := it_of c1 hf
        refine lv_iconst (v := 0) hx hb dX5_readBoth_51 (by decide) ?_
        rw [hQ]
        exact ret_z C0 hP hD hS (by have e := Option.some.inj hf; rw [← e]; exact ⟨rfl, rfl⟩) rfl dX5_readBoth_52
      · replace hf := ie_of c1 hf
        refine lv_aload_n hx hb dX5_readBoth_8 rfl (lv_at hl 0 rfl) ?_
        refine lv_iload_n hx hb dX5_readBoth_9 rfl (lv_at hl 1 rfl) ?_
        obtain ⟨r2q, xf_3, cif_4, cig_5, hq6, hf⟩ := b4_of hf
        refine callVIs (As := [.int a1]) (rest := []) (wr := []) C0 (c_X5_readFact_1 q qq xf xs cif cig a1 _ (by rw [← hkF]; exact hq6)) lk_X5_80_X5_readFact rfl hStr hP hD hS perm_nil (recv_w (q0 := 0) (ci := 5) C0 hP rfl rfl rfl) hl.1 rfl rfl (Nat.le_of_ble_eq_true rfl) dX5_readBoth_10 ⟨Nat.zero_le _, Nat.zero_le _⟩ (fun r2 w H locs hw hP hD hS => ?_)
        obtain ⟨⟨e1, e2⟩, z7⟩ := hw
        replace e1 : r2 = r2q := e1
        subst e1
        subst e2
        replace hP : va_P D vwCl (List.flatten [(Tw q cA xf_3 xs (.ref (qq 0))), (Chw qq cA cif_4 cig_5)]) H := hP.nil
        replace hD : va_D A (List.flatten [(Tw q cA xf_3 xs (.ref (qq 0))), (Chw qq cA cif_4 cig_5)]) := hD.nil
        refine lv_if_eq (tgt := 32) hx hb dX5_readBoth_13 (by decide) (fun c8 => ?_) (fun c8 => ?_)
        · replace hf := it_of c8 hf
          refine lv_iconst (v := 0) hx hb dX5_readBoth_32 (by decide) ?_
          rw [hQ]
          exact ret_z C0 hP hD hS (by have e := Option.some.inj hf; rw [← e]; exact ⟨rfl, rfl⟩) rfl dX5_readBoth_33
        · replace hf := ie_of c8 hf
          refine lv_iload_n hx hb dX5_readBoth_16 rfl (lv_at hl 2 rfl) ?_
          refine lv_if_le (tgt := 34) hx hb dX5_readBoth_17 (by decide) (fun c9 => ?_) (fun c9 => ?_)
          · replace hf := it_of c9 hf
            exact J34 _ ih x2 xf_3 cif_4 cig_5 hf _ _ hP hD hS _ (lv_sub hl [0, 1, 2] rfl)
          · replace hf := ie_of c9 hf
            refine lv_aload_n hx hb dX5_readBoth_20 rfl (lv_at hl 0 rfl) ?_
            refine va_get (D := D) (ci := 5) (v := .ref (qq 0)) (C := RX5) (T := TX5) (N := 4) hx hb hts fw_5 hown hK hP 0 rfl rfl 3 (by decide) (hts _ m_fieldLink_P_Text_19_P_Text_charter_LP_Charter) (fun _ h9 => h9) rfl dX5_readBoth_21 ?_
            refine lv_bipush (v := 7) hx hb dX5_readBoth_24 (by decide) ?_
            obtain ⟨r10q, cif_11, cig_12, hq13, hf⟩ := b3_of hf
            refine callVI (As := [.int 7]) (rest := []) (wr := segpick [(Tw q cA xf_3 xs (.ref (qq 0))), (Chw qq cA cif_4 cig_5)] [0]) C0 (c_X2_addStep qq cif_4 cig_5 7 _ hq13) lk_X5_77_X2_addStep rfl hP hD hS (seg_out [(Tw q cA xf_3 xs (.ref (qq 0))), (Chw qq cA cif_4 cig_5)] [1] [0] 2 rfl (by decide)) 2 2 rfl rfl rfl hl.1 rfl rfl (Nat.le_of_ble_eq_true rfl) dX5_readBoth_26 ⟨Nat.zero_le _, Nat.zero_le _⟩ (fun r10 w H locs hw hP hD hS => ?_)
            obtain ⟨⟨e1, e2⟩, z14⟩ := hw
            replace e1 : r10 = r10q := e1
            subst e1
            subst e2
            replace hP : va_P D vwCl (List.flatten [(Tw q cA xf_3 xs (.ref (qq 0))), (Chw qq cA cif_11 cig_12)]) H := hP.perm (seg_out [(Tw q cA xf_3 xs (.ref (qq 0))), (Chw qq cA cif_11 cig_12)] [1] [0] 2 rfl (by decide)).symm
            replace hD : va_D A (List.flatten [(Tw q cA xf_3 xs (.ref (qq 0))), (Chw qq cA cif_11 cig_12)]) := hD.perm (seg_out [(Tw q cA xf_3 xs (.ref (qq 0))), (Chw qq cA cif_11 cig_12)] [1] [0] 2 rfl (by decide)).symm
            refine lv_if_ne (tgt := 34) hx hb dX5_readBoth_29 (by decide) (fun c15 => ?_) (fun c15 => ?_)
            · replace hf := ie_of c15 hf
              exact J34 _ ih x2 xf_3 cif_11 cig_12 hf _ _ hP hD hS _ (lv_sub hl [0, 1, 2] rfl)
            · replace hf := it_of c15 hf
              refine lv_iconst (v := 0) hx hb dX5_readBoth_32 (by decide) ?_
              rw [hQ]
              exact ret_z C0 hP hD hS (by have e := Option.some.inj hf; rw [← e]; exact ⟨rfl, rfl⟩) rfl dX5_readBoth_33
  replace hf : k_X5_readBoth_g kF a1 xf0 xs cif0 cig0 = some o := by rw [hkF]; exact hf
  unfold k_X5_readBoth_g at hf
  refine lv_iconst (v := 0) hx hb dX5_readBoth_0 (by decide) ?_
  refine lv_istore_n (lv' := [(2, .int 0), (0, .ref (q 0)), (1, .int a1)]) hx hb dX5_readBoth_1 rfl hl (by decide) rfl (fun ls hl => ?_)
  exact J2 100000 0 xf0 cif0 cig0 hf _ _ hP hD hS _ (lv_sub hl [1, 2, 0] rfl)
set_option maxHeartbeats 4000000 in
set_option maxRecDepth 100000 in
theorem c_X5_readEither_1 {l : Launch} {D : va_G} {cA : Nat → ClassId} {adK adV : Nat → Nat} (q : Nat → Nat) (qq : Nat → Nat) (xf0 : Nat → Int32) (xs : Nat → Int32) (cif0 : Nat → Int32) (cig0 : Nat → Nat → Int32) (a1 : Int32) (o : Int32 × (Nat → Int32) × (Nat → Int32) × (Nat → Nat → Int32)) (hf : k_X5_readEither_g (k_X5_readFact 1) a1 xf0 xs cif0 cig0 = some o) : CIs l D cA adK adV yX5_readEither cX5_readEither 3 (some .boolean) 6 138 [.ref (q 0), .int a1] (List.flatten [(Tw q cA xf0 xs (.ref (qq 0))), (Chw qq cA cif0 cig0)]) 0 0 (fun r w => (r = o.1 ∧ w = (List.flatten [(Tw q cA o.2.1 xs (.ref (qq 0))), (Chw qq cA o.2.2.1 o.2.2.2)])) ∧ narrow .boolean (.int r) = .int r) := by
  intro sz
  refine met_start_s (by decide) rfl ?_
  intro p e s m args below meth c ls hsz hargs C0 hname hStr hP hD hS hl
  generalize hAe : va_A (List.flatten [(Tw q cA xf0 xs (.ref (qq 0))), (Chw qq cA cif0 cig0)]) sz = A at C0 hStr hD hS ⊢
  obtain ⟨hx, hb, hr, hml, hown, hts, hlk, hK, hA⟩ := id C0
  replace hl : lv_has ls 3 [(0, .ref (q 0)), (1, .int a1)] := hl
  obtain ⟨Q, hQ⟩ : ∃ Q : State → Prop, Q = QI below D A (fun r w => (r = o.1 ∧ w = (List.flatten [(Tw q cA o.2.1 xs (.ref (qq 0))), (Chw qq cA o.2.2.1 o.2.2.2)])) ∧ narrow .boolean (.int r) = .int r) args s 0 0 := ⟨_, rfl⟩
  refine cast (by rw [hQ]) (?_ : W p l e (RMx 6 138 0 0) s m args below meth c s.heap [] 0 0 Q (F0 m 0 ls []))
  obtain ⟨kF, hkF⟩ : ∃ z, z = k_X5_readFact 1 := ⟨_, rfl⟩
  have J34 : ∀ (kc2 : Int32 → (Nat → Int32) → (Nat → Int32) → (Nat → Nat → Int32) → Option (Int32 × (Nat → Int32) × (Nat → Int32) × (Nat → Nat → Int32))) (hkc2 : ∀ (x2 : Int32) (xf : Nat → Int32) (cif : Nat → Int32) (cig : Nat → Nat → Int32), kc2 x2 xf cif cig = some o → ∀ (H : Heap) (locs : List Loc), va_P D vwCl (List.flatten [(Tw q cA xf xs (.ref (qq 0))), (Chw qq cA cif cig)]) H → va_D A (List.flatten [(Tw q cA xf xs (.ref (qq 0))), (Chw qq cA cif cig)]) → va_S A s.heap H locs → ∀ ls : Array Slot, lv_has ls 3 [(0, .ref (q 0)), (1, .int a1), (2, .int x2)] → W p l e (RMx 6 138 0 0) s m args below meth c H locs 0 0 Q (F0 m 2 ls [])), ∀ (x2 : Int32) (xf : Nat → Int32) (cif : Nat → Int32) (cig : Nat → Nat → Int32), k_X5_readEither_34 xs kc2 x2 xf cif cig = some o → ∀ (H : Heap) (locs : List Loc), va_P D vwCl (List.flatten [(Tw q cA xf xs (.ref (qq 0))), (Chw qq cA cif cig)]) H → va_D A (List.flatten [(Tw q cA xf xs (.ref (qq 0))), (Chw qq cA cif cig)]) → va_S A s.heap H locs → ∀ ls : Array Slot, lv_has ls 3 [(0, .ref (q 0)), (1, .int a1), (2, .int x2)] → W p l e (RMx 6 138 0 0) s m args below meth c H locs 0 0 Q (F0 m 34 ls []) := by
    intro kc2 hkc2 x2 xf cif cig hf H locs hP hD hS ls hl
    unfold k_X5_readEither_34 at hf
    refine lv_aload_n hx hb dX5_readEither_34 rfl (lv_at hl 0 rfl) ?_
    refine lv_bipush (v := 124) hx hb dX5_readEither_35 (by decide) ?_
    obtain ⟨r1q, xf_2, hq3, hf⟩ := b2_of hf
    refine callVI (As := [.int 124]) (rest := []) (wr := segpick [(Tw q cA xf xs (.ref (qq 0))), (Chw qq cA cif cig)] [1]) C0 (c_X5_take q (.ref (qq 0)) xf xs 124 _ hq3) lk_X5_35_X5_take rfl hP hD hS (seg_out [(Tw q cA xf xs (.ref (qq 0))), (Chw qq cA cif cig)] [0] [1] 2 rfl (by decide)) 0 5 rfl rfl rfl hl.1 rfl rfl (Nat.le_of_ble_eq_true rfl) dX5_readEither_37 ⟨Nat.zero_le _, Nat.zero_le _⟩ (fun r1 w H locs hw hP hD hS => ?_)
    obtain ⟨⟨e1, e2⟩, z4⟩ := hw
    replace e1 : r1 = r1q := e1
    subst e1
    subst e2
    replace hP : va_P D vwCl (List.flatten [(Tw q cA xf_2 xs (.ref (qq 0))), (Chw qq cA cif cig)]) H := hP.perm (seg_out [(Tw q cA xf_2 xs (.ref (qq 0))), (Chw qq cA cif cig)] [0] [1] 2 rfl (by decide)).symm
    replace hD : va_D A (List.flatten [(Tw q cA xf_2 xs (.ref (qq 0))), (Chw qq cA cif cig)]) := hD.perm (seg_out [(Tw q cA xf_2 xs (.ref (qq 0))), (Chw qq cA cif cig)] [0] [1] 2 rfl (by decide)).symm
    refine lv_if_ne (tgt := 45) hx hb dX5_readEither_40 (by decide) (fun c5 => ?_) (fun c5 => ?_)
    · replace hf := ie_of c5 hf
      refine lv_iinc (v := (x2 + 1)) (lv' := [(2, .int (x2 + 1)), (0, .ref (q 0)), (1, .int a1)]) hx hb dX5_readEither_45 hl (k := 2) rfl rfl (by decide) rfl (fun ls hl => ?_)
      refine lv_goto (tgt := 2) hx hb dX5_readEither_48 (by decide) ?_
      exact hkc2 (x2 + 1) xf_2 cif cig hf _ _ hP hD hS _ (lv_sub hl [1, 2, 0] rfl)
    · replace hf := it_of c5 hf
      refine lv_iconst (v := 1) hx hb dX5_readEither_43 (by decide) ?_
      rw [hQ]
      exact ret_z C0 hP hD hS (by have e := Option.some.inj hf; rw [← e]; exact ⟨rfl, rfl⟩) rfl dX5_readEither_44
  have J2 : ∀ n : Nat, ∀ (x2 : Int32) (xf : Nat → Int32) (cif : Nat → Int32) (cig : Nat → Nat → Int32), k_X5_readEither_2 kF a1 xs n x2 xf cif cig = some o → ∀ (H : Heap) (locs : List Loc), va_P D vwCl (List.flatten [(Tw q cA xf xs (.ref (qq 0))), (Chw qq cA cif cig)]) H → va_D A (List.flatten [(Tw q cA xf xs (.ref (qq 0))), (Chw qq cA cif cig)]) → va_S A s.heap H locs → ∀ ls : Array Slot, lv_has ls 3 [(0, .ref (q 0)), (1, .int a1), (2, .int x2)] → W p l e (RMx 6 138 0 0) s m args below meth c H locs 0 0 Q (F0 m 2 ls []) := by
    intro  n
    induction n with
    | zero =>
      intro x2 xf cif cig hf
      rw [k_X5_readEither_2] at hf
      cases hf
    | succ n ih =>
      intro x2 xf cif cig hf H locs hP hD hS ls hl
      rw [k_X5_readEither_2] at hf
      refine lv_iload_n hx hb dX5_readEither_2 rfl (lv_at hl 2 rfl) ?_
      refine lv_bipush (v := 100) hx hb dX5_readEither_3 (by decide) ?_
      refine lv_icmp_ge (tgt := 51) hx hb dX5_readEither_5 (by decide) (fun c1 => ?_) (fun c1 => ?_)
      · replace hf := it_of c1 hf
        refine lv_iconst (v := 0) hx hb dX5_readEither_51 (by decide) ?_
        rw [hQ]
        exact ret_z C0 hP hD hS (by have e := Option.some.inj hf; rw [← e]; exact ⟨rfl, rfl⟩) rfl dX5_readEither_52
      · replace hf := ie_of c1 hf
        refine lv_aload_n hx hb dX5_readEither_8 rfl (lv_at hl 0 rfl) ?_
        refine lv_iload_n hx hb dX5_readEither_9 rfl (lv_at hl 1 rfl) ?_
        obtain ⟨r2q, xf_3, cif_4, cig_5, hq6, hf⟩ := b4_of hf
        refine callVIs (As := [.int a1]) (rest := []) (wr := []) C0 (c_X5_readBoth_1 q qq xf xs cif cig a1 _ (by rw [← hkF]; exact hq6)) lk_X5_74_X5_readBoth rfl hStr hP hD hS perm_nil (recv_w (q0 := 0) (ci := 5) C0 hP rfl rfl rfl) hl.1 rfl rfl (Nat.le_of_ble_eq_true rfl) dX5_readEither_10 ⟨Nat.zero_le _, Nat.zero_le _⟩ (fun r2 w H locs hw hP hD hS => ?_)
        obtain ⟨⟨e1, e2⟩, z7⟩ := hw
        replace e1 : r2 = r2q := e1
        subst e1
        subst e2
        replace hP : va_P D vwCl (List.flatten [(Tw q cA xf_3 xs (.ref (qq 0))), (Chw qq cA cif_4 cig_5)]) H := hP.nil
        replace hD : va_D A (List.flatten [(Tw q cA xf_3 xs (.ref (qq 0))), (Chw qq cA cif_4 cig_5)]) := hD.nil
        refine lv_if_eq (tgt := 32) hx hb dX5_readEither_13 (by decide) (fun c8 => ?_) (fun c8 => ?_)
        · replace hf := it_of c8 hf
          refine lv_iconst (v := 0) hx hb dX5_readEither_32 (by decide) ?_
          rw [hQ]
          exact ret_z C0 hP hD hS (by have e := Option.some.inj hf; rw [← e]; exact ⟨rfl, rfl⟩) rfl dX5_readEither_33
        · replace hf := ie_of c8 hf
          refine lv_iload_n hx hb dX5_readEither_16 rfl (lv_at hl 2 rfl) ?_
          refine lv_if_le (tgt := 34) hx hb dX5_readEither_17 (by decide) (fun c9 => ?_) (fun c9 => ?_)
          · replace hf := it_of c9 hf
            exact J34 _ ih x2 xf_3 cif_4 cig_5 hf _ _ hP hD hS _ (lv_sub hl [0, 1, 2] rfl)
          · replace hf := ie_of c9 hf
            refine lv_aload_n hx hb dX5_readEither_20 rfl (lv_at hl 0 rfl) ?_
            refine va_get (D := D) (ci := 5) (v := .ref (qq 0)) (C := RX5) (T := TX5) (N := 4) hx hb hts fw_5 hown hK hP 0 rfl rfl 3 (by decide) (hts _ m_fieldLink_P_Text_19_P_Text_charter_LP_Charter) (fun _ h9 => h9) rfl dX5_readEither_21 ?_
            refine lv_bipush (v := 8) hx hb dX5_readEither_24 (by decide) ?_
            obtain ⟨r10q, cif_11, cig_12, hq13, hf⟩ := b3_of hf
            refine callVI (As := [.int 8]) (rest := []) (wr := segpick [(Tw q cA xf_3 xs (.ref (qq 0))), (Chw qq cA cif_4 cig_5)] [0]) C0 (c_X2_addStep qq cif_4 cig_5 8 _ hq13) lk_X5_77_X2_addStep rfl hP hD hS (seg_out [(Tw q cA xf_3 xs (.ref (qq 0))), (Chw qq cA cif_4 cig_5)] [1] [0] 2 rfl (by decide)) 2 2 rfl rfl rfl hl.1 rfl rfl (Nat.le_of_ble_eq_true rfl) dX5_readEither_26 ⟨Nat.zero_le _, Nat.zero_le _⟩ (fun r10 w H locs hw hP hD hS => ?_)
            obtain ⟨⟨e1, e2⟩, z14⟩ := hw
            replace e1 : r10 = r10q := e1
            subst e1
            subst e2
            replace hP : va_P D vwCl (List.flatten [(Tw q cA xf_3 xs (.ref (qq 0))), (Chw qq cA cif_11 cig_12)]) H := hP.perm (seg_out [(Tw q cA xf_3 xs (.ref (qq 0))), (Chw qq cA cif_11 cig_12)] [1] [0] 2 rfl (by decide)).symm
            replace hD : va_D A (List.flatten [(Tw q cA xf_3 xs (.ref (qq 0))), (Chw qq cA cif_11 cig_12)]) := hD.perm (seg_out [(Tw q cA xf_3 xs (.ref (qq 0))), (Chw qq cA cif_11 cig_12)] [1] [0] 2 rfl (by decide)).symm
            refine lv_if_ne (tgt := 34) hx hb dX5_readEither_29 (by decide) (fun c15 => ?_) (fun c15 => ?_)
            · replace hf := ie_of c15 hf
              exact J34 _ ih x2 xf_3 cif_11 cig_12 hf _ _ hP hD hS _ (lv_sub hl [0, 1, 2] rfl)
            · replace hf := it_of c15 hf
              refine lv_iconst (v := 0) hx hb dX5_readEither_32 (by decide) ?_
              rw [hQ]
              exact ret_z C0 hP hD hS (by have e := Option.some.inj hf; rw [← e]; exact ⟨rfl, rfl⟩) rfl dX5_readEither_33
  replace hf : k_X5_readEither_g kF a1 xf0 xs cif0 cig0 = some o := by rw [hkF]; exact hf
  unfold k_X5_readEither_g at hf
  refine lv_iconst (v := 0) hx hb dX5_readEither_0 (by decide) ?_
  refine lv_istore_n (lv' := [(2, .int 0), (0, .ref (q 0)), (1, .int a1)]) hx hb dX5_readEither_1 rfl hl (by decide) rfl (fun ls hl => ?_)
  exact J2 100000 0 xf0 cif0 cig0 hf _ _ hP hD hS _ (lv_sub hl [1, 2, 0] rfl)
set_option maxHeartbeats 4000000 in
set_option maxRecDepth 100000 in
theorem c_X5_readFact_2 {l : Launch} {D : va_G} {cA : Nat → ClassId} {adK adV : Nat → Nat} (q : Nat → Nat) (qq : Nat → Nat) (xf0 : Nat → Int32) (xs : Nat → Int32) (cif0 : Nat → Int32) (cig0 : Nat → Nat → Int32) (a1 : Int32) (o : Int32 × (Nat → Int32) × (Nat → Int32) × (Nat → Nat → Int32)) (hf : k_X5_readFact 2 a1 xf0 xs cif0 cig0 = some o) : CIs l D cA adK adV yX5_readFact cX5_readFact 6 (some .boolean) 7 160 [.ref (q 0), .int a1] (List.flatten [(Tw q cA xf0 xs (.ref (qq 0))), (Chw qq cA cif0 cig0)]) 0 0 (fun r w => (r = o.1 ∧ w = (List.flatten [(Tw q cA o.2.1 xs (.ref (qq 0))), (Chw qq cA o.2.2.1 o.2.2.2)])) ∧ narrow .boolean (.int r) = .int r) := by
  intro sz
  refine met_start_s (by decide) rfl ?_
  intro p e s m args below meth c ls hsz hargs C0 hname hStr hP hD hS hl
  generalize hAe : va_A (List.flatten [(Tw q cA xf0 xs (.ref (qq 0))), (Chw qq cA cif0 cig0)]) sz = A at C0 hStr hD hS ⊢
  obtain ⟨hx, hb, hr, hml, hown, hts, hlk, hK, hA⟩ := id C0
  replace hl : lv_has ls 6 [(0, .ref (q 0)), (1, .int a1)] := hl
  obtain ⟨Q, hQ⟩ : ∃ Q : State → Prop, Q = QI below D A (fun r w => (r = o.1 ∧ w = (List.flatten [(Tw q cA o.2.1 xs (.ref (qq 0))), (Chw qq cA o.2.2.1 o.2.2.2)])) ∧ narrow .boolean (.int r) = .int r) args s 0 0 := ⟨_, rfl⟩
  refine cast (by rw [hQ]) (?_ : W p l e (RMx 7 160 0 0) s m args below meth c s.heap [] 0 0 Q (F0 m 0 ls []))
  obtain ⟨kF, hkF⟩ : ∃ z, z = k_X5_readFact 1 := ⟨_, rfl⟩
  have J154 : ∀ (x3 : Int32) (x4 : Int32) (xf : Nat → Int32) (cif : Nat → Int32) (cig : Nat → Nat → Int32), k_X5_readFact_154 xs x3 x4 xf cif cig = some o → ∀ (H : Heap) (locs : List Loc), va_P D vwCl (List.flatten [(Tw q cA xf xs (.ref (qq 0))), (Chw qq cA cif cig)]) H → va_D A (List.flatten [(Tw q cA xf xs (.ref (qq 0))), (Chw qq cA cif cig)]) → va_S A s.heap H locs → ∀ ls : Array Slot, lv_has ls 6 [(0, .ref (q 0)), (3, .int x3), (4, .int x4)] → W p l e (RMx 7 160 0 0) s m args below meth c H locs 0 0 Q (F0 m 154 ls []) := by
    intro  x3 x4 xf cif cig hf H locs hP hD hS ls hl
    unfold k_X5_readFact_154 at hf
    refine lv_aload_n hx hb dX5_readFact_154 rfl (lv_at hl 0 rfl) ?_
    refine lv_dup hx hb dX5_readFact_155 rfl ?_
    refine va_get (D := D) (ci := 5) (v := .int (xf 2)) (C := RX5) (T := TX5) (N := 4) hx hb hts fw_5 hown hK hP 0 rfl rfl 2 (by decide) (hts _ m_fieldLink_P_Text_28_P_Text_at_I) (fun _ h9 => h9) rfl dX5_readFact_156 ?_
    refine lv_iconst (v := 1) hx hb dX5_readFact_159 (by decide) ?_
    refine lv_iadd hx hb dX5_readFact_160 ?_
    refine va_put (D := D) (ci := 5) (v := .int ((xf 2) + 1)) (ty := .int) (C := RX5) (T := TX5) (N := 4) hx hb hts fw_5 tyX5 tyX5_ok nmX5 hown hK hP hD hS 0 rfl rfl 2 (by decide) (hts _ m_fieldLink_P_Text_28_P_Text_at_I) (fun _ h9 => h9) rfl (by decide +kernel) rfl rfl (Nat.le_of_ble_eq_true rfl) dX5_readFact_161 (fun H locs hP hD hS => ?_)
    replace hP : va_P D vwCl (List.flatten [(Tw q cA (upd xf 2 ((xf 2) + 1)) xs (.ref (qq 0))), (Chw qq cA cif cig)]) H := hP
    replace hD : va_D A (List.flatten [(Tw q cA (upd xf 2 ((xf 2) + 1)) xs (.ref (qq 0))), (Chw qq cA cif cig)]) := hD
    refine lv_aload_n hx hb dX5_readFact_164 rfl (lv_at hl 0 rfl) ?_
    obtain ⟨r1q, xf_2, hq3, hf⟩ := b2_of hf
    refine callVI (As := []) (rest := []) (wr := segpick [(Tw q cA (upd xf 2 ((xf 2) + 1)) xs (.ref (qq 0))), (Chw qq cA cif cig)] [1]) C0 (c_X5_readNumber q (.ref (qq 0)) (upd xf 2 ((xf 2) + 1)) xs _ hq3) lk_X5_47_X5_readNumber rfl hP hD hS (seg_out [(Tw q cA (upd xf 2 ((xf 2) + 1)) xs (.ref (qq 0))), (Chw qq cA cif cig)] [0] [1] 2 rfl (by decide)) 0 5 rfl rfl rfl hl.1 rfl rfl (Nat.le_of_ble_eq_true rfl) dX5_readFact_165 ⟨Nat.zero_le _, Nat.zero_le _⟩ (fun r1 w H locs hw hP hD hS => ?_)
    obtain ⟨e1, e2⟩ := hw
    replace e1 : r1 = r1q := e1
    subst e1
    subst e2
    replace hP : va_P D vwCl (List.flatten [(Tw q cA xf_2 xs (.ref (qq 0))), (Chw qq cA cif cig)]) H := hP.perm (seg_out [(Tw q cA xf_2 xs (.ref (qq 0))), (Chw qq cA cif cig)] [0] [1] 2 rfl (by decide)).symm
    replace hD : va_D A (List.flatten [(Tw q cA xf_2 xs (.ref (qq 0))), (Chw qq cA cif cig)]) := hD.perm (seg_out [(Tw q cA xf_2 xs (.ref (qq 0))), (Chw qq cA cif cig)] [0] [1] 2 rfl (by decide)).symm
    refine lv_istore (lv' := [(5, .int r1), (0, .ref (q 0)), (3, .int x3), (4, .int x4)]) hx hb dX5_readFact_168 hl (by decide) rfl (fun ls hl => ?_)
    refine lv_iload hx hb dX5_readFact_170 (lv_at hl 0 rfl) ?_
    refine lv_iconst (v := (-1)) hx hb dX5_readFact_172 (by decide) ?_
    refine lv_icmp_eq (tgt := 195) hx hb dX5_readFact_173 (by decide) (fun c4 => ?_) (fun c4 => ?_)
    · replace hf := it_of c4 hf
      refine lv_iconst (v := 0) hx hb dX5_readFact_195 (by decide) ?_
      rw [hQ]
      exact ret_z C0 hP hD hS (by have e := Option.some.inj hf; rw [← e]; exact ⟨rfl, rfl⟩) rfl dX5_readFact_196
    · replace hf := ie_of c4 hf
      refine lv_aload_n hx hb dX5_readFact_176 rfl (lv_at hl 1 rfl) ?_
      refine va_get (D := D) (ci := 5) (v := .ref (qq 0)) (C := RX5) (T := TX5) (N := 4) hx hb hts fw_5 hown hK hP 0 rfl rfl 3 (by decide) (hts _ m_fieldLink_P_Text_19_P_Text_charter_LP_Charter) (fun _ h9 => h9) rfl dX5_readFact_177 ?_
      refine lv_iload_n hx hb dX5_readFact_180 rfl (lv_at hl 2 rfl) ?_
      refine lv_iload hx hb dX5_readFact_181 (lv_at hl 3 rfl) ?_
      refine lv_iload hx hb dX5_readFact_183 (lv_at hl 0 rfl) ?_
      obtain ⟨r5q, cif_6, cig_7, hq8, hf⟩ := b3_of hf
      refine callVI (As := [.int x3, .int x4, .int r1]) (rest := []) (wr := segpick [(Tw q cA xf_2 xs (.ref (qq 0))), (Chw qq cA cif cig)] [0]) C0 (c_X2_addTest qq cif cig x3 x4 r1 _ hq8) lk_X5_89_X2_addTest rfl hP hD hS (seg_out [(Tw q cA xf_2 xs (.ref (qq 0))), (Chw qq cA cif cig)] [1] [0] 2 rfl (by decide)) 2 2 rfl rfl rfl hl.1 rfl rfl (Nat.le_of_ble_eq_true rfl) dX5_readFact_185 ⟨Nat.zero_le _, Nat.zero_le _⟩ (fun r5 w H locs hw hP hD hS => ?_)
      obtain ⟨⟨e1, e2⟩, z9⟩ := hw
      replace e1 : r5 = r5q := e1
      subst e1
      subst e2
      replace hP : va_P D vwCl (List.flatten [(Tw q cA xf_2 xs (.ref (qq 0))), (Chw qq cA cif_6 cig_7)]) H := hP.perm (seg_out [(Tw q cA xf_2 xs (.ref (qq 0))), (Chw qq cA cif_6 cig_7)] [1] [0] 2 rfl (by decide)).symm
      replace hD : va_D A (List.flatten [(Tw q cA xf_2 xs (.ref (qq 0))), (Chw qq cA cif_6 cig_7)]) := hD.perm (seg_out [(Tw q cA xf_2 xs (.ref (qq 0))), (Chw qq cA cif_6 cig_7)] [1] [0] 2 rfl (by decide)).symm
      refine lv_if_eq (tgt := 195) hx hb dX5_readFact_188 (by decide) (fun c10 => ?_) (fun c10 => ?_)
      · replace hf := it_of c10 hf
        refine lv_iconst (v := 0) hx hb dX5_readFact_195 (by decide) ?_
        rw [hQ]
        exact ret_z C0 hP hD hS (by have e := Option.some.inj hf; rw [← e]; exact ⟨rfl, rfl⟩) rfl dX5_readFact_196
      · replace hf := ie_of c10 hf
        refine lv_iconst (v := 1) hx hb dX5_readFact_191 (by decide) ?_
        refine lv_goto (tgt := 196) hx hb dX5_readFact_192 (by decide) ?_
        rw [hQ]
        exact ret_z C0 hP hD hS (by have e := Option.some.inj hf; rw [← e]; exact ⟨rfl, rfl⟩) rfl dX5_readFact_196
  have J108 : ∀ (t0 : Int32) (xf : Nat → Int32) (cif : Nat → Int32) (cig : Nat → Nat → Int32), k_X5_readFact_108 xs t0 xf cif cig = some o → ∀ (H : Heap) (locs : List Loc), va_P D vwCl (List.flatten [(Tw q cA xf xs (.ref (qq 0))), (Chw qq cA cif cig)]) H → va_D A (List.flatten [(Tw q cA xf xs (.ref (qq 0))), (Chw qq cA cif cig)]) → va_S A s.heap H locs → ∀ ls : Array Slot, lv_has ls 6 [(0, .ref (q 0))] → W p l e (RMx 7 160 0 0) s m args below meth c H locs 0 0 Q (F0 m 108 ls [.int t0]) := by
    intro  t0 xf cif cig hf H locs hP hD hS ls hl
    unfold k_X5_readFact_108 at hf
    refine lv_istore_n (lv' := [(3, .int t0), (0, .ref (q 0))]) hx hb dX5_readFact_108 rfl hl (by decide) rfl (fun ls hl => ?_)
    refine lv_iload_n hx hb dX5_readFact_109 rfl (lv_at hl 0 rfl) ?_
    refine lv_if_ge (tgt := 115) hx hb dX5_readFact_110 (by decide) (fun c1 => ?_) (fun c1 => ?_)
    · replace hf := it_of c1 hf
      refine lv_aload_n hx hb dX5_readFact_115 rfl (lv_at hl 1 rfl) ?_
      refine lv_dup hx hb dX5_readFact_116 rfl ?_
      refine va_get (D := D) (ci := 5) (v := .int (xf 2)) (C := RX5) (T := TX5) (N := 4) hx hb hts fw_5 hown hK hP 0 rfl rfl 2 (by decide) (hts _ m_fieldLink_P_Text_28_P_Text_at_I) (fun _ h9 => h9) rfl dX5_readFact_117 ?_
      refine lv_iconst (v := 1) hx hb dX5_readFact_120 (by decide) ?_
      refine lv_iadd hx hb dX5_readFact_121 ?_
      refine va_put (D := D) (ci := 5) (v := .int ((xf 2) + 1)) (ty := .int) (C := RX5) (T := TX5) (N := 4) hx hb hts fw_5 tyX5 tyX5_ok nmX5 hown hK hP hD hS 0 rfl rfl 2 (by decide) (hts _ m_fieldLink_P_Text_28_P_Text_at_I) (fun _ h9 => h9) rfl (by decide +kernel) rfl rfl (Nat.le_of_ble_eq_true rfl) dX5_readFact_122 (fun H locs hP hD hS => ?_)
      replace hP : va_P D vwCl (List.flatten [(Tw q cA (upd xf 2 ((xf 2) + 1)) xs (.ref (qq 0))), (Chw qq cA cif cig)]) H := hP
      replace hD : va_D A (List.flatten [(Tw q cA (upd xf 2 ((xf 2) + 1)) xs (.ref (qq 0))), (Chw qq cA cif cig)]) := hD
      refine lv_aload_n hx hb dX5_readFact_125 rfl (lv_at hl 1 rfl) ?_
      obtain ⟨r2q, hq3, hf⟩ := b1_of hf
      refine callVI (As := []) (rest := []) (wr := segpick [(Tw q cA (upd xf 2 ((xf 2) + 1)) xs (.ref (qq 0))), (Chw qq cA cif cig)] [1]) C0 (c_X5_ahead q (.ref (qq 0)) (upd xf 2 ((xf 2) + 1)) xs _ hq3) lk_X5_57_X5_ahead rfl hP hD hS (seg_out [(Tw q cA (upd xf 2 ((xf 2) + 1)) xs (.ref (qq 0))), (Chw qq cA cif cig)] [0] [1] 2 rfl (by decide)) 0 5 rfl rfl rfl hl.1 rfl rfl (Nat.le_of_ble_eq_true rfl) dX5_readFact_126 ⟨Nat.zero_le _, Nat.zero_le _⟩ (fun r2 w H locs hw hP hD hS => ?_)
      obtain ⟨e1, e2⟩ := hw
      replace e1 : r2 = r2q := e1
      subst e1
      subst e2
      replace hP : va_P D vwCl (List.flatten [(Tw q cA (upd xf 2 ((xf 2) + 1)) xs (.ref (qq 0))), (Chw qq cA cif cig)]) H := hP.perm (seg_out [(Tw q cA (upd xf 2 ((xf 2) + 1)) xs (.ref (qq 0))), (Chw qq cA cif cig)] [0] [1] 2 rfl (by decide)).symm
      replace hD : va_D A (List.flatten [(Tw q cA (upd xf 2 ((xf 2) + 1)) xs (.ref (qq 0))), (Chw qq cA cif cig)]) := hD.perm (seg_out [(Tw q cA (upd xf 2 ((xf 2) + 1)) xs (.ref (qq 0))), (Chw qq cA cif cig)] [0] [1] 2 rfl (by decide)).symm
      refine lv_istore (lv' := [(4, .int r2), (3, .int t0), (0, .ref (q 0))]) hx hb dX5_readFact_129 hl (by decide) rfl (fun ls hl => ?_)
      refine lv_iload hx hb dX5_readFact_131 (lv_at hl 0 rfl) ?_
      refine lv_bipush (v := 60) hx hb dX5_readFact_133 (by decide) ?_
      refine lv_icmp_eq (tgt := 154) hx hb dX5_readFact_135 (by decide) (fun c4 => ?_) (fun c4 => ?_)
      · replace hf := it_of c4 hf
        exact J154 t0 r2 (upd xf 2 ((xf 2) + 1)) cif cig hf _ _ hP hD hS _ (lv_sub hl [2, 1, 0] rfl)
      · replace hf := ie_of c4 hf
        refine lv_iload hx hb dX5_readFact_138 (lv_at hl 0 rfl) ?_
        refine lv_bipush (v := 61) hx hb dX5_readFact_140 (by decide) ?_
        refine lv_icmp_eq (tgt := 154) hx hb dX5_readFact_142 (by decide) (fun c5 => ?_) (fun c5 => ?_)
        · replace hf := it_of c5 hf
          exact J154 t0 r2 (upd xf 2 ((xf 2) + 1)) cif cig hf _ _ hP hD hS _ (lv_sub hl [2, 1, 0] rfl)
        · replace hf := ie_of c5 hf
          refine lv_iload hx hb dX5_readFact_145 (lv_at hl 0 rfl) ?_
          refine lv_bipush (v := 62) hx hb dX5_readFact_147 (by decide) ?_
          refine lv_icmp_eq (tgt := 154) hx hb dX5_readFact_149 (by decide) (fun c6 => ?_) (fun c6 => ?_)
          · replace hf := it_of c6 hf
            exact J154 t0 r2 (upd xf 2 ((xf 2) + 1)) cif cig hf _ _ hP hD hS _ (lv_sub hl [2, 1, 0] rfl)
          · replace hf := ie_of c6 hf
            refine lv_iconst (v := 0) hx hb dX5_readFact_152 (by decide) ?_
            rw [hQ]
            exact ret_z C0 hP hD hS (by have e := Option.some.inj hf; rw [← e]; exact ⟨rfl, rfl⟩) rfl dX5_readFact_153
    · replace hf := ie_of c1 hf
      refine lv_iconst (v := 0) hx hb dX5_readFact_113 (by decide) ?_
      rw [hQ]
      exact ret_z C0 hP hD hS (by have e := Option.some.inj hf; rw [← e]; exact ⟨rfl, rfl⟩) rfl dX5_readFact_114
  have J93 : ∀ (x2 : Int32) (xf : Nat → Int32) (cif : Nat → Int32) (cig : Nat → Nat → Int32), k_X5_readFact_93 xs x2 xf cif cig = some o → ∀ (H : Heap) (locs : List Loc), va_P D vwCl (List.flatten [(Tw q cA xf xs (.ref (qq 0))), (Chw qq cA cif cig)]) H → va_D A (List.flatten [(Tw q cA xf xs (.ref (qq 0))), (Chw qq cA cif cig)]) → va_S A s.heap H locs → ∀ ls : Array Slot, lv_has ls 6 [(0, .ref (q 0)), (2, .int x2)] → W p l e (RMx 7 160 0 0) s m args below meth c H locs 0 0 Q (F0 m 93 ls []) := by
    intro  x2 xf cif cig hf H locs hP hD hS ls hl
    unfold k_X5_readFact_93 at hf
    refine lv_iload_n hx hb dX5_readFact_93 rfl (lv_at hl 1 rfl) ?_
    refine lv_if_ge (tgt := 101) hx hb dX5_readFact_94 (by decide) (fun c1 => ?_) (fun c1 => ?_)
    · replace hf := it_of c1 hf
      refine va_ldcS hx hb hown hStr.2.2.2.2.2.2.1 dX5_readFact_101 ?_
      refine lv_iload_n hx hb dX5_readFact_103 rfl (lv_at hl 1 rfl) ?_
      refine lv_i2c (v := ((x2.toUInt32 % 65536).toInt32)) hx hb dX5_readFact_104 rfl ?_
      obtain ⟨r2q, hq3, hf⟩ := b1_of hf
      refine callVIs (As := [.int ((x2.toUInt32 % 65536).toInt32)]) (rest := []) (wr := (List.flatten [(Tw q cA xf xs (.ref (qq 0))), (Chw qq cA cif cig)])) C0 (c_J0_indexOf_0f7a4 3 ((x2.toUInt32 % 65536).toInt32) (by decide) _ hq3) lk_X5_85_J0_indexOf_0f7a4 rfl hStr hP hD hS (List.Perm.refl _) (vk_recv hStr.1 (by decide) hS) hl.1 rfl rfl (Nat.le_of_ble_eq_true rfl) dX5_readFact_105 ⟨Nat.zero_le _, Nat.zero_le _⟩ (fun r2 w H locs hw hP hD hS => ?_)
      obtain ⟨e1, e2⟩ := hw
      replace e1 : r2 = r2q := e1
      subst e1
      subst e2
      replace hP : va_P D vwCl (List.flatten [(Tw q cA xf xs (.ref (qq 0))), (Chw qq cA cif cig)]) H := hP
      replace hD : va_D A (List.flatten [(Tw q cA xf xs (.ref (qq 0))), (Chw qq cA cif cig)]) := hD
      exact J108 r2 xf cif cig hf _ _ hP hD hS _ (lv_sub hl [0] rfl)
    · replace hf := ie_of c1 hf
      refine lv_iconst (v := (-1)) hx hb dX5_readFact_97 (by decide) ?_
      refine lv_goto (tgt := 108) hx hb dX5_readFact_98 (by decide) ?_
      exact J108 (-1) xf cif cig hf _ _ hP hD hS _ (lv_sub hl [0] rfl)
  have J17 : ∀ (x2 : Int32) (xf : Nat → Int32) (cif : Nat → Int32) (cig : Nat → Nat → Int32), k_X5_readFact_17 kF a1 xs x2 xf cif cig = some o → ∀ (H : Heap) (locs : List Loc), va_P D vwCl (List.flatten [(Tw q cA xf xs (.ref (qq 0))), (Chw qq cA cif cig)]) H → va_D A (List.flatten [(Tw q cA xf xs (.ref (qq 0))), (Chw qq cA cif cig)]) → va_S A s.heap H locs → ∀ ls : Array Slot, lv_has ls 6 [(0, .ref (q 0)), (1, .int a1), (2, .int x2)] → W p l e (RMx 7 160 0 0) s m args below meth c H locs 0 0 Q (F0 m 17 ls []) := by
    intro  x2 xf cif cig hf H locs hP hD hS ls hl
    unfold k_X5_readFact_17 at hf
    refine lv_iload_n hx hb dX5_readFact_17 rfl (lv_at hl 1 rfl) ?_
    refine lv_iconst (v := 4) hx hb dX5_readFact_18 (by decide) ?_
    refine lv_icmp_ge (tgt := 93) hx hb dX5_readFact_19 (by decide) (fun c1 => ?_) (fun c1 => ?_)
    · replace hf := it_of c1 hf
      exact J93 x2 xf cif cig hf _ _ hP hD hS _ (lv_sub hl [0, 2] rfl)
    · replace hf := ie_of c1 hf
      refine lv_aload_n hx hb dX5_readFact_22 rfl (lv_at hl 0 rfl) ?_
      refine lv_dup hx hb dX5_readFact_23 rfl ?_
      refine va_get (D := D) (ci := 5) (v := .int (xf 2)) (C := RX5) (T := TX5) (N := 4) hx hb hts fw_5 hown hK hP 0 rfl rfl 2 (by decide) (hts _ m_fieldLink_P_Text_28_P_Text_at_I) (fun _ h9 => h9) rfl dX5_readFact_24 ?_
      refine lv_iconst (v := 1) hx hb dX5_readFact_27 (by decide) ?_
      refine lv_iadd hx hb dX5_readFact_28 ?_
      refine va_put (D := D) (ci := 5) (v := .int ((xf 2) + 1)) (ty := .int) (C := RX5) (T := TX5) (N := 4) hx hb hts fw_5 tyX5 tyX5_ok nmX5 hown hK hP hD hS 0 rfl rfl 2 (by decide) (hts _ m_fieldLink_P_Text_28_P_Text_at_I) (fun _ h9 => h9) rfl (by decide +kernel) rfl rfl (Nat.le_of_ble_eq_true rfl) dX5_readFact_29 (fun H locs hP hD hS => ?_)
      replace hP : va_P D vwCl (List.flatten [(Tw q cA (upd xf 2 ((xf 2) + 1)) xs (.ref (qq 0))), (Chw qq cA cif cig)]) H := hP
      replace hD : va_D A (List.flatten [(Tw q cA (upd xf 2 ((xf 2) + 1)) xs (.ref (qq 0))), (Chw qq cA cif cig)]) := hD
      refine lv_iload_n hx hb dX5_readFact_32 rfl (lv_at hl 2 rfl) ?_
      refine lv_bipush (v := 33) hx hb dX5_readFact_33 (by decide) ?_
      refine lv_icmp_ne (tgt := 68) hx hb dX5_readFact_35 (by decide) (fun c2 => ?_) (fun c2 => ?_)
      · replace hf := ie_of c2 hf
        refine lv_aload_n hx hb dX5_readFact_68 rfl (lv_at hl 0 rfl) ?_
        refine lv_iload_n hx hb dX5_readFact_69 rfl (lv_at hl 1 rfl) ?_
        refine lv_iconst (v := 1) hx hb dX5_readFact_70 (by decide) ?_
        refine lv_iadd hx hb dX5_readFact_71 ?_
        obtain ⟨r3q, xf_4, cif_5, cig_6, hq7, hf⟩ := b4_of hf
        refine callVIs (As := [.int (a1 + 1)]) (rest := []) (wr := []) C0 (c_X5_readEither_1 q qq (upd xf 2 ((xf 2) + 1)) xs cif cig (a1 + 1) _ (by rw [← hkF]; exact hq7)) lk_X5_50_X5_readEither rfl hStr hP hD hS perm_nil (recv_w (q0 := 0) (ci := 5) C0 hP rfl rfl rfl) hl.1 rfl rfl (Nat.le_of_ble_eq_true rfl) dX5_readFact_72 ⟨Nat.zero_le _, Nat.zero_le _⟩ (fun r3 w H locs hw hP hD hS => ?_)
        obtain ⟨⟨e1, e2⟩, z8⟩ := hw
        replace e1 : r3 = r3q := e1
        subst e1
        subst e2
        replace hP : va_P D vwCl (List.flatten [(Tw q cA xf_4 xs (.ref (qq 0))), (Chw qq cA cif_5 cig_6)]) H := hP.nil
        replace hD : va_D A (List.flatten [(Tw q cA xf_4 xs (.ref (qq 0))), (Chw qq cA cif_5 cig_6)]) := hD.nil
        refine lv_if_eq (tgt := 91) hx hb dX5_readFact_75 (by decide) (fun c9 => ?_) (fun c9 => ?_)
        · replace hf := it_of c9 hf
          refine lv_iconst (v := 0) hx hb dX5_readFact_91 (by decide) ?_
          rw [hQ]
          exact ret_z C0 hP hD hS (by have e := Option.some.inj hf; rw [← e]; exact ⟨rfl, rfl⟩) rfl dX5_readFact_92
        · replace hf := ie_of c9 hf
          refine lv_aload_n hx hb dX5_readFact_78 rfl (lv_at hl 0 rfl) ?_
          refine lv_bipush (v := 41) hx hb dX5_readFact_79 (by decide) ?_
          obtain ⟨r10q, xf_11, hq12, hf⟩ := b2_of hf
          refine callVI (As := [.int 41]) (rest := []) (wr := segpick [(Tw q cA xf_4 xs (.ref (qq 0))), (Chw qq cA cif_5 cig_6)] [1]) C0 (c_X5_take q (.ref (qq 0)) xf_4 xs 41 _ hq12) lk_X5_35_X5_take rfl hP hD hS (seg_out [(Tw q cA xf_4 xs (.ref (qq 0))), (Chw qq cA cif_5 cig_6)] [0] [1] 2 rfl (by decide)) 0 5 rfl rfl rfl hl.1 rfl rfl (Nat.le_of_ble_eq_true rfl) dX5_readFact_81 ⟨Nat.zero_le _, Nat.zero_le _⟩ (fun r10 w H locs hw hP hD hS => ?_)
          obtain ⟨⟨e1, e2⟩, z13⟩ := hw
          replace e1 : r10 = r10q := e1
          subst e1
          subst e2
          replace hP : va_P D vwCl (List.flatten [(Tw q cA xf_11 xs (.ref (qq 0))), (Chw qq cA cif_5 cig_6)]) H := hP.perm (seg_out [(Tw q cA xf_11 xs (.ref (qq 0))), (Chw qq cA cif_5 cig_6)] [0] [1] 2 rfl (by decide)).symm
          replace hD : va_D A (List.flatten [(Tw q cA xf_11 xs (.ref (qq 0))), (Chw qq cA cif_5 cig_6)]) := hD.perm (seg_out [(Tw q cA xf_11 xs (.ref (qq 0))), (Chw qq cA cif_5 cig_6)] [0] [1] 2 rfl (by decide)).symm
          refine lv_if_eq (tgt := 91) hx hb dX5_readFact_84 (by decide) (fun c14 => ?_) (fun c14 => ?_)
          · replace hf := it_of c14 hf
            refine lv_iconst (v := 0) hx hb dX5_readFact_91 (by decide) ?_
            rw [hQ]
            exact ret_z C0 hP hD hS (by have e := Option.some.inj hf; rw [← e]; exact ⟨rfl, rfl⟩) rfl dX5_readFact_92
          · replace hf := ie_of c14 hf
            refine lv_iconst (v := 1) hx hb dX5_readFact_87 (by decide) ?_
            refine lv_goto (tgt := 92) hx hb dX5_readFact_88 (by decide) ?_
            rw [hQ]
            exact ret_z C0 hP hD hS (by have e := Option.some.inj hf; rw [← e]; exact ⟨rfl, rfl⟩) rfl dX5_readFact_92
      · replace hf := it_of c2 hf
        refine lv_aload_n hx hb dX5_readFact_38 rfl (lv_at hl 0 rfl) ?_
        refine lv_iload_n hx hb dX5_readFact_39 rfl (lv_at hl 1 rfl) ?_
        refine lv_iconst (v := 1) hx hb dX5_readFact_40 (by decide) ?_
        refine lv_iadd hx hb dX5_readFact_41 ?_
        obtain ⟨r15q, xf_16, cif_17, cig_18, hq19, hf⟩ := b4_of hf
        refine callVIs (As := [.int (a1 + 1)]) (rest := []) (wr := []) C0 (c_X5_readFact_1 q qq (upd xf 2 ((xf 2) + 1)) xs cif cig (a1 + 1) _ (by rw [← hkF]; exact hq19)) lk_X5_80_X5_readFact rfl hStr hP hD hS perm_nil (recv_w (q0 := 0) (ci := 5) C0 hP rfl rfl rfl) hl.1 rfl rfl (Nat.le_of_ble_eq_true rfl) dX5_readFact_42 ⟨Nat.zero_le _, Nat.zero_le _⟩ (fun r15 w H locs hw hP hD hS => ?_)
        obtain ⟨⟨e1, e2⟩, z20⟩ := hw
        replace e1 : r15 = r15q := e1
        subst e1
        subst e2
        replace hP : va_P D vwCl (List.flatten [(Tw q cA xf_16 xs (.ref (qq 0))), (Chw qq cA cif_17 cig_18)]) H := hP.nil
        replace hD : va_D A (List.flatten [(Tw q cA xf_16 xs (.ref (qq 0))), (Chw qq cA cif_17 cig_18)]) := hD.nil
        refine lv_if_eq (tgt := 64) hx hb dX5_readFact_45 (by decide) (fun c21 => ?_) (fun c21 => ?_)
        · replace hf := it_of c21 hf
          refine lv_iconst (v := 0) hx hb dX5_readFact_64 (by decide) ?_
          refine lv_goto (tgt := 92) hx hb dX5_readFact_65 (by decide) ?_
          rw [hQ]
          exact ret_z C0 hP hD hS (by have e := Option.some.inj hf; rw [← e]; exact ⟨rfl, rfl⟩) rfl dX5_readFact_92
        · replace hf := ie_of c21 hf
          refine lv_aload_n hx hb dX5_readFact_48 rfl (lv_at hl 0 rfl) ?_
          refine va_get (D := D) (ci := 5) (v := .ref (qq 0)) (C := RX5) (T := TX5) (N := 4) hx hb hts fw_5 hown hK hP 0 rfl rfl 3 (by decide) (hts _ m_fieldLink_P_Text_19_P_Text_charter_LP_Charter) (fun _ h9 => h9) rfl dX5_readFact_49 ?_
          refine lv_bipush (v := 6) hx hb dX5_readFact_52 (by decide) ?_
          obtain ⟨r22q, cif_23, cig_24, hq25, hf⟩ := b3_of hf
          refine callVI (As := [.int 6]) (rest := []) (wr := segpick [(Tw q cA xf_16 xs (.ref (qq 0))), (Chw qq cA cif_17 cig_18)] [0]) C0 (c_X2_addStep qq cif_17 cig_18 6 _ hq25) lk_X5_77_X2_addStep rfl hP hD hS (seg_out [(Tw q cA xf_16 xs (.ref (qq 0))), (Chw qq cA cif_17 cig_18)] [1] [0] 2 rfl (by decide)) 2 2 rfl rfl rfl hl.1 rfl rfl (Nat.le_of_ble_eq_true rfl) dX5_readFact_54 ⟨Nat.zero_le _, Nat.zero_le _⟩ (fun r22 w H locs hw hP hD hS => ?_)
          obtain ⟨⟨e1, e2⟩, z26⟩ := hw
          replace e1 : r22 = r22q := e1
          subst e1
          subst e2
          replace hP : va_P D vwCl (List.flatten [(Tw q cA xf_16 xs (.ref (qq 0))), (Chw qq cA cif_23 cig_24)]) H := hP.perm (seg_out [(Tw q cA xf_16 xs (.ref (qq 0))), (Chw qq cA cif_23 cig_24)] [1] [0] 2 rfl (by decide)).symm
          replace hD : va_D A (List.flatten [(Tw q cA xf_16 xs (.ref (qq 0))), (Chw qq cA cif_23 cig_24)]) := hD.perm (seg_out [(Tw q cA xf_16 xs (.ref (qq 0))), (Chw qq cA cif_23 cig_24)] [1] [0] 2 rfl (by decide)).symm
          refine lv_if_eq (tgt := 64) hx hb dX5_readFact_57 (by decide) (fun c27 => ?_) (fun c27 => ?_)
          · replace hf := it_of c27 hf
            refine lv_iconst (v := 0) hx hb dX5_readFact_64 (by decide) ?_
            refine lv_goto (tgt := 92) hx hb dX5_readFact_65 (by decide) ?_
            rw [hQ]
            exact ret_z C0 hP hD hS (by have e := Option.some.inj hf; rw [← e]; exact ⟨rfl, rfl⟩) rfl dX5_readFact_92
          · replace hf := ie_of c27 hf
            refine lv_iconst (v := 1) hx hb dX5_readFact_60 (by decide) ?_
            refine lv_goto (tgt := 92) hx hb dX5_readFact_61 (by decide) ?_
            rw [hQ]
            exact ret_z C0 hP hD hS (by have e := Option.some.inj hf; rw [← e]; exact ⟨rfl, rfl⟩) rfl dX5_readFact_92
  replace hf : k_X5_readFact_g kF a1 xf0 xs cif0 cig0 = some o := by rw [hkF]; exact hf
  unfold k_X5_readFact_g at hf
  refine lv_aload_n hx hb dX5_readFact_0 rfl (lv_at hl 0 rfl) ?_
  obtain ⟨r1q, hq2, hf⟩ := b1_of hf
  refine callVI (As := []) (rest := []) (wr := segpick [(Tw q cA xf0 xs (.ref (qq 0))), (Chw qq cA cif0 cig0)] [1]) C0 (c_X5_ahead q (.ref (qq 0)) xf0 xs _ hq2) lk_X5_57_X5_ahead rfl hP hD hS (seg_out [(Tw q cA xf0 xs (.ref (qq 0))), (Chw qq cA cif0 cig0)] [0] [1] 2 rfl (by decide)) 0 5 rfl rfl rfl hl.1 rfl rfl (Nat.le_of_ble_eq_true rfl) dX5_readFact_1 ⟨Nat.zero_le _, Nat.zero_le _⟩ (fun r1 w H locs hw hP hD hS => ?_)
  obtain ⟨e1, e2⟩ := hw
  replace e1 : r1 = r1q := e1
  subst e1
  subst e2
  replace hP : va_P D vwCl (List.flatten [(Tw q cA xf0 xs (.ref (qq 0))), (Chw qq cA cif0 cig0)]) H := hP.perm (seg_out [(Tw q cA xf0 xs (.ref (qq 0))), (Chw qq cA cif0 cig0)] [0] [1] 2 rfl (by decide)).symm
  replace hD : va_D A (List.flatten [(Tw q cA xf0 xs (.ref (qq 0))), (Chw qq cA cif0 cig0)]) := hD.perm (seg_out [(Tw q cA xf0 xs (.ref (qq 0))), (Chw qq cA cif0 cig0)] [0] [1] 2 rfl (by decide)).symm
  refine lv_istore_n (lv' := [(2, .int r1), (0, .ref (q 0)), (1, .int a1)]) hx hb dX5_readFact_4 rfl hl (by decide) rfl (fun ls hl => ?_)
  refine lv_iload_n hx hb dX5_readFact_5 rfl (lv_at hl 0 rfl) ?_
  refine lv_bipush (v := 33) hx hb dX5_readFact_6 (by decide) ?_
  refine lv_icmp_eq (tgt := 17) hx hb dX5_readFact_8 (by decide) (fun c3 => ?_) (fun c3 => ?_)
  · replace hf := it_of c3 hf
    exact J17 r1 xf0 cif0 cig0 hf _ _ hP hD hS _ (lv_sub hl [1, 2, 0] rfl)
  · replace hf := ie_of c3 hf
    refine lv_iload_n hx hb dX5_readFact_11 rfl (lv_at hl 0 rfl) ?_
    refine lv_bipush (v := 40) hx hb dX5_readFact_12 (by decide) ?_
    refine lv_icmp_ne (tgt := 93) hx hb dX5_readFact_14 (by decide) (fun c4 => ?_) (fun c4 => ?_)
    · replace hf := ie_of c4 hf
      exact J93 r1 xf0 cif0 cig0 hf _ _ hP hD hS _ (lv_sub hl [1, 0] rfl)
    · replace hf := it_of c4 hf
      exact J17 r1 xf0 cif0 cig0 hf _ _ hP hD hS _ (lv_sub hl [1, 2, 0] rfl)
set_option maxHeartbeats 4000000 in
set_option maxRecDepth 100000 in
theorem c_X5_readBoth_2 {l : Launch} {D : va_G} {cA : Nat → ClassId} {adK adV : Nat → Nat} (q : Nat → Nat) (qq : Nat → Nat) (xf0 : Nat → Int32) (xs : Nat → Int32) (cif0 : Nat → Int32) (cig0 : Nat → Nat → Int32) (a1 : Int32) (o : Int32 × (Nat → Int32) × (Nat → Int32) × (Nat → Nat → Int32)) (hf : k_X5_readBoth_g (k_X5_readFact 2) a1 xf0 xs cif0 cig0 = some o) : CIs l D cA adK adV yX5_readBoth cX5_readBoth 3 (some .boolean) 8 185 [.ref (q 0), .int a1] (List.flatten [(Tw q cA xf0 xs (.ref (qq 0))), (Chw qq cA cif0 cig0)]) 0 0 (fun r w => (r = o.1 ∧ w = (List.flatten [(Tw q cA o.2.1 xs (.ref (qq 0))), (Chw qq cA o.2.2.1 o.2.2.2)])) ∧ narrow .boolean (.int r) = .int r) := by
  intro sz
  refine met_start_s (by decide) rfl ?_
  intro p e s m args below meth c ls hsz hargs C0 hname hStr hP hD hS hl
  generalize hAe : va_A (List.flatten [(Tw q cA xf0 xs (.ref (qq 0))), (Chw qq cA cif0 cig0)]) sz = A at C0 hStr hD hS ⊢
  obtain ⟨hx, hb, hr, hml, hown, hts, hlk, hK, hA⟩ := id C0
  replace hl : lv_has ls 3 [(0, .ref (q 0)), (1, .int a1)] := hl
  obtain ⟨Q, hQ⟩ : ∃ Q : State → Prop, Q = QI below D A (fun r w => (r = o.1 ∧ w = (List.flatten [(Tw q cA o.2.1 xs (.ref (qq 0))), (Chw qq cA o.2.2.1 o.2.2.2)])) ∧ narrow .boolean (.int r) = .int r) args s 0 0 := ⟨_, rfl⟩
  refine cast (by rw [hQ]) (?_ : W p l e (RMx 8 185 0 0) s m args below meth c s.heap [] 0 0 Q (F0 m 0 ls []))
  obtain ⟨kF, hkF⟩ : ∃ z, z = k_X5_readFact 2 := ⟨_, rfl⟩
  have J34 : ∀ (kc2 : Int32 → (Nat → Int32) → (Nat → Int32) → (Nat → Nat → Int32) → Option (Int32 × (Nat → Int32) × (Nat → Int32) × (Nat → Nat → Int32))) (hkc2 : ∀ (x2 : Int32) (xf : Nat → Int32) (cif : Nat → Int32) (cig : Nat → Nat → Int32), kc2 x2 xf cif cig = some o → ∀ (H : Heap) (locs : List Loc), va_P D vwCl (List.flatten [(Tw q cA xf xs (.ref (qq 0))), (Chw qq cA cif cig)]) H → va_D A (List.flatten [(Tw q cA xf xs (.ref (qq 0))), (Chw qq cA cif cig)]) → va_S A s.heap H locs → ∀ ls : Array Slot, lv_has ls 3 [(0, .ref (q 0)), (1, .int a1), (2, .int x2)] → W p l e (RMx 8 185 0 0) s m args below meth c H locs 0 0 Q (F0 m 2 ls [])), ∀ (x2 : Int32) (xf : Nat → Int32) (cif : Nat → Int32) (cig : Nat → Nat → Int32), k_X5_readBoth_34 xs kc2 x2 xf cif cig = some o → ∀ (H : Heap) (locs : List Loc), va_P D vwCl (List.flatten [(Tw q cA xf xs (.ref (qq 0))), (Chw qq cA cif cig)]) H → va_D A (List.flatten [(Tw q cA xf xs (.ref (qq 0))), (Chw qq cA cif cig)]) → va_S A s.heap H locs → ∀ ls : Array Slot, lv_has ls 3 [(0, .ref (q 0)), (1, .int a1), (2, .int x2)] → W p l e (RMx 8 185 0 0) s m args below meth c H locs 0 0 Q (F0 m 34 ls []) := by
    intro kc2 hkc2 x2 xf cif cig hf H locs hP hD hS ls hl
    unfold k_X5_readBoth_34 at hf
    refine lv_aload_n hx hb dX5_readBoth_34 rfl (lv_at hl 0 rfl) ?_
    refine lv_bipush (v := 38) hx hb dX5_readBoth_35 (by decide) ?_
    obtain ⟨r1q, xf_2, hq3, hf⟩ := b2_of hf
    refine callVI (As := [.int 38]) (rest := []) (wr := segpick [(Tw q cA xf xs (.ref (qq 0))), (Chw qq cA cif cig)] [1]) C0 (c_X5_take q (.ref (qq 0)) xf xs 38 _ hq3) lk_X5_35_X5_take rfl hP hD hS (seg_out [(Tw q cA xf xs (.ref (qq 0))), (Chw qq cA cif cig)] [0] [1] 2 rfl (by decide)) 0 5 rfl rfl rfl hl.1 rfl rfl (Nat.le_of_ble_eq_true rfl) dX5_readBoth_37 ⟨Nat.zero_le _, Nat.zero_le _⟩ (fun r1 w H locs hw hP hD hS => ?_)
    obtain ⟨⟨e1, e2⟩, z4⟩ := hw
    replace e1 : r1 = r1q := e1
    subst e1
    subst e2
    replace hP : va_P D vwCl (List.flatten [(Tw q cA xf_2 xs (.ref (qq 0))), (Chw qq cA cif cig)]) H := hP.perm (seg_out [(Tw q cA xf_2 xs (.ref (qq 0))), (Chw qq cA cif cig)] [0] [1] 2 rfl (by decide)).symm
    replace hD : va_D A (List.flatten [(Tw q cA xf_2 xs (.ref (qq 0))), (Chw qq cA cif cig)]) := hD.perm (seg_out [(Tw q cA xf_2 xs (.ref (qq 0))), (Chw qq cA cif cig)] [0] [1] 2 rfl (by decide)).symm
    refine lv_if_ne (tgt := 45) hx hb dX5_readBoth_40 (by decide) (fun c5 => ?_) (fun c5 => ?_)
    · replace hf := ie_of c5 hf
      refine lv_iinc (v := (x2 + 1)) (lv' := [(2, .int (x2 + 1)), (0, .ref (q 0)), (1, .int a1)]) hx hb dX5_readBoth_45 hl (k := 2) rfl rfl (by decide) rfl (fun ls hl => ?_)
      refine lv_goto (tgt := 2) hx hb dX5_readBoth_48 (by decide) ?_
      exact hkc2 (x2 + 1) xf_2 cif cig hf _ _ hP hD hS _ (lv_sub hl [1, 2, 0] rfl)
    · replace hf := it_of c5 hf
      refine lv_iconst (v := 1) hx hb dX5_readBoth_43 (by decide) ?_
      rw [hQ]
      exact ret_z C0 hP hD hS (by have e := Option.some.inj hf; rw [← e]; exact ⟨rfl, rfl⟩) rfl dX5_readBoth_44
  have J2 : ∀ n : Nat, ∀ (x2 : Int32) (xf : Nat → Int32) (cif : Nat → Int32) (cig : Nat → Nat → Int32), k_X5_readBoth_2 kF a1 xs n x2 xf cif cig = some o → ∀ (H : Heap) (locs : List Loc), va_P D vwCl (List.flatten [(Tw q cA xf xs (.ref (qq 0))), (Chw qq cA cif cig)]) H → va_D A (List.flatten [(Tw q cA xf xs (.ref (qq 0))), (Chw qq cA cif cig)]) → va_S A s.heap H locs → ∀ ls : Array Slot, lv_has ls 3 [(0, .ref (q 0)), (1, .int a1), (2, .int x2)] → W p l e (RMx 8 185 0 0) s m args below meth c H locs 0 0 Q (F0 m 2 ls []) := by
    intro  n
    induction n with
    | zero =>
      intro x2 xf cif cig hf
      rw [k_X5_readBoth_2] at hf
      cases hf
    | succ n ih =>
      intro x2 xf cif cig hf H locs hP hD hS ls hl
      rw [k_X5_readBoth_2] at hf
      refine lv_iload_n hx hb dX5_readBoth_2 rfl (lv_at hl 2 rfl) ?_
      refine lv_bipush (v := 100) hx hb dX5_readBoth_3 (by decide) ?_
      refine lv_icmp_ge (tgt := 51) hx hb dX5_readBoth_5 (by decide) (fun c1 => ?_) (fun c1 => ?_)
      · replace hf := it_of c1 hf
        refine lv_iconst (v := 0) hx hb dX5_readBoth_51 (by decide) ?_
        rw [hQ]
        exact ret_z C0 hP hD hS (by have e := Option.some.inj hf; rw [← e]; exact ⟨rfl, rfl⟩) rfl dX5_readBoth_52
      · replace hf := ie_of c1 hf
        refine lv_aload_n hx hb dX5_readBoth_8 rfl (lv_at hl 0 rfl) ?_
        refine lv_iload_n hx hb dX5_readBoth_9 rfl (lv_at hl 1 rfl) ?_
        obtain ⟨r2q, xf_3, cif_4, cig_5, hq6, hf⟩ := b4_of hf
        refine callVIs (As := [.int a1]) (rest := []) (wr := []) C0 (c_X5_readFact_2 q qq xf xs cif cig a1 _ (by rw [← hkF]; exact hq6)) lk_X5_80_X5_readFact rfl hStr hP hD hS perm_nil (recv_w (q0 := 0) (ci := 5) C0 hP rfl rfl rfl) hl.1 rfl rfl (Nat.le_of_ble_eq_true rfl) dX5_readBoth_10 ⟨Nat.zero_le _, Nat.zero_le _⟩ (fun r2 w H locs hw hP hD hS => ?_)
        obtain ⟨⟨e1, e2⟩, z7⟩ := hw
        replace e1 : r2 = r2q := e1
        subst e1
        subst e2
        replace hP : va_P D vwCl (List.flatten [(Tw q cA xf_3 xs (.ref (qq 0))), (Chw qq cA cif_4 cig_5)]) H := hP.nil
        replace hD : va_D A (List.flatten [(Tw q cA xf_3 xs (.ref (qq 0))), (Chw qq cA cif_4 cig_5)]) := hD.nil
        refine lv_if_eq (tgt := 32) hx hb dX5_readBoth_13 (by decide) (fun c8 => ?_) (fun c8 => ?_)
        · replace hf := it_of c8 hf
          refine lv_iconst (v := 0) hx hb dX5_readBoth_32 (by decide) ?_
          rw [hQ]
          exact ret_z C0 hP hD hS (by have e := Option.some.inj hf; rw [← e]; exact ⟨rfl, rfl⟩) rfl dX5_readBoth_33
        · replace hf := ie_of c8 hf
          refine lv_iload_n hx hb dX5_readBoth_16 rfl (lv_at hl 2 rfl) ?_
          refine lv_if_le (tgt := 34) hx hb dX5_readBoth_17 (by decide) (fun c9 => ?_) (fun c9 => ?_)
          · replace hf := it_of c9 hf
            exact J34 _ ih x2 xf_3 cif_4 cig_5 hf _ _ hP hD hS _ (lv_sub hl [0, 1, 2] rfl)
          · replace hf := ie_of c9 hf
            refine lv_aload_n hx hb dX5_readBoth_20 rfl (lv_at hl 0 rfl) ?_
            refine va_get (D := D) (ci := 5) (v := .ref (qq 0)) (C := RX5) (T := TX5) (N := 4) hx hb hts fw_5 hown hK hP 0 rfl rfl 3 (by decide) (hts _ m_fieldLink_P_Text_19_P_Text_charter_LP_Charter) (fun _ h9 => h9) rfl dX5_readBoth_21 ?_
            refine lv_bipush (v := 7) hx hb dX5_readBoth_24 (by decide) ?_
            obtain ⟨r10q, cif_11, cig_12, hq13, hf⟩ := b3_of hf
            refine callVI (As := [.int 7]) (rest := []) (wr := segpick [(Tw q cA xf_3 xs (.ref (qq 0))), (Chw qq cA cif_4 cig_5)] [0]) C0 (c_X2_addStep qq cif_4 cig_5 7 _ hq13) lk_X5_77_X2_addStep rfl hP hD hS (seg_out [(Tw q cA xf_3 xs (.ref (qq 0))), (Chw qq cA cif_4 cig_5)] [1] [0] 2 rfl (by decide)) 2 2 rfl rfl rfl hl.1 rfl rfl (Nat.le_of_ble_eq_true rfl) dX5_readBoth_26 ⟨Nat.zero_le _, Nat.zero_le _⟩ (fun r10 w H locs hw hP hD hS => ?_)
            obtain ⟨⟨e1, e2⟩, z14⟩ := hw
            replace e1 : r10 = r10q := e1
            subst e1
            subst e2
            replace hP : va_P D vwCl (List.flatten [(Tw q cA xf_3 xs (.ref (qq 0))), (Chw qq cA cif_11 cig_12)]) H := hP.perm (seg_out [(Tw q cA xf_3 xs (.ref (qq 0))), (Chw qq cA cif_11 cig_12)] [1] [0] 2 rfl (by decide)).symm
            replace hD : va_D A (List.flatten [(Tw q cA xf_3 xs (.ref (qq 0))), (Chw qq cA cif_11 cig_12)]) := hD.perm (seg_out [(Tw q cA xf_3 xs (.ref (qq 0))), (Chw qq cA cif_11 cig_12)] [1] [0] 2 rfl (by decide)).symm
            refine lv_if_ne (tgt := 34) hx hb dX5_readBoth_29 (by decide) (fun c15 => ?_) (fun c15 => ?_)
            · replace hf := ie_of c15 hf
              exact J34 _ ih x2 xf_3 cif_11 cig_12 hf _ _ hP hD hS _ (lv_sub hl [0, 1, 2] rfl)
            · replace hf := it_of c15 hf
              refine lv_iconst (v := 0) hx hb dX5_readBoth_32 (by decide) ?_
              rw [hQ]
              exact ret_z C0 hP hD hS (by have e := Option.some.inj hf; rw [← e]; exact ⟨rfl, rfl⟩) rfl dX5_readBoth_33
  replace hf : k_X5_readBoth_g kF a1 xf0 xs cif0 cig0 = some o := by rw [hkF]; exact hf
  unfold k_X5_readBoth_g at hf
  refine lv_iconst (v := 0) hx hb dX5_readBoth_0 (by decide) ?_
  refine lv_istore_n (lv' := [(2, .int 0), (0, .ref (q 0)), (1, .int a1)]) hx hb dX5_readBoth_1 rfl hl (by decide) rfl (fun ls hl => ?_)
  exact J2 100000 0 xf0 cif0 cig0 hf _ _ hP hD hS _ (lv_sub hl [1, 2, 0] rfl)
set_option maxHeartbeats 4000000 in
set_option maxRecDepth 100000 in
theorem c_X5_readEither_2 {l : Launch} {D : va_G} {cA : Nat → ClassId} {adK adV : Nat → Nat} (q : Nat → Nat) (qq : Nat → Nat) (xf0 : Nat → Int32) (xs : Nat → Int32) (cif0 : Nat → Int32) (cig0 : Nat → Nat → Int32) (a1 : Int32) (o : Int32 × (Nat → Int32) × (Nat → Int32) × (Nat → Nat → Int32)) (hf : k_X5_readEither_g (k_X5_readFact 2) a1 xf0 xs cif0 cig0 = some o) : CIs l D cA adK adV yX5_readEither cX5_readEither 3 (some .boolean) 9 207 [.ref (q 0), .int a1] (List.flatten [(Tw q cA xf0 xs (.ref (qq 0))), (Chw qq cA cif0 cig0)]) 0 0 (fun r w => (r = o.1 ∧ w = (List.flatten [(Tw q cA o.2.1 xs (.ref (qq 0))), (Chw qq cA o.2.2.1 o.2.2.2)])) ∧ narrow .boolean (.int r) = .int r) := by
  intro sz
  refine met_start_s (by decide) rfl ?_
  intro p e s m args below meth c ls hsz hargs C0 hname hStr hP hD hS hl
  generalize hAe : va_A (List.flatten [(Tw q cA xf0 xs (.ref (qq 0))), (Chw qq cA cif0 cig0)]) sz = A at C0 hStr hD hS ⊢
  obtain ⟨hx, hb, hr, hml, hown, hts, hlk, hK, hA⟩ := id C0
  replace hl : lv_has ls 3 [(0, .ref (q 0)), (1, .int a1)] := hl
  obtain ⟨Q, hQ⟩ : ∃ Q : State → Prop, Q = QI below D A (fun r w => (r = o.1 ∧ w = (List.flatten [(Tw q cA o.2.1 xs (.ref (qq 0))), (Chw qq cA o.2.2.1 o.2.2.2)])) ∧ narrow .boolean (.int r) = .int r) args s 0 0 := ⟨_, rfl⟩
  refine cast (by rw [hQ]) (?_ : W p l e (RMx 9 207 0 0) s m args below meth c s.heap [] 0 0 Q (F0 m 0 ls []))
  obtain ⟨kF, hkF⟩ : ∃ z, z = k_X5_readFact 2 := ⟨_, rfl⟩
  have J34 : ∀ (kc2 : Int32 → (Nat → Int32) → (Nat → Int32) → (Nat → Nat → Int32) → Option (Int32 × (Nat → Int32) × (Nat → Int32) × (Nat → Nat → Int32))) (hkc2 : ∀ (x2 : Int32) (xf : Nat → Int32) (cif : Nat → Int32) (cig : Nat → Nat → Int32), kc2 x2 xf cif cig = some o → ∀ (H : Heap) (locs : List Loc), va_P D vwCl (List.flatten [(Tw q cA xf xs (.ref (qq 0))), (Chw qq cA cif cig)]) H → va_D A (List.flatten [(Tw q cA xf xs (.ref (qq 0))), (Chw qq cA cif cig)]) → va_S A s.heap H locs → ∀ ls : Array Slot, lv_has ls 3 [(0, .ref (q 0)), (1, .int a1), (2, .int x2)] → W p l e (RMx 9 207 0 0) s m args below meth c H locs 0 0 Q (F0 m 2 ls [])), ∀ (x2 : Int32) (xf : Nat → Int32) (cif : Nat → Int32) (cig : Nat → Nat → Int32), k_X5_readEither_34 xs kc2 x2 xf cif cig = some o → ∀ (H : Heap) (locs : List Loc), va_P D vwCl (List.flatten [(Tw q cA xf xs (.ref (qq 0))), (Chw qq cA cif cig)]) H → va_D A (List.flatten [(Tw q cA xf xs (.ref (qq 0))), (Chw qq cA cif cig)]) → va_S A s.heap H locs → ∀ ls : Array Slot, lv_has ls 3 [(0, .ref (q 0)), (1, .int a1), (2, .int x2)] → W p l e (RMx 9 207 0 0) s m args below meth c H locs 0 0 Q (F0 m 34 ls []) := by
    intro kc2 hkc2 x2 xf cif cig hf H locs hP hD hS ls hl
    unfold k_X5_readEither_34 at hf
    refine lv_aload_n hx hb dX5_readEither_34 rfl (lv_at hl 0 rfl) ?_
    refine lv_bipush (v := 124) hx hb dX5_readEither_35 (by decide) ?_
    obtain ⟨r1q, xf_2, hq3, hf⟩ := b2_of hf
    refine callVI (As := [.int 124]) (rest := []) (wr := segpick [(Tw q cA xf xs (.ref (qq 0))), (Chw qq cA cif cig)] [1]) C0 (c_X5_take q (.ref (qq 0)) xf xs 124 _ hq3) lk_X5_35_X5_take rfl hP hD hS (seg_out [(Tw q cA xf xs (.ref (qq 0))), (Chw qq cA cif cig)] [0] [1] 2 rfl (by decide)) 0 5 rfl rfl rfl hl.1 rfl rfl (Nat.le_of_ble_eq_true rfl) dX5_readEither_37 ⟨Nat.zero_le _, Nat.zero_le _⟩ (fun r1 w H locs hw hP hD hS => ?_)
    obtain ⟨⟨e1, e2⟩, z4⟩ := hw
    replace e1 : r1 = r1q := e1
    subst e1
    subst e2
    replace hP : va_P D vwCl (List.flatten [(Tw q cA xf_2 xs (.ref (qq 0))), (Chw qq cA cif cig)]) H := hP.perm (seg_out [(Tw q cA xf_2 xs (.ref (qq 0))), (Chw qq cA cif cig)] [0] [1] 2 rfl (by decide)).symm
    replace hD : va_D A (List.flatten [(Tw q cA xf_2 xs (.ref (qq 0))), (Chw qq cA cif cig)]) := hD.perm (seg_out [(Tw q cA xf_2 xs (.ref (qq 0))), (Chw qq cA cif cig)] [0] [1] 2 rfl (by decide)).symm
    refine lv_if_ne (tgt := 45) hx hb dX5_readEither_40 (by decide) (fun c5 => ?_) (fun c5 => ?_)
    · replace hf := ie_of c5 hf
      refine lv_iinc (v := (x2 + 1)) (lv' := [(2, .int (x2 + 1)), (0, .ref (q 0)), (1, .int a1)]) hx hb dX5_readEither_45 hl (k := 2) rfl rfl (by decide) rfl (fun ls hl => ?_)
      refine lv_goto (tgt := 2) hx hb dX5_readEither_48 (by decide) ?_
      exact hkc2 (x2 + 1) xf_2 cif cig hf _ _ hP hD hS _ (lv_sub hl [1, 2, 0] rfl)
    · replace hf := it_of c5 hf
      refine lv_iconst (v := 1) hx hb dX5_readEither_43 (by decide) ?_
      rw [hQ]
      exact ret_z C0 hP hD hS (by have e := Option.some.inj hf; rw [← e]; exact ⟨rfl, rfl⟩) rfl dX5_readEither_44
  have J2 : ∀ n : Nat, ∀ (x2 : Int32) (xf : Nat → Int32) (cif : Nat → Int32) (cig : Nat → Nat → Int32), k_X5_readEither_2 kF a1 xs n x2 xf cif cig = some o → ∀ (H : Heap) (locs : List Loc), va_P D vwCl (List.flatten [(Tw q cA xf xs (.ref (qq 0))), (Chw qq cA cif cig)]) H → va_D A (List.flatten [(Tw q cA xf xs (.ref (qq 0))), (Chw qq cA cif cig)]) → va_S A s.heap H locs → ∀ ls : Array Slot, lv_has ls 3 [(0, .ref (q 0)), (1, .int a1), (2, .int x2)] → W p l e (RMx 9 207 0 0) s m args below meth c H locs 0 0 Q (F0 m 2 ls []) := by
    intro  n
    induction n with
    | zero =>
      intro x2 xf cif cig hf
      rw [k_X5_readEither_2] at hf
      cases hf
    | succ n ih =>
      intro x2 xf cif cig hf H locs hP hD hS ls hl
      rw [k_X5_readEither_2] at hf
      refine lv_iload_n hx hb dX5_readEither_2 rfl (lv_at hl 2 rfl) ?_
      refine lv_bipush (v := 100) hx hb dX5_readEither_3 (by decide) ?_
      refine lv_icmp_ge (tgt := 51) hx hb dX5_readEither_5 (by decide) (fun c1 => ?_) (fun c1 => ?_)
      · replace hf := it_of c1 hf
        refine lv_iconst (v := 0) hx hb dX5_readEither_51 (by decide) ?_
        rw [hQ]
        exact ret_z C0 hP hD hS (by have e := Option.some.inj hf; rw [← e]; exact ⟨rfl, rfl⟩) rfl dX5_readEither_52
      · replace hf := ie_of c1 hf
        refine lv_aload_n hx hb dX5_readEither_8 rfl (lv_at hl 0 rfl) ?_
        refine lv_iload_n hx hb dX5_readEither_9 rfl (lv_at hl 1 rfl) ?_
        obtain ⟨r2q, xf_3, cif_4, cig_5, hq6, hf⟩ := b4_of hf
        refine callVIs (As := [.int a1]) (rest := []) (wr := []) C0 (c_X5_readBoth_2 q qq xf xs cif cig a1 _ (by rw [← hkF]; exact hq6)) lk_X5_74_X5_readBoth rfl hStr hP hD hS perm_nil (recv_w (q0 := 0) (ci := 5) C0 hP rfl rfl rfl) hl.1 rfl rfl (Nat.le_of_ble_eq_true rfl) dX5_readEither_10 ⟨Nat.zero_le _, Nat.zero_le _⟩ (fun r2 w H locs hw hP hD hS => ?_)
        obtain ⟨⟨e1, e2⟩, z7⟩ := hw
        replace e1 : r2 = r2q := e1
        subst e1
        subst e2
        replace hP : va_P D vwCl (List.flatten [(Tw q cA xf_3 xs (.ref (qq 0))), (Chw qq cA cif_4 cig_5)]) H := hP.nil
        replace hD : va_D A (List.flatten [(Tw q cA xf_3 xs (.ref (qq 0))), (Chw qq cA cif_4 cig_5)]) := hD.nil
        refine lv_if_eq (tgt := 32) hx hb dX5_readEither_13 (by decide) (fun c8 => ?_) (fun c8 => ?_)
        · replace hf := it_of c8 hf
          refine lv_iconst (v := 0) hx hb dX5_readEither_32 (by decide) ?_
          rw [hQ]
          exact ret_z C0 hP hD hS (by have e := Option.some.inj hf; rw [← e]; exact ⟨rfl, rfl⟩) rfl dX5_readEither_33
        · replace hf := ie_of c8 hf
          refine lv_iload_n hx hb dX5_readEither_16 rfl (lv_at hl 2 rfl) ?_
          refine lv_if_le (tgt := 34) hx hb dX5_readEither_17 (by decide) (fun c9 => ?_) (fun c9 => ?_)
          · replace hf := it_of c9 hf
            exact J34 _ ih x2 xf_3 cif_4 cig_5 hf _ _ hP hD hS _ (lv_sub hl [0, 1, 2] rfl)
          · replace hf := ie_of c9 hf
            refine lv_aload_n hx hb dX5_readEither_20 rfl (lv_at hl 0 rfl) ?_
            refine va_get (D := D) (ci := 5) (v := .ref (qq 0)) (C := RX5) (T := TX5) (N := 4) hx hb hts fw_5 hown hK hP 0 rfl rfl 3 (by decide) (hts _ m_fieldLink_P_Text_19_P_Text_charter_LP_Charter) (fun _ h9 => h9) rfl dX5_readEither_21 ?_
            refine lv_bipush (v := 8) hx hb dX5_readEither_24 (by decide) ?_
            obtain ⟨r10q, cif_11, cig_12, hq13, hf⟩ := b3_of hf
            refine callVI (As := [.int 8]) (rest := []) (wr := segpick [(Tw q cA xf_3 xs (.ref (qq 0))), (Chw qq cA cif_4 cig_5)] [0]) C0 (c_X2_addStep qq cif_4 cig_5 8 _ hq13) lk_X5_77_X2_addStep rfl hP hD hS (seg_out [(Tw q cA xf_3 xs (.ref (qq 0))), (Chw qq cA cif_4 cig_5)] [1] [0] 2 rfl (by decide)) 2 2 rfl rfl rfl hl.1 rfl rfl (Nat.le_of_ble_eq_true rfl) dX5_readEither_26 ⟨Nat.zero_le _, Nat.zero_le _⟩ (fun r10 w H locs hw hP hD hS => ?_)
            obtain ⟨⟨e1, e2⟩, z14⟩ := hw
            replace e1 : r10 = r10q := e1
            subst e1
            subst e2
            replace hP : va_P D vwCl (List.flatten [(Tw q cA xf_3 xs (.ref (qq 0))), (Chw qq cA cif_11 cig_12)]) H := hP.perm (seg_out [(Tw q cA xf_3 xs (.ref (qq 0))), (Chw qq cA cif_11 cig_12)] [1] [0] 2 rfl (by decide)).symm
            replace hD : va_D A (List.flatten [(Tw q cA xf_3 xs (.ref (qq 0))), (Chw qq cA cif_11 cig_12)]) := hD.perm (seg_out [(Tw q cA xf_3 xs (.ref (qq 0))), (Chw qq cA cif_11 cig_12)] [1] [0] 2 rfl (by decide)).symm
            refine lv_if_ne (tgt := 34) hx hb dX5_readEither_29 (by decide) (fun c15 => ?_) (fun c15 => ?_)
            · replace hf := ie_of c15 hf
              exact J34 _ ih x2 xf_3 cif_11 cig_12 hf _ _ hP hD hS _ (lv_sub hl [0, 1, 2] rfl)
            · replace hf := it_of c15 hf
              refine lv_iconst (v := 0) hx hb dX5_readEither_32 (by decide) ?_
              rw [hQ]
              exact ret_z C0 hP hD hS (by have e := Option.some.inj hf; rw [← e]; exact ⟨rfl, rfl⟩) rfl dX5_readEither_33
  replace hf : k_X5_readEither_g kF a1 xf0 xs cif0 cig0 = some o := by rw [hkF]; exact hf
  unfold k_X5_readEither_g at hf
  refine lv_iconst (v := 0) hx hb dX5_readEither_0 (by decide) ?_
  refine lv_istore_n (lv' := [(2, .int 0), (0, .ref (q 0)), (1, .int a1)]) hx hb dX5_readEither_1 rfl hl (by decide) rfl (fun ls hl => ?_)
  exact J2 100000 0 xf0 cif0 cig0 hf _ _ hP hD hS _ (lv_sub hl [1, 2, 0] rfl)
set_option maxHeartbeats 4000000 in
set_option maxRecDepth 100000 in
theorem c_X5_readFact_3 {l : Launch} {D : va_G} {cA : Nat → ClassId} {adK adV : Nat → Nat} (q : Nat → Nat) (qq : Nat → Nat) (xf0 : Nat → Int32) (xs : Nat → Int32) (cif0 : Nat → Int32) (cig0 : Nat → Nat → Int32) (a1 : Int32) (o : Int32 × (Nat → Int32) × (Nat → Int32) × (Nat → Nat → Int32)) (hf : k_X5_readFact 3 a1 xf0 xs cif0 cig0 = some o) : CIs l D cA adK adV yX5_readFact cX5_readFact 6 (some .boolean) 10 229 [.ref (q 0), .int a1] (List.flatten [(Tw q cA xf0 xs (.ref (qq 0))), (Chw qq cA cif0 cig0)]) 0 0 (fun r w => (r = o.1 ∧ w = (List.flatten [(Tw q cA o.2.1 xs (.ref (qq 0))), (Chw qq cA o.2.2.1 o.2.2.2)])) ∧ narrow .boolean (.int r) = .int r) := by
  intro sz
  refine met_start_s (by decide) rfl ?_
  intro p e s m args below meth c ls hsz hargs C0 hname hStr hP hD hS hl
  generalize hAe : va_A (List.flatten [(Tw q cA xf0 xs (.ref (qq 0))), (Chw qq cA cif0 cig0)]) sz = A at C0 hStr hD hS ⊢
  obtain ⟨hx, hb, hr, hml, hown, hts, hlk, hK, hA⟩ := id C0
  replace hl : lv_has ls 6 [(0, .ref (q 0)), (1, .int a1)] := hl
  obtain ⟨Q, hQ⟩ : ∃ Q : State → Prop, Q = QI below D A (fun r w => (r = o.1 ∧ w = (List.flatten [(Tw q cA o.2.1 xs (.ref (qq 0))), (Chw qq cA o.2.2.1 o.2.2.2)])) ∧ narrow .boolean (.int r) = .int r) args s 0 0 := ⟨_, rfl⟩
  refine cast (by rw [hQ]) (?_ : W p l e (RMx 10 229 0 0) s m args below meth c s.heap [] 0 0 Q (F0 m 0 ls []))
  obtain ⟨kF, hkF⟩ : ∃ z, z = k_X5_readFact 2 := ⟨_, rfl⟩
  have J154 : ∀ (x3 : Int32) (x4 : Int32) (xf : Nat → Int32) (cif : Nat → Int32) (cig : Nat → Nat → Int32), k_X5_readFact_154 xs x3 x4 xf cif cig = some o → ∀ (H : Heap) (locs : List Loc), va_P D vwCl (List.flatten [(Tw q cA xf xs (.ref (qq 0))), (Chw qq cA cif cig)]) H → va_D A (List.flatten [(Tw q cA xf xs (.ref (qq 0))), (Chw qq cA cif cig)]) → va_S A s.heap H locs → ∀ ls : Array Slot, lv_has ls 6 [(0, .ref (q 0)), (3, .int x3), (4, .int x4)] → W p l e (RMx 10 229 0 0) s m args below meth c H locs 0 0 Q (F0 m 154 ls []) := by
    intro  x3 x4 xf cif cig hf H locs hP hD hS ls hl
    unfold k_X5_readFact_154 at hf
    refine lv_aload_n hx hb dX5_readFact_154 rfl (lv_at hl 0 rfl) ?_
    refine lv_dup hx hb dX5_readFact_155 rfl ?_
    refine va_get (D := D) (ci := 5) (v := .int (xf 2)) (C := RX5) (T := TX5) (N := 4) hx hb hts fw_5 hown hK hP 0 rfl rfl 2 (by decide) (hts _ m_fieldLink_P_Text_28_P_Text_at_I) (fun _ h9 => h9) rfl dX5_readFact_156 ?_
    refine lv_iconst (v := 1) hx hb dX5_readFact_159 (by decide) ?_
    refine lv_iadd hx hb dX5_readFact_160 ?_
    refine va_put (D := D) (ci := 5) (v := .int ((xf 2) + 1)) (ty := .int) (C := RX5) (T := TX5) (N := 4) hx hb hts fw_5 tyX5 tyX5_ok nmX5 hown hK hP hD hS 0 rfl rfl 2 (by decide) (hts _ m_fieldLink_P_Text_28_P_Text_at_I) (fun _ h9 => h9) rfl (by decide +kernel) rfl rfl (Nat.le_of_ble_eq_true rfl) dX5_readFact_161 (fun H locs hP hD hS => ?_)
    replace hP : va_P D vwCl (List.flatten [(Tw q cA (upd xf 2 ((xf 2) + 1)) xs (.ref (qq 0))), (Chw qq cA cif cig)]) H := hP
    replace hD : va_D A (List.flatten [(Tw q cA (upd xf 2 ((xf 2) + 1)) xs (.ref (qq 0))), (Chw qq cA cif cig)]) := hD
    refine lv_aload_n hx hb dX5_readFact_164 rfl (lv_at hl 0 rfl) ?_
    obtain ⟨r1q, xf_2, hq3, hf⟩ := b2_of hf
    refine callVI (As := []) (rest := []) (wr := segpick [(Tw q cA (upd xf 2 ((xf 2) + 1)) xs (.ref (qq 0))), (Chw qq cA cif cig)] [1]) C0 (c_X5_readNumber q (.ref (qq 0)) (upd xf 2 ((xf 2) + 1)) xs _ hq3) lk_X5_47_X5_readNumber rfl hP hD hS (seg_out [(Tw q cA (upd xf 2 ((xf 2) + 1)) xs (.ref (qq 0))), (Chw qq cA cif cig)] [0] [1] 2 rfl (by decide)) 0 5 rfl rfl rfl hl.1 rfl rfl (Nat.le_of_ble_eq_true rfl) dX5_readFact_165 ⟨Nat.zero_le _, Nat.zero_le _⟩ (fun r1 w H locs hw hP hD hS => ?_)
    obtain ⟨e1, e2⟩ := hw
    replace e1 : r1 = r1q := e1
    subst e1
    subst e2
    replace hP : va_P D vwCl (List.flatten [(Tw q cA xf_2 xs (.ref (qq 0))), (Chw qq cA cif cig)]) H := hP.perm (seg_out [(Tw q cA xf_2 xs (.ref (qq 0))), (Chw qq cA cif cig)] [0] [1] 2 rfl (by decide)).symm
    replace hD : va_D A (List.flatten [(Tw q cA xf_2 xs (.ref (qq 0))), (Chw qq cA cif cig)]) := hD.perm (seg_out [(Tw q cA xf_2 xs (.ref (qq 0))), (Chw qq cA cif cig)] [0] [1] 2 rfl (by decide)).symm
    refine lv_istore (lv' := [(5, .int r1), (0, .ref (q 0)), (3, .int x3), (4, .int x4)]) hx hb dX5_readFact_168 hl (by decide) rfl (fun ls hl => ?_)
    refine lv_iload hx hb dX5_readFact_170 (lv_at hl 0 rfl) ?_
    refine lv_iconst (v := (-1)) hx hb dX5_readFact_172 (by decide) ?_
    refine lv_icmp_eq (tgt := 195) hx hb dX5_readFact_173 (by decide) (fun c4 => ?_) (fun c4 => ?_)
    · replace hf := it_of c4 hf
      refine lv_iconst (v := 0) hx hb dX5_readFact_195 (by decide) ?_
      rw [hQ]
      exact ret_z C0 hP hD hS (by have e := Option.some.inj hf; rw [← e]; exact ⟨rfl, rfl⟩) rfl dX5_readFact_196
    · replace hf := ie_of c4 hf
      refine lv_aload_n hx hb dX5_readFact_176 rfl (lv_at hl 1 rfl) ?_
      refine va_get (D := D) (ci := 5) (v := .ref (qq 0)) (C := RX5) (T := TX5) (N := 4) hx hb hts fw_5 hown hK hP 0 rfl rfl 3 (by decide) (hts _ m_fieldLink_P_Text_19_P_Text_charter_LP_Charter) (fun _ h9 => h9) rfl dX5_readFact_177 ?_
      refine lv_iload_n hx hb dX5_readFact_180 rfl (lv_at hl 2 rfl) ?_
      refine lv_iload hx hb dX5_readFact_181 (lv_at hl 3 rfl) ?_
      refine lv_iload hx hb dX5_readFact_183 (lv_at hl 0 rfl) ?_
      obtain ⟨r5q, cif_6, cig_7, hq8, hf⟩ := b3_of hf
      refine callVI (As := [.int x3, .int x4, .int r1]) (rest := []) (wr := segpick [(Tw q cA xf_2 xs (.ref (qq 0))), (Chw qq cA cif cig)] [0]) C0 (c_X2_addTest qq cif cig x3 x4 r1 _ hq8) lk_X5_89_X2_addTest rfl hP hD hS (seg_out [(Tw q cA xf_2 xs (.ref (qq 0))), (Chw qq cA cif cig)] [1] [0] 2 rfl (by decide)) 2 2 rfl rfl rfl hl.1 rfl rfl (Nat.le_of_ble_eq_true rfl) dX5_readFact_185 ⟨Nat.zero_le _, Nat.zero_le _⟩ (fun r5 w H locs hw hP hD hS => ?_)
      obtain ⟨⟨e1, e2⟩, z9⟩ := hw
      replace e1 : r5 = r5q := e1
      subst e1
      subst e2
      replace hP : va_P D vwCl (List.flatten [(Tw q cA xf_2 xs (.ref (qq 0))), (Chw qq cA cif_6 cig_7)]) H := hP.perm (seg_out [(Tw q cA xf_2 xs (.ref (qq 0))), (Chw qq cA cif_6 cig_7)] [1] [0] 2 rfl (by decide)).symm
      replace hD : va_D A (List.flatten [(Tw q cA xf_2 xs (.ref (qq 0))), (Chw qq cA cif_6 cig_7)]) := hD.perm (seg_out [(Tw q cA xf_2 xs (.ref (qq 0))), (Chw qq cA cif_6 cig_7)] [1] [0] 2 rfl (by decide)).symm
      refine lv_if_eq (tgt := 195) hx hb dX5_readFact_188 (by decide) (fun c10 => ?_) (fun c10 => ?_)
      · replace hf := it_of c10 hf
        refine lv_iconst (v := 0) hx hb dX5_readFact_195 (by decide) ?_
        rw [hQ]
        exact ret_z C0 hP hD hS (by have e := Option.some.inj hf; rw [← e]; exact ⟨rfl, rfl⟩) rfl dX5_readFact_196
      · replace hf := ie_of c10 hf
        refine lv_iconst (v := 1) hx hb dX5_readFact_191 (by decide) ?_
        refine lv_goto (tgt := 196) hx hb dX5_readFact_192 (by decide) ?_
        rw [hQ]
        exact ret_z C0 hP hD hS (by have e := Option.some.inj hf; rw [← e]; exact ⟨rfl, rfl⟩) rfl dX5_readFact_196
  have J108 : ∀ (t0 : Int32) (xf : Nat → Int32) (cif : Nat → Int32) (cig : Nat → Nat → Int32), k_X5_readFact_108 xs t0 xf cif cig = some o → ∀ (H : Heap) (locs : List Loc), va_P D vwCl (List.flatten [(Tw q cA xf xs (.ref (qq 0))), (Chw qq cA cif cig)]) H → va_D A (List.flatten [(Tw q cA xf xs (.ref (qq 0))), (Chw qq cA cif cig)]) → va_S A s.heap H locs → ∀ ls : Array Slot, lv_has ls 6 [(0, .ref (q 0))] → W p l e (RMx 10 229 0 0) s m args below meth c H locs 0 0 Q (F0 m 108 ls [.int t0]) := by
    intro  t0 xf cif cig hf H locs hP hD hS ls hl
    unfold k_X5_readFact_108 at hf
    refine lv_istore_n (lv' := [(3, .int t0), (0, .ref (q 0))]) hx hb dX5_readFact_108 rfl hl (by decide) rfl (fun ls hl => ?_)
    refine lv_iload_n hx hb dX5_readFact_109 rfl (lv_at hl 0 rfl) ?_
    refine lv_if_ge (tgt := 115) hx hb dX5_readFact_110 (by decide) (fun c1 => ?_) (fun c1 => ?_)
    · replace hf := it_of c1 hf
      refine lv_aload_n hx hb dX5_readFact_115 rfl (lv_at hl 1 rfl) ?_
      refine lv_dup hx hb dX5_readFact_116 rfl ?_
      refine va_get (D := D) (ci := 5) (v := .int (xf 2)) (C := RX5) (T := TX5) (N := 4) hx hb hts fw_5 hown hK hP 0 rfl rfl 2 (by decide) (hts _ m_fieldLink_P_Text_28_P_Text_at_I) (fun _ h9 => h9) rfl dX5_readFact_117 ?_
      refine lv_iconst (v := 1) hx hb dX5_readFact_120 (by decide) ?_
      refine lv_iadd hx hb dX5_readFact_121 ?_
      refine va_put (D := D) (ci := 5) (v := .int ((xf 2) + 1)) (ty := .int) (C := RX5) (T := TX5) (N := 4) hx hb hts fw_5 tyX5 tyX5_ok nmX5 hown hK hP hD hS 0 rfl rfl 2 (by decide) (hts _ m_fieldLink_P_Text_28_P_Text_at_I) (fun _ h9 => h9) rfl (by decide +kernel) rfl rfl (Nat.le_of_ble_eq_true rfl) dX5_readFact_122 (fun H locs hP hD hS => ?_)
      replace hP : va_P D vwCl (List.flatten [(Tw q cA (upd xf 2 ((xf 2) + 1)) xs (.ref (qq 0))), (Chw qq cA cif cig)]) H := hP
      replace hD : va_D A (List.flatten [(Tw q cA (upd xf 2 ((xf 2) + 1)) xs (.ref (qq 0))), (Chw qq cA cif cig)]) := hD
      refine lv_aload_n hx hb dX5_readFact_125 rfl (lv_at hl 1 rfl) ?_
      obtain ⟨r2q, hq3, hf⟩ := b1_of hf
      refine callVI (As := []) (rest := []) (wr := segpick [(Tw q cA (upd xf 2 ((xf 2) + 1)) xs (.ref (qq 0))), (Chw qq cA cif cig)] [1]) C0 (c_X5_ahead q (.ref (qq 0)) (upd xf 2 ((xf 2) + 1)) xs _ hq3) lk_X5_57_X5_ahead rfl hP hD hS (seg_out [(Tw q cA (upd xf 2 ((xf 2) + 1)) xs (.ref (qq 0))), (Chw qq cA cif cig)] [0] [1] 2 rfl (by decide)) 0 5 rfl rfl rfl hl.1 rfl rfl (Nat.le_of_ble_eq_true rfl) dX5_readFact_126 ⟨Nat.zero_le _, Nat.zero_le _⟩ (fun r2 w H locs hw hP hD hS => ?_)
      obtain ⟨e1, e2⟩ := hw
      replace e1 : r2 = r2q := e1
      subst e1
      subst e2
      replace hP : va_P D vwCl (List.flatten [(Tw q cA (upd xf 2 ((xf 2) + 1)) xs (.ref (qq 0))), (Chw qq cA cif cig)]) H := hP.perm (seg_out [(Tw q cA (upd xf 2 ((xf 2) + 1)) xs (.ref (qq 0))), (Chw qq cA cif cig)] [0] [1] 2 rfl (by decide)).symm
      replace hD : va_D A (List.flatten [(Tw q cA (upd xf 2 ((xf 2) + 1)) xs (.ref (qq 0))), (Chw qq cA cif cig)]) := hD.perm (seg_out [(Tw q cA (upd xf 2 ((xf 2) + 1)) xs (.ref (qq 0))), (Chw qq cA cif cig)] [0] [1] 2 rfl (by decide)).symm
      refine lv_istore (lv' := [(4, .int r2), (3, .int t0), (0, .ref (q 0))]) hx hb dX5_readFact_129 hl (by decide) rfl (fun ls hl => ?_)
      refine lv_iload hx hb dX5_readFact_131 (lv_at hl 0 rfl) ?_
      refine lv_bipush (v := 60) hx hb dX5_readFact_133 (by decide) ?_
      refine lv_icmp_eq (tgt := 154) hx hb dX5_readFact_135 (by decide) (fun c4 => ?_) (fun c4 => ?_)
      · replace hf := it_of c4 hf
        exact J154 t0 r2 (upd xf 2 ((xf 2) + 1)) cif cig hf _ _ hP hD hS _ (lv_sub hl [2, 1, 0] rfl)
      · replace hf := ie_of c4 hf
        refine lv_iload hx hb dX5_readFact_138 (lv_at hl 0 rfl) ?_
        refine lv_bipush (v := 61) hx hb dX5_readFact_140 (by decide) ?_
        refine lv_icmp_eq (tgt := 154) hx hb dX5_readFact_142 (by decide) (fun c5 => ?_) (fun c5 => ?_)
        · replace hf := it_of c5 hf
          exact J154 t0 r2 (upd xf 2 ((xf 2) + 1)) cif cig hf _ _ hP hD hS _ (lv_sub hl [2, 1, 0] rfl)
        · replace hf := ie_of c5 hf
          refine lv_iload hx hb dX5_readFact_145 (lv_at hl 0 rfl) ?_
          refine lv_bipush (v := 62) hx hb dX5_readFact_147 (by decide) ?_
          refine lv_icmp_eq (tgt := 154) hx hb dX5_readFact_149 (by decide) (fun c6 => ?_) (fun c6 => ?_)
          · replace hf := it_of c6 hf
            exact J154 t0 r2 (upd xf 2 ((xf 2) + 1)) cif cig hf _ _ hP hD hS _ (lv_sub hl [2, 1, 0] rfl)
          · replace hf := ie_of c6 hf
            refine lv_iconst (v := 0) hx hb dX5_readFact_152 (by decide) ?_
            rw [hQ]
            exact ret_z C0 hP hD hS (by have e := Option.some.inj hf; rw [← e]; exact ⟨rfl, rfl⟩) rfl dX5_readFact_153
    · replace hf := ie_of c1 hf
      refine lv_iconst (v := 0) hx hb dX5_readFact_113 (by decide) ?_
      rw [hQ]
      exact ret_z C0 hP hD hS (by have e := Option.some.inj hf; rw [← e]; exact ⟨rfl, rfl⟩) rfl dX5_readFact_114
  have J93 : ∀ (x2 : Int32) (xf : Nat → Int32) (cif : Nat → Int32) (cig : Nat → Nat → Int32), k_X5_readFact_93 xs x2 xf cif cig = some o → ∀ (H : Heap) (locs : List Loc), va_P D vwCl (List.flatten [(Tw q cA xf xs (.ref (qq 0))), (Chw qq cA cif cig)]) H → va_D A (List.flatten [(Tw q cA xf xs (.ref (qq 0))), (Chw qq cA cif cig)]) → va_S A s.heap H locs → ∀ ls : Array Slot, lv_has ls 6 [(0, .ref (q 0)), (2, .int x2)] → W p l e (RMx 10 229 0 0) s m args below meth c H locs 0 0 Q (F0 m 93 ls []) := by
    intro  x2 xf cif cig hf H locs hP hD hS ls hl
    unfold k_X5_readFact_93 at hf
    refine lv_iload_n hx hb dX5_readFact_93 rfl (lv_at hl 1 rfl) ?_
    refine lv_if_ge (tgt := 101) hx hb dX5_readFact_94 (by decide) (fun c1 => ?_) (fun c1 => ?_)
    · replace hf := it_of c1 hf
      refine va_ldcS hx hb hown hStr.2.2.2.2.2.2.1 dX5_readFact_101 ?_
      refine lv_iload_n hx hb dX5_readFact_103 rfl (lv_at hl 1 rfl) ?_
      refine lv_i2c (v := ((x2.toUInt32 % 65536).toInt32)) hx hb dX5_readFact_104 rfl ?_
      obtain ⟨r2q, hq3, hf⟩ := b1_of hf
      refine callVIs (As := [.int ((x2.toUInt32 % 65536).toInt32)]) (rest := []) (wr := (List.flatten [(Tw q cA xf xs (.ref (qq 0))), (Chw qq cA cif cig)])) C0 (c_J0_indexOf_0f7a4 3 ((x2.toUInt32 % 65536).toInt32) (by decide) _ hq3) lk_X5_85_J0_indexOf_0f7a4 rfl hStr hP hD hS (List.Perm.refl _) (vk_recv hStr.1 (by decide) hS) hl.1 rfl rfl (Nat.le_of_ble_eq_true rfl) dX5_readFact_105 ⟨Nat.zero_le _, Nat.zero_le _⟩ (fun r2 w H locs hw hP hD hS => ?_)
      obtain ⟨e1, e2⟩ := hw
      replace e1 : r2 = r2q := e1
      subst e1
      subst e2
      replace hP : va_P D vwCl (List.flatten [(Tw q cA xf xs (.ref (qq 0))), (Chw qq cA cif cig)]) H := hP
      replace hD : va_D A (List.flatten [(Tw q cA xf xs (.ref (qq 0))), (Chw qq cA cif cig)]) := hD
      exact J108 r2 xf cif cig hf _ _ hP hD hS _ (lv_sub hl [0] rfl)
    · replace hf := ie_of c1 hf
      refine lv_iconst (v := (-1)) hx hb dX5_readFact_97 (by decide) ?_
      refine lv_goto (tgt := 108) hx hb dX5_readFact_98 (by decide) ?_
      exact J108 (-1) xf cif cig hf _ _ hP hD hS _ (lv_sub hl [0] rfl)
  have J17 : ∀ (x2 : Int32) (xf : Nat → Int32) (cif : Nat → Int32) (cig : Nat → Nat → Int32), k_X5_readFact_17 kF a1 xs x2 xf cif cig = some o → ∀ (H : Heap) (locs : List Loc), va_P D vwCl (List.flatten [(Tw q cA xf xs (.ref (qq 0))), (Chw qq cA cif cig)]) H → va_D A (List.flatten [(Tw q cA xf xs (.ref (qq 0))), (Chw qq cA cif cig)]) → va_S A s.heap H locs → ∀ ls : Array Slot, lv_has ls 6 [(0, .ref (q 0)), (1, .int a1), (2, .int x2)] → W p l e (RMx 10 229 0 0) s m args below meth c H locs 0 0 Q (F0 m 17 ls []) := by
    intro  x2 xf cif cig hf H locs hP hD hS ls hl
    unfold k_X5_readFact_17 at hf
    refine lv_iload_n hx hb dX5_readFact_17 rfl (lv_at hl 1 rfl) ?_
    refine lv_iconst (v := 4) hx hb dX5_readFact_18 (by decide) ?_
    refine lv_icmp_ge (tgt := 93) hx hb dX5_readFact_19 (by decide) (fun c1 => ?_) (fun c1 => ?_)
    · replace hf := it_of c1 hf
      exact J93 x2 xf cif cig hf _ _ hP hD hS _ (lv_sub hl [0, 2] rfl)
    · replace hf := ie_of c1 hf
      refine lv_aload_n hx hb dX5_readFact_22 rfl (lv_at hl 0 rfl) ?_
      refine lv_dup hx hb dX5_readFact_23 rfl ?_
      refine va_get (D := D) (ci := 5) (v := .int (xf 2)) (C := RX5) (T := TX5) (N := 4) hx hb hts fw_5 hown hK hP 0 rfl rfl 2 (by decide) (hts _ m_fieldLink_P_Text_28_P_Text_at_I) (fun _ h9 => h9) rfl dX5_readFact_24 ?_
      refine lv_iconst (v := 1) hx hb dX5_readFact_27 (by decide) ?_
      refine lv_iadd hx hb dX5_readFact_28 ?_
      refine va_put (D := D) (ci := 5) (v := .int ((xf 2) + 1)) (ty := .int) (C := RX5) (T := TX5) (N := 4) hx hb hts fw_5 tyX5 tyX5_ok nmX5 hown hK hP hD hS 0 rfl rfl 2 (by decide) (hts _ m_fieldLink_P_Text_28_P_Text_at_I) (fun _ h9 => h9) rfl (by decide +kernel) rfl rfl (Nat.le_of_ble_eq_true rfl) dX5_readFact_29 (fun H locs hP hD hS => ?_)
      replace hP : va_P D vwCl (List.flatten [(Tw q cA (upd xf 2 ((xf 2) + 1)) xs (.ref (qq 0))), (Chw qq cA cif cig)]) H := hP
      replace hD : va_D A (List.flatten [(Tw q cA (upd xf 2 ((xf 2) + 1)) xs (.ref (qq 0))), (Chw qq cA cif cig)]) := hD
      refine lv_iload_n hx hb dX5_readFact_32 rfl (lv_at hl 2 rfl) ?_
      refine lv_bipush (v := 33) hx hb dX5_readFact_33 (by decide) ?_
      refine lv_icmp_ne (tgt := 68) hx hb dX5_readFact_35 (by decide) (fun c2 => ?_) (fun c2 => ?_)
      · replace hf := ie_of c2 hf
        refine lv_aload_n hx hb dX5_readFact_68 rfl (lv_at hl 0 rfl) ?_
        refine lv_iload_n hx hb dX5_readFact_69 rfl (lv_at hl 1 rfl) ?_
        refine lv_iconst (v := 1) hx hb dX5_readFact_70 (by decide) ?_
        refine lv_iadd hx hb dX5_readFact_71 ?_
        obtain ⟨r3q, xf_4, cif_5, cig_6, hq7, hf⟩ := b4_of hf
        refine callVIs (As := [.int (a1 + 1)]) (rest := []) (wr := []) C0 (c_X5_readEither_2 q qq (upd xf 2 ((xf 2) + 1)) xs cif cig (a1 + 1) _ (by rw [← hkF]; exact hq7)) lk_X5_50_X5_readEither rfl hStr hP hD hS perm_nil (recv_w (q0 := 0) (ci := 5) C0 hP rfl rfl rfl) hl.1 rfl rfl (Nat.le_of_ble_eq_true rfl) dX5_readFact_72 ⟨Nat.zero_le _, Nat.zero_le _⟩ (fun r3 w H locs hw hP hD hS => ?_)
        obtain ⟨⟨e1, e2⟩, z8⟩ := hw
        replace e1 : r3 = r3q := e1
        subst e1
        subst e2
        replace hP : va_P D vwCl (List.flatten [(Tw q cA xf_4 xs (.ref (qq 0))), (Chw qq cA cif_5 cig_6)]) H := hP.nil
        replace hD : va_D A (List.flatten [(Tw q cA xf_4 xs (.ref (qq 0))), (Chw qq cA cif_5 cig_6)]) := hD.nil
        refine lv_if_eq (tgt := 91) hx hb dX5_readFact_75 (by decide) (fun c9 => ?_) (fun c9 => ?_)
        · replace hf := it_of c9 hf
          refine lv_iconst (v := 0) hx hb dX5_readFact_91 (by decide) ?_
          rw [hQ]
          exact ret_z C0 hP hD hS (by have e := Option.some.inj hf; rw [← e]; exact ⟨rfl, rfl⟩) rfl dX5_readFact_92
        · replace hf := ie_of c9 hf
          refine lv_aload_n hx hb dX5_readFact_78 rfl (lv_at hl 0 rfl) ?_
          refine lv_bipush (v := 41) hx hb dX5_readFact_79 (by decide) ?_
          obtain ⟨r10q, xf_11, hq12, hf⟩ := b2_of hf
          refine callVI (As := [.int 41]) (rest := []) (wr := segpick [(Tw q cA xf_4 xs (.ref (qq 0))), (Chw qq cA cif_5 cig_6)] [1]) C0 (c_X5_take q (.ref (qq 0)) xf_4 xs 41 _ hq12) lk_X5_35_X5_take rfl hP hD hS (seg_out [(Tw q cA xf_4 xs (.ref (qq 0))), (Chw qq cA cif_5 cig_6)] [0] [1] 2 rfl (by decide)) 0 5 rfl rfl rfl hl.1 rfl rfl (Nat.le_of_ble_eq_true rfl) dX5_readFact_81 ⟨Nat.zero_le _, Nat.zero_le _⟩ (fun r10 w H locs hw hP hD hS => ?_)
          obtain ⟨⟨e1, e2⟩, z13⟩ := hw
          replace e1 : r10 = r10q := e1
          subst e1
          subst e2
          replace hP : va_P D vwCl (List.flatten [(Tw q cA xf_11 xs (.ref (qq 0))), (Chw qq cA cif_5 cig_6)]) H := hP.perm (seg_out [(Tw q cA xf_11 xs (.ref (qq 0))), (Chw qq cA cif_5 cig_6)] [0] [1] 2 rfl (by decide)).symm
          replace hD : va_D A (List.flatten [(Tw q cA xf_11 xs (.ref (qq 0))), (Chw qq cA cif_5 cig_6)]) := hD.perm (seg_out [(Tw q cA xf_11 xs (.ref (qq 0))), (Chw qq cA cif_5 cig_6)] [0] [1] 2 rfl (by decide)).symm
          refine lv_if_eq (tgt := 91) hx hb dX5_readFact_84 (by decide) (fun c14 => ?_) (fun c14 => ?_)
          · replace hf := it_of c14 hf
            refine lv_iconst (v := 0) hx hb dX5_readFact_91 (by decide) ?_
            rw [hQ]
            exact ret_z C0 hP hD hS (by have e := Option.some.inj hf; rw [← e]; exact ⟨rfl, rfl⟩) rfl dX5_readFact_92
          · replace hf := ie_of c14 hf
            refine lv_iconst (v := 1) hx hb dX5_readFact_87 (by decide) ?_
            refine lv_goto (tgt := 92) hx hb dX5_readFact_88 (by decide) ?_
            rw [hQ]
            exact ret_z C0 hP hD hS (by have e := Option.some.inj hf; rw [← e]; exact ⟨rfl, rfl⟩) rfl dX5_readFact_92
      · replace hf := it_of c2 hf
        refine lv_aload_n hx hb dX5_readFact_38 rfl (lv_at hl 0 rfl) ?_
        refine lv_iload_n hx hb dX5_readFact_39 rfl (lv_at hl 1 rfl) ?_
        refine lv_iconst (v := 1) hx hb dX5_readFact_40 (by decide) ?_
        refine lv_iadd hx hb dX5_readFact_41 ?_
        obtain ⟨r15q, xf_16, cif_17, cig_18, hq19, hf⟩ := b4_of hf
        refine callVIs (As := [.int (a1 + 1)]) (rest := []) (wr := []) C0 (c_X5_readFact_2 q qq (upd xf 2 ((xf 2) + 1)) xs cif cig (a1 + 1) _ (by rw [← hkF]; exact hq19)) lk_X5_80_X5_readFact rfl hStr hP hD hS perm_nil (recv_w (q0 := 0) (ci := 5) C0 hP rfl rfl rfl) hl.1 rfl rfl (Nat.le_of_ble_eq_true rfl) dX5_readFact_42 ⟨Nat.zero_le _, Nat.zero_le _⟩ (fun r15 w H locs hw hP hD hS => ?_)
        obtain ⟨⟨e1, e2⟩, z20⟩ := hw
        replace e1 : r15 = r15q := e1
        subst e1
        subst e2
        replace hP : va_P D vwCl (List.flatten [(Tw q cA xf_16 xs (.ref (qq 0))), (Chw qq cA cif_17 cig_18)]) H := hP.nil
        replace hD : va_D A (List.flatten [(Tw q cA xf_16 xs (.ref (qq 0))), (Chw qq cA cif_17 cig_18)]) := hD.nil
        refine lv_if_eq (tgt := 64) hx hb dX5_readFact_45 (by decide) (fun c21 => ?_) (fun c21 => ?_)
        · replace hf := it_of c21 hf
          refine lv_iconst (v := 0) hx hb dX5_readFact_64 (by decide) ?_
          refine lv_goto (tgt := 92) hx hb dX5_readFact_65 (by decide) ?_
          rw [hQ]
          exact ret_z C0 hP hD hS (by have e := Option.some.inj hf; rw [← e]; exact ⟨rfl, rfl⟩) rfl dX5_readFact_92
        · replace hf := ie_of c21 hf
          refine lv_aload_n hx hb dX5_readFact_48 rfl (lv_at hl 0 rfl) ?_
          refine va_get (D := D) (ci := 5) (v := .ref (qq 0)) (C := RX5) (T := TX5) (N := 4) hx hb hts fw_5 hown hK hP 0 rfl rfl 3 (by decide) (hts _ m_fieldLink_P_Text_19_P_Text_charter_LP_Charter) (fun _ h9 => h9) rfl dX5_readFact_49 ?_
          refine lv_bipush (v := 6) hx hb dX5_readFact_52 (by decide) ?_
          obtain ⟨r22q, cif_23, cig_24, hq25, hf⟩ := b3_of hf
          refine callVI (As := [.int 6]) (rest := []) (wr := segpick [(Tw q cA xf_16 xs (.ref (qq 0))), (Chw qq cA cif_17 cig_18)] [0]) C0 (c_X2_addStep qq cif_17 cig_18 6 _ hq25) lk_X5_77_X2_addStep rfl hP hD hS (seg_out [(Tw q cA xf_16 xs (.ref (qq 0))), (Chw qq cA cif_17 cig_18)] [1] [0] 2 rfl (by decide)) 2 2 rfl rfl rfl hl.1 rfl rfl (Nat.le_of_ble_eq_true rfl) dX5_readFact_54 ⟨Nat.zero_le _, Nat.zero_le _⟩ (fun r22 w H locs hw hP hD hS => ?_)
          obtain ⟨⟨e1, e2⟩, z26⟩ := hw
          replace e1 : r22 = r22q := e1
          subst e1
          subst e2
          replace hP : va_P D vwCl (List.flatten [(Tw q cA xf_16 xs (.ref (qq 0))), (Chw qq cA cif_23 cig_24)]) H := hP.perm (seg_out [(Tw q cA xf_16 xs (.ref (qq 0))), (Chw qq cA cif_23 cig_24)] [1] [0] 2 rfl (by decide)).symm
          replace hD : va_D A (List.flatten [(Tw q cA xf_16 xs (.ref (qq 0))), (Chw qq cA cif_23 cig_24)]) := hD.perm (seg_out [(Tw q cA xf_16 xs (.ref (qq 0))), (Chw qq cA cif_23 cig_24)] [1] [0] 2 rfl (by decide)).symm
          refine lv_if_eq (tgt := 64) hx hb dX5_readFact_57 (by decide) (fun c27 => ?_) (fun c27 => ?_)
          · replace hf := it_of c27 hf
            refine lv_iconst (v := 0) hx hb dX5_readFact_64 (by decide) ?_
            refine lv_goto (tgt := 92) hx hb dX5_readFact_65 (by decide) ?_
            rw [hQ]
            exact ret_z C0 hP hD hS (by have e := Option.some.inj hf; rw [← e]; exact ⟨rfl, rfl⟩) rfl dX5_readFact_92
          · replace hf := ie_of c27 hf
            refine lv_iconst (v := 1) hx hb dX5_readFact_60 (by decide) ?_
            refine lv_goto (tgt := 92) hx hb dX5_readFact_61 (by decide) ?_
            rw [hQ]
            exact ret_z C0 hP hD hS (by have e := Option.some.inj hf; rw [← e]; exact ⟨rfl, rfl⟩) rfl dX5_readFact_92
  replace hf : k_X5_readFact_g kF a1 xf0 xs cif0 cig0 = some o := by rw [hkF]; exact hf
  unfold k_X5_readFact_g at hf
  refine lv_aload_n hx hb dX5_readFact_0 rfl (lv_at hl 0 rfl) ?_
  obtain ⟨r1q, hq2, hf⟩ := b1_of hf
  refine callVI (As := []) (rest := []) (wr := segpick [(Tw q cA xf0 xs (.ref (qq 0))), (Chw qq cA cif0 cig0)] [1]) C0 (c_X5_ahead q (.ref (qq 0)) xf0 xs _ hq2) lk_X5_57_X5_ahead rfl hP hD hS (seg_out [(Tw q cA xf0 xs (.ref (qq 0))), (Chw qq cA cif0 cig0)] [0] [1] 2 rfl (by decide)) 0 5 rfl rfl rfl hl.1 rfl rfl (Nat.le_of_ble_eq_true rfl) dX5_readFact_1 ⟨Nat.zero_le _, Nat.zero_le _⟩ (fun r1 w H locs hw hP hD hS => ?_)
  obtain ⟨e1, e2⟩ := hw
  replace e1 : r1 = r1q := e1
  subst e1
  subst e2
  replace hP : va_P D vwCl (List.flatten [(Tw q cA xf0 xs (.ref (qq 0))), (Chw qq cA cif0 cig0)]) H := hP.perm (seg_out [(Tw q cA xf0 xs (.ref (qq 0))), (Chw qq cA cif0 cig0)] [0] [1] 2 rfl (by decide)).symm
  replace hD : va_D A (List.flatten [(Tw q cA xf0 xs (.ref (qq 0))), (Chw qq cA cif0 cig0)]) := hD.perm (seg_out [(Tw q cA xf0 xs (.ref (qq 0))), (Chw qq cA cif0 cig0)] [0] [1] 2 rfl (by decide)).symm
  refine lv_istore_n (lv' := [(2, .int r1), (0, .ref (q 0)), (1, .int a1)]) hx hb dX5_readFact_4 rfl hl (by decide) rfl (fun ls hl => ?_)
  refine lv_iload_n hx hb dX5_readFact_5 rfl (lv_at hl 0 rfl) ?_
  refine lv_bipush (v := 33) hx hb dX5_readFact_6 (by decide) ?_
  refine lv_icmp_eq (tgt := 17) hx hb dX5_readFact_8 (by decide) (fun c3 => ?_) (fun c3 => ?_)
  · replace hf := it_of c3 hf
    exact J17 r1 xf0 cif0 cig0 hf _ _ hP hD hS _ (lv_sub hl [1, 2, 0] rfl)
  · replace hf := ie_of c3 hf
    refine lv_iload_n hx hb dX5_readFact_11 rfl (lv_at hl 0 rfl) ?_
    refine lv_bipush (v := 40) hx hb dX5_readFact_12 (by decide) ?_
    refine lv_icmp_ne (tgt := 93) hx hb dX5_readFact_14 (by decide) (fun c4 => ?_) (fun c4 => ?_)
    · replace hf := ie_of c4 hf
      exact J93 r1 xf0 cif0 cig0 hf _ _ hP hD hS _ (lv_sub hl [1, 0] rfl)
    · replace hf := it_of c4 hf
      exact J17 r1 xf0 cif0 cig0 hf _ _ hP hD hS _ (lv_sub hl [1, 2, 0] rfl)
set_option maxHeartbeats 4000000 in
set_option maxRecDepth 100000 in
theorem c_X5_readBoth_3 {l : Launch} {D : va_G} {cA : Nat → ClassId} {adK adV : Nat → Nat} (q : Nat → Nat) (qq : Nat → Nat) (xf0 : Nat → Int32) (xs : Nat → Int32) (cif0 : Nat → Int32) (cig0 : Nat → Nat → Int32) (a1 : Int32) (o : Int32 × (Nat → Int32) × (Nat → Int32) × (Nat → Nat → Int32)) (hf : k_X5_readBoth_g (k_X5_readFact 3) a1 xf0 xs cif0 cig0 = some o) : CIs l D cA adK adV yX5_readBoth cX5_readBoth 3 (some .boolean) 11 254 [.ref (q 0), .int a1] (List.flatten [(Tw q cA xf0 xs (.ref (qq 0))), (Chw qq cA cif0 cig0)]) 0 0 (fun r w => (r = o.1 ∧ w = (List.flatten [(Tw q cA o.2.1 xs (.ref (qq 0))), (Chw qq cA o.2.2.1 o.2.2.2)])) ∧ narrow .boolean (.int r) = .int r) := by
  intro sz
  refine met_start_s (by decide) rfl ?_
  intro p e s m args below meth c ls hsz hargs C0 hname hStr hP hD hS hl
  generalize hAe : va_A (List.flatten [(Tw q cA xf0 xs (.ref (qq 0))), (Chw qq cA cif0 cig0)]) sz = A at C0 hStr hD hS ⊢
  obtain ⟨hx, hb, hr, hml, hown, hts, hlk, hK, hA⟩ := id C0
  replace hl : lv_has ls 3 [(0, .ref (q 0)), (1, .int a1)] := hl
  obtain ⟨Q, hQ⟩ : ∃ Q : State → Prop, Q = QI below D A (fun r w => (r = o.1 ∧ w = (List.flatten [(Tw q cA o.2.1 xs (.ref (qq 0))), (Chw qq cA o.2.2.1 o.2.2.2)])) ∧ narrow .boolean (.int r) = .int r) args s 0 0 := ⟨_, rfl⟩
  refine cast (by rw [hQ]) (?_ : W p l e (RMx 11 254 0 0) s m args below meth c s.heap [] 0 0 Q (F0 m 0 ls []))
  obtain ⟨kF, hkF⟩ : ∃ z, z = k_X5_readFact 3 := ⟨_, rfl⟩
  have J34 : ∀ (kc2 : Int32 → (Nat → Int32) → (Nat → Int32) → (Nat → Nat → Int32) → Option (Int32 × (Nat → Int32) × (Nat → Int32) × (Nat → Nat → Int32))) (hkc2 : ∀ (x2 : Int32) (xf : Nat → Int32) (cif : Nat → Int32) (cig : Nat → Nat → Int32), kc2 x2 xf cif cig = some o → ∀ (H : Heap) (locs : List Loc), va_P D vwCl (List.flatten [(Tw q cA xf xs (.ref (qq 0))), (Chw qq cA cif cig)]) H → va_D A (List.flatten [(Tw q cA xf xs (.ref (qq 0))), (Chw qq cA cif cig)]) → va_S A s.heap H locs → ∀ ls : Array Slot, lv_has ls 3 [(0, .ref (q 0)), (1, .int a1), (2, .int x2)] → W p l e (RMx 11 254 0 0) s m args below meth c H locs 0 0 Q (F0 m 2 ls [])), ∀ (x2 : Int32) (xf : Nat → Int32) (cif : Nat → Int32) (cig : Nat → Nat → Int32), k_X5_readBoth_34 xs kc2 x2 xf cif cig = some o → ∀ (H : Heap) (locs : List Loc), va_P D vwCl (List.flatten [(Tw q cA xf xs (.ref (qq 0))), (Chw qq cA cif cig)]) H → va_D A (List.flatten [(Tw q cA xf xs (.ref (qq 0))), (Chw qq cA cif cig)]) → va_S A s.heap H locs → ∀ ls : Array Slot, lv_has ls 3 [(0, .ref (q 0)), (1, .int a1), (2, .int x2)] → W p l e (RMx 11 254 0 0) s m args below meth c H locs 0 0 Q (F0 m 34 ls []) := by
    intro kc2 hkc2 x2 xf cif cig hf H locs hP hD hS ls hl
    unfold k_X5_readBoth_34 at hf
    refine lv_aload_n hx hb dX5_readBoth_34 rfl (lv_at hl 0 rfl) ?_
    refine lv_bipush (v := 38) hx hb dX5_readBoth_35 (by decide) ?_
    obtain ⟨r1q, xf_2, hq3, hf⟩ := b2_of hf
    refine callVI (As := [.int 38]) (rest := []) (wr := segpick [(Tw q cA xf xs (.ref (qq 0))), (Chw qq cA cif cig)] [1]) C0 (c_X5_take q (.ref (qq 0)) xf xs 38 _ hq3) lk_X5_35_X5_take rfl hP hD hS (seg_out [(Tw q cA xf xs (.ref (qq 0))), (Chw qq cA cif cig)] [0] [1] 2 rfl (by decide)) 0 5 rfl rfl rfl hl.1 rfl rfl (Nat.le_of_ble_eq_true rfl) dX5_readBoth_37 ⟨Nat.zero_le _, Nat.zero_le _⟩ (fun r1 w H locs hw hP hD hS => ?_)
    obtain ⟨⟨e1, e2⟩, z4⟩ := hw
    replace e1 : r1 = r1q := e1
    subst e1
    subst e2
    replace hP : va_P D vwCl (List.flatten [(Tw q cA xf_2 xs (.ref (qq 0))), (Chw qq cA cif cig)]) H := hP.perm (seg_out [(Tw q cA xf_2 xs (.ref (qq 0))), (Chw qq cA cif cig)] [0] [1] 2 rfl (by decide)).symm
    replace hD : va_D A (List.flatten [(Tw q cA xf_2 xs (.ref (qq 0))), (Chw qq cA cif cig)]) := hD.perm (seg_out [(Tw q cA xf_2 xs (.ref (qq 0))), (Chw qq cA cif cig)] [0] [1] 2 rfl (by decide)).symm
    refine lv_if_ne (tgt := 45) hx hb dX5_readBoth_40 (by decide) (fun c5 => ?_) (fun c5 => ?_)
    · replace hf := ie_of c5 hf
      refine lv_iinc (v := (x2 + 1)) (lv' := [(2, .int (x2 + 1)), (0, .ref (q 0)), (1, .int a1)]) hx hb dX5_readBoth_45 hl (k := 2) rfl rfl (by decide) rfl (fun ls hl => ?_)
      refine lv_goto (tgt := 2) hx hb dX5_readBoth_48 (by decide) ?_
      exact hkc2 (x2 + 1) xf_2 cif cig hf _ _ hP hD hS _ (lv_sub hl [1, 2, 0] rfl)
    · replace hf := it_of c5 hf
      refine lv_iconst (v := 1) hx hb dX5_readBoth_43 (by decide) ?_
      rw [hQ]
      exact ret_z C0 hP hD hS (by have e := Option.some.inj hf; rw [← e]; exact ⟨rfl, rfl⟩) rfl dX5_readBoth_44
  have J2 : ∀ n : Nat, ∀ (x2 : Int32) (xf : Nat → Int32) (cif : Nat → Int32) (cig : Nat → Nat → Int32), k_X5_readBoth_2 kF a1 xs n x2 xf cif cig = some o → ∀ (H : Heap) (locs : List Loc), va_P D vwCl (List.flatten [(Tw q cA xf xs (.ref (qq 0))), (Chw qq cA cif cig)]) H → va_D A (List.flatten [(Tw q cA xf xs (.ref (qq 0))), (Chw qq cA cif cig)]) → va_S A s.heap H locs → ∀ ls : Array Slot, lv_has ls 3 [(0, .ref (q 0)), (1, .int a1), (2, .int x2)] → W p l e (RMx 11 254 0 0) s m args below meth c H locs 0 0 Q (F0 m 2 ls []) := by
    intro  n
    induction n with
    | zero =>
      intro x2 xf cif cig hf
      rw [k_X5_readBoth_2] at hf
      cases hf
    | succ n ih =>
      intro x2 xf cif cig hf H locs hP hD hS ls hl
      rw [k_X5_readBoth_2] at hf
      refine lv_iload_n hx hb dX5_readBoth_2 rfl (lv_at hl 2 rfl) ?_
      refine lv_bipush (v := 100) hx hb dX5_readBoth_3 (by decide) ?_
      refine lv_icmp_ge (tgt := 51) hx hb dX5_readBoth_5 (by decide) (fun c1 => ?_) (fun c1 => ?_)
      · replace hf := it_of c1 hf
        refine lv_iconst (v := 0) hx hb dX5_readBoth_51 (by decide) ?_
        rw [hQ]
        exact ret_z C0 hP hD hS (by have e := Option.some.inj hf; rw [← e]; exact ⟨rfl, rfl⟩) rfl dX5_readBoth_52
      · replace hf := ie_of c1 hf
        refine lv_aload_n hx hb dX5_readBoth_8 rfl (lv_at hl 0 rfl) ?_
        refine lv_iload_n hx hb dX5_readBoth_9 rfl (lv_at hl 1 rfl) ?_
        obtain ⟨r2q, xf_3, cif_4, cig_5, hq6, hf⟩ := b4_of hf
        refine callVIs (As := [.int a1]) (rest := []) (wr := []) C0 (c_X5_readFact_3 q qq xf xs cif cig a1 _ (by rw [← hkF]; exact hq6)) lk_X5_80_X5_readFact rfl hStr hP hD hS perm_nil (recv_w (q0 := 0) (ci := 5) C0 hP rfl rfl rfl) hl.1 rfl rfl (Nat.le_of_ble_eq_true rfl) dX5_readBoth_10 ⟨Nat.zero_le _, Nat.zero_le _⟩ (fun r2 w H locs hw hP hD hS => ?_)
        obtain ⟨⟨e1, e2⟩, z7⟩ := hw
        replace e1 : r2 = r2q := e1
        subst e1
        subst e2
        replace hP : va_P D vwCl (List.flatten [(Tw q cA xf_3 xs (.ref (qq 0))), (Chw qq cA cif_4 cig_5)]) H := hP.nil
        replace hD : va_D A (List.flatten [(Tw q cA xf_3 xs (.ref (qq 0))), (Chw qq cA cif_4 cig_5)]) := hD.nil
        refine lv_if_eq (tgt := 32) hx hb dX5_readBoth_13 (by decide) (fun c8 => ?_) (fun c8 => ?_)
        · replace hf := it_of c8 hf
          refine lv_iconst (v := 0) hx hb dX5_readBoth_32 (by decide) ?_
          rw [hQ]
          exact ret_z C0 hP hD hS (by have e := Option.some.inj hf; rw [← e]; exact ⟨rfl, rfl⟩) rfl dX5_readBoth_33
        · replace hf := ie_of c8 hf
          refine lv_iload_n hx hb dX5_readBoth_16 rfl (lv_at hl 2 rfl) ?_
          refine lv_if_le (tgt := 34) hx hb dX5_readBoth_17 (by decide) (fun c9 => ?_) (fun c9 => ?_)
          · replace hf := it_of c9 hf
            exact J34 _ ih x2 xf_3 cif_4 cig_5 hf _ _ hP hD hS _ (lv_sub hl [0, 1, 2] rfl)
          · replace hf := ie_of c9 hf
            refine lv_aload_n hx hb dX5_readBoth_20 rfl (lv_at hl 0 rfl) ?_
            refine va_get (D := D) (ci := 5) (v := .ref (qq 0)) (C := RX5) (T := TX5) (N := 4) hx hb hts fw_5 hown hK hP 0 rfl rfl 3 (by decide) (hts _ m_fieldLink_P_Text_19_P_Text_charter_LP_Charter) (fun _ h9 => h9) rfl dX5_readBoth_21 ?_
            refine lv_bipush (v := 7) hx hb dX5_readBoth_24 (by decide) ?_
            obtain ⟨r10q, cif_11, cig_12, hq13, hf⟩ := b3_of hf
            refine callVI (As := [.int 7]) (rest := []) (wr := segpick [(Tw q cA xf_3 xs (.ref (qq 0))), (Chw qq cA cif_4 cig_5)] [0]) C0 (c_X2_addStep qq cif_4 cig_5 7 _ hq13) lk_X5_77_X2_addStep rfl hP hD hS (seg_out [(Tw q cA xf_3 xs (.ref (qq 0))), (Chw qq cA cif_4 cig_5)] [1] [0] 2 rfl (by decide)) 2 2 rfl rfl rfl hl.1 rfl rfl (Nat.le_of_ble_eq_true rfl) dX5_readBoth_26 ⟨Nat.zero_le _, Nat.zero_le _⟩ (fun r10 w H locs hw hP hD hS => ?_)
            obtain ⟨⟨e1, e2⟩, z14⟩ := hw
            replace e1 : r10 = r10q := e1
            subst e1
            subst e2
            replace hP : va_P D vwCl (List.flatten [(Tw q cA xf_3 xs (.ref (qq 0))), (Chw qq cA cif_11 cig_12)]) H := hP.perm (seg_out [(Tw q cA xf_3 xs (.ref (qq 0))), (Chw qq cA cif_11 cig_12)] [1] [0] 2 rfl (by decide)).symm
            replace hD : va_D A (List.flatten [(Tw q cA xf_3 xs (.ref (qq 0))), (Chw qq cA cif_11 cig_12)]) := hD.perm (seg_out [(Tw q cA xf_3 xs (.ref (qq 0))), (Chw qq cA cif_11 cig_12)] [1] [0] 2 rfl (by decide)).symm
            refine lv_if_ne (tgt := 34) hx hb dX5_readBoth_29 (by decide) (fun c15 => ?_) (fun c15 => ?_)
            · replace hf := ie_of c15 hf
              exact J34 _ ih x2 xf_3 cif_11 cig_12 hf _ _ hP hD hS _ (lv_sub hl [0, 1, 2] rfl)
            · replace hf := it_of c15 hf
              refine lv_iconst (v := 0) hx hb dX5_readBoth_32 (by decide) ?_
              rw [hQ]
              exact ret_z C0 hP hD hS (by have e := Option.some.inj hf; rw [← e]; exact ⟨rfl, rfl⟩) rfl dX5_readBoth_33
  replace hf : k_X5_readBoth_g kF a1 xf0 xs cif0 cig0 = some o := by rw [hkF]; exact hf
  unfold k_X5_readBoth_g at hf
  refine lv_iconst (v := 0) hx hb dX5_readBoth_0 (by decide) ?_
  refine lv_istore_n (lv' := [(2, .int 0), (0, .ref (q 0)), (1, .int a1)]) hx hb dX5_readBoth_1 rfl hl (by decide) rfl (fun ls hl => ?_)
  exact J2 100000 0 xf0 cif0 cig0 hf _ _ hP hD hS _ (lv_sub hl [1, 2, 0] rfl)
set_option maxHeartbeats 4000000 in
set_option maxRecDepth 100000 in
theorem c_X5_readEither_3 {l : Launch} {D : va_G} {cA : Nat → ClassId} {adK adV : Nat → Nat} (q : Nat → Nat) (qq : Nat → Nat) (xf0 : Nat → Int32) (xs : Nat → Int32) (cif0 : Nat → Int32) (cig0 : Nat → Nat → Int32) (a1 : Int32) (o : Int32 × (Nat → Int32) × (Nat → Int32) × (Nat → Nat → Int32)) (hf : k_X5_readEither_g (k_X5_readFact 3) a1 xf0 xs cif0 cig0 = some o) : CIs l D cA adK adV yX5_readEither cX5_readEither 3 (some .boolean) 12 276 [.ref (q 0), .int a1] (List.flatten [(Tw q cA xf0 xs (.ref (qq 0))), (Chw qq cA cif0 cig0)]) 0 0 (fun r w => (r = o.1 ∧ w = (List.flatten [(Tw q cA o.2.1 xs (.ref (qq 0))), (Chw qq cA o.2.2.1 o.2.2.2)])) ∧ narrow .boolean (.int r) = .int r) := by
  intro sz
  refine met_start_s (by decide) rfl ?_
  intro p e s m args below meth c ls hsz hargs C0 hname hStr hP hD hS hl
  generalize hAe : va_A (List.flatten [(Tw q cA xf0 xs (.ref (qq 0))), (Chw qq cA cif0 cig0)]) sz = A at C0 hStr hD hS ⊢
  obtain ⟨hx, hb, hr, hml, hown, hts, hlk, hK, hA⟩ := id C0
  replace hl : lv_has ls 3 [(0, .ref (q 0)), (1, .int a1)] := hl
  obtain ⟨Q, hQ⟩ : ∃ Q : State → Prop, Q = QI below D A (fun r w => (r = o.1 ∧ w = (List.flatten [(Tw q cA o.2.1 xs (.ref (qq 0))), (Chw qq cA o.2.2.1 o.2.2.2)])) ∧ narrow .boolean (.int r) = .int r) args s 0 0 := ⟨_, rfl⟩
  refine cast (by rw [hQ]) (?_ : W p l e (RMx 12 276 0 0) s m args below meth c s.heap [] 0 0 Q (F0 m 0 ls []))
  obtain ⟨kF, hkF⟩ : ∃ z, z = k_X5_readFact 3 := ⟨_, rfl⟩
  have J34 : ∀ (kc2 : Int32 → (Nat → Int32) → (Nat → Int32) → (Nat → Nat → Int32) → Option (Int32 × (Nat → Int32) × (Nat → Int32) × (Nat → Nat → Int32))) (hkc2 : ∀ (x2 : Int32) (xf : Nat → Int32) (cif : Nat → Int32) (cig : Nat → Nat → Int32), kc2 x2 xf cif cig = some o → ∀ (H : Heap) (locs : List Loc), va_P D vwCl (List.flatten [(Tw q cA xf xs (.ref (qq 0))), (Chw qq cA cif cig)]) H → va_D A (List.flatten [(Tw q cA xf xs (.ref (qq 0))), (Chw qq cA cif cig)]) → va_S A s.heap H locs → ∀ ls : Array Slot, lv_has ls 3 [(0, .ref (q 0)), (1, .int a1), (2, .int x2)] → W p l e (RMx 12 276 0 0) s m args below meth c H locs 0 0 Q (F0 m 2 ls [])), ∀ (x2 : Int32) (xf : Nat → Int32) (cif : Nat → Int32) (cig : Nat → Nat → Int32), k_X5_readEither_34 xs kc2 x2 xf cif cig = some o → ∀ (H : Heap) (locs : List Loc), va_P D vwCl (List.flatten [(Tw q cA xf xs (.ref (qq 0))), (Chw qq cA cif cig)]) H → va_D A (List.flatten [(Tw q cA xf xs (.ref (qq 0))), (Chw qq cA cif cig)]) → va_S A s.heap H locs → ∀ ls : Array Slot, lv_has ls 3 [(0, .ref (q 0)), (1, .int a1), (2, .int x2)] → W p l e (RMx 12 276 0 0) s m args below meth c H locs 0 0 Q (F0 m 34 ls []) := by
    intro kc2 hkc2 x2 xf cif cig hf H locs hP hD hS ls hl
    unfold k_X5_readEither_34 at hf
    refine lv_aload_n hx hb dX5_readEither_34 rfl (lv_at hl 0 rfl) ?_
    refine lv_bipush (v := 124) hx hb dX5_readEither_35 (by decide) ?_
    obtain ⟨r1q, xf_2, hq3, hf⟩ := b2_of hf
    refine callVI (As := [.int 124]) (rest := []) (wr := segpick [(Tw q cA xf xs (.ref (qq 0))), (Chw qq cA cif cig)] [1]) C0 (c_X5_take q (.ref (qq 0)) xf xs 124 _ hq3) lk_X5_35_X5_take rfl hP hD hS (seg_out [(Tw q cA xf xs (.ref (qq 0))), (Chw qq cA cif cig)] [0] [1] 2 rfl (by decide)) 0 5 rfl rfl rfl hl.1 rfl rfl (Nat.le_of_ble_eq_true rfl) dX5_readEither_37 ⟨Nat.zero_le _, Nat.zero_le _⟩ (fun r1 w H locs hw hP hD hS => ?_)
    obtain ⟨⟨e1, e2⟩, z4⟩ := hw
    replace e1 : r1 = r1q := e1
    subst e1
    subst e2
    replace hP : va_P D vwCl (List.flatten [(Tw q cA xf_2 xs (.ref (qq 0))), (Chw qq cA cif cig)]) H := hP.perm (seg_out [(Tw q cA xf_2 xs (.ref (qq 0))), (Chw qq cA cif cig)] [0] [1] 2 rfl (by decide)).symm
    replace hD : va_D A (List.flatten [(Tw q cA xf_2 xs (.ref (qq 0))), (Chw qq cA cif cig)]) := hD.perm (seg_out [(Tw q cA xf_2 xs (.ref (qq 0))), (Chw qq cA cif cig)] [0] [1] 2 rfl (by decide)).symm
    refine lv_if_ne (tgt := 45) hx hb dX5_readEither_40 (by decide) (fun c5 => ?_) (fun c5 => ?_)
    · replace hf := ie_of c5 hf
      refine lv_iinc (v := (x2 + 1)) (lv' := [(2, .int (x2 + 1)), (0, .ref (q 0)), (1, .int a1)]) hx hb dX5_readEither_45 hl (k := 2) rfl rfl (by decide) rfl (fun ls hl => ?_)
      refine lv_goto (tgt := 2) hx hb dX5_readEither_48 (by decide) ?_
      exact hkc2 (x2 + 1) xf_2 cif cig hf _ _ hP hD hS _ (lv_sub hl [1, 2, 0] rfl)
    · replace hf := it_of c5 hf
      refine lv_iconst (v := 1) hx hb dX5_readEither_43 (by decide) ?_
      rw [hQ]
      exact ret_z C0 hP hD hS (by have e := Option.some.inj hf; rw [← e]; exact ⟨rfl, rfl⟩) rfl dX5_readEither_44
  have J2 : ∀ n : Nat, ∀ (x2 : Int32) (xf : Nat → Int32) (cif : Nat → Int32) (cig : Nat → Nat → Int32), k_X5_readEither_2 kF a1 xs n x2 xf cif cig = some o → ∀ (H : Heap) (locs : List Loc), va_P D vwCl (List.flatten [(Tw q cA xf xs (.ref (qq 0))), (Chw qq cA cif cig)]) H → va_D A (List.flatten [(Tw q cA xf xs (.ref (qq 0))), (Chw qq cA cif cig)]) → va_S A s.heap H locs → ∀ ls : Array Slot, lv_has ls 3 [(0, .ref (q 0)), (1, .int a1), (2, .int x2)] → W p l e (RMx 12 276 0 0) s m args below meth c H locs 0 0 Q (F0 m 2 ls []) := by
    intro  n
    induction n with
    | zero =>
      intro x2 xf cif cig hf
      rw [k_X5_readEither_2] at hf
      cases hf
    | succ n ih =>
      intro x2 xf cif cig hf H locs hP hD hS ls hl
      rw [k_X5_readEither_2] at hf
      refine lv_iload_n hx hb dX5_readEither_2 rfl (lv_at hl 2 rfl) ?_
      refine lv_bipush (v := 100) hx hb dX5_readEither_3 (by decide) ?_
      refine lv_icmp_ge (tgt := 51) hx hb dX5_readEither_5 (by decide) (fun c1 => ?_) (fun c1 => ?_)
      · replace hf := it_of c1 hf
        refine lv_iconst (v := 0) hx hb dX5_readEither_51 (by decide) ?_
        rw [hQ]
        exact ret_z C0 hP hD hS (by have e := Option.some.inj hf; rw [← e]; exact ⟨rfl, rfl⟩) rfl dX5_readEither_52
      · replace hf := ie_of c1 hf
        refine lv_aload_n hx hb dX5_readEither_8 rfl (lv_at hl 0 rfl) ?_
        refine lv_iload_n hx hb dX5_readEither_9 rfl (lv_at hl 1 rfl) ?_
        obtain ⟨r2q, xf_3, cif_4, cig_5, hq6, hf⟩ := b4_of hf
        refine callVIs (As := [.int a1]) (rest := []) (wr := []) C0 (c_X5_readBoth_3 q qq xf xs cif cig a1 _ (by rw [← hkF]; exact hq6)) lk_X5_74_X5_readBoth rfl hStr hP hD hS perm_nil (recv_w (q0 := 0) (ci := 5) C0 hP rfl rfl rfl) hl.1 rfl rfl (Nat.le_of_ble_eq_true rfl) dX5_readEither_10 ⟨Nat.zero_le _, Nat.zero_le _⟩ (fun r2 w H locs hw hP hD hS => ?_)
        obtain ⟨⟨e1, e2⟩, z7⟩ := hw
        replace e1 : r2 = r2q := e1
        subst e1
        subst e2
        replace hP : va_P D vwCl (List.flatten [(Tw q cA xf_3 xs (.ref (qq 0))), (Chw qq cA cif_4 cig_5)]) H := hP.nil
        replace hD : va_D A (List.flatten [(Tw q cA xf_3 xs (.ref (qq 0))), (Chw qq cA cif_4 cig_5)]) := hD.nil
        refine lv_if_eq (tgt := 32) hx hb dX5_readEither_13 (by decide) (fun c8 => ?_) (fun c8 => ?_)
        · replace hf := it_of c8 hf
          refine lv_iconst (v := 0) hx hb dX5_readEither_32 (by decide) ?_
          rw [hQ]
          exact ret_z C0 hP hD hS (by have e := Option.some.inj hf; rw [← e]; exact ⟨rfl, rfl⟩) rfl dX5_readEither_33
        · replace hf := ie_of c8 hf
          refine lv_iload_n hx hb dX5_readEither_16 rfl (lv_at hl 2 rfl) ?_
          refine lv_if_le (tgt := 34) hx hb dX5_readEither_17 (by decide) (fun c9 => ?_) (fun c9 => ?_)
          · replace hf := it_of c9 hf
            exact J34 _ ih x2 xf_3 cif_4 cig_5 hf _ _ hP hD hS _ (lv_sub hl [0, 1, 2] rfl)
          · replace hf := ie_of c9 hf
            refine lv_aload_n hx hb dX5_readEither_20 rfl (lv_at hl 0 rfl) ?_
            refine va_get (D := D) (ci := 5) (v := .ref (qq 0)) (C := RX5) (T := TX5) (N := 4) hx hb hts fw_5 hown hK hP 0 rfl rfl 3 (by decide) (hts _ m_fieldLink_P_Text_19_P_Text_charter_LP_Charter) (fun _ h9 => h9) rfl dX5_readEither_21 ?_
            refine lv_bipush (v := 8) hx hb dX5_readEither_24 (by decide) ?_
            obtain ⟨r10q, cif_11, cig_12, hq13, hf⟩ := b3_of hf
            refine callVI (As := [.int 8]) (rest := []) (wr := segpick [(Tw q cA xf_3 xs (.ref (qq 0))), (Chw qq cA cif_4 cig_5)] [0]) C0 (c_X2_addStep qq cif_4 cig_5 8 _ hq13) lk_X5_77_X2_addStep rfl hP hD hS (seg_out [(Tw q cA xf_3 xs (.ref (qq 0))), (Chw qq cA cif_4 cig_5)] [1] [0] 2 rfl (by decide)) 2 2 rfl rfl rfl hl.1 rfl rfl (Nat.le_of_ble_eq_true rfl) dX5_readEither_26 ⟨Nat.zero_le _, Nat.zero_le _⟩ (fun r10 w H locs hw hP hD hS => ?_)
            obtain ⟨⟨e1, e2⟩, z14⟩ := hw
            replace e1 : r10 = r10q := e1
            subst e1
            subst e2
            replace hP : va_P D vwCl (List.flatten [(Tw q cA xf_3 xs (.ref (qq 0))), (Chw qq cA cif_11 cig_12)]) H := hP.perm (seg_out [(Tw q cA xf_3 xs (.ref (qq 0))), (Chw qq cA cif_11 cig_12)] [1] [0] 2 rfl (by decide)).symm
            replace hD : va_D A (List.flatten [(Tw q cA xf_3 xs (.ref (qq 0))), (Chw qq cA cif_11 cig_12)]) := hD.perm (seg_out [(Tw q cA xf_3 xs (.ref (qq 0))), (Chw qq cA cif_11 cig_12)] [1] [0] 2 rfl (by decide)).symm
            refine lv_if_ne (tgt := 34) hx hb dX5_readEither_29 (by decide) (fun c15 => ?_) (fun c15 => ?_)
            · replace hf := ie_of c15 hf
              exact J34 _ ih x2 xf_3 cif_11 cig_12 hf _ _ hP hD hS _ (lv_sub hl [0, 1, 2] rfl)
            · replace hf := it_of c15 hf
              refine lv_iconst (v := 0) hx hb dX5_readEither_32 (by decide) ?_
              rw [hQ]
              exact ret_z C0 hP hD hS (by have e := Option.some.inj hf; rw [← e]; exact ⟨rfl, rfl⟩) rfl dX5_readEither_33
  replace hf : k_X5_readEither_g kF a1 xf0 xs cif0 cig0 = some o := by rw [hkF]; exact hf
  unfold k_X5_readEither_g at hf
  refine lv_iconst (v := 0) hx hb dX5_readEither_0 (by decide) ?_
  refine lv_istore_n (lv' := [(2, .int 0), (0, .ref (q 0)), (1, .int a1)]) hx hb dX5_readEither_1 rfl hl (by decide) rfl (fun ls hl => ?_)
  exact J2 100000 0 xf0 cif0 cig0 hf _ _ hP hD hS _ (lv_sub hl [1, 2, 0] rfl)
set_option maxHeartbeats 4000000 in
set_option maxRecDepth 100000 in
theorem c_X5_readFact_4 {l : Launch} {D : va_G} {cA : Nat → ClassId} {adK adV : Nat → Nat} (q : Nat → Nat) (qq : Nat → Nat) (xf0 : Nat → Int32) (xs : Nat → Int32) (cif0 : Nat → Int32) (cig0 : Nat → Nat → Int32) (a1 : Int32) (o : Int32 × (Nat → Int32) × (Nat → Int32) × (Nat → Nat → Int32)) (hf : k_X5_readFact 4 a1 xf0 xs cif0 cig0 = some o) : CIs l D cA adK adV yX5_readFact cX5_readFact 6 (some .boolean) 13 298 [.ref (q 0), .int a1] (List.flatten [(Tw q cA xf0 xs (.ref (qq 0))), (Chw qq cA cif0 cig0)]) 0 0 (fun r w => (r = o.1 ∧ w = (List.flatten [(Tw q cA o.2.1 xs (.ref (qq 0))), (Chw qq cA o.2.2.1 o.2.2.2)])) ∧ narrow .boolean (.int r) = .int r) := by
  intro sz
  refine met_start_s (by decide) rfl ?_
  intro p e s m args below meth c ls hsz hargs C0 hname hStr hP hD hS hl
  generalize hAe : va_A (List.flatten [(Tw q cA xf0 xs (.ref (qq 0))), (Chw qq cA cif0 cig0)]) sz = A at C0 hStr hD hS ⊢
  obtain ⟨hx, hb, hr, hml, hown, hts, hlk, hK, hA⟩ := id C0
  replace hl : lv_has ls 6 [(0, .ref (q 0)), (1, .int a1)] := hl
  obtain ⟨Q, hQ⟩ : ∃ Q : State → Prop, Q = QI below D A (fun r w => (r = o.1 ∧ w = (List.flatten [(Tw q cA o.2.1 xs (.ref (qq 0))), (Chw qq cA o.2.2.1 o.2.2.2)])) ∧ narrow .boolean (.int r) = .int r) args s 0 0 := ⟨_, rfl⟩
  refine cast (by rw [hQ]) (?_ : W p l e (RMx 13 298 0 0) s m args below meth c s.heap [] 0 0 Q (F0 m 0 ls []))
  obtain ⟨kF, hkF⟩ : ∃ z, z = k_X5_readFact 3 := ⟨_, rfl⟩
  have J154 : ∀ (x3 : Int32) (x4 : Int32) (xf : Nat → Int32) (cif : Nat → Int32) (cig : Nat → Nat → Int32), k_X5_readFact_154 xs x3 x4 xf cif cig = some o → ∀ (H : Heap) (locs : List Loc), va_P D vwCl (List.flatten [(Tw q cA xf xs (.ref (qq 0))), (Chw qq cA cif cig)]) H → va_D A (List.flatten [(Tw q cA xf xs (.ref (qq 0))), (Chw qq cA cif cig)]) → va_S A s.heap H locs → ∀ ls : Array Slot, lv_has ls 6 [(0, .ref (q 0)), (3, .int x3), (4, .int x4)] → W p l e (RMx 13 298 0 0) s m args below meth c H locs 0 0 Q (F0 m 154 ls []) := by
    intro  x3 x4 xf cif cig hf H locs hP hD hS ls hl
    unfold k_X5_readFact_154 at hf
    refine lv_aload_n hx hb dX5_readFact_154 rfl (lv_at hl 0 rfl) ?_
    refine lv_dup hx hb dX5_readFact_155 rfl ?_
    refine va_get (D := D) (ci := 5) (v := .int (xf 2)) (C := RX5) (T := TX5) (N := 4) hx hb hts fw_5 hown hK hP 0 rfl rfl 2 (by decide) (hts _ m_fieldLink_P_Text_28_P_Text_at_I) (fun _ h9 => h9) rfl dX5_readFact_156 ?_
    refine lv_iconst (v := 1) hx hb dX5_readFact_159 (by decide) ?_
    refine lv_iadd hx hb dX5_readFact_160 ?_
    refine va_put (D := D) (ci := 5) (v := .int ((xf 2) + 1)) (ty := .int) (C := RX5) (T := TX5) (N := 4) hx hb hts fw_5 tyX5 tyX5_ok nmX5 hown hK hP hD hS 0 rfl rfl 2 (by decide) (hts _ m_fieldLink_P_Text_28_P_Text_at_I) (fun _ h9 => h9) rfl (by decide +kernel) rfl rfl (Nat.le_of_ble_eq_true rfl) dX5_readFact_161 (fun H locs hP hD hS => ?_)
    replace hP : va_P D vwCl (List.flatten [(Tw q cA (upd xf 2 ((xf 2) + 1)) xs (.ref (qq 0))), (Chw qq cA cif cig)]) H := hP
    replace hD : va_D A (List.flatten [(Tw q cA (upd xf 2 ((xf 2) + 1)) xs (.ref (qq 0))), (Chw qq cA cif cig)]) := hD
    refine lv_aload_n hx hb dX5_readFact_164 rfl (lv_at hl 0 rfl) ?_
    obtain ⟨r1q, xf_2, hq3, hf⟩ := b2_of hf
    refine callVI (As := []) (rest := []) (wr := segpick [(Tw q cA (upd xf 2 ((xf 2) + 1)) xs (.ref (qq 0))), (Chw qq cA cif cig)] [1]) C0 (c_X5_readNumber q (.ref (qq 0)) (upd xf 2 ((xf 2) + 1)) xs _ hq3) lk_X5_47_X5_readNumber rfl hP hD hS (seg_out [(Tw q cA (upd xf 2 ((xf 2) + 1)) xs (.ref (qq 0))), (Chw qq cA cif cig)] [0] [1] 2 rfl (by decide)) 0 5 rfl rfl rfl hl.1 rfl rfl (Nat.le_of_ble_eq_true rfl) dX5_readFact_165 ⟨Nat.zero_le _, Nat.zero_le _⟩ (fun r1 w H locs hw hP hD hS => ?_)
    obtain ⟨e1, e2⟩ := hw
    replace e1 : r1 = r1q := e1
    subst e1
    subst e2
    replace hP : va_P D vwCl (List.flatten [(Tw q cA xf_2 xs (.ref (qq 0))), (Chw qq cA cif cig)]) H := hP.perm (seg_out [(Tw q cA xf_2 xs (.ref (qq 0))), (Chw qq cA cif cig)] [0] [1] 2 rfl (by decide)).symm
    replace hD : va_D A (List.flatten [(Tw q cA xf_2 xs (.ref (qq 0))), (Chw qq cA cif cig)]) := hD.perm (seg_out [(Tw q cA xf_2 xs (.ref (qq 0))), (Chw qq cA cif cig)] [0] [1] 2 rfl (by decide)).symm
    refine lv_istore (lv' := [(5, .int r1), (0, .ref (q 0)), (3, .int x3), (4, .int x4)]) hx hb dX5_readFact_168 hl (by decide) rfl (fun ls hl => ?_)
    refine lv_iload hx hb dX5_readFact_170 (lv_at hl 0 rfl) ?_
    refine lv_iconst (v := (-1)) hx hb dX5_readFact_172 (by decide) ?_
    refine lv_icmp_eq (tgt := 195) hx hb dX5_readFact_173 (by decide) (fun c4 => ?_) (fun c4 => ?_)
    · replace hf := it_of c4 hf
      refine lv_iconst (v := 0) hx hb dX5_readFact_195 (by decide) ?_
      rw [hQ]
      exact ret_z C0 hP hD hS (by have e := Option.some.inj hf; rw [← e]; exact ⟨rfl, rfl⟩) rfl dX5_readFact_196
    · replace hf := ie_of c4 hf
      refine lv_aload_n hx hb dX5_readFact_176 rfl (lv_at hl 1 rfl) ?_
      refine va_get (D := D) (ci := 5) (v := .ref (qq 0)) (C := RX5) (T := TX5) (N := 4) hx hb hts fw_5 hown hK hP 0 rfl rfl 3 (by decide) (hts _ m_fieldLink_P_Text_19_P_Text_charter_LP_Charter) (fun _ h9 => h9) rfl dX5_readFact_177 ?_
      refine lv_iload_n hx hb dX5_readFact_180 rfl (lv_at hl 2 rfl) ?_
      refine lv_iload hx hb dX5_readFact_181 (lv_at hl 3 rfl) ?_
      refine lv_iload hx hb dX5_readFact_183 (lv_at hl 0 rfl) ?_
      obtain ⟨r5q, cif_6, cig_7, hq8, hf⟩ := b3_of hf
      refine callVI (As := [.int x3, .int x4, .int r1]) (rest := []) (wr := segpick [(Tw q cA xf_2 xs (.ref (qq 0))), (Chw qq cA cif cig)] [0]) C0 (c_X2_addTest qq cif cig x3 x4 r1 _ hq8) lk_X5_89_X2_addTest rfl hP hD hS (seg_out [(Tw q cA xf_2 xs (.ref (qq 0))), (Chw qq cA cif cig)] [1] [0] 2 rfl (by decide)) 2 2 rfl rfl rfl hl.1 rfl rfl (Nat.le_of_ble_eq_true rfl) dX5_readFact_185 ⟨Nat.zero_le _, Nat.zero_le _⟩ (fun r5 w H locs hw hP hD hS => ?_)
      obtain ⟨⟨e1, e2⟩, z9⟩ := hw
      replace e1 : r5 = r5q := e1
      subst e1
      subst e2
      replace hP : va_P D vwCl (List.flatten [(Tw q cA xf_2 xs (.ref (qq 0))), (Chw qq cA cif_6 cig_7)]) H := hP.perm (seg_out [(Tw q cA xf_2 xs (.ref (qq 0))), (Chw qq cA cif_6 cig_7)] [1] [0] 2 rfl (by decide)).symm
      replace hD : va_D A (List.flatten [(Tw q cA xf_2 xs (.ref (qq 0))), (Chw qq cA cif_6 cig_7)]) := hD.perm (seg_out [(Tw q cA xf_2 xs (.ref (qq 0))), (Chw qq cA cif_6 cig_7)] [1] [0] 2 rfl (by decide)).symm
      refine lv_if_eq (tgt := 195) hx hb dX5_readFact_188 (by decide) (fun c10 => ?_) (fun c10 => ?_)
      · replace hf := it_of c10 hf
        refine lv_iconst (v := 0) hx hb dX5_readFact_195 (by decide) ?_
        rw [hQ]
        exact ret_z C0 hP hD hS (by have e := Option.some.inj hf; rw [← e]; exact ⟨rfl, rfl⟩) rfl dX5_readFact_196
      · replace hf := ie_of c10 hf
        refine lv_iconst (v := 1) hx hb dX5_readFact_191 (by decide) ?_
        refine lv_goto (tgt := 196) hx hb dX5_readFact_192 (by decide) ?_
        rw [hQ]
        exact ret_z C0 hP hD hS (by have e := Option.some.inj hf; rw [← e]; exact ⟨rfl, rfl⟩) rfl dX5_readFact_196
  have J108 : ∀ (t0 : Int32) (xf : Nat → Int32) (cif : Nat → Int32) (cig : Nat → Nat → Int32), k_X5_readFact_108 xs t0 xf cif cig = some o → ∀ (H : Heap) (locs : List Loc), va_P D vwCl (List.flatten [(Tw q cA xf xs (.ref (qq 0))), (Chw qq cA cif cig)]) H → va_D A (List.flatten [(Tw q cA xf xs (.ref (qq 0))), (Chw qq cA cif cig)]) → va_S A s.heap H locs → ∀ ls : Array Slot, lv_has ls 6 [(0, .ref (q 0))] → W p l e (RMx 13 298 0 0) s m args below meth c H locs 0 0 Q (F0 m 108 ls [.int t0]) := by
    intro  t0 xf cif cig hf H locs hP hD hS ls hl
    unfold k_X5_readFact_108 at hf
    refine lv_istore_n (lv' := [(3, .int t0), (0, .ref (q 0))]) hx hb dX5_readFact_108 rfl hl (by decide) rfl (fun ls hl => ?_)
    refine lv_iload_n hx hb dX5_readFact_109 rfl (lv_at hl 0 rfl) ?_
    refine lv_if_ge (tgt := 115) hx hb dX5_readFact_110 (by decide) (fun c1 => ?_) (fun c1 => ?_)
    · replace hf := it_of c1 hf
      refine lv_aload_n hx hb dX5_readFact_115 rfl (lv_at hl 1 rfl) ?_
      refine lv_dup hx hb dX5_readFact_116 rfl ?_
      refine va_get (D := D) (ci := 5) (v := .int (xf 2)) (C := RX5) (T := TX5) (N := 4) hx hb hts fw_5 hown hK hP 0 rfl rfl 2 (by decide) (hts _ m_fieldLink_P_Text_28_P_Text_at_I) (fun _ h9 => h9) rfl dX5_readFact_117 ?_
      refine lv_iconst (v := 1) hx hb dX5_readFact_120 (by decide) ?_
      refine lv_iadd hx hb dX5_readFact_121 ?_
      refine va_put (D := D) (ci := 5) (v := .int ((xf 2) + 1)) (ty := .int) (C := RX5) (T := TX5) (N := 4) hx hb hts fw_5 tyX5 tyX5_ok nmX5 hown hK hP hD hS 0 rfl rfl 2 (by decide) (hts _ m_fieldLink_P_Text_28_P_Text_at_I) (fun _ h9 => h9) rfl (by decide +kernel) rfl rfl (Nat.le_of_ble_eq_true rfl) dX5_readFact_122 (fun H locs hP hD hS => ?_)
      replace hP : va_P D vwCl (List.flatten [(Tw q cA (upd xf 2 ((xf 2) + 1)) xs (.ref (qq 0))), (Chw qq cA cif cig)]) H := hP
      replace hD : va_D A (List.flatten [(Tw q cA (upd xf 2 ((xf 2) + 1)) xs (.ref (qq 0))), (Chw qq cA cif cig)]) := hD
      refine lv_aload_n hx hb dX5_readFact_125 rfl (lv_at hl 1 rfl) ?_
      obtain ⟨r2q, hq3, hf⟩ := b1_of hf
      refine callVI (As := []) (rest := []) (wr := segpick [(Tw q cA (upd xf 2 ((xf 2) + 1)) xs (.ref (qq 0))), (Chw qq cA cif cig)] [1]) C0 (c_X5_ahead q (.ref (qq 0)) (upd xf 2 ((xf 2) + 1)) xs _ hq3) lk_X5_57_X5_ahead rfl hP hD hS (seg_out [(Tw q cA (upd xf 2 ((xf 2) + 1)) xs (.ref (qq 0))), (Chw qq cA cif cig)] [0] [1] 2 rfl (by decide)) 0 5 rfl rfl rfl hl.1 rfl rfl (Nat.le_of_ble_eq_true rfl) dX5_readFact_126 ⟨Nat.zero_le _, Nat.zero_le _⟩ (fun r2 w H locs hw hP hD hS => ?_)
      obtain ⟨e1, e2⟩ := hw
      replace e1 : r2 = r2q := e1
      subst e1
      subst e2
      replace hP : va_P D vwCl (List.flatten [(Tw q cA (upd xf 2 ((xf 2) + 1)) xs (.ref (qq 0))), (Chw qq cA cif cig)]) H := hP.perm (seg_out [(Tw q cA (upd xf 2 ((xf 2) + 1)) xs (.ref (qq 0))), (Chw qq cA cif cig)] [0] [1] 2 rfl (by decide)).symm
      replace hD : va_D A (List.flatten [(Tw q cA (upd xf 2 ((xf 2) + 1)) xs (.ref (qq 0))), (Chw qq cA cif cig)]) := hD.perm (seg_out [(Tw q cA (upd xf 2 ((xf 2) + 1)) xs (.ref (qq 0))), (Chw qq cA cif cig)] [0] [1] 2 rfl (by decide)).symm
      refine lv_istore (lv' := [(4, .int r2), (3, .int t0), (0, .ref (q 0))]) hx hb dX5_readFact_129 hl (by decide) rfl (fun ls hl => ?_)
      refine lv_iload hx hb dX5_readFact_131 (lv_at hl 0 rfl) ?_
      refine lv_bipush (v := 60) hx hb dX5_readFact_133 (by decide) ?_
      refine lv_icmp_eq (tgt := 154) hx hb dX5_readFact_135 (by decide) (fun c4 => ?_) (fun c4 => ?_)
      · replace hf := it_of c4 hf
        exact J154 t0 r2 (upd xf 2 ((xf 2) + 1)) cif cig hf _ _ hP hD hS _ (lv_sub hl [2, 1, 0] rfl)
      · replace hf := ie_of c4 hf
        refine lv_iload hx hb dX5_readFact_138 (lv_at hl 0 rfl) ?_
        refine lv_bipush (v := 61) hx hb dX5_readFact_140 (by decide) ?_
        refine lv_icmp_eq (tgt := 154) hx hb dX5_readFact_142 (by decide) (fun c5 => ?_) (fun c5 => ?_)
        · replace hf := it_of c5 hf
          exact J154 t0 r2 (upd xf 2 ((xf 2) + 1)) cif cig hf _ _ hP hD hS _ (lv_sub hl [2, 1, 0] rfl)
        · replace hf := ie_of c5 hf
          refine lv_iload hx hb dX5_readFact_145 (lv_at hl 0 rfl) ?_
          refine lv_bipush (v := 62) hx hb dX5_readFact_147 (by decide) ?_
          refine lv_icmp_eq (tgt := 154) hx hb dX5_readFact_149 (by decide) (fun c6 => ?_) (fun c6 => ?_)
          · replace hf := it_of c6 hf
            exact J154 t0 r2 (upd xf 2 ((xf 2) + 1)) cif cig hf _ _ hP hD hS _ (lv_sub hl [2, 1, 0] rfl)
          · replace hf := ie_of c6 hf
            refine lv_iconst (v := 0) hx hb dX5_readFact_152 (by decide) ?_
            rw [hQ]
            exact ret_z C0 hP hD hS (by have e := Option.some.inj hf; rw [← e]; exact ⟨rfl, rfl⟩) rfl dX5_readFact_153
    · replace hf := ie_of c1 hf
      refine lv_iconst (v := 0) hx hb dX5_readFact_113 (by decide) ?_
      rw [hQ]
      exact ret_z C0 hP hD hS (by have e := Option.some.inj hf; rw [← e]; exact ⟨rfl, rfl⟩) rfl dX5_readFact_114
  have J93 : ∀ (x2 : Int32) (xf : Nat → Int32) (cif : Nat → Int32) (cig : Nat → Nat → Int32), k_X5_readFact_93 xs x2 xf cif cig = some o → ∀ (H : Heap) (locs : List Loc), va_P D vwCl (List.flatten [(Tw q cA xf xs (.ref (qq 0))), (Chw qq cA cif cig)]) H → va_D A (List.flatten [(Tw q cA xf xs (.ref (qq 0))), (Chw qq cA cif cig)]) → va_S A s.heap H locs → ∀ ls : Array Slot, lv_has ls 6 [(0, .ref (q 0)), (2, .int x2)] → W p l e (RMx 13 298 0 0) s m args below meth c H locs 0 0 Q (F0 m 93 ls []) := by
    intro  x2 xf cif cig hf H locs hP hD hS ls hl
    unfold k_X5_readFact_93 at hf
    refine lv_iload_n hx hb dX5_readFact_93 rfl (lv_at hl 1 rfl) ?_
    refine lv_if_ge (tgt := 101) hx hb dX5_readFact_94 (by decide) (fun c1 => ?_) (fun c1 => ?_)
    · replace hf := it_of c1 hf
      refine va_ldcS hx hb hown hStr.2.2.2.2.2.2.1 dX5_readFact_101 ?_
      refine lv_iload_n hx hb dX5_readFact_103 rfl (lv_at hl 1 rfl) ?_
      refine lv_i2c (v := ((x2.toUInt32 % 65536).toInt32)) hx hb dX5_readFact_104 rfl ?_
      obtain ⟨r2q, hq3, hf⟩ := b1_of hf
      refine callVIs (As := [.int ((x2.toUInt32 % 65536).toInt32)]) (rest := []) (wr := (List.flatten [(Tw q cA xf xs (.ref (qq 0))), (Chw qq cA cif cig)])) C0 (c_J0_indexOf_0f7a4 3 ((x2.toUInt32 % 65536).toInt32) (by decide) _ hq3) lk_X5_85_J0_indexOf_0f7a4 rfl hStr hP hD hS (List.Perm.refl _) (vk_recv hStr.1 (by decide) hS) hl.1 rfl rfl (Nat.le_of_ble_eq_true rfl) dX5_readFact_105 ⟨Nat.zero_le _, Nat.zero_le _⟩ (fun r2 w H locs hw hP hD hS => ?_)
      obtain ⟨e1, e2⟩ := hw
      replace e1 : r2 = r2q := e1
      subst e1
      subst e2
      replace hP : va_P D vwCl (List.flatten [(Tw q cA xf xs (.ref (qq 0))), (Chw qq cA cif cig)]) H := hP
      replace hD : va_D A (List.flatten [(Tw q cA xf xs (.ref (qq 0))), (Chw qq cA cif cig)]) := hD
      exact J108 r2 xf cif cig hf _ _ hP hD hS _ (lv_sub hl [0] rfl)
    · replace hf := ie_of c1 hf
      refine lv_iconst (v := (-1)) hx hb dX5_readFact_97 (by decide) ?_
      refine lv_goto (tgt := 108) hx hb dX5_readFact_98 (by decide) ?_
      exact J108 (-1) xf cif cig hf _ _ hP hD hS _ (lv_sub hl [0] rfl)
  have J17 : ∀ (x2 : Int32) (xf : Nat → Int32) (cif : Nat → Int32) (cig : Nat → Nat → Int32), k_X5_readFact_17 kF a1 xs x2 xf cif cig = some o → ∀ (H : Heap) (locs : List Loc), va_P D vwCl (List.flatten [(Tw q cA xf xs (.ref (qq 0))), (Chw qq cA cif cig)]) H → va_D A (List.flatten [(Tw q cA xf xs (.ref (qq 0))), (Chw qq cA cif cig)]) → va_S A s.heap H locs → ∀ ls : Array Slot, lv_has ls 6 [(0, .ref (q 0)), (1, .int a1), (2, .int x2)] → W p l e (RMx 13 298 0 0) s m args below meth c H locs 0 0 Q (F0 m 17 ls []) := by
    intro  x2 xf cif cig hf H locs hP hD hS ls hl
    unfold k_X5_readFact_17 at hf
    refine lv_iload_n hx hb dX5_readFact_17 rfl (lv_at hl 1 rfl) ?_
    refine lv_iconst (v := 4) hx hb dX5_readFact_18 (by decide) ?_
    refine lv_icmp_ge (tgt := 93) hx hb dX5_readFact_19 (by decide) (fun c1 => ?_) (fun c1 => ?_)
    · replace hf := it_of c1 hf
      exact J93 x2 xf cif cig hf _ _ hP hD hS _ (lv_sub hl [0, 2] rfl)
    · replace hf := ie_of c1 hf
      refine lv_aload_n hx hb dX5_readFact_22 rfl (lv_at hl 0 rfl) ?_
      refine lv_dup hx hb dX5_readFact_23 rfl ?_
      refine va_get (D := D) (ci := 5) (v := .int (xf 2)) (C := RX5) (T := TX5) (N := 4) hx hb hts fw_5 hown hK hP 0 rfl rfl 2 (by decide) (hts _ m_fieldLink_P_Text_28_P_Text_at_I) (fun _ h9 => h9) rfl dX5_readFact_24 ?_
      refine lv_iconst (v := 1) hx hb dX5_readFact_27 (by decide) ?_
      refine lv_iadd hx hb dX5_readFact_28 ?_
      refine va_put (D := D) (ci := 5) (v := .int ((xf 2) + 1)) (ty := .int) (C := RX5) (T := TX5) (N := 4) hx hb hts fw_5 tyX5 tyX5_ok nmX5 hown hK hP hD hS 0 rfl rfl 2 (by decide) (hts _ m_fieldLink_P_Text_28_P_Text_at_I) (fun _ h9 => h9) rfl (by decide +kernel) rfl rfl (Nat.le_of_ble_eq_true rfl) dX5_readFact_29 (fun H locs hP hD hS => ?_)
      replace hP : va_P D vwCl (List.flatten [(Tw q cA (upd xf 2 ((xf 2) + 1)) xs (.ref (qq 0))), (Chw qq cA cif cig)]) H := hP
      replace hD : va_D A (List.flatten [(Tw q cA (upd xf 2 ((xf 2) + 1)) xs (.ref (qq 0))), (Chw qq cA cif cig)]) := hD
      refine lv_iload_n hx hb dX5_readFact_32 rfl (lv_at hl 2 rfl) ?_
      refine lv_bipush (v := 33) hx hb dX5_readFact_33 (by decide) ?_
      refine lv_icmp_ne (tgt := 68) hx hb dX5_readFact_35 (by decide) (fun c2 => ?_) (fun c2 => ?_)
      · replace hf := ie_of c2 hf
        refine lv_aload_n hx hb dX5_readFact_68 rfl (lv_at hl 0 rfl) ?_
        refine lv_iload_n hx hb dX5_readFact_69 rfl (lv_at hl 1 rfl) ?_
        refine lv_iconst (v := 1) hx hb dX5_readFact_70 (by decide) ?_
        refine lv_iadd hx hb dX5_readFact_71 ?_
        obtain ⟨r3q, xf_4, cif_5, cig_6, hq7, hf⟩ := b4_of hf
        refine callVIs (As := [.int (a1 + 1)]) (rest := []) (wr := []) C0 (c_X5_readEither_3 q qq (upd xf 2 ((xf 2) + 1)) xs cif cig (a1 + 1) _ (by rw [← hkF]; exact hq7)) lk_X5_50_X5_readEither rfl hStr hP hD hS perm_nil (recv_w (q0 := 0) (ci := 5) C0 hP rfl rfl rfl) hl.1 rfl rfl (Nat.le_of_ble_eq_true rfl) dX5_readFact_72 ⟨Nat.zero_le _, Nat.zero_le _⟩ (fun r3 w H locs hw hP hD hS => ?_)
        obtain ⟨⟨e1, e2⟩, z8⟩ := hw
        replace e1 : r3 = r3q := e1
        subst e1
        subst e2
        replace hP : va_P D vwCl (List.flatten [(Tw q cA xf_4 xs (.ref (qq 0))), (Chw qq cA cif_5 cig_6)]) H := hP.nil
        replace hD : va_D A (List.flatten [(Tw q cA xf_4 xs (.ref (qq 0))), (Chw qq cA cif_5 cig_6)]) := hD.nil
        refine lv_if_eq (tgt := 91) hx hb dX5_readFact_75 (by decide) (fun c9 => ?_) (fun c9 => ?_)
        · replace hf := it_of c9 hf
          refine lv_iconst (v := 0) hx hb dX5_readFact_91 (by decide) ?_
          rw [hQ]
          exact ret_z C0 hP hD hS (by have e := Option.some.inj hf; rw [← e]; exact ⟨rfl, rfl⟩) rfl dX5_readFact_92
        · replace hf := ie_of c9 hf
          refine lv_aload_n hx hb dX5_readFact_78 rfl (lv_at hl 0 rfl) ?_
          refine lv_bipush (v := 41) hx hb dX5_readFact_79 (by decide) ?_
          obtain ⟨r10q, xf_11, hq12, hf⟩ := b2_of hf
          refine callVI (As := [.int 41]) (rest := []) (wr := segpick [(Tw q cA xf_4 xs (.ref (qq 0))), (Chw qq cA cif_5 cig_6)] [1]) C0 (c_X5_take q (.ref (qq 0)) xf_4 xs 41 _ hq12) lk_X5_35_X5_take rfl hP hD hS (seg_out [(Tw q cA xf_4 xs (.ref (qq 0))), (Chw qq cA cif_5 cig_6)] [0] [1] 2 rfl (by decide)) 0 5 rfl rfl rfl hl.1 rfl rfl (Nat.le_of_ble_eq_true rfl) dX5_readFact_81 ⟨Nat.zero_le _, Nat.zero_le _⟩ (fun r10 w H locs hw hP hD hS => ?_)
          obtain ⟨⟨e1, e2⟩, z13⟩ := hw
          replace e1 : r10 = r10q := e1
          subst e1
          subst e2
          replace hP : va_P D vwCl (List.flatten [(Tw q cA xf_11 xs (.ref (qq 0))), (Chw qq cA cif_5 cig_6)]) H := hP.perm (seg_out [(Tw q cA xf_11 xs (.ref (qq 0))), (Chw qq cA cif_5 cig_6)] [0] [1] 2 rfl (by decide)).symm
          replace hD : va_D A (List.flatten [(Tw q cA xf_11 xs (.ref (qq 0))), (Chw qq cA cif_5 cig_6)]) := hD.perm (seg_out [(Tw q cA xf_11 xs (.ref (qq 0))), (Chw qq cA cif_5 cig_6)] [0] [1] 2 rfl (by decide)).symm
          refine lv_if_eq (tgt := 91) hx hb dX5_readFact_84 (by decide) (fun c14 => ?_) (fun c14 => ?_)
          · replace hf := it_of c14 hf
            refine lv_iconst (v := 0) hx hb dX5_readFact_91 (by decide) ?_
            rw [hQ]
            exact ret_z C0 hP hD hS (by have e := Option.some.inj hf; rw [← e]; exact ⟨rfl, rfl⟩) rfl dX5_readFact_92
          · replace hf := ie_of c14 hf
            refine lv_iconst (v := 1) hx hb dX5_readFact_87 (by decide) ?_
            refine lv_goto (tgt := 92) hx hb dX5_readFact_88 (by decide) ?_
            rw [hQ]
            exact ret_z C0 hP hD hS (by have e := Option.some.inj hf; rw [← e]; exact ⟨rfl, rfl⟩) rfl dX5_readFact_92
      · replace hf := it_of c2 hf
        refine lv_aload_n hx hb dX5_readFact_38 rfl (lv_at hl 0 rfl) ?_
        refine lv_iload_n hx hb dX5_readFact_39 rfl (lv_at hl 1 rfl) ?_
        refine lv_iconst (v := 1) hx hb dX5_readFact_40 (by decide) ?_
        refine lv_iadd hx hb dX5_readFact_41 ?_
        obtain ⟨r15q, xf_16, cif_17, cig_18, hq19, hf⟩ := b4_of hf
        refine callVIs (As := [.int (a1 + 1)]) (rest := []) (wr := []) C0 (c_X5_readFact_3 q qq (upd xf 2 ((xf 2) + 1)) xs cif cig (a1 + 1) _ (by rw [← hkF]; exact hq19)) lk_X5_80_X5_readFact rfl hStr hP hD hS perm_nil (recv_w (q0 := 0) (ci := 5) C0 hP rfl rfl rfl) hl.1 rfl rfl (Nat.le_of_ble_eq_true rfl) dX5_readFact_42 ⟨Nat.zero_le _, Nat.zero_le _⟩ (fun r15 w H locs hw hP hD hS => ?_)
        obtain ⟨⟨e1, e2⟩, z20⟩ := hw
        replace e1 : r15 = r15q := e1
        subst e1
        subst e2
        replace hP : va_P D vwCl (List.flatten [(Tw q cA xf_16 xs (.ref (qq 0))), (Chw qq cA cif_17 cig_18)]) H := hP.nil
        replace hD : va_D A (List.flatten [(Tw q cA xf_16 xs (.ref (qq 0))), (Chw qq cA cif_17 cig_18)]) := hD.nil
        refine lv_if_eq (tgt := 64) hx hb dX5_readFact_45 (by decide) (fun c21 => ?_) (fun c21 => ?_)
        · replace hf := it_of c21 hf
          refine lv_iconst (v := 0) hx hb dX5_readFact_64 (by decide) ?_
          refine lv_goto (tgt := 92) hx hb dX5_readFact_65 (by decide) ?_
          rw [hQ]
          exact ret_z C0 hP hD hS (by have e := Option.some.inj hf; rw [← e]; exact ⟨rfl, rfl⟩) rfl dX5_readFact_92
        · replace hf := ie_of c21 hf
          refine lv_aload_n hx hb dX5_readFact_48 rfl (lv_at hl 0 rfl) ?_
          refine va_get (D := D) (ci := 5) (v := .ref (qq 0)) (C := RX5) (T := TX5) (N := 4) hx hb hts fw_5 hown hK hP 0 rfl rfl 3 (by decide) (hts _ m_fieldLink_P_Text_19_P_Text_charter_LP_Charter) (fun _ h9 => h9) rfl dX5_readFact_49 ?_
          refine lv_bipush (v := 6) hx hb dX5_readFact_52 (by decide) ?_
          obtain ⟨r22q, cif_23, cig_24, hq25, hf⟩ := b3_of hf
          refine callVI (As := [.int 6]) (rest := []) (wr := segpick [(Tw q cA xf_16 xs (.ref (qq 0))), (Chw qq cA cif_17 cig_18)] [0]) C0 (c_X2_addStep qq cif_17 cig_18 6 _ hq25) lk_X5_77_X2_addStep rfl hP hD hS (seg_out [(Tw q cA xf_16 xs (.ref (qq 0))), (Chw qq cA cif_17 cig_18)] [1] [0] 2 rfl (by decide)) 2 2 rfl rfl rfl hl.1 rfl rfl (Nat.le_of_ble_eq_true rfl) dX5_readFact_54 ⟨Nat.zero_le _, Nat.zero_le _⟩ (fun r22 w H locs hw hP hD hS => ?_)
          obtain ⟨⟨e1, e2⟩, z26⟩ := hw
          replace e1 : r22 = r22q := e1
          subst e1
          subst e2
          replace hP : va_P D vwCl (List.flatten [(Tw q cA xf_16 xs (.ref (qq 0))), (Chw qq cA cif_23 cig_24)]) H := hP.perm (seg_out [(Tw q cA xf_16 xs (.ref (qq 0))), (Chw qq cA cif_23 cig_24)] [1] [0] 2 rfl (by decide)).symm
          replace hD : va_D A (List.flatten [(Tw q cA xf_16 xs (.ref (qq 0))), (Chw qq cA cif_23 cig_24)]) := hD.perm (seg_out [(Tw q cA xf_16 xs (.ref (qq 0))), (Chw qq cA cif_23 cig_24)] [1] [0] 2 rfl (by decide)).symm
          refine lv_if_eq (tgt := 64) hx hb dX5_readFact_57 (by decide) (fun c27 => ?_) (fun c27 => ?_)
          · replace hf := it_of c27 hf
            refine lv_iconst (v := 0) hx hb dX5_readFact_64 (by decide) ?_
            refine lv_goto (tgt := 92) hx hb dX5_readFact_65 (by decide) ?_
            rw [hQ]
            exact ret_z C0 hP hD hS (by have e := Option.some.inj hf; rw [← e]; exact ⟨rfl, rfl⟩) rfl dX5_readFact_92
          · replace hf := ie_of c27 hf
            refine lv_iconst (v := 1) hx hb dX5_readFact_60 (by decide) ?_
            refine lv_goto (tgt := 92) hx hb dX5_readFact_61 (by decide) ?_
            rw [hQ]
            exact ret_z C0 hP hD hS (by have e := Option.some.inj hf; rw [← e]; exact ⟨rfl, rfl⟩) rfl dX5_readFact_92
  replace hf : k_X5_readFact_g kF a1 xf0 xs cif0 cig0 = some o := by rw [hkF]; exact hf
  unfold k_X5_readFact_g at hf
  refine lv_aload_n hx hb dX5_readFact_0 rfl (lv_at hl 0 rfl) ?_
  obtain ⟨r1q, hq2, hf⟩ := b1_of hf
  refine callVI (As := []) (rest := []) (wr := segpick [(Tw q cA xf0 xs (.ref (qq 0))), (Chw qq cA cif0 cig0)] [1]) C0 (c_X5_ahead q (.ref (qq 0)) xf0 xs _ hq2) lk_X5_57_X5_ahead rfl hP hD hS (seg_out [(Tw q cA xf0 xs (.ref (qq 0))), (Chw qq cA cif0 cig0)] [0] [1] 2 rfl (by decide)) 0 5 rfl rfl rfl hl.1 rfl rfl (Nat.le_of_ble_eq_true rfl) dX5_readFact_1 ⟨Nat.zero_le _, Nat.zero_le _⟩ (fun r1 w H locs hw hP hD hS => ?_)
  obtain ⟨e1, e2⟩ := hw
  replace e1 : r1 = r1q := e1
  subst e1
  subst e2
  replace hP : va_P D vwCl (List.flatten [(Tw q cA xf0 xs (.ref (qq 0))), (Chw qq cA cif0 cig0)]) H := hP.perm (seg_out [(Tw q cA xf0 xs (.ref (qq 0))), (Chw qq cA cif0 cig0)] [0] [1] 2 rfl (by decide)).symm
  replace hD : va_D A (List.flatten [(Tw q cA xf0 xs (.ref (qq 0))), (Chw qq cA cif0 cig0)]) := hD.perm (seg_out [(Tw q cA xf0 xs (.ref (qq 0))), (Chw qq cA cif0 cig0)] [0] [1] 2 rfl (by decide)).symm
  refine lv_istore_n (lv' := [(2, .int r1), (0, .ref (q 0)), (1, .int a1)]) hx hb dX5_readFact_4 rfl hl (by decide) rfl (fun ls hl => ?_)
  refine lv_iload_n hx hb dX5_readFact_5 rfl (lv_at hl 0 rfl) ?_
  refine lv_bipush (v := 33) hx hb dX5_readFact_6 (by decide) ?_
  refine lv_icmp_eq (tgt := 17) hx hb dX5_readFact_8 (by decide) (fun c3 => ?_) (fun c3 => ?_)
  · replace hf := it_of c3 hf
    exact J17 r1 xf0 cif0 cig0 hf _ _ hP hD hS _ (lv_sub hl [1, 2, 0] rfl)
  · replace hf := ie_of c3 hf
    refine lv_iload_n hx hb dX5_readFact_11 rfl (lv_at hl 0 rfl) ?_
    refine lv_bipush (v := 40) hx hb dX5_readFact_12 (by decide) ?_
    refine lv_icmp_ne (tgt := 93) hx hb dX5_readFact_14 (by decide) (fun c4 => ?_) (fun c4 => ?_)
    · replace hf := ie_of c4 hf
      exact J93 r1 xf0 cif0 cig0 hf _ _ hP hD hS _ (lv_sub hl [1, 0] rfl)
    · replace hf := it_of c4 hf
      exact J17 r1 xf0 cif0 cig0 hf _ _ hP hD hS _ (lv_sub hl [1, 2, 0] rfl)
set_option maxHeartbeats 4000000 in
set_option maxRecDepth 100000 in
theorem c_X5_readBoth_4 {l : Launch} {D : va_G} {cA : Nat → ClassId} {adK adV : Nat → Nat} (q : Nat → Nat) (qq : Nat → Nat) (xf0 : Nat → Int32) (xs : Nat → Int32) (cif0 : Nat → Int32) (cig0 : Nat → Nat → Int32) (a1 : Int32) (o : Int32 × (Nat → Int32) × (Nat → Int32) × (Nat → Nat → Int32)) (hf : k_X5_readBoth_g (k_X5_readFact 4) a1 xf0 xs cif0 cig0 = some o) : CIs l D cA adK adV yX5_readBoth cX5_readBoth 3 (some .boolean) 14 323 [.ref (q 0), .int a1] (List.flatten [(Tw q cA xf0 xs (.ref (qq 0))), (Chw qq cA cif0 cig0)]) 0 0 (fun r w => (r = o.1 ∧ w = (List.flatten [(Tw q cA o.2.1 xs (.ref (qq 0))), (Chw qq cA o.2.2.1 o.2.2.2)])) ∧ narrow .boolean (.int r) = .int r) := by
  intro sz
  refine met_start_s (by decide) rfl ?_
  intro p e s m args below meth c ls hsz hargs C0 hname hStr hP hD hS hl
  generalize hAe : va_A (List.flatten [(Tw q cA xf0 xs (.ref (qq 0))), (Chw qq cA cif0 cig0)]) sz = A at C0 hStr hD hS ⊢
  obtain ⟨hx, hb, hr, hml, hown, hts, hlk, hK, hA⟩ := id C0
  replace hl : lv_has ls 3 [(0, .ref (q 0)), (1, .int a1)] := hl
  obtain ⟨Q, hQ⟩ : ∃ Q : State → Prop, Q = QI below D A (fun r w => (r = o.1 ∧ w = (List.flatten [(Tw q cA o.2.1 xs (.ref (qq 0))), (Chw qq cA o.2.2.1 o.2.2.2)])) ∧ narrow .boolean (.int r) = .int r) args s 0 0 := ⟨_, rfl⟩
  refine cast (by rw [hQ]) (?_ : W p l e (RMx 14 323 0 0) s m args below meth c s.heap [] 0 0 Q (F0 m 0 ls []))
  obtain ⟨kF, hkF⟩ : ∃ z, z = k_X5_readFact 4 := ⟨_, rfl⟩
  have J34 : ∀ (kc2 : Int32 → (Nat → Int32) → (Nat → Int32) → (Nat → Nat → Int32) → Option (Int32 × (Nat → Int32) × (Nat → Int32) × (Nat → Nat → Int32))) (hkc2 : ∀ (x2 : Int32) (xf : Nat → Int32) (cif : Nat → Int32) (cig : Nat → Nat → Int32), kc2 x2 xf cif cig = some o → ∀ (H : Heap) (locs : List Loc), va_P D vwCl (List.flatten [(Tw q cA xf xs (.ref (qq 0))), (Chw qq cA cif cig)]) H → va_D A (List.flatten [(Tw q cA xf xs (.ref (qq 0))), (Chw qq cA cif cig)]) → va_S A s.heap H locs → ∀ ls : Array Slot, lv_has ls 3 [(0, .ref (q 0)), (1, .int a1), (2, .int x2)] → W p l e (RMx 14 323 0 0) s m args below meth c H locs 0 0 Q (F0 m 2 ls [])), ∀ (x2 : Int32) (xf : Nat → Int32) (cif : Nat → Int32) (cig : Nat → Nat → Int32), k_X5_readBoth_34 xs kc2 x2 xf cif cig = some o → ∀ (H : Heap) (locs : List Loc), va_P D vwCl (List.flatten [(Tw q cA xf xs (.ref (qq 0))), (Chw qq cA cif cig)]) H → va_D A (List.flatten [(Tw q cA xf xs (.ref (qq 0))), (Chw qq cA cif cig)]) → va_S A s.heap H locs → ∀ ls : Array Slot, lv_has ls 3 [(0, .ref (q 0)), (1, .int a1), (2, .int x2)] → W p l e (RMx 14 323 0 0) s m args below meth c H locs 0 0 Q (F0 m 34 ls []) := by
    intro kc2 hkc2 x2 xf cif cig hf H locs hP hD hS ls hl
    unfold k_X5_readBoth_34 at hf
    refine lv_aload_n hx hb dX5_readBoth_34 rfl (lv_at hl 0 rfl) ?_
    refine lv_bipush (v := 38) hx hb dX5_readBoth_35 (by decide) ?_
    obtain ⟨r1q, xf_2, hq3, hf⟩ := b2_of hf
    refine callVI (As := [.int 38]) (rest := []) (wr := segpick [(Tw q cA xf xs (.ref (qq 0))), (Chw qq cA cif cig)] [1]) C0 (c_X5_take q (.ref (qq 0)) xf xs 38 _ hq3) lk_X5_35_X5_take rfl hP hD hS (seg_out [(Tw q cA xf xs (.ref (qq 0))), (Chw qq cA cif cig)] [0] [1] 2 rfl (by decide)) 0 5 rfl rfl rfl hl.1 rfl rfl (Nat.le_of_ble_eq_true rfl) dX5_readBoth_37 ⟨Nat.zero_le _, Nat.zero_le _⟩ (fun r1 w H locs hw hP hD hS => ?_)
    obtain ⟨⟨e1, e2⟩, z4⟩ := hw
    replace e1 : r1 = r1q := e1
    subst e1
    subst e2
    replace hP : va_P D vwCl (List.flatten [(Tw q cA xf_2 xs (.ref (qq 0))), (Chw qq cA cif cig)]) H := hP.perm (seg_out [(Tw q cA xf_2 xs (.ref (qq 0))), (Chw qq cA cif cig)] [0] [1] 2 rfl (by decide)).symm
    replace hD : va_D A (List.flatten [(Tw q cA xf_2 xs (.ref (qq 0))), (Chw qq cA cif cig)]) := hD.perm (seg_out [(Tw q cA xf_2 xs (.ref (qq 0))), (Chw qq cA cif cig)] [0] [1] 2 rfl (by decide)).symm
    refine lv_if_ne (tgt := 45) hx hb dX5_readBoth_40 (by decide) (fun c5 => ?_) (fun c5 => ?_)
    · replace hf := ie_of c5 hf
      refine lv_iinc (v := (x2 + 1)) (lv' := [(2, .int (x2 + 1)), (0, .ref (q 0)), (1, .int a1)]) hx hb dX5_readBoth_45 hl (k := 2) rfl rfl (by decide) rfl (fun ls hl => ?_)
      refine lv_goto (tgt := 2) hx hb dX5_readBoth_48 (by decide) ?_
      exact hkc2 (x2 + 1) xf_2 cif cig hf _ _ hP hD hS _ (lv_sub hl [1, 2, 0] rfl)
    · replace hf := it_of c5 hf
      refine lv_iconst (v := 1) hx hb dX5_readBoth_43 (by decide) ?_
      rw [hQ]
      exact ret_z C0 hP hD hS (by have e := Option.some.inj hf; rw [← e]; exact ⟨rfl, rfl⟩) rfl dX5_readBoth_44
  have J2 : ∀ n : Nat, ∀ (x2 : Int32) (xf : Nat → Int32) (cif : Nat → Int32) (cig : Nat → Nat → Int32), k_X5_readBoth_2 kF a1 xs n x2 xf cif cig = some o → ∀ (H : Heap) (locs : List Loc), va_P D vwCl (List.flatten [(Tw q cA xf xs (.ref (qq 0))), (Chw qq cA cif cig)]) H → va_D A (List.flatten [(Tw q cA xf xs (.ref (qq 0))), (Chw qq cA cif cig)]) → va_S A s.heap H locs → ∀ ls : Array Slot, lv_has ls 3 [(0, .ref (q 0)), (1, .int a1), (2, .int x2)] → W p l e (RMx 14 323 0 0) s m args below meth c H locs 0 0 Q (F0 m 2 ls []) := by
    intro  n
    induction n with
    | zero =>
      intro x2 xf cif cig hf
      rw [k_X5_readBoth_2] at hf
      cases hf
    | succ n ih =>
      intro x2 xf cif cig hf H locs hP hD hS ls hl
      rw [k_X5_readBoth_2] at hf
      refine lv_iload_n hx hb dX5_readBoth_2 rfl (lv_at hl 2 rfl) ?_
      refine lv_bipush (v := 100) hx hb dX5_readBoth_3 (by decide) ?_
      refine lv_icmp_ge (tgt := 51) hx hb dX5_readBoth_5 (by decide) (fun c1 => ?_) (fun c1 => ?_)
      · replace hf := it_of c1 hf
        refine lv_iconst (v := 0) hx hb dX5_readBoth_51 (by decide) ?_
        rw [hQ]
        exact ret_z C0 hP hD hS (by have e := Option.some.inj hf; rw [← e]; exact ⟨rfl, rfl⟩) rfl dX5_readBoth_52
      · replace hf := ie_of c1 hf
        refine lv_aload_n hx hb dX5_readBoth_8 rfl (lv_at hl 0 rfl) ?_
        refine lv_iload_n hx hb dX5_readBoth_9 rfl (lv_at hl 1 rfl) ?_
        obtain ⟨r2q, xf_3, cif_4, cig_5, hq6, hf⟩ := b4_of hf
        refine callVIs (As := [.int a1]) (rest := []) (wr := []) C0 (c_X5_readFact_4 q qq xf xs cif cig a1 _ (by rw [← hkF]; exact hq6)) lk_X5_80_X5_readFact rfl hStr hP hD hS perm_nil (recv_w (q0 := 0) (ci := 5) C0 hP rfl rfl rfl) hl.1 rfl rfl (Nat.le_of_ble_eq_true rfl) dX5_readBoth_10 ⟨Nat.zero_le _, Nat.zero_le _⟩ (fun r2 w H locs hw hP hD hS => ?_)
        obtain ⟨⟨e1, e2⟩, z7⟩ := hw
        replace e1 : r2 = r2q := e1
        subst e1
        subst e2
        replace hP : va_P D vwCl (List.flatten [(Tw q cA xf_3 xs (.ref (qq 0))), (Chw qq cA cif_4 cig_5)]) H := hP.nil
        replace hD : va_D A (List.flatten [(Tw q cA xf_3 xs (.ref (qq 0))), (Chw qq cA cif_4 cig_5)]) := hD.nil
        refine lv_if_eq (tgt := 32) hx hb dX5_readBoth_13 (by decide) (fun c8 => ?_) (fun c8 => ?_)
        · replace hf := it_of c8 hf
          refine lv_iconst (v := 0) hx hb dX5_readBoth_32 (by decide) ?_
          rw [hQ]
          exact ret_z C0 hP hD hS (by have e := Option.some.inj hf; rw [← e]; exact ⟨rfl, rfl⟩) rfl dX5_readBoth_33
        · replace hf := ie_of c8 hf
          refine lv_iload_n hx hb dX5_readBoth_16 rfl (lv_at hl 2 rfl) ?_
          refine lv_if_le (tgt := 34) hx hb dX5_readBoth_17 (by decide) (fun c9 => ?_) (fun c9 => ?_)
          · replace hf := it_of c9 hf
            exact J34 _ ih x2 xf_3 cif_4 cig_5 hf _ _ hP hD hS _ (lv_sub hl [0, 1, 2] rfl)
          · replace hf := ie_of c9 hf
            refine lv_aload_n hx hb dX5_readBoth_20 rfl (lv_at hl 0 rfl) ?_
            refine va_get (D := D) (ci := 5) (v := .ref (qq 0)) (C := RX5) (T := TX5) (N := 4) hx hb hts fw_5 hown hK hP 0 rfl rfl 3 (by decide) (hts _ m_fieldLink_P_Text_19_P_Text_charter_LP_Charter) (fun _ h9 => h9) rfl dX5_readBoth_21 ?_
            refine lv_bipush (v := 7) hx hb dX5_readBoth_24 (by decide) ?_
            obtain ⟨r10q, cif_11, cig_12, hq13, hf⟩ := b3_of hf
            refine callVI (As := [.int 7]) (rest := []) (wr := segpick [(Tw q cA xf_3 xs (.ref (qq 0))), (Chw qq cA cif_4 cig_5)] [0]) C0 (c_X2_addStep qq cif_4 cig_5 7 _ hq13) lk_X5_77_X2_addStep rfl hP hD hS (seg_out [(Tw q cA xf_3 xs (.ref (qq 0))), (Chw qq cA cif_4 cig_5)] [1] [0] 2 rfl (by decide)) 2 2 rfl rfl rfl hl.1 rfl rfl (Nat.le_of_ble_eq_true rfl) dX5_readBoth_26 ⟨Nat.zero_le _, Nat.zero_le _⟩ (fun r10 w H locs hw hP hD hS => ?_)
            obtain ⟨⟨e1, e2⟩, z14⟩ := hw
            replace e1 : r10 = r10q := e1
            subst e1
            subst e2
            replace hP : va_P D vwCl (List.flatten [(Tw q cA xf_3 xs (.ref (qq 0))), (Chw qq cA cif_11 cig_12)]) H := hP.perm (seg_out [(Tw q cA xf_3 xs (.ref (qq 0))), (Chw qq cA cif_11 cig_12)] [1] [0] 2 rfl (by decide)).symm
            replace hD : va_D A (List.flatten [(Tw q cA xf_3 xs (.ref (qq 0))), (Chw qq cA cif_11 cig_12)]) := hD.perm (seg_out [(Tw q cA xf_3 xs (.ref (qq 0))), (Chw qq cA cif_11 cig_12)] [1] [0] 2 rfl (by decide)).symm
            refine lv_if_ne (tgt := 34) hx hb dX5_readBoth_29 (by decide) (fun c15 => ?_) (fun c15 => ?_)
            · replace hf := ie_of c15 hf
              exact J34 _ ih x2 xf_3 cif_11 cig_12 hf _ _ hP hD hS _ (lv_sub hl [0, 1, 2] rfl)
            · replace hf := it_of c15 hf
              refine lv_iconst (v := 0) hx hb dX5_readBoth_32 (by decide) ?_
              rw [hQ]
              exact ret_z C0 hP hD hS (by have e := Option.some.inj hf; rw [← e]; exact ⟨rfl, rfl⟩) rfl dX5_readBoth_33
  replace hf : k_X5_readBoth_g kF a1 xf0 xs cif0 cig0 = some o := by rw [hkF]; exact hf
  unfold k_X5_readBoth_g at hf
  refine lv_iconst (v := 0) hx hb dX5_readBoth_0 (by decide) ?_
  refine lv_istore_n (lv' := [(2, .int 0), (0, .ref (q 0)), (1, .int a1)]) hx hb dX5_readBoth_1 rfl hl (by decide) rfl (fun ls hl => ?_)
  exact J2 100000 0 xf0 cif0 cig0 hf _ _ hP hD hS _ (lv_sub hl [1, 2, 0] rfl)
set_option maxHeartbeats 4000000 in
set_option maxRecDepth 100000 in
theorem c_X5_readEither_4 {l : Launch} {D : va_G} {cA : Nat → ClassId} {adK adV : Nat → Nat} (q : Nat → Nat) (qq : Nat → Nat) (xf0 : Nat → Int32) (xs : Nat → Int32) (cif0 : Nat → Int32) (cig0 : Nat → Nat → Int32) (a1 : Int32) (o : Int32 × (Nat → Int32) × (Nat → Int32) × (Nat → Nat → Int32)) (hf : k_X5_readEither_g (k_X5_readFact 4) a1 xf0 xs cif0 cig0 = some o) : CIs l D cA adK adV yX5_readEither cX5_readEither 3 (some .boolean) 15 345 [.ref (q 0), .int a1] (List.flatten [(Tw q cA xf0 xs (.ref (qq 0))), (Chw qq cA cif0 cig0)]) 0 0 (fun r w => (r = o.1 ∧ w = (List.flatten [(Tw q cA o.2.1 xs (.ref (qq 0))), (Chw qq cA o.2.2.1 o.2.2.2)])) ∧ narrow .boolean (.int r) = .int r) := by
  intro sz
  refine met_start_s (by decide) rfl ?_
  intro p e s m args below meth c ls hsz hargs C0 hname hStr hP hD hS hl
  generalize hAe : va_A (List.flatten [(Tw q cA xf0 xs (.ref (qq 0))), (Chw qq cA cif0 cig0)]) sz = A at C0 hStr hD hS ⊢
  obtain ⟨hx, hb, hr, hml, hown, hts, hlk, hK, hA⟩ := id C0
  replace hl : lv_has ls 3 [(0, .ref (q 0)), (1, .int a1)] := hl
  obtain ⟨Q, hQ⟩ : ∃ Q : State → Prop, Q = QI below D A (fun r w => (r = o.1 ∧ w = (List.flatten [(Tw q cA o.2.1 xs (.ref (qq 0))), (Chw qq cA o.2.2.1 o.2.2.2)])) ∧ narrow .boolean (.int r) = .int r) args s 0 0 := ⟨_, rfl⟩
  refine cast (by rw [hQ]) (?_ : W p l e (RMx 15 345 0 0) s m args below meth c s.heap [] 0 0 Q (F0 m 0 ls []))
  obtain ⟨kF, hkF⟩ : ∃ z, z = k_X5_readFact 4 := ⟨_, rfl⟩
  have J34 : ∀ (kc2 : Int32 → (Nat → Int32) → (Nat → Int32) → (Nat → Nat → Int32) → Option (Int32 × (Nat → Int32) × (Nat → Int32) × (Nat → Nat → Int32))) (hkc2 : ∀ (x2 : Int32) (xf : Nat → Int32) (cif : Nat → Int32) (cig : Nat → Nat → Int32), kc2 x2 xf cif cig = some o → ∀ (H : Heap) (locs : List Loc), va_P D vwCl (List.flatten [(Tw q cA xf xs (.ref (qq 0))), (Chw qq cA cif cig)]) H → va_D A (List.flatten [(Tw q cA xf xs (.ref (qq 0))), (Chw qq cA cif cig)]) → va_S A s.heap H locs → ∀ ls : Array Slot, lv_has ls 3 [(0, .ref (q 0)), (1, .int a1), (2, .int x2)] → W p l e (RMx 15 345 0 0) s m args below meth c H locs 0 0 Q (F0 m 2 ls [])), ∀ (x2 : Int32) (xf : Nat → Int32) (cif : Nat → Int32) (cig : Nat → Nat → Int32), k_X5_readEither_34 xs kc2 x2 xf cif cig = some o → ∀ (H : Heap) (locs : List Loc), va_P D vwCl (List.flatten [(Tw q cA xf xs (.ref (qq 0))), (Chw qq cA cif cig)]) H → va_D A (List.flatten [(Tw q cA xf xs (.ref (qq 0))), (Chw qq cA cif cig)]) → va_S A s.heap H locs → ∀ ls : Array Slot, lv_has ls 3 [(0, .ref (q 0)), (1, .int a1), (2, .int x2)] → W p l e (RMx 15 345 0 0) s m args below meth c H locs 0 0 Q (F0 m 34 ls []) := by
    intro kc2 hkc2 x2 xf cif cig hf H locs hP hD hS ls hl
    unfold k_X5_readEither_34 at hf
    refine lv_aload_n hx hb dX5_readEither_34 rfl (lv_at hl 0 rfl) ?_
    refine lv_bipush (v := 124) hx hb dX5_readEither_35 (by decide) ?_
    obtain ⟨r1q, xf_2, hq3, hf⟩ := b2_of hf
    refine callVI (As := [.int 124]) (rest := []) (wr := segpick [(Tw q cA xf xs (.ref (qq 0))), (Chw qq cA cif cig)] [1]) C0 (c_X5_take q (.ref (qq 0)) xf xs 124 _ hq3) lk_X5_35_X5_take rfl hP hD hS (seg_out [(Tw q cA xf xs (.ref (qq 0))), (Chw qq cA cif cig)] [0] [1] 2 rfl (by decide)) 0 5 rfl rfl rfl hl.1 rfl rfl (Nat.le_of_ble_eq_true rfl) dX5_readEither_37 ⟨Nat.zero_le _, Nat.zero_le _⟩ (fun r1 w H locs hw hP hD hS => ?_)
    obtain ⟨⟨e1, e2⟩, z4⟩ := hw
    replace e1 : r1 = r1q := e1
    subst e1
    subst e2
    replace hP : va_P D vwCl (List.flatten [(Tw q cA xf_2 xs (.ref (qq 0))), (Chw qq cA cif cig)]) H := hP.perm (seg_out [(Tw q cA xf_2 xs (.ref (qq 0))), (Chw qq cA cif cig)] [0] [1] 2 rfl (by decide)).symm
    replace hD : va_D A (List.flatten [(Tw q cA xf_2 xs (.ref (qq 0))), (Chw qq cA cif cig)]) := hD.perm (seg_out [(Tw q cA xf_2 xs (.ref (qq 0))), (Chw qq cA cif cig)] [0] [1] 2 rfl (by decide)).symm
    refine lv_if_ne (tgt := 45) hx hb dX5_readEither_40 (by decide) (fun c5 => ?_) (fun c5 => ?_)
    · replace hf := ie_of c5 hf
      refine lv_iinc (v := (x2 + 1)) (lv' := [(2, .int (x2 + 1)), (0, .ref (q 0)), (1, .int a1)]) hx hb dX5_readEither_45 hl (k := 2) rfl rfl (by decide) rfl (fun ls hl => ?_)
      refine lv_goto (tgt := 2) hx hb dX5_readEither_48 (by decide) ?_
      exact hkc2 (x2 + 1) xf_2 cif cig hf _ _ hP hD hS _ (lv_sub hl [1, 2, 0] rfl)
    · replace hf := it_of c5 hf
      refine lv_iconst (v := 1) hx hb dX5_readEither_43 (by decide) ?_
      rw [hQ]
      exact ret_z C0 hP hD hS (by have e := Option.some.inj hf; rw [← e]; exact ⟨rfl, rfl⟩) rfl dX5_readEither_44
  have J2 : ∀ n : Nat, ∀ (x2 : Int32) (xf : Nat → Int32) (cif : Nat → Int32) (cig : Nat → Nat → Int32), k_X5_readEither_2 kF a1 xs n x2 xf cif cig = some o → ∀ (H : Heap) (locs : List Loc), va_P D vwCl (List.flatten [(Tw q cA xf xs (.ref (qq 0))), (Chw qq cA cif cig)]) H → va_D A (List.flatten [(Tw q cA xf xs (.ref (qq 0))), (Chw qq cA cif cig)]) → va_S A s.heap H locs → ∀ ls : Array Slot, lv_has ls 3 [(0, .ref (q 0)), (1, .int a1), (2, .int x2)] → W p l e (RMx 15 345 0 0) s m args below meth c H locs 0 0 Q (F0 m 2 ls []) := by
    intro  n
    induction n with
    | zero =>
      intro x2 xf cif cig hf
      rw [k_X5_readEither_2] at hf
      cases hf
    | succ n ih =>
      intro x2 xf cif cig hf H locs hP hD hS ls hl
      rw [k_X5_readEither_2] at hf
      refine lv_iload_n hx hb dX5_readEither_2 rfl (lv_at hl 2 rfl) ?_
      refine lv_bipush (v := 100) hx hb dX5_readEither_3 (by decide) ?_
      refine lv_icmp_ge (tgt := 51) hx hb dX5_readEither_5 (by decide) (fun c1 => ?_) (fun c1 => ?_)
      · replace hf := it_of c1 hf
        refine lv_iconst (v := 0) hx hb dX5_readEither_51 (by decide) ?_
        rw [hQ]
        exact ret_z C0 hP hD hS (by have e := Option.some.inj hf; rw [← e]; exact ⟨rfl, rfl⟩) rfl dX5_readEither_52
      · replace hf := ie_of c1 hf
        refine lv_aload_n hx hb dX5_readEither_8 rfl (lv_at hl 0 rfl) ?_
        refine lv_iload_n hx hb dX5_readEither_9 rfl (lv_at hl 1 rfl) ?_
        obtain ⟨r2q, xf_3, cif_4, cig_5, hq6, hf⟩ := b4_of hf
        refine callVIs (As := [.int a1]) (rest := []) (wr := []) C0 (c_X5_readBoth_4 q qq xf xs cif cig a1 _ (by rw [← hkF]; exact hq6)) lk_X5_74_X5_readBoth rfl hStr hP hD hS perm_nil (recv_w (q0 := 0) (ci := 5) C0 hP rfl rfl rfl) hl.1 rfl rfl (Nat.le_of_ble_eq_true rfl) dX5_readEither_10 ⟨Nat.zero_le _, Nat.zero_le _⟩ (fun r2 w H locs hw hP hD hS => ?_)
        obtain ⟨⟨e1, e2⟩, z7⟩ := hw
        replace e1 : r2 = r2q := e1
        subst e1
        subst e2
        replace hP : va_P D vwCl (List.flatten [(Tw q cA xf_3 xs (.ref (qq 0))), (Chw qq cA cif_4 cig_5)]) H := hP.nil
        replace hD : va_D A (List.flatten [(Tw q cA xf_3 xs (.ref (qq 0))), (Chw qq cA cif_4 cig_5)]) := hD.nil
        refine lv_if_eq (tgt := 32) hx hb dX5_readEither_13 (by decide) (fun c8 => ?_) (fun c8 => ?_)
        · replace hf := it_of c8 hf
          refine lv_iconst (v := 0) hx hb dX5_readEither_32 (by decide) ?_
          rw [hQ]
          exact ret_z C0 hP hD hS (by have e := Option.some.inj hf; rw [← e]; exact ⟨rfl, rfl⟩) rfl dX5_readEither_33
        · replace hf := ie_of c8 hf
          refine lv_iload_n hx hb dX5_readEither_16 rfl (lv_at hl 2 rfl) ?_
          refine lv_if_le (tgt := 34) hx hb dX5_readEither_17 (by decide) (fun c9 => ?_) (fun c9 => ?_)
          · replace hf := it_of c9 hf
            exact J34 _ ih x2 xf_3 cif_4 cig_5 hf _ _ hP hD hS _ (lv_sub hl [0, 1, 2] rfl)
          · replace hf := ie_of c9 hf
            refine lv_aload_n hx hb dX5_readEither_20 rfl (lv_at hl 0 rfl) ?_
            refine va_get (D := D) (ci := 5) (v := .ref (qq 0)) (C := RX5) (T := TX5) (N := 4) hx hb hts fw_5 hown hK hP 0 rfl rfl 3 (by decide) (hts _ m_fieldLink_P_Text_19_P_Text_charter_LP_Charter) (fun _ h9 => h9) rfl dX5_readEither_21 ?_
            refine lv_bipush (v := 8) hx hb dX5_readEither_24 (by decide) ?_
            obtain ⟨r10q, cif_11, cig_12, hq13, hf⟩ := b3_of hf
            refine callVI (As := [.int 8]) (rest := []) (wr := segpick [(Tw q cA xf_3 xs (.ref (qq 0))), (Chw qq cA cif_4 cig_5)] [0]) C0 (c_X2_addStep qq cif_4 cig_5 8 _ hq13) lk_X5_77_X2_addStep rfl hP hD hS (seg_out [(Tw q cA xf_3 xs (.ref (qq 0))), (Chw qq cA cif_4 cig_5)] [1] [0] 2 rfl (by decide)) 2 2 rfl rfl rfl hl.1 rfl rfl (Nat.le_of_ble_eq_true rfl) dX5_readEither_26 ⟨Nat.zero_le _, Nat.zero_le _⟩ (fun r10 w H locs hw hP hD hS => ?_)
            obtain ⟨⟨e1, e2⟩, z14⟩ := hw
            replace e1 : r10 = r10q := e1
            subst e1
            subst e2
            replace hP : va_P D vwCl (List.flatten [(Tw q cA xf_3 xs (.ref (qq 0))), (Chw qq cA cif_11 cig_12)]) H := hP.perm (seg_out [(Tw q cA xf_3 xs (.ref (qq 0))), (Chw qq cA cif_11 cig_12)] [1] [0] 2 rfl (by decide)).symm
            replace hD : va_D A (List.flatten [(Tw q cA xf_3 xs (.ref (qq 0))), (Chw qq cA cif_11 cig_12)]) := hD.perm (seg_out [(Tw q cA xf_3 xs (.ref (qq 0))), (Chw qq cA cif_11 cig_12)] [1] [0] 2 rfl (by decide)).symm
            refine lv_if_ne (tgt := 34) hx hb dX5_readEither_29 (by decide) (fun c15 => ?_) (fun c15 => ?_)
            · replace hf := ie_of c15 hf
              exact J34 _ ih x2 xf_3 cif_11 cig_12 hf _ _ hP hD hS _ (lv_sub hl [0, 1, 2] rfl)
            · replace hf := it_of c15 hf
              refine lv_iconst (v := 0) hx hb dX5_readEither_32 (by decide) ?_
              rw [hQ]
              exact ret_z C0 hP hD hS (by have e := Option.some.inj hf; rw [← e]; exact ⟨rfl, rfl⟩) rfl dX5_readEither_33
  replace hf : k_X5_readEither_g kF a1 xf0 xs cif0 cig0 = some o := by rw [hkF]; exact hf
  unfold k_X5_readEither_g at hf
  refine lv_iconst (v := 0) hx hb dX5_readEither_0 (by decide) ?_
  refine lv_istore_n (lv' := [(2, .int 0), (0, .ref (q 0)), (1, .int a1)]) hx hb dX5_readEither_1 rfl hl (by decide) rfl (fun ls hl => ?_)
  exact J2 100000 0 xf0 cif0 cig0 hf _ _ hP hD hS _ (lv_sub hl [1, 2, 0] rfl)
set_option maxHeartbeats 4000000 in
set_option maxRecDepth 100000 in
theorem c_X5_readFact_5 {l : Launch} {D : va_G} {cA : Nat → ClassId} {adK adV : Nat → Nat} (q : Nat → Nat) (qq : Nat → Nat) (xf0 : Nat → Int32) (xs : Nat → Int32) (cif0 : Nat → Int32) (cig0 : Nat → Nat → Int32) (a1 : Int32) (o : Int32 × (Nat → Int32) × (Nat → Int32) × (Nat → Nat → Int32)) (hf : k_X5_readFact 5 a1 xf0 xs cif0 cig0 = some o) : CIs l D cA adK adV yX5_readFact cX5_readFact 6 (some .boolean) 16 367 [.ref (q 0), .int a1] (List.flatten [(Tw q cA xf0 xs (.ref (qq 0))), (Chw qq cA cif0 cig0)]) 0 0 (fun r w => (r = o.1 ∧ w = (List.flatten [(Tw q cA o.2.1 xs (.ref (qq 0))), (Chw qq cA o.2.2.1 o.2.2.2)])) ∧ narrow .boolean (.int r) = .int r) := by
  intro sz
  refine met_start_s (by decide) rfl ?_
  intro p e s m args below meth c ls hsz hargs C0 hname hStr hP hD hS hl
  generalize hAe : va_A (List.flatten [(Tw q cA xf0 xs (.ref (qq 0))), (Chw qq cA cif0 cig0)]) sz = A at C0 hStr hD hS ⊢
  obtain ⟨hx, hb, hr, hml, hown, hts, hlk, hK, hA⟩ := id C0
  replace hl : lv_has ls 6 [(0, .ref (q 0)), (1, .int a1)] := hl
  obtain ⟨Q, hQ⟩ : ∃ Q : State → Prop, Q = QI below D A (fun r w => (r = o.1 ∧ w = (List.flatten [(Tw q cA o.2.1 xs (.ref (qq 0))), (Chw qq cA o.2.2.1 o.2.2.2)])) ∧ narrow .boolean (.int r) = .int r) args s 0 0 := ⟨_, rfl⟩
  refine cast (by rw [hQ]) (?_ : W p l e (RMx 16 367 0 0) s m args below meth c s.heap [] 0 0 Q (F0 m 0 ls []))
  obtain ⟨kF, hkF⟩ : ∃ z, z = k_X5_readFact 4 := ⟨_, rfl⟩
  have J154 : ∀ (x3 : Int32) (x4 : Int32) (xf : Nat → Int32) (cif : Nat → Int32) (cig : Nat → Nat → Int32), k_X5_readFact_154 xs x3 x4 xf cif cig = some o → ∀ (H : Heap) (locs : List Loc), va_P D vwCl (List.flatten [(Tw q cA xf xs (.ref (qq 0))), (Chw qq cA cif cig)]) H → va_D A (List.flatten [(Tw q cA xf xs (.ref (qq 0))), (Chw qq cA cif cig)]) → va_S A s.heap H locs → ∀ ls : Array Slot, lv_has ls 6 [(0, .ref (q 0)), (3, .int x3), (4, .int x4)] → W p l e (RMx 16 367 0 0) s m args below meth c H locs 0 0 Q (F0 m 154 ls []) := by
    intro  x3 x4 xf cif cig hf H locs hP hD hS ls hl
    unfold k_X5_readFact_154 at hf
    refine lv_aload_n hx hb dX5_readFact_154 rfl (lv_at hl 0 rfl) ?_
    refine lv_dup hx hb dX5_readFact_155 rfl ?_
    refine va_get (D := D) (ci := 5) (v := .int (xf 2)) (C := RX5) (T := TX5) (N := 4) hx hb hts fw_5 hown hK hP 0 rfl rfl 2 (by decide) (hts _ m_fieldLink_P_Text_28_P_Text_at_I) (fun _ h9 => h9) rfl dX5_readFact_156 ?_
    refine lv_iconst (v := 1) hx hb dX5_readFact_159 (by decide) ?_
    refine lv_iadd hx hb dX5_readFact_160 ?_
    refine va_put (D := D) (ci := 5) (v := .int ((xf 2) + 1)) (ty := .int) (C := RX5) (T := TX5) (N := 4) hx hb hts fw_5 tyX5 tyX5_ok nmX5 hown hK hP hD hS 0 rfl rfl 2 (by decide) (hts _ m_fieldLink_P_Text_28_P_Text_at_I) (fun _ h9 => h9) rfl (by decide +kernel) rfl rfl (Nat.le_of_ble_eq_true rfl) dX5_readFact_161 (fun H locs hP hD hS => ?_)
    replace hP : va_P D vwCl (List.flatten [(Tw q cA (upd xf 2 ((xf 2) + 1)) xs (.ref (qq 0))), (Chw qq cA cif cig)]) H := hP
    replace hD : va_D A (List.flatten [(Tw q cA (upd xf 2 ((xf 2) + 1)) xs (.ref (qq 0))), (Chw qq cA cif cig)]) := hD
    refine lv_aload_n hx hb dX5_readFact_164 rfl (lv_at hl 0 rfl) ?_
    obtain ⟨r1q, xf_2, hq3, hf⟩ := b2_of hf
    refine callVI (As := []) (rest := []) (wr := segpick [(Tw q cA (upd xf 2 ((xf 2) + 1)) xs (.ref (qq 0))), (Chw qq cA cif cig)] [1]) C0 (c_X5_readNumber q (.ref (qq 0)) (upd xf 2 ((xf 2) + 1)) xs _ hq3) lk_X5_47_X5_readNumber rfl hP hD hS (seg_out [(Tw q cA (upd xf 2 ((xf 2) + 1)) xs (.ref (qq 0))), (Chw qq cA cif cig)] [0] [1] 2 rfl (by decide)) 0 5 rfl rfl rfl hl.1 rfl rfl (Nat.le_of_ble_eq_true rfl) dX5_readFact_165 ⟨Nat.zero_le _, Nat.zero_le _⟩ (fun r1 w H locs hw hP hD hS => ?_)
    obtain ⟨e1, e2⟩ := hw
    replace e1 : r1 = r1q := e1
    subst e1
    subst e2
    replace hP : va_P D vwCl (List.flatten [(Tw q cA xf_2 xs (.ref (qq 0))), (Chw qq cA cif cig)]) H := hP.perm (seg_out [(Tw q cA xf_2 xs (.ref (qq 0))), (Chw qq cA cif cig)] [0] [1] 2 rfl (by decide)).symm
    replace hD : va_D A (List.flatten [(Tw q cA xf_2 xs (.ref (qq 0))), (Chw qq cA cif cig)]) := hD.perm (seg_out [(Tw q cA xf_2 xs (.ref (qq 0))), (Chw qq cA cif cig)] [0] [1] 2 rfl (by decide)).symm
    refine lv_istore (lv' := [(5, .int r1), (0, .ref (q 0)), (3, .int x3), (4, .int x4)]) hx hb dX5_readFact_168 hl (by decide) rfl (fun ls hl => ?_)
    refine lv_iload hx hb dX5_readFact_170 (lv_at hl 0 rfl) ?_
    refine lv_iconst (v := (-1)) hx hb dX5_readFact_172 (by decide) ?_
    refine lv_icmp_eq (tgt := 195) hx hb dX5_readFact_173 (by decide) (fun c4 => ?_) (fun c4 => ?_)
    · replace hf := it_of c4 hf
      refine lv_iconst (v := 0) hx hb dX5_readFact_195 (by decide) ?_
      rw [hQ]
      exact ret_z C0 hP hD hS (by have e := Option.some.inj hf; rw [← e]; exact ⟨rfl, rfl⟩) rfl dX5_readFact_196
    · replace hf := ie_of c4 hf
      refine lv_aload_n hx hb dX5_readFact_176 rfl (lv_at hl 1 rfl) ?_
      refine va_get (D := D) (ci := 5) (v := .ref (qq 0)) (C := RX5) (T := TX5) (N := 4) hx hb hts fw_5 hown hK hP 0 rfl rfl 3 (by decide) (hts _ m_fieldLink_P_Text_19_P_Text_charter_LP_Charter) (fun _ h9 => h9) rfl dX5_readFact_177 ?_
      refine lv_iload_n hx hb dX5_readFact_180 rfl (lv_at hl 2 rfl) ?_
      refine lv_iload hx hb dX5_readFact_181 (lv_at hl 3 rfl) ?_
      refine lv_iload hx hb dX5_readFact_183 (lv_at hl 0 rfl) ?_
      obtain ⟨r5q, cif_6, cig_7, hq8, hf⟩ := b3_of hf
      refine callVI (As := [.int x3, .int x4, .int r1]) (rest := []) (wr := segpick [(Tw q cA xf_2 xs (.ref (qq 0))), (Chw qq cA cif cig)] [0]) C0 (c_X2_addTest qq cif cig x3 x4 r1 _ hq8) lk_X5_89_X2_addTest rfl hP hD hS (seg_out [(Tw q cA xf_2 xs (.ref (qq 0))), (Chw qq cA cif cig)] [1] [0] 2 rfl (by decide)) 2 2 rfl rfl rfl hl.1 rfl rfl (Nat.le_of_ble_eq_true rfl) dX5_readFact_185 ⟨Nat.zero_le _, Nat.zero_le _⟩ (fun r5 w H locs hw hP hD hS => ?_)
      obtain ⟨⟨e1, e2⟩, z9⟩ := hw
      replace e1 : r5 = r5q := e1
      subst e1
      subst e2
      replace hP : va_P D vwCl (List.flatten [(Tw q cA xf_2 xs (.ref (qq 0))), (Chw qq cA cif_6 cig_7)]) H := hP.perm (seg_out [(Tw q cA xf_2 xs (.ref (qq 0))), (Chw qq cA cif_6 cig_7)] [1] [0] 2 rfl (by decide)).symm
      replace hD : va_D A (List.flatten [(Tw q cA xf_2 xs (.ref (qq 0))), (Chw qq cA cif_6 cig_7)]) := hD.perm (seg_out [(Tw q cA xf_2 xs (.ref (qq 0))), (Chw qq cA cif_6 cig_7)] [1] [0] 2 rfl (by decide)).symm
      refine lv_if_eq (tgt := 195) hx hb dX5_readFact_188 (by decide) (fun c10 => ?_) (fun c10 => ?_)
      · replace hf := it_of c10 hf
        refine lv_iconst (v := 0) hx hb dX5_readFact_195 (by decide) ?_
        rw [hQ]
        exact ret_z C0 hP hD hS (by have e := Option.some.inj hf; rw [← e]; exact ⟨rfl, rfl⟩) rfl dX5_readFact_196
      · replace hf := ie_of c10 hf
        refine lv_iconst (v := 1) hx hb dX5_readFact_191 (by decide) ?_
        refine lv_goto (tgt := 196) hx hb dX5_readFact_192 (by decide) ?_
        rw [hQ]
        exact ret_z C0 hP hD hS (by have e := Option.some.inj hf; rw [← e]; exact ⟨rfl, rfl⟩) rfl dX5_readFact_196
  have J108 : ∀ (t0 : Int32) (xf : Nat → Int32) (cif : Nat → Int32) (cig : Nat → Nat → Int32), k_X5_readFact_108 xs t0 xf cif cig = some o → ∀ (H : Heap) (locs : List Loc), va_P D vwCl (List.flatten [(Tw q cA xf xs (.ref (qq 0))), (Chw qq cA cif cig)]) H → va_D A (List.flatten [(Tw q cA xf xs (.ref (qq 0))), (Chw qq cA cif cig)]) → va_S A s.heap H locs → ∀ ls : Array Slot, lv_has ls 6 [(0, .ref (q 0))] → W p l e (RMx 16 367 0 0) s m args below meth c H locs 0 0 Q (F0 m 108 ls [.int t0]) := by
    intro  t0 xf cif cig hf H locs hP hD hS ls hl
    unfold k_X5_readFact_108 at hf
    refine lv_istore_n (lv' := [(3, .int t0), (0, .ref (q 0))]) hx hb dX5_readFact_108 rfl hl (by decide) rfl (fun ls hl => ?_)
    refine lv_iload_n hx hb dX5_readFact_109 rfl (lv_at hl 0 rfl) ?_
    refine lv_if_ge (tgt := 115) hx hb dX5_readFact_110 (by decide) (fun c1 => ?_) (fun c1 => ?_)
    · replace hf := it_of c1 hf
      refine lv_aload_n hx hb dX5_readFact_115 rfl (lv_at hl 1 rfl) ?_
      refine lv_dup hx hb dX5_readFact_116 rfl ?_
      refine va_get (D := D) (ci := 5) (v := .int (xf 2)) (C := RX5) (T := TX5) (N := 4) hx hb hts fw_5 hown hK hP 0 rfl rfl 2 (by decide) (hts _ m_fieldLink_P_Text_28_P_Text_at_I) (fun _ h9 => h9) rfl dX5_readFact_117 ?_
      refine lv_iconst (v := 1) hx hb dX5_readFact_120 (by decide) ?_
      refine lv_iadd hx hb dX5_readFact_121 ?_
      refine va_put (D := D) (ci := 5) (v := .int ((xf 2) + 1)) (ty := .int) (C := RX5) (T := TX5) (N := 4) hx hb hts fw_5 tyX5 tyX5_ok nmX5 hown hK hP hD hS 0 rfl rfl 2 (by decide) (hts _ m_fieldLink_P_Text_28_P_Text_at_I) (fun _ h9 => h9) rfl (by decide +kernel) rfl rfl (Nat.le_of_ble_eq_true rfl) dX5_readFact_122 (fun H locs hP hD hS => ?_)
      replace hP : va_P D vwCl (List.flatten [(Tw q cA (upd xf 2 ((xf 2) + 1)) xs (.ref (qq 0))), (Chw qq cA cif cig)]) H := hP
      replace hD : va_D A (List.flatten [(Tw q cA (upd xf 2 ((xf 2) + 1)) xs (.ref (qq 0))), (Chw qq cA cif cig)]) := hD
      refine lv_aload_n hx hb dX5_readFact_125 rfl (lv_at hl 1 rfl) ?_
      obtain ⟨r2q, hq3, hf⟩ := b1_of hf
      refine callVI (As := []) (rest := []) (wr := segpick [(Tw q cA (upd xf 2 ((xf 2) + 1)) xs (.ref (qq 0))), (Chw qq cA cif cig)] [1]) C0 (c_X5_ahead q (.ref (qq 0)) (upd xf 2 ((xf 2) + 1)) xs _ hq3) lk_X5_57_X5_ahead rfl hP hD hS (seg_out [(Tw q cA (upd xf 2 ((xf 2) + 1)) xs (.ref (qq 0))), (Chw qq cA cif cig)] [0] [1] 2 rfl (by decide)) 0 5 rfl rfl rfl hl.1 rfl rfl (Nat.le_of_ble_eq_true rfl) dX5_readFact_126 ⟨Nat.zero_le _, Nat.zero_le _⟩ (fun r2 w H locs hw hP hD hS => ?_)
      obtain ⟨e1, e2⟩ := hw
      replace e1 : r2 = r2q := e1
      subst e1
      subst e2
      replace hP : va_P D vwCl (List.flatten [(Tw q cA (upd xf 2 ((xf 2) + 1)) xs (.ref (qq 0))), (Chw qq cA cif cig)]) H := hP.perm (seg_out [(Tw q cA (upd xf 2 ((xf 2) + 1)) xs (.ref (qq 0))), (Chw qq cA cif cig)] [0] [1] 2 rfl (by decide)).symm
      replace hD : va_D A (List.flatten [(Tw q cA (upd xf 2 ((xf 2) + 1)) xs (.ref (qq 0))), (Chw qq cA cif cig)]) := hD.perm (seg_out [(Tw q cA (upd xf 2 ((xf 2) + 1)) xs (.ref (qq 0))), (Chw qq cA cif cig)] [0] [1] 2 rfl (by decide)).symm
      refine lv_istore (lv' := [(4, .int r2), (3, .int t0), (0, .ref (q 0))]) hx hb dX5_readFact_129 hl (by decide) rfl (fun ls hl => ?_)
      refine lv_iload hx hb dX5_readFact_131 (lv_at hl 0 rfl) ?_
      refine lv_bipush (v := 60) hx hb dX5_readFact_133 (by decide) ?_
      refine lv_icmp_eq (tgt := 154) hx hb dX5_readFact_135 (by decide) (fun c4 => ?_) (fun c4 => ?_)
      · replace hf := it_of c4 hf
        exact J154 t0 r2 (upd xf 2 ((xf 2) + 1)) cif cig hf _ _ hP hD hS _ (lv_sub hl [2, 1, 0] rfl)
      · replace hf := ie_of c4 hf
        refine lv_iload hx hb dX5_readFact_138 (lv_at hl 0 rfl) ?_
        refine lv_bipush (v := 61) hx hb dX5_readFact_140 (by decide) ?_
        refine lv_icmp_eq (tgt := 154) hx hb dX5_readFact_142 (by decide) (fun c5 => ?_) (fun c5 => ?_)
        · replace hf := it_of c5 hf
          exact J154 t0 r2 (upd xf 2 ((xf 2) + 1)) cif cig hf _ _ hP hD hS _ (lv_sub hl [2, 1, 0] rfl)
        · replace hf := ie_of c5 hf
          refine lv_iload hx hb dX5_readFact_145 (lv_at hl 0 rfl) ?_
          refine lv_bipush (v := 62) hx hb dX5_readFact_147 (by decide) ?_
          refine lv_icmp_eq (tgt := 154) hx hb dX5_readFact_149 (by decide) (fun c6 => ?_) (fun c6 => ?_)
          · replace hf := it_of c6 hf
            exact J154 t0 r2 (upd xf 2 ((xf 2) + 1)) cif cig hf _ _ hP hD hS _ (lv_sub hl [2, 1, 0] rfl)
          · replace hf := ie_of c6 hf
            refine lv_iconst (v := 0) hx hb dX5_readFact_152 (by decide) ?_
            rw [hQ]
            exact ret_z C0 hP hD hS (by have e := Option.some.inj hf; rw [← e]; exact ⟨rfl, rfl⟩) rfl dX5_readFact_153
    · replace hf := ie_of c1 hf
      refine lv_iconst (v := 0) hx hb dX5_readFact_113 (by decide) ?_
      rw [hQ]
      exact ret_z C0 hP hD hS (by have e := Option.some.inj hf; rw [← e]; exact ⟨rfl, rfl⟩) rfl dX5_readFact_114
  have J93 : ∀ (x2 : Int32) (xf : Nat → Int32) (cif : Nat → Int32) (cig : Nat → Nat → Int32), k_X5_readFact_93 xs x2 xf cif cig = some o → ∀ (H : Heap) (locs : List Loc), va_P D vwCl (List.flatten [(Tw q cA xf xs (.ref (qq 0))), (Chw qq cA cif cig)]) H → va_D A (List.flatten [(Tw q cA xf xs (.ref (qq 0))), (Chw qq cA cif cig)]) → va_S A s.heap H locs → ∀ ls : Array Slot, lv_has ls 6 [(0, .ref (q 0)), (2, .int x2)] → W p l e (RMx 16 367 0 0) s m args below meth c H locs 0 0 Q (F0 m 93 ls []) := by
    intro  x2 xf cif cig hf H locs hP hD hS ls hl
    unfold k_X5_readFact_93 at hf
    refine lv_iload_n hx hb dX5_readFact_93 rfl (lv_at hl 1 rfl) ?_
    refine lv_if_ge (tgt := 101) hx hb dX5_readFact_94 (by decide) (fun c1 => ?_) (fun c1 => ?_)
    · replace hf := it_of c1 hf
      refine va_ldcS hx hb hown hStr.2.2.2.2.2.2.1 dX5_readFact_101 ?_
      refine lv_iload_n hx hb dX5_readFact_103 rfl (lv_at hl 1 rfl) ?_
      refine lv_i2c (v := ((x2.toUInt32 % 65536).toInt32)) hx hb dX5_readFact_104 rfl ?_
      obtain ⟨r2q, hq3, hf⟩ := b1_of hf
      refine callVIs (As := [.int ((x2.toUInt32 % 65536).toInt32)]) (rest := []) (wr := (List.flatten [(Tw q cA xf xs (.ref (qq 0))), (Chw qq cA cif cig)])) C0 (c_J0_indexOf_0f7a4 3 ((x2.toUInt32 % 65536).toInt32) (by decide) _ hq3) lk_X5_85_J0_indexOf_0f7a4 rfl hStr hP hD hS (List.Perm.refl _) (vk_recv hStr.1 (by decide) hS) hl.1 rfl rfl (Nat.le_of_ble_eq_true rfl) dX5_readFact_105 ⟨Nat.zero_le _, Nat.zero_le _⟩ (fun r2 w H locs hw hP hD hS => ?_)
      obtain ⟨e1, e2⟩ := hw
      replace e1 : r2 = r2q := e1
      subst e1
      subst e2
      replace hP : va_P D vwCl (List.flatten [(Tw q cA xf xs (.ref (qq 0))), (Chw qq cA cif cig)]) H := hP
      replace hD : va_D A (List.flatten [(Tw q cA xf xs (.ref (qq 0))), (Chw qq cA cif cig)]) := hD
      exact J108 r2 xf cif cig hf _ _ hP hD hS _ (lv_sub hl [0] rfl)
    · replace hf := ie_of c1 hf
      refine lv_iconst (v := (-1)) hx hb dX5_readFact_97 (by decide) ?_
      refine lv_goto (tgt := 108) hx hb dX5_readFact_98 (by decide) ?_
      exact J108 (-1) xf cif cig hf _ _ hP hD hS _ (lv_sub hl [0] rfl)
  have J17 : ∀ (x2 : Int32) (xf : Nat → Int32) (cif : Nat → Int32) (cig : Nat → Nat → Int32), k_X5_readFact_17 kF a1 xs x2 xf cif cig = some o → ∀ (H : Heap) (locs : List Loc), va_P D vwCl (List.flatten [(Tw q cA xf xs (.ref (qq 0))), (Chw qq cA cif cig)]) H → va_D A (List.flatten [(Tw q cA xf xs (.ref (qq 0))), (Chw qq cA cif cig)]) → va_S A s.heap H locs → ∀ ls : Array Slot, lv_has ls 6 [(0, .ref (q 0)), (1, .int a1), (2, .int x2)] → W p l e (RMx 16 367 0 0) s m args below meth c H locs 0 0 Q (F0 m 17 ls []) := by
    intro  x2 xf cif cig hf H locs hP hD hS ls hl
    unfold k_X5_readFact_17 at hf
    refine lv_iload_n hx hb dX5_readFact_17 rfl (lv_at hl 1 rfl) ?_
    refine lv_iconst (v := 4) hx hb dX5_readFact_18 (by decide) ?_
    refine lv_icmp_ge (tgt := 93) hx hb dX5_readFact_19 (by decide) (fun c1 => ?_) (fun c1 => ?_)
    · replace hf := it_of c1 hf
      exact J93 x2 xf cif cig hf _ _ hP hD hS _ (lv_sub hl [0, 2] rfl)
    · replace hf := ie_of c1 hf
      refine lv_aload_n hx hb dX5_readFact_22 rfl (lv_at hl 0 rfl) ?_
      refine lv_dup hx hb dX5_readFact_23 rfl ?_
      refine va_get (D := D) (ci := 5) (v := .int (xf 2)) (C := RX5) (T := TX5) (N := 4) hx hb hts fw_5 hown hK hP 0 rfl rfl 2 (by decide) (hts _ m_fieldLink_P_Text_28_P_Text_at_I) (fun _ h9 => h9) rfl dX5_readFact_24 ?_
      refine lv_iconst (v := 1) hx hb dX5_readFact_27 (by decide) ?_
      refine lv_iadd hx hb dX5_readFact_28 ?_
      refine va_put (D := D) (ci := 5) (v := .int ((xf 2) + 1)) (ty := .int) (C := RX5) (T := TX5) (N := 4) hx hb hts fw_5 tyX5 tyX5_ok nmX5 hown hK hP hD hS 0 rfl rfl 2 (by decide) (hts _ m_fieldLink_P_Text_28_P_Text_at_I) (fun _ h9 => h9) rfl (by decide +kernel) rfl rfl (Nat.le_of_ble_eq_true rfl) dX5_readFact_29 (fun H locs hP hD hS => ?_)
      replace hP : va_P D vwCl (List.flatten [(Tw q cA (upd xf 2 ((xf 2) + 1)) xs (.ref (qq 0))), (Chw qq cA cif cig)]) H := hP
      replace hD : va_D A (List.flatten [(Tw q cA (upd xf 2 ((xf 2) + 1)) xs (.ref (qq 0))), (Chw qq cA cif cig)]) := hD
      refine lv_iload_n hx hb dX5_readFact_32 rfl (lv_at hl 2 rfl) ?_
      refine lv_bipush (v := 33) hx hb dX5_readFact_33 (by decide) ?_
      refine lv_icmp_ne (tgt := 68) hx hb dX5_readFact_35 (by decide) (fun c2 => ?_) (fun c2 => ?_)
      · replace hf := ie_of c2 hf
        refine lv_aload_n hx hb dX5_readFact_68 rfl (lv_at hl 0 rfl) ?_
        refine lv_iload_n hx hb dX5_readFact_69 rfl (lv_at hl 1 rfl) ?_
        refine lv_iconst (v := 1) hx hb dX5_readFact_70 (by decide) ?_
        refine lv_iadd hx hb dX5_readFact_71 ?_
        obtain ⟨r3q, xf_4, cif_5, cig_6, hq7, hf⟩ := b4_of hf
        refine callVIs (As := [.int (a1 + 1)]) (rest := []) (wr := []) C0 (c_X5_readEither_4 q qq (upd xf 2 ((xf 2) + 1)) xs cif cig (a1 + 1) _ (by rw [← hkF]; exact hq7)) lk_X5_50_X5_readEither rfl hStr hP hD hS perm_nil (recv_w (q0 := 0) (ci := 5) C0 hP rfl rfl rfl) hl.1 rfl rfl (Nat.le_of_ble_eq_true rfl) dX5_readFact_72 ⟨Nat.zero_le _, Nat.zero_le _⟩ (fun r3 w H locs hw hP hD hS => ?_)
        obtain ⟨⟨e1, e2⟩, z8⟩ := hw
        replace e1 : r3 = r3q := e1
        subst e1
        subst e2
        replace hP : va_P D vwCl (List.flatten [(Tw q cA xf_4 xs (.ref (qq 0))), (Chw qq cA cif_5 cig_6)]) H := hP.nil
        replace hD : va_D A (List.flatten [(Tw q cA xf_4 xs (.ref (qq 0))), (Chw qq cA cif_5 cig_6)]) := hD.nil
        refine lv_if_eq (tgt := 91) hx hb dX5_readFact_75 (by decide) (fun c9 => ?_) (fun c9 => ?_)
        · replace hf := it_of c9 hf
          refine lv_iconst (v := 0) hx hb dX5_readFact_91 (by decide) ?_
          rw [hQ]
          exact ret_z C0 hP hD hS (by have e := Option.some.inj hf; rw [← e]; exact ⟨rfl, rfl⟩) rfl dX5_readFact_92
        · replace hf := ie_of c9 hf
          refine lv_aload_n hx hb dX5_readFact_78 rfl (lv_at hl 0 rfl) ?_
          refine lv_bipush (v := 41) hx hb dX5_readFact_79 (by decide) ?_
          obtain ⟨r10q, xf_11, hq12, hf⟩ := b2_of hf
          refine callVI (As := [.int 41]) (rest := []) (wr := segpick [(Tw q cA xf_4 xs (.ref (qq 0))), (Chw qq cA cif_5 cig_6)] [1]) C0 (c_X5_take q (.ref (qq 0)) xf_4 xs 41 _ hq12) lk_X5_35_X5_take rfl hP hD hS (seg_out [(Tw q cA xf_4 xs (.ref (qq 0))), (Chw qq cA cif_5 cig_6)] [0] [1] 2 rfl (by decide)) 0 5 rfl rfl rfl hl.1 rfl rfl (Nat.le_of_ble_eq_true rfl) dX5_readFact_81 ⟨Nat.zero_le _, Nat.zero_le _⟩ (fun r10 w H locs hw hP hD hS => ?_)
          obtain ⟨⟨e1, e2⟩, z13⟩ := hw
          replace e1 : r10 = r10q := e1
          subst e1
          subst e2
          replace hP : va_P D vwCl (List.flatten [(Tw q cA xf_11 xs (.ref (qq 0))), (Chw qq cA cif_5 cig_6)]) H := hP.perm (seg_out [(Tw q cA xf_11 xs (.ref (qq 0))), (Chw qq cA cif_5 cig_6)] [0] [1] 2 rfl (by decide)).symm
          replace hD : va_D A (List.flatten [(Tw q cA xf_11 xs (.ref (qq 0))), (Chw qq cA cif_5 cig_6)]) := hD.perm (seg_out [(Tw q cA xf_11 xs (.ref (qq 0))), (Chw qq cA cif_5 cig_6)] [0] [1] 2 rfl (by decide)).symm
          refine lv_if_eq (tgt := 91) hx hb dX5_readFact_84 (by decide) (fun c14 => ?_) (fun c14 => ?_)
          · replace hf := it_of c14 hf
            refine lv_iconst (v := 0) hx hb dX5_readFact_91 (by decide) ?_
            rw [hQ]
            exact ret_z C0 hP hD hS (by have e := Option.some.inj hf; rw [← e]; exact ⟨rfl, rfl⟩) rfl dX5_readFact_92
          · replace hf := ie_of c14 hf
            refine lv_iconst (v := 1) hx hb dX5_readFact_87 (by decide) ?_
            refine lv_goto (tgt := 92) hx hb dX5_readFact_88 (by decide) ?_
            rw [hQ]
            exact ret_z C0 hP hD hS (by have e := Option.some.inj hf; rw [← e]; exact ⟨rfl, rfl⟩) rfl dX5_readFact_92
      · replace hf := it_of c2 hf
        refine lv_aload_n hx hb dX5_readFact_38 rfl (lv_at hl 0 rfl) ?_
        refine lv_iload_n hx hb dX5_readFact_39 rfl (lv_at hl 1 rfl) ?_
        refine lv_iconst (v := 1) hx hb dX5_readFact_40 (by decide) ?_
        refine lv_iadd hx hb dX5_readFact_41 ?_
        obtain ⟨r15q, xf_16, cif_17, cig_18, hq19, hf⟩ := b4_of hf
        refine callVIs (As := [.int (a1 + 1)]) (rest := []) (wr := []) C0 (c_X5_readFact_4 q qq (upd xf 2 ((xf 2) + 1)) xs cif cig (a1 + 1) _ (by rw [← hkF]; exact hq19)) lk_X5_80_X5_readFact rfl hStr hP hD hS perm_nil (recv_w (q0 := 0) (ci := 5) C0 hP rfl rfl rfl) hl.1 rfl rfl (Nat.le_of_ble_eq_true rfl) dX5_readFact_42 ⟨Nat.zero_le _, Nat.zero_le _⟩ (fun r15 w H locs hw hP hD hS => ?_)
        obtain ⟨⟨e1, e2⟩, z20⟩ := hw
        replace e1 : r15 = r15q := e1
        subst e1
        subst e2
        replace hP : va_P D vwCl (List.flatten [(Tw q cA xf_16 xs (.ref (qq 0))), (Chw qq cA cif_17 cig_18)]) H := hP.nil
        replace hD : va_D A (List.flatten [(Tw q cA xf_16 xs (.ref (qq 0))), (Chw qq cA cif_17 cig_18)]) := hD.nil
        refine lv_if_eq (tgt := 64) hx hb dX5_readFact_45 (by decide) (fun c21 => ?_) (fun c21 => ?_)
        · replace hf := it_of c21 hf
          refine lv_iconst (v := 0) hx hb dX5_readFact_64 (by decide) ?_
          refine lv_goto (tgt := 92) hx hb dX5_readFact_65 (by decide) ?_
          rw [hQ]
          exact ret_z C0 hP hD hS (by have e := Option.some.inj hf; rw [← e]; exact ⟨rfl, rfl⟩) rfl dX5_readFact_92
        · replace hf := ie_of c21 hf
          refine lv_aload_n hx hb dX5_readFact_48 rfl (lv_at hl 0 rfl) ?_
          refine va_get (D := D) (ci := 5) (v := .ref (qq 0)) (C := RX5) (T := TX5) (N := 4) hx hb hts fw_5 hown hK hP 0 rfl rfl 3 (by decide) (hts _ m_fieldLink_P_Text_19_P_Text_charter_LP_Charter) (fun _ h9 => h9) rfl dX5_readFact_49 ?_
          refine lv_bipush (v := 6) hx hb dX5_readFact_52 (by decide) ?_
          obtain ⟨r22q, cif_23, cig_24, hq25, hf⟩ := b3_of hf
          refine callVI (As := [.int 6]) (rest := []) (wr := segpick [(Tw q cA xf_16 xs (.ref (qq 0))), (Chw qq cA cif_17 cig_18)] [0]) C0 (c_X2_addStep qq cif_17 cig_18 6 _ hq25) lk_X5_77_X2_addStep rfl hP hD hS (seg_out [(Tw q cA xf_16 xs (.ref (qq 0))), (Chw qq cA cif_17 cig_18)] [1] [0] 2 rfl (by decide)) 2 2 rfl rfl rfl hl.1 rfl rfl (Nat.le_of_ble_eq_true rfl) dX5_readFact_54 ⟨Nat.zero_le _, Nat.zero_le _⟩ (fun r22 w H locs hw hP hD hS => ?_)
          obtain ⟨⟨e1, e2⟩, z26⟩ := hw
          replace e1 : r22 = r22q := e1
          subst e1
          subst e2
          replace hP : va_P D vwCl (List.flatten [(Tw q cA xf_16 xs (.ref (qq 0))), (Chw qq cA cif_23 cig_24)]) H := hP.perm (seg_out [(Tw q cA xf_16 xs (.ref (qq 0))), (Chw qq cA cif_23 cig_24)] [1] [0] 2 rfl (by decide)).symm
          replace hD : va_D A (List.flatten [(Tw q cA xf_16 xs (.ref (qq 0))), (Chw qq cA cif_23 cig_24)]) := hD.perm (seg_out [(Tw q cA xf_16 xs (.ref (qq 0))), (Chw qq cA cif_23 cig_24)] [1] [0] 2 rfl (by decide)).symm
          refine lv_if_eq (tgt := 64) hx hb dX5_readFact_57 (by decide) (fun c27 => ?_) (fun c27 => ?_)
          · replace hf := it_of c27 hf
            refine lv_iconst (v := 0) hx hb dX5_readFact_64 (by decide) ?_
            refine lv_goto (tgt := 92) hx hb dX5_readFact_65 (by decide) ?_
            rw [hQ]
            exact ret_z C0 hP hD hS (by have e := Option.some.inj hf; rw [← e]; exact ⟨rfl, rfl⟩) rfl dX5_readFact_92
          · replace hf := ie_of c27 hf
            refine lv_iconst (v := 1) hx hb dX5_readFact_60 (by decide) ?_
            refine lv_goto (tgt := 92) hx hb dX5_readFact_61 (by decide) ?_
            rw [hQ]
            exact ret_z C0 hP hD hS (by have e := Option.some.inj hf; rw [← e]; exact ⟨rfl, rfl⟩) rfl dX5_readFact_92
  replace hf : k_X5_readFact_g kF a1 xf0 xs cif0 cig0 = some o := by rw [hkF]; exact hf
  unfold k_X5_readFact_g at hf
  refine lv_aload_n hx hb dX5_readFact_0 rfl (lv_at hl 0 rfl) ?_
  obtain ⟨r1q, hq2, hf⟩ := b1_of hf
  refine callVI (As := []) (rest := []) (wr := segpick [(Tw q cA xf0 xs (.ref (qq 0))), (Chw qq cA cif0 cig0)] [1]) C0 (c_X5_ahead q (.ref (qq 0)) xf0 xs _ hq2) lk_X5_57_X5_ahead rfl hP hD hS (seg_out [(Tw q cA xf0 xs (.ref (qq 0))), (Chw qq cA cif0 cig0)] [0] [1] 2 rfl (by decide)) 0 5 rfl rfl rfl hl.1 rfl rfl (Nat.le_of_ble_eq_true rfl) dX5_readFact_1 ⟨Nat.zero_le _, Nat.zero_le _⟩ (fun r1 w H locs hw hP hD hS => ?_)
  obtain ⟨e1, e2⟩ := hw
  replace e1 : r1 = r1q := e1
  subst e1
  subst e2
  replace hP : va_P D vwCl (List.flatten [(Tw q cA xf0 xs (.ref (qq 0))), (Chw qq cA cif0 cig0)]) H := hP.perm (seg_out [(Tw q cA xf0 xs (.ref (qq 0))), (Chw qq cA cif0 cig0)] [0] [1] 2 rfl (by decide)).symm
  replace hD : va_D A (List.flatten [(Tw q cA xf0 xs (.ref (qq 0))), (Chw qq cA cif0 cig0)]) := hD.perm (seg_out [(Tw q cA xf0 xs (.ref (qq 0))), (Chw qq cA cif0 cig0)] [0] [1] 2 rfl (by decide)).symm
  refine lv_istore_n (lv' := [(2, .int r1), (0, .ref (q 0)), (1, .int a1)]) hx hb dX5_readFact_4 rfl hl (by decide) rfl (fun ls hl => ?_)
  refine lv_iload_n hx hb dX5_readFact_5 rfl (lv_at hl 0 rfl) ?_
  refine lv_bipush (v := 33) hx hb dX5_readFact_6 (by decide) ?_
  refine lv_icmp_eq (tgt := 17) hx hb dX5_readFact_8 (by decide) (fun c3 => ?_) (fun c3 => ?_)
  · replace hf := it_of c3 hf
    exact J17 r1 xf0 cif0 cig0 hf _ _ hP hD hS _ (lv_sub hl [1, 2, 0] rfl)
  · replace hf := ie_of c3 hf
    refine lv_iload_n hx hb dX5_readFact_11 rfl (lv_at hl 0 rfl) ?_
    refine lv_bipush (v := 40) hx hb dX5_readFact_12 (by decide) ?_
    refine lv_icmp_ne (tgt := 93) hx hb dX5_readFact_14 (by decide) (fun c4 => ?_) (fun c4 => ?_)
    · replace hf := ie_of c4 hf
      exact J93 r1 xf0 cif0 cig0 hf _ _ hP hD hS _ (lv_sub hl [1, 0] rfl)
    · replace hf := it_of c4 hf
      exact J17 r1 xf0 cif0 cig0 hf _ _ hP hD hS _ (lv_sub hl [1, 2, 0] rfl)
set_option maxHeartbeats 4000000 in
set_option maxRecDepth 100000 in
theorem c_X5_readBoth_5 {l : Launch} {D : va_G} {cA : Nat → ClassId} {adK adV : Nat → Nat} (q : Nat → Nat) (qq : Nat → Nat) (xf0 : Nat → Int32) (xs : Nat → Int32) (cif0 : Nat → Int32) (cig0 : Nat → Nat → Int32) (a1 : Int32) (o : Int32 × (Nat → Int32) × (Nat → Int32) × (Nat → Nat → Int32)) (hf : k_X5_readBoth_g (k_X5_readFact 5) a1 xf0 xs cif0 cig0 = some o) : CIs l D cA adK adV yX5_readBoth cX5_readBoth 3 (some .boolean) 17 392 [.ref (q 0), .int a1] (List.flatten [(Tw q cA xf0 xs (.ref (qq 0))), (Chw qq cA cif0 cig0)]) 0 0 (fun r w => (r = o.1 ∧ w = (List.flatten [(Tw q cA o.2.1 xs (.ref (qq 0))), (Chw qq cA o.2.2.1 o.2.2.2)])) ∧ narrow .boolean (.int r) = .int r) := by
  intro sz
  refine met_start_s (by decide) rfl ?_
  intro p e s m args below meth c ls hsz hargs C0 hname hStr hP hD hS hl
  generalize hAe : va_A (List.flatten [(Tw q cA xf0 xs (.ref (qq 0))), (Chw qq cA cif0 cig0)]) sz = A at C0 hStr hD hS ⊢
  obtain ⟨hx, hb, hr, hml, hown, hts, hlk, hK, hA⟩ := id C0
  replace hl : lv_has ls 3 [(0, .ref (q 0)), (1, .int a1)] := hl
  obtain ⟨Q, hQ⟩ : ∃ Q : State → Prop, Q = QI below D A (fun r w => (r = o.1 ∧ w = (List.flatten [(Tw q cA o.2.1 xs (.ref (qq 0))), (Chw qq cA o.2.2.1 o.2.2.2)])) ∧ narrow .boolean (.int r) = .int r) args s 0 0 := ⟨_, rfl⟩
  refine cast (by rw [hQ]) (?_ : W p l e (RMx 17 392 0 0) s m args below meth c s.heap [] 0 0 Q (F0 m 0 ls []))
  obtain ⟨kF, hkF⟩ : ∃ z, z = k_X5_readFact 5 := ⟨_, rfl⟩
  have J34 : ∀ (kc2 : Int32 → (Nat → Int32) → (Nat → Int32) → (Nat → Nat → Int32) → Option (Int32 × (Nat → Int32) × (Nat → Int32) × (Nat → Nat → Int32))) (hkc2 : ∀ (x2 : Int32) (xf : Nat → Int32) (cif : Nat → Int32) (cig : Nat → Nat → Int32), kc2 x2 xf cif cig = some o → ∀ (H : Heap) (locs : List Loc), va_P D vwCl (List.flatten [(Tw q cA xf xs (.ref (qq 0))), (Chw qq cA cif cig)]) H → va_D A (List.flatten [(Tw q cA xf xs (.ref (qq 0))), (Chw qq cA cif cig)]) → va_S A s.heap H locs → ∀ ls : Array Slot, lv_has ls 3 [(0, .ref (q 0)), (1, .int a1), (2, .int x2)] → W p l e (RMx 17 392 0 0) s m args below meth c H locs 0 0 Q (F0 m 2 ls [])), ∀ (x2 : Int32) (xf : Nat → Int32) (cif : Nat → Int32) (cig : Nat → Nat → Int32), k_X5_readBoth_34 xs kc2 x2 xf cif cig = some o → ∀ (H : Heap) (locs : List Loc), va_P D vwCl (List.flatten [(Tw q cA xf xs (.ref (qq 0))), (Chw qq cA cif cig)]) H → va_D A (List.flatten [(Tw q cA xf xs (.ref (qq 0))), (Chw qq cA cif cig)]) → va_S A s.heap H locs → ∀ ls : Array Slot, lv_has ls 3 [(0, .ref (q 0)), (1, .int a1), (2, .int x2)] → W p l e (RMx 17 392 0 0) s m args below meth c H locs 0 0 Q (F0 m 34 ls []) := by
    intro kc2 hkc2 x2 xf cif cig hf H locs hP hD hS ls hl
    unfold k_X5_readBoth_34 at hf
    refine lv_aload_n hx hb dX5_readBoth_34 rfl (lv_at hl 0 rfl) ?_
    refine lv_bipush (v := 38) hx hb dX5_readBoth_35 (by decide) ?_
    obtain ⟨r1q, xf_2, hq3, hf⟩ := b2_of hf
    refine callVI (As := [.int 38]) (rest := []) (wr := segpick [(Tw q cA xf xs (.ref (qq 0))), (Chw qq cA cif cig)] [1]) C0 (c_X5_take q (.ref (qq 0)) xf xs 38 _ hq3) lk_X5_35_X5_take rfl hP hD hS (seg_out [(Tw q cA xf xs (.ref (qq 0))), (Chw qq cA cif cig)] [0] [1] 2 rfl (by decide)) 0 5 rfl rfl rfl hl.1 rfl rfl (Nat.le_of_ble_eq_true rfl) dX5_readBoth_37 ⟨Nat.zero_le _, Nat.zero_le _⟩ (fun r1 w H locs hw hP hD hS => ?_)
    obtain ⟨⟨e1, e2⟩, z4⟩ := hw
    replace e1 : r1 = r1q := e1
    subst e1
    subst e2
    replace hP : va_P D vwCl (List.flatten [(Tw q cA xf_2 xs (.ref (qq 0))), (Chw qq cA cif cig)]) H := hP.perm (seg_out [(Tw q cA xf_2 xs (.ref (qq 0))), (Chw qq cA cif cig)] [0] [1] 2 rfl (by decide)).symm
    replace hD : va_D A (List.flatten [(Tw q cA xf_2 xs (.ref (qq 0))), (Chw qq cA cif cig)]) := hD.perm (seg_out [(Tw q cA xf_2 xs (.ref (qq 0))), (Chw qq cA cif cig)] [0] [1] 2 rfl (by decide)).symm
    refine lv_if_ne (tgt := 45) hx hb dX5_readBoth_40 (by decide) (fun c5 => ?_) (fun c5 => ?_)
    · replace hf := ie_of c5 hf
      refine lv_iinc (v := (x2 + 1)) (lv' := [(2, .int (x2 + 1)), (0, .ref (q 0)), (1, .int a1)]) hx hb dX5_readBoth_45 hl (k := 2) rfl rfl (by decide) rfl (fun ls hl => ?_)
      refine lv_goto (tgt := 2) hx hb dX5_readBoth_48 (by decide) ?_
      exact hkc2 (x2 + 1) xf_2 cif cig hf _ _ hP hD hS _ (lv_sub hl [1, 2, 0] rfl)
    · replace hf := it_of c5 hf
      refine lv_iconst (v := 1) hx hb dX5_readBoth_43 (by decide) ?_
      rw [hQ]
      exact ret_z C0 hP hD hS (by have e := Option.some.inj hf; rw [← e]; exact ⟨rfl, rfl⟩) rfl dX5_readBoth_44
  have J2 : ∀ n : Nat, ∀ (x2 : Int32) (xf : Nat → Int32) (cif : Nat → Int32) (cig : Nat → Nat → Int32), k_X5_readBoth_2 kF a1 xs n x2 xf cif cig = some o → ∀ (H : Heap) (locs : List Loc), va_P D vwCl (List.flatten [(Tw q cA xf xs (.ref (qq 0))), (Chw qq cA cif cig)]) H → va_D A (List.flatten [(Tw q cA xf xs (.ref (qq 0))), (Chw qq cA cif cig)]) → va_S A s.heap H locs → ∀ ls : Array Slot, lv_has ls 3 [(0, .ref (q 0)), (1, .int a1), (2, .int x2)] → W p l e (RMx 17 392 0 0) s m args below meth c H locs 0 0 Q (F0 m 2 ls []) := by
    intro  n
    induction n with
    | zero =>
      intro x2 xf cif cig hf
      rw [k_X5_readBoth_2] at hf
      cases hf
    | succ n ih =>
      intro x2 xf cif cig hf H locs hP hD hS ls hl
      rw [k_X5_readBoth_2] at hf
      refine lv_iload_n hx hb dX5_readBoth_2 rfl (lv_at hl 2 rfl) ?_
      refine lv_bipush (v := 100) hx hb dX5_readBoth_3 (by decide) ?_
      refine lv_icmp_ge (tgt := 51) hx hb dX5_readBoth_5 (by decide) (fun c1 => ?_) (fun c1 => ?_)
      · replace hf := it_of c1 hf
        refine lv_iconst (v := 0) hx hb dX5_readBoth_51 (by decide) ?_
        rw [hQ]
        exact ret_z C0 hP hD hS (by have e := Option.some.inj hf; rw [← e]; exact ⟨rfl, rfl⟩) rfl dX5_readBoth_52
      · replace hf := ie_of c1 hf
        refine lv_aload_n hx hb dX5_readBoth_8 rfl (lv_at hl 0 rfl) ?_
        refine lv_iload_n hx hb dX5_readBoth_9 rfl (lv_at hl 1 rfl) ?_
        obtain ⟨r2q, xf_3, cif_4, cig_5, hq6, hf⟩ := b4_of hf
        refine callVIs (As := [.int a1]) (rest := []) (wr := []) C0 (c_X5_readFact_5 q qq xf xs cif cig a1 _ (by rw [← hkF]; exact hq6)) lk_X5_80_X5_readFact rfl hStr hP hD hS perm_nil (recv_w (q0 := 0) (ci := 5) C0 hP rfl rfl rfl) hl.1 rfl rfl (Nat.le_of_ble_eq_true rfl) dX5_readBoth_10 ⟨Nat.zero_le _, Nat.zero_le _⟩ (fun r2 w H locs hw hP hD hS => ?_)
        obtain ⟨⟨e1, e2⟩, z7⟩ := hw
        replace e1 : r2 = r2q := e1
        subst e1
        subst e2
        replace hP : va_P D vwCl (List.flatten [(Tw q cA xf_3 xs (.ref (qq 0))), (Chw qq cA cif_4 cig_5)]) H := hP.nil
        replace hD : va_D A (List.flatten [(Tw q cA xf_3 xs (.ref (qq 0))), (Chw qq cA cif_4 cig_5)]) := hD.nil
        refine lv_if_eq (tgt := 32) hx hb dX5_readBoth_13 (by decide) (fun c8 => ?_) (fun c8 => ?_)
        · replace hf := it_of c8 hf
          refine lv_iconst (v := 0) hx hb dX5_readBoth_32 (by decide) ?_
          rw [hQ]
          exact ret_z C0 hP hD hS (by have e := Option.some.inj hf; rw [← e]; exact ⟨rfl, rfl⟩) rfl dX5_readBoth_33
        · replace hf := ie_of c8 hf
          refine lv_iload_n hx hb dX5_readBoth_16 rfl (lv_at hl 2 rfl) ?_
          refine lv_if_le (tgt := 34) hx hb dX5_readBoth_17 (by decide) (fun c9 => ?_) (fun c9 => ?_)
          · replace hf := it_of c9 hf
            exact J34 _ ih x2 xf_3 cif_4 cig_5 hf _ _ hP hD hS _ (lv_sub hl [0, 1, 2] rfl)
          · replace hf := ie_of c9 hf
            refine lv_aload_n hx hb dX5_readBoth_20 rfl (lv_at hl 0 rfl) ?_
            refine va_get (D := D) (ci := 5) (v := .ref (qq 0)) (C := RX5) (T := TX5) (N := 4) hx hb hts fw_5 hown hK hP 0 rfl rfl 3 (by decide) (hts _ m_fieldLink_P_Text_19_P_Text_charter_LP_Charter) (fun _ h9 => h9) rfl dX5_readBoth_21 ?_
            refine lv_bipush (v := 7) hx hb dX5_readBoth_24 (by decide) ?_
            obtain ⟨r10q, cif_11, cig_12, hq13, hf⟩ := b3_of hf
            refine callVI (As := [.int 7]) (rest := []) (wr := segpick [(Tw q cA xf_3 xs (.ref (qq 0))), (Chw qq cA cif_4 cig_5)] [0]) C0 (c_X2_addStep qq cif_4 cig_5 7 _ hq13) lk_X5_77_X2_addStep rfl hP hD hS (seg_out [(Tw q cA xf_3 xs (.ref (qq 0))), (Chw qq cA cif_4 cig_5)] [1] [0] 2 rfl (by decide)) 2 2 rfl rfl rfl hl.1 rfl rfl (Nat.le_of_ble_eq_true rfl) dX5_readBoth_26 ⟨Nat.zero_le _, Nat.zero_le _⟩ (fun r10 w H locs hw hP hD hS => ?_)
            obtain ⟨⟨e1, e2⟩, z14⟩ := hw
            replace e1 : r10 = r10q := e1
            subst e1
            subst e2
            replace hP : va_P D vwCl (List.flatten [(Tw q cA xf_3 xs (.ref (qq 0))), (Chw qq cA cif_11 cig_12)]) H := hP.perm (seg_out [(Tw q cA xf_3 xs (.ref (qq 0))), (Chw qq cA cif_11 cig_12)] [1] [0] 2 rfl (by decide)).symm
            replace hD : va_D A (List.flatten [(Tw q cA xf_3 xs (.ref (qq 0))), (Chw qq cA cif_11 cig_12)]) := hD.perm (seg_out [(Tw q cA xf_3 xs (.ref (qq 0))), (Chw qq cA cif_11 cig_12)] [1] [0] 2 rfl (by decide)).symm
            refine lv_if_ne (tgt := 34) hx hb dX5_readBoth_29 (by decide) (fun c15 => ?_) (fun c15 => ?_)
            · replace hf := ie_of c15 hf
              exact J34 _ ih x2 xf_3 cif_11 cig_12 hf _ _ hP hD hS _ (lv_sub hl [0, 1, 2] rfl)
            · replace hf := it_of c15 hf
              refine lv_iconst (v := 0) hx hb dX5_readBoth_32 (by decide) ?_
              rw [hQ]
              exact ret_z C0 hP hD hS (by have e := Option.some.inj hf; rw [← e]; exact ⟨rfl, rfl⟩) rfl dX5_readBoth_33
  replace hf : k_X5_readBoth_g kF a1 xf0 xs cif0 cig0 = some o := by rw [hkF]; exact hf
  unfold k_X5_readBoth_g at hf
  refine lv_iconst (v := 0) hx hb dX5_readBoth_0 (by decide) ?_
  refine lv_istore_n (lv' := [(2, .int 0), (0, .ref (q 0)), (1, .int a1)]) hx hb dX5_readBoth_1 rfl hl (by decide) rfl (fun ls hl => ?_)
  exact J2 100000 0 xf0 cif0 cig0 hf _ _ hP hD hS _ (lv_sub hl [1, 2, 0] rfl)
set_option maxHeartbeats 4000000 in
set_option maxRecDepth 100000 in
theorem c_X5_readEither_5 {l : Launch} {D : va_G} {cA : Nat → ClassId} {adK adV : Nat → Nat} (q : Nat → Nat) (qq : Nat → Nat) (xf0 : Nat → Int32) (xs : Nat → Int32) (cif0 : Nat → Int32) (cig0 : Nat → Nat → Int32) (a1 : Int32) (o : Int32 × (Nat → Int32) × (Nat → Int32) × (Nat → Nat → Int32)) (hf : k_X5_readEither_g (k_X5_readFact 5) a1 xf0 xs cif0 cig0 = some o) : CIs l D cA adK adV yX5_readEither cX5_readEither 3 (some .boolean) 18 414 [.ref (q 0), .int a1] (List.flatten [(Tw q cA xf0 xs (.ref (qq 0))), (Chw qq cA cif0 cig0)]) 0 0 (fun r w => (r = o.1 ∧ w = (List.flatten [(Tw q cA o.2.1 xs (.ref (qq 0))), (Chw qq cA o.2.2.1 o.2.2.2)])) ∧ narrow .boolean (.int r) = .int r) := by
  intro sz
  refine met_start_s (by decide) rfl ?_
  intro p e s m args below meth c ls hsz hargs C0 hname hStr hP hD hS hl
  generalize hAe : va_A (List.flatten [(Tw q cA xf0 xs (.ref (qq 0))), (Chw qq cA cif0 cig0)]) sz = A at C0 hStr hD hS ⊢
  obtain ⟨hx, hb, hr, hml, hown, hts, hlk, hK, hA⟩ := id C0
  replace hl : lv_has ls 3 [(0, .ref (q 0)), (1, .int a1)] := hl
  obtain ⟨Q, hQ⟩ : ∃ Q : State → Prop, Q = QI below D A (fun r w => (r = o.1 ∧ w = (List.flatten [(Tw q cA o.2.1 xs (.ref (qq 0))), (Chw qq cA o.2.2.1 o.2.2.2)])) ∧ narrow .boolean (.int r) = .int r) args s 0 0 := ⟨_, rfl⟩
  refine cast (by rw [hQ]) (?_ : W p l e (RMx 18 414 0 0) s m args below meth c s.heap [] 0 0 Q (F0 m 0 ls []))
  obtain ⟨kF, hkF⟩ : ∃ z, z = k_X5_readFact 5 := ⟨_, rfl⟩
  have J34 : ∀ (kc2 : Int32 → (Nat → Int32) → (Nat → Int32) → (Nat → Nat → Int32) → Option (Int32 × (Nat → Int32) × (Nat → Int32) × (Nat → Nat → Int32))) (hkc2 : ∀ (x2 : Int32) (xf : Nat → Int32) (cif : Nat → Int32) (cig : Nat → Nat → Int32), kc2 x2 xf cif cig = some o → ∀ (H : Heap) (locs : List Loc), va_P D vwCl (List.flatten [(Tw q cA xf xs (.ref (qq 0))), (Chw qq cA cif cig)]) H → va_D A (List.flatten [(Tw q cA xf xs (.ref (qq 0))), (Chw qq cA cif cig)]) → va_S A s.heap H locs → ∀ ls : Array Slot, lv_has ls 3 [(0, .ref (q 0)), (1, .int a1), (2, .int x2)] → W p l e (RMx 18 414 0 0) s m args below meth c H locs 0 0 Q (F0 m 2 ls [])), ∀ (x2 : Int32) (xf : Nat → Int32) (cif : Nat → Int32) (cig : Nat → Nat → Int32), k_X5_readEither_34 xs kc2 x2 xf cif cig = some o → ∀ (H : Heap) (locs : List Loc), va_P D vwCl (List.flatten [(Tw q cA xf xs (.ref (qq 0))), (Chw qq cA cif cig)]) H → va_D A (List.flatten [(Tw q cA xf xs (.ref (qq 0))), (Chw qq cA cif cig)]) → va_S A s.heap H locs → ∀ ls : Array Slot, lv_has ls 3 [(0, .ref (q 0)), (1, .int a1), (2, .int x2)] → W p l e (RMx 18 414 0 0) s m args below meth c H locs 0 0 Q (F0 m 34 ls []) := by
    intro kc2 hkc2 x2 xf cif cig hf H locs hP hD hS ls hl
    unfold k_X5_readEither_34 at hf
    refine lv_aload_n hx hb dX5_readEither_34 rfl (lv_at hl 0 rfl) ?_
    refine lv_bipush (v := 124) hx hb dX5_readEither_35 (by decide) ?_
    obtain ⟨r1q, xf_2, hq3, hf⟩ := b2_of hf
    refine callVI (As := [.int 124]) (rest := []) (wr := segpick [(Tw q cA xf xs (.ref (qq 0))), (Chw qq cA cif cig)] [1]) C0 (c_X5_take q (.ref (qq 0)) xf xs 124 _ hq3) lk_X5_35_X5_take rfl hP hD hS (seg_out [(Tw q cA xf xs (.ref (qq 0))), (Chw qq cA cif cig)] [0] [1] 2 rfl (by decide)) 0 5 rfl rfl rfl hl.1 rfl rfl (Nat.le_of_ble_eq_true rfl) dX5_readEither_37 ⟨Nat.zero_le _, Nat.zero_le _⟩ (fun r1 w H locs hw hP hD hS => ?_)
    obtain ⟨⟨e1, e2⟩, z4⟩ := hw
    replace e1 : r1 = r1q := e1
    subst e1
    subst e2
    replace hP : va_P D vwCl (List.flatten [(Tw q cA xf_2 xs (.ref (qq 0))), (Chw qq cA cif cig)]) H := hP.perm (seg_out [(Tw q cA xf_2 xs (.ref (qq 0))), (Chw qq cA cif cig)] [0] [1] 2 rfl (by decide)).symm
    replace hD : va_D A (List.flatten [(Tw q cA xf_2 xs (.ref (qq 0))), (Chw qq cA cif cig)]) := hD.perm (seg_out [(Tw q cA xf_2 xs (.ref (qq 0))), (Chw qq cA cif cig)] [0] [1] 2 rfl (by decide)).symm
    refine lv_if_ne (tgt := 45) hx hb dX5_readEither_40 (by decide) (fun c5 => ?_) (fun c5 => ?_)
    · replace hf := ie_of c5 hf
      refine lv_iinc (v := (x2 + 1)) (lv' := [(2, .int (x2 + 1)), (0, .ref (q 0)), (1, .int a1)]) hx hb dX5_readEither_45 hl (k := 2) rfl rfl (by decide) rfl (fun ls hl => ?_)
      refine lv_goto (tgt := 2) hx hb dX5_readEither_48 (by decide) ?_
      exact hkc2 (x2 + 1) xf_2 cif cig hf _ _ hP hD hS _ (lv_sub hl [1, 2, 0] rfl)
    · replace hf := it_of c5 hf
      refine lv_iconst (v := 1) hx hb dX5_readEither_43 (by decide) ?_
      rw [hQ]
      exact ret_z C0 hP hD hS (by have e := Option.some.inj hf; rw [← e]; exact ⟨rfl, rfl⟩) rfl dX5_readEither_44
  have J2 : ∀ n : Nat, ∀ (x2 : Int32) (xf : Nat → Int32) (cif : Nat → Int32) (cig : Nat → Nat → Int32), k_X5_readEither_2 kF a1 xs n x2 xf cif cig = some o → ∀ (H : Heap) (locs : List Loc), va_P D vwCl (List.flatten [(Tw q cA xf xs (.ref (qq 0))), (Chw qq cA cif cig)]) H → va_D A (List.flatten [(Tw q cA xf xs (.ref (qq 0))), (Chw qq cA cif cig)]) → va_S A s.heap H locs → ∀ ls : Array Slot, lv_has ls 3 [(0, .ref (q 0)), (1, .int a1), (2, .int x2)] → W p l e (RMx 18 414 0 0) s m args below meth c H locs 0 0 Q (F0 m 2 ls []) := by
    intro  n
    induction n with
    | zero =>
      intro x2 xf cif cig hf
      rw [k_X5_readEither_2] at hf
      cases hf
    | succ n ih =>
      intro x2 xf cif cig hf H locs hP hD hS ls hl
      rw [k_X5_readEither_2] at hf
      refine lv_iload_n hx hb dX5_readEither_2 rfl (lv_at hl 2 rfl) ?_
      refine lv_bipush (v := 100) hx hb dX5_readEither_3 (by decide) ?_
      refine lv_icmp_ge (tgt := 51) hx hb dX5_readEither_5 (by decide) (fun c1 => ?_) (fun c1 => ?_)
      · replace hf := it_of c1 hf
        refine lv_iconst (v := 0) hx hb dX5_readEither_51 (by decide) ?_
        rw [hQ]
        exact ret_z C0 hP hD hS (by have e := Option.some.inj hf; rw [← e]; exact ⟨rfl, rfl⟩) rfl dX5_readEither_52
      · replace hf := ie_of c1 hf
        refine lv_aload_n hx hb dX5_readEither_8 rfl (lv_at hl 0 rfl) ?_
        refine lv_iload_n hx hb dX5_readEither_9 rfl (lv_at hl 1 rfl) ?_
        obtain ⟨r2q, xf_3, cif_4, cig_5, hq6, hf⟩ := b4_of hf
        refine callVIs (As := [.int a1]) (rest := []) (wr := []) C0 (c_X5_readBoth_5 q qq xf xs cif cig a1 _ (by rw [← hkF]; exact hq6)) lk_X5_74_X5_readBoth rfl hStr hP hD hS perm_nil (recv_w (q0 := 0) (ci := 5) C0 hP rfl rfl rfl) hl.1 rfl rfl (Nat.le_of_ble_eq_true rfl) dX5_readEither_10 ⟨Nat.zero_le _, Nat.zero_le _⟩ (fun r2 w H locs hw hP hD hS => ?_)
        obtain ⟨⟨e1, e2⟩, z7⟩ := hw
        replace e1 : r2 = r2q := e1
        subst e1
        subst e2
        replace hP : va_P D vwCl (List.flatten [(Tw q cA xf_3 xs (.ref (qq 0))), (Chw qq cA cif_4 cig_5)]) H := hP.nil
        replace hD : va_D A (List.flatten [(Tw q cA xf_3 xs (.ref (qq 0))), (Chw qq cA cif_4 cig_5)]) := hD.nil
        refine lv_if_eq (tgt := 32) hx hb dX5_readEither_13 (by decide) (fun c8 => ?_) (fun c8 => ?_)
        · replace hf := it_of c8 hf
          refine lv_iconst (v := 0) hx hb dX5_readEither_32 (by decide) ?_
          rw [hQ]
          exact ret_z C0 hP hD hS (by have e := Option.some.inj hf; rw [← e]; exact ⟨rfl, rfl⟩) rfl dX5_readEither_33
        · replace hf := ie_of c8 hf
          refine lv_iload_n hx hb dX5_readEither_16 rfl (lv_at hl 2 rfl) ?_
          refine lv_if_le (tgt := 34) hx hb dX5_readEither_17 (by decide) (fun c9 => ?_) (fun c9 => ?_)
          · replace hf := it_of c9 hf
            exact J34 _ ih x2 xf_3 cif_4 cig_5 hf _ _ hP hD hS _ (lv_sub hl [0, 1, 2] rfl)
          · replace hf := ie_of c9 hf
            refine lv_aload_n hx hb dX5_readEither_20 rfl (lv_at hl 0 rfl) ?_
            refine va_get (D := D) (ci := 5) (v := .ref (qq 0)) (C := RX5) (T := TX5) (N := 4) hx hb hts fw_5 hown hK hP 0 rfl rfl 3 (by decide) (hts _ m_fieldLink_P_Text_19_P_Text_charter_LP_Charter) (fun _ h9 => h9) rfl dX5_readEither_21 ?_
            refine lv_bipush (v := 8) hx hb dX5_readEither_24 (by decide) ?_
            obtain ⟨r10q, cif_11, cig_12, hq13, hf⟩ := b3_of hf
            refine callVI (As := [.int 8]) (rest := []) (wr := segpick [(Tw q cA xf_3 xs (.ref (qq 0))), (Chw qq cA cif_4 cig_5)] [0]) C0 (c_X2_addStep qq cif_4 cig_5 8 _ hq13) lk_X5_77_X2_addStep rfl hP hD hS (seg_out [(Tw q cA xf_3 xs (.ref (qq 0))), (Chw qq cA cif_4 cig_5)] [1] [0] 2 rfl (by decide)) 2 2 rfl rfl rfl hl.1 rfl rfl (Nat.le_of_ble_eq_true rfl) dX5_readEither_26 ⟨Nat.zero_le _, Nat.zero_le _⟩ (fun r10 w H locs hw hP hD hS => ?_)
            obtain ⟨⟨e1, e2⟩, z14⟩ := hw
            replace e1 : r10 = r10q := e1
            subst e1
            subst e2
            replace hP : va_P D vwCl (List.flatten [(Tw q cA xf_3 xs (.ref (qq 0))), (Chw qq cA cif_11 cig_12)]) H := hP.perm (seg_out [(Tw q cA xf_3 xs (.ref (qq 0))), (Chw qq cA cif_11 cig_12)] [1] [0] 2 rfl (by decide)).symm
            replace hD : va_D A (List.flatten [(Tw q cA xf_3 xs (.ref (qq 0))), (Chw qq cA cif_11 cig_12)]) := hD.perm (seg_out [(Tw q cA xf_3 xs (.ref (qq 0))), (Chw qq cA cif_11 cig_12)] [1] [0] 2 rfl (by decide)).symm
            refine lv_if_ne (tgt := 34) hx hb dX5_readEither_29 (by decide) (fun c15 => ?_) (fun c15 => ?_)
            · replace hf := ie_of c15 hf
              exact J34 _ ih x2 xf_3 cif_11 cig_12 hf _ _ hP hD hS _ (lv_sub hl [0, 1, 2] rfl)
            · replace hf := it_of c15 hf
              refine lv_iconst (v := 0) hx hb dX5_readEither_32 (by decide) ?_
              rw [hQ]
              exact ret_z C0 hP hD hS (by have e := Option.some.inj hf; rw [← e]; exact ⟨rfl, rfl⟩) rfl dX5_readEither_33
  replace hf : k_X5_readEither_g kF a1 xf0 xs cif0 cig0 = some o := by rw [hkF]; exact hf
  unfold k_X5_readEither_g at hf
  refine lv_iconst (v := 0) hx hb dX5_readEither_0 (by decide) ?_
  refine lv_istore_n (lv' := [(2, .int 0), (0, .ref (q 0)), (1, .int a1)]) hx hb dX5_readEither_1 rfl hl (by decide) rfl (fun ls hl => ?_)
  exact J2 100000 0 xf0 cif0 cig0 hf _ _ hP hD hS _ (lv_sub hl [1, 2, 0] rfl)
noncomputable def k_X5_readClause_65  (x1 : Int32) (x2 : Int32) (xf : Nat → Int32) (cif : Nat → Int32) (cig : Nat → Nat → Int32) : Option (Int32 × (Nat → Int32) × (Nat → Int32) × (Nat → Nat → Int32)) := b3 (k_X2_addClause x1 x2 cif cig) (fun r1 cif_2 cig_3 => some (r1, xf, cif_2, cig_3))
noncomputable def k_X5_readClause (xf0 : Nat → Int32) (xs : Nat → Int32) (cif0 : Nat → Int32) (cig0 : Nat → Nat → Int32) : Option (Int32 × (Nat → Int32) × (Nat → Int32) × (Nat → Nat → Int32)) := b1 (k_X5_sortAhead xf0 xs) (fun r1 => if r1 = (-1) then some (0, xf0, cif0, cig0) else b2 (k_X5_takeWord r1 xf0 xs) (fun r4 xf_5 => if r4 = 0 then some (0, xf_5, cif0, cig0) else b2 (k_X5_take 32 xf_5 xs) (fun r9 xf_10 => if r9 = 0 then some (0, xf_10, cif0, cig0) else b2 (k_X5_readNumber xf_10 xs) (fun r14 xf_15 => if r14 = (-1) then some (0, xf_15, cif0, cig0) else if r1 = 2 then k_X5_readClause_65 r1 r14 xf_15 cif0 cig0 else b2 (k_X5_take 32 xf_15 xs) (fun r19 xf_20 => if r19 = 0 then some (0, xf_20, cif0, cig0) else b4 ((k_X5_readEither_g (k_X5_readFact 5)) 0 xf_20 xs cif0 cig0) (fun r24 xf_25 cif_26 cig_27 => if r24 = 0 then some (0, xf_25, cif_26, cig_27) else k_X5_readClause_65 r1 r14 xf_25 cif_26 cig_27))))))
set_option maxHeartbeats 4000000 in
set_option maxRecDepth 100000 in
theorem c_X5_readClause {l : Launch} {D : va_G} {cA : Nat → ClassId} {adK adV : Nat → Nat} (q : Nat → Nat) (qq : Nat → Nat) (xf0 : Nat → Int32) (xs : Nat → Int32) (cif0 : Nat → Int32) (cig0 : Nat → Nat → Int32)  (o : Int32 × (Nat → Int32) × (Nat → Int32) × (Nat → Nat → Int32)) (hf : k_X5_readClause xf0 xs cif0 cig0 = some o) : CIs l D cA adK adV yX5_readClause cX5_readClause 3 (some .boolean) 19 436 [.ref (q 0)] (List.flatten [(Tw q cA xf0 xs (.ref (qq 0))), (Chw qq cA cif0 cig0)]) 0 0 (fun r w => (r = o.1 ∧ w = (List.flatten [(Tw q cA o.2.1 xs (.ref (qq 0))), (Chw qq cA o.2.2.1 o.2.2.2)])) ∧ narrow .boolean (.int r) = .int r) := by
  intro sz
  refine met_start_s (by decide) rfl ?_
  intro p e s m args below meth c ls hsz hargs C0 hname hStr hP hD hS hl
  generalize hAe : va_A (List.flatten [(Tw q cA xf0 xs (.ref (qq 0))), (Chw qq cA cif0 cig0)]) sz = A at C0 hStr hD hS ⊢
  obtain ⟨hx, hb, hr, hml, hown, hts, hlk, hK, hA⟩ := id C0
  replace hl : lv_has ls 3 [(0, .ref (q 0))] := hl
  obtain ⟨Q, hQ⟩ : ∃ Q : State → Prop, Q = QI below D A (fun r w => (r = o.1 ∧ w = (List.flatten [(Tw q cA o.2.1 xs (.ref (qq 0))), (Chw qq cA o.2.2.1 o.2.2.2)])) ∧ narrow .boolean (.int r) = .int r) args s 0 0 := ⟨_, rfl⟩
  refine cast (by rw [hQ]) (?_ : W p l e (RMx 19 436 0 0) s m args below meth c s.heap [] 0 0 Q (F0 m 0 ls []))
  have J65 : ∀ (x1 : Int32) (x2 : Int32) (xf : Nat → Int32) (cif : Nat → Int32) (cig : Nat → Nat → Int32), k_X5_readClause_65 x1 x2 xf cif cig = some o → ∀ (H : Heap) (locs : List Loc), va_P D vwCl (List.flatten [(Tw q cA xf xs (.ref (qq 0))), (Chw qq cA cif cig)]) H → va_D A (List.flatten [(Tw q cA xf xs (.ref (qq 0))), (Chw qq cA cif cig)]) → va_S A s.heap H locs → ∀ ls : Array Slot, lv_has ls 3 [(0, .ref (q 0)), (1, .int x1), (2, .int x2)] → W p l e (RMx 19 436 0 0) s m args below meth c H locs 0 0 Q (F0 m 65 ls []) := by
    intro  x1 x2 xf cif cig hf H locs hP hD hS ls hl
    unfold k_X5_readClause_65 at hf
    refine lv_aload_n hx hb dX5_readClause_65 rfl (lv_at hl 0 rfl) ?_
    refine va_get (D := D) (ci := 5) (v := .ref (qq 0)) (C := RX5) (T := TX5) (N := 4) hx hb hts fw_5 hown hK hP 0 rfl rfl 3 (by decide) (hts _ m_fieldLink_P_Text_19_P_Text_charter_LP_Charter) (fun _ h9 => h9) rfl dX5_readClause_66 ?_
    refine lv_iload_n hx hb dX5_readClause_69 rfl (lv_at hl 1 rfl) ?_
    refine lv_iload_n hx hb dX5_readClause_70 rfl (lv_at hl 2 rfl) ?_
    obtain ⟨r1q, cif_2, cig_3, hq4, hf⟩ := b3_of hf
    refine callVI (As := [.int x1, .int x2]) (rest := []) (wr := segpick [(Tw q cA xf xs (.ref (qq 0))), (Chw qq cA cif cig)] [0]) C0 (c_X2_addClause qq cif cig x1 x2 _ hq4) lk_X5_53_X2_addClause rfl hP hD hS (seg_out [(Tw q cA xf xs (.ref (qq 0))), (Chw qq cA cif cig)] [1] [0] 2 rfl (by decide)) 2 2 rfl rfl rfl hl.1 rfl rfl (Nat.le_of_ble_eq_true rfl) dX5_readClause_71 ⟨Nat.zero_le _, Nat.zero_le _⟩ (fun r1 w H locs hw hP hD hS => ?_)
    obtain ⟨⟨e1, e2⟩, z5⟩ := hw
    replace e1 : r1 = r1q := e1
    subst e1
    subst e2
    replace hP : va_P D vwCl (List.flatten [(Tw q cA xf xs (.ref (qq 0))), (Chw qq cA cif_2 cig_3)]) H := hP.perm (seg_out [(Tw q cA xf xs (.ref (qq 0))), (Chw qq cA cif_2 cig_3)] [1] [0] 2 rfl (by decide)).symm
    replace hD : va_D A (List.flatten [(Tw q cA xf xs (.ref (qq 0))), (Chw qq cA cif_2 cig_3)]) := hD.perm (seg_out [(Tw q cA xf xs (.ref (qq 0))), (Chw qq cA cif_2 cig_3)] [1] [0] 2 rfl (by decide)).symm
    rw [hQ]
    exact ret_z C0 hP hD hS (by have e := Option.some.inj hf; rw [← e]; exact ⟨rfl, rfl⟩) z5 dX5_readClause_74
  unfold k_X5_readClause at hf
  refine lv_aload_n hx hb dX5_readClause_0 rfl (lv_at hl 0 rfl) ?_
  obtain ⟨r1q, hq2, hf⟩ := b1_of hf
  refine callVI (As := []) (rest := []) (wr := segpick [(Tw q cA xf0 xs (.ref (qq 0))), (Chw qq cA cif0 cig0)] [1]) C0 (c_X5_sortAhead q (.ref (qq 0)) xf0 xs _ hq2) lk_X5_39_X5_sortAhead rfl hP hD hS (seg_out [(Tw q cA xf0 xs (.ref (qq 0))), (Chw qq cA cif0 cig0)] [0] [1] 2 rfl (by decide)) 0 5 rfl rfl rfl hl.1 rfl rfl (Nat.le_of_ble_eq_true rfl) dX5_readClause_1 ⟨Nat.zero_le _, Nat.zero_le _⟩ (fun r1 w H locs hw hP hD hS => ?_)
  obtain ⟨e1, e2⟩ := hw
  replace e1 : r1 = r1q := e1
  subst e1
  subst e2
  replace hP : va_P D vwCl (List.flatten [(Tw q cA xf0 xs (.ref (qq 0))), (Chw qq cA cif0 cig0)]) H := hP.perm (seg_out [(Tw q cA xf0 xs (.ref (qq 0))), (Chw qq cA cif0 cig0)] [0] [1] 2 rfl (by decide)).symm
  replace hD : va_D A (List.flatten [(Tw q cA xf0 xs (.ref (qq 0))), (Chw qq cA cif0 cig0)]) := hD.perm (seg_out [(Tw q cA xf0 xs (.ref (qq 0))), (Chw qq cA cif0 cig0)] [0] [1] 2 rfl (by decide)).symm
  refine lv_istore_n (lv' := [(1, .int r1), (0, .ref (q 0))]) hx hb dX5_readClause_4 rfl hl (by decide) rfl (fun ls hl => ?_)
  refine lv_iload_n hx hb dX5_readClause_5 rfl (lv_at hl 0 rfl) ?_
  refine lv_iconst (v := (-1)) hx hb dX5_readClause_6 (by decide) ?_
  refine lv_icmp_eq (tgt := 27) hx hb dX5_readClause_7 (by decide) (fun c3 => ?_) (fun c3 => ?_)
  · replace hf := it_of c3 hf
    refine lv_iconst (v := 0) hx hb dX5_readClause_27 (by decide) ?_
    rw [hQ]
    exact ret_z C0 hP hD hS (by have e := Option.some.inj hf; rw [← e]; exact ⟨rfl, rfl⟩) rfl dX5_readClause_28
  · replace hf := ie_of c3 hf
    refine lv_aload_n hx hb dX5_readClause_10 rfl (lv_at hl 1 rfl) ?_
    refine lv_iload_n hx hb dX5_readClause_11 rfl (lv_at hl 0 rfl) ?_
    obtain ⟨r4q, xf_5, hq6, hf⟩ := b2_of hf
    refine callVIs (As := [.int r1]) (rest := []) (wr := segpick [(Tw q cA xf0 xs (.ref (qq 0))), (Chw qq cA cif0 cig0)] [1]) C0 (c_X5_takeWord q (.ref (qq 0)) xf0 xs r1 _ hq6) lk_X5_43_X5_takeWord rfl hStr hP hD hS (seg_out [(Tw q cA xf0 xs (.ref (qq 0))), (Chw qq cA cif0 cig0)] [0] [1] 2 rfl (by decide)) (recv_w (q0 := 0) (ci := 5) C0 hP rfl rfl rfl) hl.1 rfl rfl (Nat.le_of_ble_eq_true rfl) dX5_readClause_12 ⟨Nat.zero_le _, Nat.zero_le _⟩ (fun r4 w H locs hw hP hD hS => ?_)
    obtain ⟨⟨e1, e2⟩, z7⟩ := hw
    replace e1 : r4 = r4q := e1
    subst e1
    subst e2
    replace hP : va_P D vwCl (List.flatten [(Tw q cA xf_5 xs (.ref (qq 0))), (Chw qq cA cif0 cig0)]) H := hP.perm (seg_out [(Tw q cA xf_5 xs (.ref (qq 0))), (Chw qq cA cif0 cig0)] [0] [1] 2 rfl (by decide)).symm
    replace hD : va_D A (List.flatten [(Tw q cA xf_5 xs (.ref (qq 0))), (Chw qq cA cif0 cig0)]) := hD.perm (seg_out [(Tw q cA xf_5 xs (.ref (qq 0))), (Chw qq cA cif0 cig0)] [0] [1] 2 rfl (by decide)).symm
    refine lv_if_eq (tgt := 27) hx hb dX5_readClause_15 (by decide) (fun c8 => ?_) (fun c8 => ?_)
    · replace hf := it_of c8 hf
      refine lv_iconst (v := 0) hx hb dX5_readClause_27 (by decide) ?_
      rw [hQ]
      exact ret_z C0 hP hD hS (by have e := Option.some.inj hf; rw [← e]; exact ⟨rfl, rfl⟩) rfl dX5_readClause_28
    · replace hf := ie_of c8 hf
      refine lv_aload_n hx hb dX5_readClause_18 rfl (lv_at hl 1 rfl) ?_
      refine lv_bipush (v := 32) hx hb dX5_readClause_19 (by decide) ?_
      obtain ⟨r9q, xf_10, hq11, hf⟩ := b2_of hf
      refine callVI (As := [.int 32]) (rest := []) (wr := segpick [(Tw q cA xf_5 xs (.ref (qq 0))), (Chw qq cA cif0 cig0)] [1]) C0 (c_X5_take q (.ref (qq 0)) xf_5 xs 32 _ hq11) lk_X5_35_X5_take rfl hP hD hS (seg_out [(Tw q cA xf_5 xs (.ref (qq 0))), (Chw qq cA cif0 cig0)] [0] [1] 2 rfl (by decide)) 0 5 rfl rfl rfl hl.1 rfl rfl (Nat.le_of_ble_eq_true rfl) dX5_readClause_21 ⟨Nat.zero_le _, Nat.zero_le _⟩ (fun r9 w H locs hw hP hD hS => ?_)
      obtain ⟨⟨e1, e2⟩, z12⟩ := hw
      replace e1 : r9 = r9q := e1
      subst e1
      subst e2
      replace hP : va_P D vwCl (List.flatten [(Tw q cA xf_10 xs (.ref (qq 0))), (Chw qq cA cif0 cig0)]) H := hP.perm (seg_out [(Tw q cA xf_10 xs (.ref (qq 0))), (Chw qq cA cif0 cig0)] [0] [1] 2 rfl (by decide)).symm
      replace hD : va_D A (List.flatten [(Tw q cA xf_10 xs (.ref (qq 0))), (Chw qq cA cif0 cig0)]) := hD.perm (seg_out [(Tw q cA xf_10 xs (.ref (qq 0))), (Chw qq cA cif0 cig0)] [0] [1] 2 rfl (by decide)).symm
      refine lv_if_ne (tgt := 29) hx hb dX5_readClause_24 (by decide) (fun c13 => ?_) (fun c13 => ?_)
      · replace hf := ie_of c13 hf
        refine lv_aload_n hx hb dX5_readClause_29 rfl (lv_at hl 1 rfl) ?_
        obtain ⟨r14q, xf_15, hq16, hf⟩ := b2_of hf
        refine callVI (As := []) (rest := []) (wr := segpick [(Tw q cA xf_10 xs (.ref (qq 0))), (Chw qq cA cif0 cig0)] [1]) C0 (c_X5_readNumber q (.ref (qq 0)) xf_10 xs _ hq16) lk_X5_47_X5_readNumber rfl hP hD hS (seg_out [(Tw q cA xf_10 xs (.ref (qq 0))), (Chw qq cA cif0 cig0)] [0] [1] 2 rfl (by decide)) 0 5 rfl rfl rfl hl.1 rfl rfl (Nat.le_of_ble_eq_true rfl) dX5_readClause_30 ⟨Nat.zero_le _, Nat.zero_le _⟩ (fun r14 w H locs hw hP hD hS => ?_)
        obtain ⟨e1, e2⟩ := hw
        replace e1 : r14 = r14q := e1
        subst e1
        subst e2
        replace hP : va_P D vwCl (List.flatten [(Tw q cA xf_15 xs (.ref (qq 0))), (Chw qq cA cif0 cig0)]) H := hP.perm (seg_out [(Tw q cA xf_15 xs (.ref (qq 0))), (Chw qq cA cif0 cig0)] [0] [1] 2 rfl (by decide)).symm
        replace hD : va_D A (List.flatten [(Tw q cA xf_15 xs (.ref (qq 0))), (Chw qq cA cif0 cig0)]) := hD.perm (seg_out [(Tw q cA xf_15 xs (.ref (qq 0))), (Chw qq cA cif0 cig0)] [0] [1] 2 rfl (by decide)).symm
        refine lv_istore_n (lv' := [(2, .int r14), (1, .int r1), (0, .ref (q 0))]) hx hb dX5_readClause_33 rfl hl (by decide) rfl (fun ls hl => ?_)
        refine lv_iload_n hx hb dX5_readClause_34 rfl (lv_at hl 0 rfl) ?_
        refine lv_iconst (v := (-1)) hx hb dX5_readClause_35 (by decide) ?_
        refine lv_icmp_ne (tgt := 41) hx hb dX5_readClause_36 (by decide) (fun c17 => ?_) (fun c17 => ?_)
        · replace hf := ie_of c17 hf
          refine lv_iload_n hx hb dX5_readClause_41 rfl (lv_at hl 1 rfl) ?_
          refine lv_iconst (v := 2) hx hb dX5_readClause_42 (by decide) ?_
          refine lv_icmp_eq (tgt := 65) hx hb dX5_readClause_43 (by decide) (fun c18 => ?_) (fun c18 => ?_)
          · replace hf := it_of c18 hf
            exact J65 r1 r14 xf_15 cif0 cig0 hf _ _ hP hD hS _ (lv_sub hl [2, 1, 0] rfl)
          · replace hf := ie_of c18 hf
            refine lv_aload_n hx hb dX5_readClause_46 rfl (lv_at hl 2 rfl) ?_
            refine lv_bipush (v := 32) hx hb dX5_readClause_47 (by decide) ?_
            obtain ⟨r19q, xf_20, hq21, hf⟩ := b2_of hf
            refine callVI (As := [.int 32]) (rest := []) (wr := segpick [(Tw q cA xf_15 xs (.ref (qq 0))), (Chw qq cA cif0 cig0)] [1]) C0 (c_X5_take q (.ref (qq 0)) xf_15 xs 32 _ hq21) lk_X5_35_X5_take rfl hP hD hS (seg_out [(Tw q cA xf_15 xs (.ref (qq 0))), (Chw qq cA cif0 cig0)] [0] [1] 2 rfl (by decide)) 0 5 rfl rfl rfl hl.1 rfl rfl (Nat.le_of_ble_eq_true rfl) dX5_readClause_49 ⟨Nat.zero_le _, Nat.zero_le _⟩ (fun r19 w H locs hw hP hD hS => ?_)
            obtain ⟨⟨e1, e2⟩, z22⟩ := hw
            replace e1 : r19 = r19q := e1
            subst e1
            subst e2
            replace hP : va_P D vwCl (List.flatten [(Tw q cA xf_20 xs (.ref (qq 0))), (Chw qq cA cif0 cig0)]) H := hP.perm (seg_out [(Tw q cA xf_20 xs (.ref (qq 0))), (Chw qq cA cif0 cig0)] [0] [1] 2 rfl (by decide)).symm
            replace hD : va_D A (List.flatten [(Tw q cA xf_20 xs (.ref (qq 0))), (Chw qq cA cif0 cig0)]) := hD.perm (seg_out [(Tw q cA xf_20 xs (.ref (qq 0))), (Chw qq cA cif0 cig0)] [0] [1] 2 rfl (by decide)).symm
            refine lv_if_eq (tgt := 63) hx hb dX5_readClause_52 (by decide) (fun c23 => ?_) (fun c23 => ?_)
            · replace hf := it_of c23 hf
              refine lv_iconst (v := 0) hx hb dX5_readClause_63 (by decide) ?_
              rw [hQ]
              exact ret_z C0 hP hD hS (by have e := Option.some.inj hf; rw [← e]; exact ⟨rfl, rfl⟩) rfl dX5_readClause_64
            · replace hf := ie_of c23 hf
              refine lv_aload_n hx hb dX5_readClause_55 rfl (lv_at hl 2 rfl) ?_
              refine lv_iconst (v := 0) hx hb dX5_readClause_56 (by decide) ?_
              obtain ⟨r24q, xf_25, cif_26, cig_27, hq28, hf⟩ := b4_of hf
              refine callVIs (As := [.int 0]) (rest := []) (wr := []) C0 (c_X5_readEither_5 q qq xf_20 xs cif0 cig0 0 _ hq28) lk_X5_50_X5_readEither rfl hStr hP hD hS perm_nil (recv_w (q0 := 0) (ci := 5) C0 hP rfl rfl rfl) hl.1 rfl rfl (Nat.le_of_ble_eq_true rfl) dX5_readClause_57 ⟨Nat.zero_le _, Nat.zero_le _⟩ (fun r24 w H locs hw hP hD hS => ?_)
              obtain ⟨⟨e1, e2⟩, z29⟩ := hw
              replace e1 : r24 = r24q := e1
              subst e1
              subst e2
              replace hP : va_P D vwCl (List.flatten [(Tw q cA xf_25 xs (.ref (qq 0))), (Chw qq cA cif_26 cig_27)]) H := hP.nil
              replace hD : va_D A (List.flatten [(Tw q cA xf_25 xs (.ref (qq 0))), (Chw qq cA cif_26 cig_27)]) := hD.nil
              refine lv_if_ne (tgt := 65) hx hb dX5_readClause_60 (by decide) (fun c30 => ?_) (fun c30 => ?_)
              · replace hf := ie_of c30 hf
                exact J65 r1 r14 xf_25 cif_26 cig_27 hf _ _ hP hD hS _ (lv_sub hl [2, 1, 0] rfl)
              · replace hf := it_of c30 hf
                refine lv_iconst (v := 0) hx hb dX5_readClause_63 (by decide) ?_
                rw [hQ]
                exact ret_z C0 hP hD hS (by have e := Option.some.inj hf; rw [← e]; exact ⟨rfl, rfl⟩) rfl dX5_readClause_64
        · replace hf := it_of c17 hf
          refine lv_iconst (v := 0) hx hb dX5_readClause_39 (by decide) ?_
          rw [hQ]
          exact ret_z C0 hP hD hS (by have e := Option.some.inj hf; rw [← e]; exact ⟨rfl, rfl⟩) rfl dX5_readClause_40
      · replace hf := it_of c13 hf
        refine lv_iconst (v := 0) hx hb dX5_readClause_27 (by decide) ?_
        rw [hQ]
        exact ret_z C0 hP hD hS (by have e := Option.some.inj hf; rw [← e]; exact ⟨rfl, rfl⟩) rfl dX5_readClause_28

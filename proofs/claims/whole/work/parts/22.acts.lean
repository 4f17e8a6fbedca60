theorem m_methodLink_P_Acts_38_P_Acts_began_I_V : (Cond.methodLink RX0 38 yX0_began) ∈ BW := bw_in (tw_3 _ (List.mem_of_getElem? (i := 206) (by decide +kernel))) rfl
theorem m_instanceMethod_P_Acts_began_I_V : (Cond.instanceMethod yX0_began) ∈ BW := bw_in (tw_3 _ (List.mem_of_getElem? (i := 208) (by decide +kernel))) rfl
theorem m_selects_P_Acts_P_Acts_began_I_V_P_Acts_began_I_V : (Cond.selects RX0 yX0_began yX0_began) ∈ BW := bw_in (List.mem_append_left _ (pw_2 _ (List.mem_of_getElem? (i := 7) (by decide +kernel)))) rfl
theorem m_initialized_P_Acts : (Cond.initialized RX0) ∈ BW := bw_in (tw_1 _ (List.mem_of_getElem? (i := 5) (by decide +kernel))) rfl
theorem m_code_P_Acts_began_I_V : (Cond.code yX0_began cX0_began 2 none) ∈ BW := bw_in (tw_3 _ (List.mem_of_getElem? (i := 209) (by decide +kernel))) rfl
theorem m_methodLink_P_Acts_25_P_Acts_rolls_II_I : (Cond.methodLink RX0 25 yX0_rolls) ∈ BW := bw_in (tw_3 _ (List.mem_of_getElem? (i := 202) (by decide +kernel))) rfl
theorem m_instanceMethod_P_Acts_rolls_II_I : (Cond.instanceMethod yX0_rolls) ∈ BW := bw_in (tw_3 _ (List.mem_of_getElem? (i := 204) (by decide +kernel))) rfl
theorem m_selects_P_Acts_P_Acts_rolls_II_I_P_Acts_rolls_II_I : (Cond.selects RX0 yX0_rolls yX0_rolls) ∈ BW := bw_in (List.mem_append_left _ (pw_2 _ (List.mem_of_getElem? (i := 6) (by decide +kernel)))) rfl
theorem m_code_P_Acts_rolls_II_I : (Cond.code yX0_rolls cX0_rolls 3 (some .int)) ∈ BW := bw_in (tw_3 _ (List.mem_of_getElem? (i := 205) (by decide +kernel))) rfl
theorem m_fieldLink_P_Acts_15_P_Acts_number_I : (Cond.fieldLink RX0 15 "CellarPlot$Acts" "number" "I") ∈ BW := bw_in (tw_1 _ (List.mem_of_getElem? (i := 146) (by decide +kernel))) rfl
theorem m_fieldLink_P_Acts_22_P_Acts_v_I : (Cond.fieldLink RX0 22 "CellarPlot$Acts" "v" "I") ∈ BW := bw_in (tw_1 _ (List.mem_of_getElem? (i := 148) (by decide +kernel))) rfl
theorem m_methodLink_P_Acts_29_P_Acts_hums_II_I : (Cond.methodLink RX0 29 yX0_hums) ∈ BW := bw_in (tw_3 _ (List.mem_of_getElem? (i := 210) (by decide +kernel))) rfl
theorem m_instanceMethod_P_Acts_hums_II_I : (Cond.instanceMethod yX0_hums) ∈ BW := bw_in (tw_3 _ (List.mem_of_getElem? (i := 212) (by decide +kernel))) rfl
theorem m_selects_P_Acts_P_Acts_hums_II_I_P_Acts_hums_II_I : (Cond.selects RX0 yX0_hums yX0_hums) ∈ BW := bw_in (List.mem_append_left _ (pw_2 _ (List.mem_of_getElem? (i := 8) (by decide +kernel)))) rfl
theorem m_code_P_Acts_hums_II_I : (Cond.code yX0_hums cX0_hums 3 (some .int)) ∈ BW := bw_in (tw_3 _ (List.mem_of_getElem? (i := 213) (by decide +kernel))) rfl
theorem m_fieldLink_P_Acts_19_P_Acts_kind_I : (Cond.fieldLink RX0 19 "CellarPlot$Acts" "kind" "I") ∈ BW := bw_in (tw_1 _ (List.mem_of_getElem? (i := 147) (by decide +kernel))) rfl
theorem m_methodLink_P_Acts_32_P_Acts_tells_II_I : (Cond.methodLink RX0 32 yX0_tells) ∈ BW := bw_in (tw_3 _ (List.mem_of_getElem? (i := 214) (by decide +kernel))) rfl
theorem m_instanceMethod_P_Acts_tells_II_I : (Cond.instanceMethod yX0_tells) ∈ BW := bw_in (tw_3 _ (List.mem_of_getElem? (i := 216) (by decide +kernel))) rfl
theorem m_selects_P_Acts_P_Acts_tells_II_I_P_Acts_tells_II_I : (Cond.selects RX0 yX0_tells yX0_tells) ∈ BW := bw_in (List.mem_append_left _ (pw_2 _ (List.mem_of_getElem? (i := 9) (by decide +kernel)))) rfl
theorem m_code_P_Acts_tells_II_I : (Cond.code yX0_tells cX0_tells 3 (some .int)) ∈ BW := bw_in (tw_3 _ (List.mem_of_getElem? (i := 217) (by decide +kernel))) rfl
theorem m_methodLink_P_238_P_Acts_run_IIIII_I : (Cond.methodLink RX6 238 yX0_run) ∈ BW := bw_in (tw_3 _ (List.mem_of_getElem? (i := 198) (by decide +kernel))) rfl
theorem m_instanceMethod_P_Acts_run_IIIII_I : (Cond.instanceMethod yX0_run) ∈ BW := bw_in (tw_3 _ (List.mem_of_getElem? (i := 199) (by decide +kernel))) rfl
theorem m_selects_P_Acts_P_Acts_run_IIIII_I_P_Acts_run_IIIII_I : (Cond.selects RX0 yX0_run yX0_run) ∈ BW := bw_in (tw_3 _ (List.mem_of_getElem? (i := 200) (by decide +kernel))) rfl
theorem m_code_P_Acts_run_IIIII_I : (Cond.code yX0_run cX0_run 6 (some .int)) ∈ BW := bw_in (tw_3 _ (List.mem_of_getElem? (i := 201) (by decide +kernel))) rfl
theorem lk_X0_38_X0_began : LinkV RX0 38 yX0_began cX0_began 2 none 1 := ⟨m_methodLink_P_Acts_38_P_Acts_began_I_V, m_instanceMethod_P_Acts_began_I_V, m_selects_P_Acts_P_Acts_began_I_V_P_Acts_began_I_V, m_initialized_P_Acts, m_code_P_Acts_began_I_V, by decide +kernel, by decide +kernel, by decide +kernel⟩
theorem lk_X0_25_X0_rolls : LinkV RX0 25 yX0_rolls cX0_rolls 3 (some .int) 2 := ⟨m_methodLink_P_Acts_25_P_Acts_rolls_II_I, m_instanceMethod_P_Acts_rolls_II_I, m_selects_P_Acts_P_Acts_rolls_II_I_P_Acts_rolls_II_I, m_initialized_P_Acts, m_code_P_Acts_rolls_II_I, by decide +kernel, by decide +kernel, by decide +kernel⟩
theorem lk_X0_29_X0_hums : LinkV RX0 29 yX0_hums cX0_hums 3 (some .int) 2 := ⟨m_methodLink_P_Acts_29_P_Acts_hums_II_I, m_instanceMethod_P_Acts_hums_II_I, m_selects_P_Acts_P_Acts_hums_II_I_P_Acts_hums_II_I, m_initialized_P_Acts, m_code_P_Acts_hums_II_I, by decide +kernel, by decide +kernel, by decide +kernel⟩
theorem lk_X0_32_X0_tells : LinkV RX0 32 yX0_tells cX0_tells 3 (some .int) 2 := ⟨m_methodLink_P_Acts_32_P_Acts_tells_II_I, m_instanceMethod_P_Acts_tells_II_I, m_selects_P_Acts_P_Acts_tells_II_I_P_Acts_tells_II_I, m_initialized_P_Acts, m_code_P_Acts_tells_II_I, by decide +kernel, by decide +kernel, by decide +kernel⟩
theorem lk_X6_238_X0_run : LinkV RX6 238 yX0_run cX0_run 6 (some .int) 5 := ⟨m_methodLink_P_238_P_Acts_run_IIIII_I, m_instanceMethod_P_Acts_run_IIIII_I, m_selects_P_Acts_P_Acts_run_IIIII_I_P_Acts_run_IIIII_I, m_initialized_P_Acts, m_code_P_Acts_run_IIIII_I, by decide +kernel, by decide +kernel, by decide +kernel⟩
noncomputable def k_X0_rolls_g (kR : Int32 → Int32 → (Nat → Int32) → (Nat → Int32) → Option (Int32 × (Nat → Int32) × (Nat → Int32))) (a1 : Int32) (a2 : Int32) (af0 : Nat → Int32) (ab0 : Nat → Int32) : Option (Int32 × (Nat → Int32) × (Nat → Int32)) := if a1 = 2 then b2 (k_X0_began 30 af0 ab0) (fun af_2 ab_3 => b3 (kR 0 (a2 * 3) af_2 ab_3) (fun r5 af_6 ab_7 => some (r5, af_6, ab_7))) else if a1 = 3 then b2 (k_X0_began 10 af0 ab0) (fun af_10 ab_11 => some ((a2 + (af_10 2)), af_10, ab_11)) else if a1 = 4 then b2 (k_X0_began 50 af0 ab0) (fun af_14 ab_15 => b3 (kR 1 a2 af_14 ab_15) (fun r17 af_18 ab_19 => some ((-r17), af_18, ab_19))) else if a1 = 5 then b2 (k_X0_began 30 af0 ab0) (fun af_22 ab_23 => b3 (kR 0 (a2 * 3) af_22 ab_23) (fun r25 af_26 ab_27 => some (r25, af_26, ab_27))) else if a1 = 6 then b2 (k_X0_began 71 af0 ab0) (fun af_30 ab_31 => b3 (kR 3 a2 af_30 ab_31) (fun r33 af_34 ab_35 => some ((r33 ^^^ (af_34 4)), af_34, ab_35))) else b2 (k_X0_began 10 af0 ab0) (fun af_37 ab_38 => some ((a2 + (af_37 2)), af_37, ab_38))
noncomputable def k_X0_rolls : Nat → Int32 → Int32 → (Nat → Int32) → (Nat → Int32) → Option (Int32 × (Nat → Int32) × (Nat → Int32))
  | 0 => fun _ _ _ _ => none
  | n + 1 => k_X0_rolls_g (k_X0_rolls n)
theorem c_X0_rolls_0 {l : Launch} {D : va_G} {cA : Nat → ClassId} (q : Nat → Nat) (af0 : Nat → Int32) (ab0 : Nat → Int32) (a1 : Int32) (a2 : Int32) (o : Int32 × (Nat → Int32) × (Nat → Int32)) (hf : k_X0_rolls 0 a1 a2 af0 ab0 = some o) : CI l D cA yX0_rolls cX0_rolls 3 (some .int) 0 0 [.ref (q 0), .int a1, .int a2] (Aw q cA af0 ab0) 0 0 (fun r w => r = o.1 ∧ w = (Aw q cA o.2.1 o.2.2)) := by cases hf
set_option maxHeartbeats 4000000 in
set_option maxRecDepth 100000 in
theorem c_X0_rolls_1 {l : Launch} {D : va_G} {cA : Nat → ClassId} (q : Nat → Nat) (af0 : Nat → Int32) (ab0 : Nat → Int32) (a1 : Int32) (a2 : Int32) (o : Int32 × (Nat → Int32) × (Nat → Int32)) (hf : k_X0_rolls 1 a1 a2 af0 ab0 = some o) : CI l D cA yX0_rolls cX0_rolls 3 (some .int) 1 22 [.ref (q 0), .int a1, .int a2] (Aw q cA af0 ab0) 0 0 (fun r w => r = o.1 ∧ w = (Aw q cA o.2.1 o.2.2)) := by
  intro sz
  refine met_start (by decide) rfl ?_
  intro p e s m args below meth c ls hsz hargs C0 hname hP hD hS hl
  generalize hAe : va_A (Aw q cA af0 ab0) sz = A at C0 hD hS ⊢
  obtain ⟨hx, hb, hr, hml, hown, hts, hlk, hK, hA⟩ := id C0
  replace hl : lv_has ls 3 [(0, .ref (q 0)), (1, .int a1), (2, .int a2)] := hl
  obtain ⟨Q, hQ⟩ : ∃ Q : State → Prop, Q = QI below D A (fun r w => r = o.1 ∧ w = (Aw q cA o.2.1 o.2.2)) args s 0 0 := ⟨_, rfl⟩
  refine cast (by rw [hQ]) (?_ : W p l e (RMx 1 22 0 0) s m args below meth c s.heap [] 0 0 Q (F0 m 0 ls []))
  obtain ⟨kR, hkR⟩ : ∃ z, z = k_X0_rolls 0 := ⟨_, rfl⟩
  replace hf : k_X0_rolls_g kR a1 a2 af0 ab0 = some o := by rw [hkR]; exact hf
  unfold k_X0_rolls_g at hf
  refine lv_iload_n hx hb dX0_rolls_0 rfl (lv_at hl 1 rfl) ?_
  by_cases c1 : a1 = 2
  · replace hf := it_of c1 hf
    refine lv_tableIn (off := 35) (tgt := 36) hx hb dX0_rolls_1 (by rw [c1]; decide) (by rw [c1]; decide) (by rw [c1]; decide) (by decide) ?_
    refine lv_aload_n hx hb dX0_rolls_36 rfl (lv_at hl 0 rfl) ?_
    refine lv_bipush (v := 30) hx hb dX0_rolls_37 (by decide) ?_
    obtain ⟨af_2, ab_3, hq4, hf⟩ := b2_of hf
    refine callVV (As := [.int 30]) (rest := []) (wr := []) C0 (c_X0_began q af0 ab0 30 _ hq4) lk_X0_38_X0_began rfl hP hD hS perm_nil 0 0 rfl rfl rfl hl.1 rfl rfl (Nat.le_of_ble_eq_true rfl) dX0_rolls_39 ⟨Nat.zero_le _, Nat.zero_le _⟩ (fun w H locs hw hP hD hS => ?_)
    have e2 := hw
    subst e2
    replace hP : va_P D vwCl (Aw q cA af_2 ab_3) H := hP.nil
    replace hD : va_D A (Aw q cA af_2 ab_3) := hD.nil
    refine lv_aload_n hx hb dX0_rolls_42 rfl (lv_at hl 0 rfl) ?_
    refine lv_iconst (v := 0) hx hb dX0_rolls_43 (by decide) ?_
    refine lv_iload_n hx hb dX0_rolls_44 rfl (lv_at hl 2 rfl) ?_
    refine lv_iconst (v := 3) hx hb dX0_rolls_45 (by decide) ?_
    refine lv_imul hx hb dX0_rolls_46 ?_
    obtain ⟨r5q, af_6, ab_7, hq8, hf⟩ := b3_of hf
    refine callVI (As := [.int 0, .int (a2 * 3)]) (rest := []) (wr := []) C0 (c_X0_rolls_0 q af_2 ab_3 0 (a2 * 3) _ (by rw [← hkR]; exact hq8)) lk_X0_25_X0_rolls rfl hP hD hS perm_nil 0 0 rfl rfl rfl hl.1 rfl rfl (Nat.le_of_ble_eq_true rfl) dX0_rolls_47 ⟨Nat.zero_le _, Nat.zero_le _⟩ (fun r5 w H locs hw hP hD hS => ?_)
    obtain ⟨e1, e2⟩ := hw
    replace e1 : r5 = r5q := e1
    subst e1
    subst e2
    replace hP : va_P D vwCl (Aw q cA af_6 ab_7) H := hP.nil
    replace hD : va_D A (Aw q cA af_6 ab_7) := hD.nil
    rw [hQ]
    exact ret_i C0 hP hD hS (by have e := Option.some.inj hf; rw [← e]; exact ⟨rfl, rfl⟩) dX0_rolls_50
  · replace hf := ie_of c1 hf
    by_cases c9 : a1 = 3
    · replace hf := it_of c9 hf
      refine lv_tableIn (off := 82) (tgt := 83) hx hb dX0_rolls_1 (by rw [c9]; decide) (by rw [c9]; decide) (by rw [c9]; decide) (by decide) ?_
      refine lv_aload_n hx hb dX0_rolls_83 rfl (lv_at hl 0 rfl) ?_
      refine lv_bipush (v := 10) hx hb dX0_rolls_84 (by decide) ?_
      obtain ⟨af_10, ab_11, hq12, hf⟩ := b2_of hf
      refine callVV (As := [.int 10]) (rest := []) (wr := []) C0 (c_X0_began q af0 ab0 10 _ hq12) lk_X0_38_X0_began rfl hP hD hS perm_nil 0 0 rfl rfl rfl hl.1 rfl rfl (Nat.le_of_ble_eq_true rfl) dX0_rolls_86 ⟨Nat.zero_le _, Nat.zero_le _⟩ (fun w H locs hw hP hD hS => ?_)
      have e2 := hw
      subst e2
      replace hP : va_P D vwCl (Aw q cA af_10 ab_11) H := hP.nil
      replace hD : va_D A (Aw q cA af_10 ab_11) := hD.nil
      refine lv_iload_n hx hb dX0_rolls_89 rfl (lv_at hl 2 rfl) ?_
      refine lv_aload_n hx hb dX0_rolls_90 rfl (lv_at hl 0 rfl) ?_
      refine va_get (D := D) (ci := 0) (v := .int (af_10 2)) (C := RX0) (T := TX0) (N := 5) hx hb hts fw_0 hown hK hP 0 rfl rfl 2 (by decide) (hts _ m_fieldLink_P_Acts_15_P_Acts_number_I) (fun _ h9 => h9) rfl dX0_rolls_91 ?_
      refine lv_iadd hx hb dX0_rolls_94 ?_
      rw [hQ]
      exact ret_i C0 hP hD hS (by have e := Option.some.inj hf; rw [← e]; exact ⟨rfl, rfl⟩) dX0_rolls_95
    · replace hf := ie_of c9 hf
      by_cases c13 : a1 = 4
      · replace hf := it_of c13 hf
        refine lv_tableIn (off := 50) (tgt := 51) hx hb dX0_rolls_1 (by rw [c13]; decide) (by rw [c13]; decide) (by rw [c13]; decide) (by decide) ?_
        refine lv_aload_n hx hb dX0_rolls_51 rfl (lv_at hl 0 rfl) ?_
        refine lv_bipush (v := 50) hx hb dX0_rolls_52 (by decide) ?_
        obtain ⟨af_14, ab_15, hq16, hf⟩ := b2_of hf
        refine callVV (As := [.int 50]) (rest := []) (wr := []) C0 (c_X0_began q af0 ab0 50 _ hq16) lk_X0_38_X0_began rfl hP hD hS perm_nil 0 0 rfl rfl rfl hl.1 rfl rfl (Nat.le_of_ble_eq_true rfl) dX0_rolls_54 ⟨Nat.zero_le _, Nat.zero_le _⟩ (fun w H locs hw hP hD hS => ?_)
        have e2 := hw
        subst e2
        replace hP : va_P D vwCl (Aw q cA af_14 ab_15) H := hP.nil
        replace hD : va_D A (Aw q cA af_14 ab_15) := hD.nil
        refine lv_aload_n hx hb dX0_rolls_57 rfl (lv_at hl 0 rfl) ?_
        refine lv_iconst (v := 1) hx hb dX0_rolls_58 (by decide) ?_
        refine lv_iload_n hx hb dX0_rolls_59 rfl (lv_at hl 2 rfl) ?_
        obtain ⟨r17q, af_18, ab_19, hq20, hf⟩ := b3_of hf
        refine callVI (As := [.int 1, .int a2]) (rest := []) (wr := []) C0 (c_X0_rolls_0 q af_14 ab_15 1 a2 _ (by rw [← hkR]; exact hq20)) lk_X0_25_X0_rolls rfl hP hD hS perm_nil 0 0 rfl rfl rfl hl.1 rfl rfl (Nat.le_of_ble_eq_true rfl) dX0_rolls_60 ⟨Nat.zero_le _, Nat.zero_le _⟩ (fun r17 w H locs hw hP hD hS => ?_)
        obtain ⟨e1, e2⟩ := hw
        replace e1 : r17 = r17q := e1
        subst e1
        subst e2
        replace hP : va_P D vwCl (Aw q cA af_18 ab_19) H := hP.nil
        replace hD : va_D A (Aw q cA af_18 ab_19) := hD.nil
        refine lv_ineg hx hb dX0_rolls_63 ?_
        rw [hQ]
        exact ret_i C0 hP hD hS (by have e := Option.some.inj hf; rw [← e]; exact ⟨rfl, rfl⟩) dX0_rolls_64
      · replace hf := ie_of c13 hf
        by_cases c21 : a1 = 5
        · replace hf := it_of c21 hf
          refine lv_tableIn (off := 35) (tgt := 36) hx hb dX0_rolls_1 (by rw [c21]; decide) (by rw [c21]; decide) (by rw [c21]; decide) (by decide) ?_
          refine lv_aload_n hx hb dX0_rolls_36 rfl (lv_at hl 0 rfl) ?_
          refine lv_bipush (v := 30) hx hb dX0_rolls_37 (by decide) ?_
          obtain ⟨af_22, ab_23, hq24, hf⟩ := b2_of hf
          refine callVV (As := [.int 30]) (rest := []) (wr := []) C0 (c_X0_began q af0 ab0 30 _ hq24) lk_X0_38_X0_began rfl hP hD hS perm_nil 0 0 rfl rfl rfl hl.1 rfl rfl (Nat.le_of_ble_eq_true rfl) dX0_rolls_39 ⟨Nat.zero_le _, Nat.zero_le _⟩ (fun w H locs hw hP hD hS => ?_)
          have e2 := hw
          subst e2
          replace hP : va_P D vwCl (Aw q cA af_22 ab_23) H := hP.nil
          replace hD : va_D A (Aw q cA af_22 ab_23) := hD.nil
          refine lv_aload_n hx hb dX0_rolls_42 rfl (lv_at hl 0 rfl) ?_
          refine lv_iconst (v := 0) hx hb dX0_rolls_43 (by decide) ?_
          refine lv_iload_n hx hb dX0_rolls_44 rfl (lv_at hl 2 rfl) ?_
          refine lv_iconst (v := 3) hx hb dX0_rolls_45 (by decide) ?_
          refine lv_imul hx hb dX0_rolls_46 ?_
          obtain ⟨r25q, af_26, ab_27, hq28, hf⟩ := b3_of hf
          refine callVI (As := [.int 0, .int (a2 * 3)]) (rest := []) (wr := []) C0 (c_X0_rolls_0 q af_22 ab_23 0 (a2 * 3) _ (by rw [← hkR]; exact hq28)) lk_X0_25_X0_rolls rfl hP hD hS perm_nil 0 0 rfl rfl rfl hl.1 rfl rfl (Nat.le_of_ble_eq_true rfl) dX0_rolls_47 ⟨Nat.zero_le _, Nat.zero_le _⟩ (fun r25 w H locs hw hP hD hS => ?_)
          obtain ⟨e1, e2⟩ := hw
          replace e1 : r25 = r25q := e1
          subst e1
          subst e2
          replace hP : va_P D vwCl (Aw q cA af_26 ab_27) H := hP.nil
          replace hD : va_D A (Aw q cA af_26 ab_27) := hD.nil
          rw [hQ]
          exact ret_i C0 hP hD hS (by have e := Option.some.inj hf; rw [← e]; exact ⟨rfl, rfl⟩) dX0_rolls_50
        · replace hf := ie_of c21 hf
          by_cases c29 : a1 = 6
          · replace hf := it_of c29 hf
            refine lv_tableIn (off := 64) (tgt := 65) hx hb dX0_rolls_1 (by rw [c29]; decide) (by rw [c29]; decide) (by rw [c29]; decide) (by decide) ?_
            refine lv_aload_n hx hb dX0_rolls_65 rfl (lv_at hl 0 rfl) ?_
            refine lv_bipush (v := 71) hx hb dX0_rolls_66 (by decide) ?_
            obtain ⟨af_30, ab_31, hq32, hf⟩ := b2_of hf
            refine callVV (As := [.int 71]) (rest := []) (wr := []) C0 (c_X0_began q af0 ab0 71 _ hq32) lk_X0_38_X0_began rfl hP hD hS perm_nil 0 0 rfl rfl rfl hl.1 rfl rfl (Nat.le_of_ble_eq_true rfl) dX0_rolls_68 ⟨Nat.zero_le _, Nat.zero_le _⟩ (fun w H locs hw hP hD hS => ?_)
            have e2 := hw
            subst e2
            replace hP : va_P D vwCl (Aw q cA af_30 ab_31) H := hP.nil
            replace hD : va_D A (Aw q cA af_30 ab_31) := hD.nil
            refine lv_aload_n hx hb dX0_rolls_71 rfl (lv_at hl 0 rfl) ?_
            refine lv_iconst (v := 3) hx hb dX0_rolls_72 (by decide) ?_
            refine lv_iload_n hx hb dX0_rolls_73 rfl (lv_at hl 2 rfl) ?_
            obtain ⟨r33q, af_34, ab_35, hq36, hf⟩ := b3_of hf
            refine callVI (As := [.int 3, .int a2]) (rest := []) (wr := []) C0 (c_X0_rolls_0 q af_30 ab_31 3 a2 _ (by rw [← hkR]; exact hq36)) lk_X0_25_X0_rolls rfl hP hD hS perm_nil 0 0 rfl rfl rfl hl.1 rfl rfl (Nat.le_of_ble_eq_true rfl) dX0_rolls_74 ⟨Nat.zero_le _, Nat.zero_le _⟩ (fun r33 w H locs hw hP hD hS => ?_)
            obtain ⟨e1, e2⟩ := hw
            replace e1 : r33 = r33q := e1
            subst e1
            subst e2
            replace hP : va_P D vwCl (Aw q cA af_34 ab_35) H := hP.nil
            replace hD : va_D A (Aw q cA af_34 ab_35) := hD.nil
            refine lv_aload_n hx hb dX0_rolls_77 rfl (lv_at hl 0 rfl) ?_
            refine va_get (D := D) (ci := 0) (v := .int (af_34 4)) (C := RX0) (T := TX0) (N := 5) hx hb hts fw_0 hown hK hP 0 rfl rfl 4 (by decide) (hts _ m_fieldLink_P_Acts_22_P_Acts_v_I) (fun _ h9 => h9) rfl dX0_rolls_78 ?_
            refine lv_ixor hx hb dX0_rolls_81 ?_
            rw [hQ]
            exact ret_i C0 hP hD hS (by have e := Option.some.inj hf; rw [← e]; exact ⟨rfl, rfl⟩) dX0_rolls_82
          · replace hf := ie_of c29 hf
            refine lv_tableOut (tgt := 83) hx hb dX0_rolls_1 (by have := lv_neT c1 (a := 2) (by decide); have := lv_neT c9 (a := 3) (by decide); have := lv_neT c13 (a := 4) (by decide); have := lv_neT c21 (a := 5) (by decide); have := lv_neT c29 (a := 6) (by decide); omega) (by decide) ?_
            refine lv_aload_n hx hb dX0_rolls_83 rfl (lv_at hl 0 rfl) ?_
            refine lv_bipush (v := 10) hx hb dX0_rolls_84 (by decide) ?_
            obtain ⟨af_37, ab_38, hq39, hf⟩ := b2_of hf
            refine callVV (As := [.int 10]) (rest := []) (wr := []) C0 (c_X0_began q af0 ab0 10 _ hq39) lk_X0_38_X0_began rfl hP hD hS perm_nil 0 0 rfl rfl rfl hl.1 rfl rfl (Nat.le_of_ble_eq_true rfl) dX0_rolls_86 ⟨Nat.zero_le _, Nat.zero_le _⟩ (fun w H locs hw hP hD hS => ?_)
            have e2 := hw
            subst e2
            replace hP : va_P D vwCl (Aw q cA af_37 ab_38) H := hP.nil
            replace hD : va_D A (Aw q cA af_37 ab_38) := hD.nil
            refine lv_iload_n hx hb dX0_rolls_89 rfl (lv_at hl 2 rfl) ?_
            refine lv_aload_n hx hb dX0_rolls_90 rfl (lv_at hl 0 rfl) ?_
            refine va_get (D := D) (ci := 0) (v := .int (af_37 2)) (C := RX0) (T := TX0) (N := 5) hx hb hts fw_0 hown hK hP 0 rfl rfl 2 (by decide) (hts _ m_fieldLink_P_Acts_15_P_Acts_number_I) (fun _ h9 => h9) rfl dX0_rolls_91 ?_
            refine lv_iadd hx hb dX0_rolls_94 ?_
            rw [hQ]
            exact ret_i C0 hP hD hS (by have e := Option.some.inj hf; rw [← e]; exact ⟨rfl, rfl⟩) dX0_rolls_95
set_option maxHeartbeats 4000000 in
set_option maxRecDepth 100000 in
theorem c_X0_rolls_2 {l : Launch} {D : va_G} {cA : Nat → ClassId} (q : Nat → Nat) (af0 : Nat → Int32) (ab0 : Nat → Int32) (a1 : Int32) (a2 : Int32) (o : Int32 × (Nat → Int32) × (Nat → Int32)) (hf : k_X0_rolls 2 a1 a2 af0 ab0 = some o) : CI l D cA yX0_rolls cX0_rolls 3 (some .int) 2 44 [.ref (q 0), .int a1, .int a2] (Aw q cA af0 ab0) 0 0 (fun r w => r = o.1 ∧ w = (Aw q cA o.2.1 o.2.2)) := by
  intro sz
  refine met_start (by decide) rfl ?_
  intro p e s m args below meth c ls hsz hargs C0 hname hP hD hS hl
  generalize hAe : va_A (Aw q cA af0 ab0) sz = A at C0 hD hS ⊢
  obtain ⟨hx, hb, hr, hml, hown, hts, hlk, hK, hA⟩ := id C0
  replace hl : lv_has ls 3 [(0, .ref (q 0)), (1, .int a1), (2, .int a2)] := hl
  obtain ⟨Q, hQ⟩ : ∃ Q : State → Prop, Q = QI below D A (fun r w => r = o.1 ∧ w = (Aw q cA o.2.1 o.2.2)) args s 0 0 := ⟨_, rfl⟩
  refine cast (by rw [hQ]) (?_ : W p l e (RMx 2 44 0 0) s m args below meth c s.heap [] 0 0 Q (F0 m 0 ls []))
  obtain ⟨kR, hkR⟩ : ∃ z, z = k_X0_rolls 1 := ⟨_, rfl⟩
  replace hf : k_X0_rolls_g kR a1 a2 af0 ab0 = some o := by rw [hkR]; exact hf
  unfold k_X0_rolls_g at hf
  refine lv_iload_n hx hb dX0_rolls_0 rfl (lv_at hl 1 rfl) ?_
  by_cases c1 : a1 = 2
  · replace hf := it_of c1 hf
    refine lv_tableIn (off := 35) (tgt := 36) hx hb dX0_rolls_1 (by rw [c1]; decide) (by rw [c1]; decide) (by rw [c1]; decide) (by decide) ?_
    refine lv_aload_n hx hb dX0_rolls_36 rfl (lv_at hl 0 rfl) ?_
    refine lv_bipush (v := 30) hx hb dX0_rolls_37 (by decide) ?_
    obtain ⟨af_2, ab_3, hq4, hf⟩ := b2_of hf
    refine callVV (As := [.int 30]) (rest := []) (wr := []) C0 (c_X0_began q af0 ab0 30 _ hq4) lk_X0_38_X0_began rfl hP hD hS perm_nil 0 0 rfl rfl rfl hl.1 rfl rfl (Nat.le_of_ble_eq_true rfl) dX0_rolls_39 ⟨Nat.zero_le _, Nat.zero_le _⟩ (fun w H locs hw hP hD hS => ?_)
    have e2 := hw
    subst e2
    replace hP : va_P D vwCl (Aw q cA af_2 ab_3) H := hP.nil
    replace hD : va_D A (Aw q cA af_2 ab_3) := hD.nil
    refine lv_aload_n hx hb dX0_rolls_42 rfl (lv_at hl 0 rfl) ?_
    refine lv_iconst (v := 0) hx hb dX0_rolls_43 (by decide) ?_
    refine lv_iload_n hx hb dX0_rolls_44 rfl (lv_at hl 2 rfl) ?_
    refine lv_iconst (v := 3) hx hb dX0_rolls_45 (by decide) ?_
    refine lv_imul hx hb dX0_rolls_46 ?_
    obtain ⟨r5q, af_6, ab_7, hq8, hf⟩ := b3_of hf
    refine callVI (As := [.int 0, .int (a2 * 3)]) (rest := []) (wr := []) C0 (c_X0_rolls_1 q af_2 ab_3 0 (a2 * 3) _ (by rw [← hkR]; exact hq8)) lk_X0_25_X0_rolls rfl hP hD hS perm_nil 0 0 rfl rfl rfl hl.1 rfl rfl (Nat.le_of_ble_eq_true rfl) dX0_rolls_47 ⟨Nat.zero_le _, Nat.zero_le _⟩ (fun r5 w H locs hw hP hD hS => ?_)
    obtain ⟨e1, e2⟩ := hw
    replace e1 : r5 = r5q := e1
    subst e1
    subst e2
    replace hP : va_P D vwCl (Aw q cA af_6 ab_7) H := hP.nil
    replace hD : va_D A (Aw q cA af_6 ab_7) := hD.nil
    rw [hQ]
    exact ret_i C0 hP hD hS (by have e := Option.some.inj hf; rw [← e]; exact ⟨rfl, rfl⟩) dX0_rolls_50
  · replace hf := ie_of c1 hf
    by_cases c9 : a1 = 3
    · replace hf := it_of c9 hf
      refine lv_tableIn (off := 82) (tgt := 83) hx hb dX0_rolls_1 (by rw [c9]; decide) (by rw [c9]; decide) (by rw [c9]; decide) (by decide) ?_
      refine lv_aload_n hx hb dX0_rolls_83 rfl (lv_at hl 0 rfl) ?_
      refine lv_bipush (v := 10) hx hb dX0_rolls_84 (by decide) ?_
      obtain ⟨af_10, ab_11, hq12, hf⟩ := b2_of hf
      refine callVV (As := [.int 10]) (rest := []) (wr := []) C0 (c_X0_began q af0 ab0 10 _ hq12) lk_X0_38_X0_began rfl hP hD hS perm_nil 0 0 rfl rfl rfl hl.1 rfl rfl (Nat.le_of_ble_eq_true rfl) dX0_rolls_86 ⟨Nat.zero_le _, Nat.zero_le _⟩ (fun w H locs hw hP hD hS => ?_)
      have e2 := hw
      subst e2
      replace hP : va_P D vwCl (Aw q cA af_10 ab_11) H := hP.nil
      replace hD : va_D A (Aw q cA af_10 ab_11) := hD.nil
      refine lv_iload_n hx hb dX0_rolls_89 rfl (lv_at hl 2 rfl) ?_
      refine lv_aload_n hx hb dX0_rolls_90 rfl (lv_at hl 0 rfl) ?_
      refine va_get (D := D) (ci := 0) (v := .int (af_10 2)) (C := RX0) (T := TX0) (N := 5) hx hb hts fw_0 hown hK hP 0 rfl rfl 2 (by decide) (hts _ m_fieldLink_P_Acts_15_P_Acts_number_I) (fun _ h9 => h9) rfl dX0_rolls_91 ?_
      refine lv_iadd hx hb dX0_rolls_94 ?_
      rw [hQ]
      exact ret_i C0 hP hD hS (by have e := Option.some.inj hf; rw [← e]; exact ⟨rfl, rfl⟩) dX0_rolls_95
    · replace hf := ie_of c9 hf
      by_cases c13 : a1 = 4
      · replace hf := it_of c13 hf
        refine lv_tableIn (off := 50) (tgt := 51) hx hb dX0_rolls_1 (by rw [c13]; decide) (by rw [c13]; decide) (by rw [c13]; decide) (by decide) ?_
        refine lv_aload_n hx hb dX0_rolls_51 rfl (lv_at hl 0 rfl) ?_
        refine lv_bipush (v := 50) hx hb dX0_rolls_52 (by decide) ?_
        obtain ⟨af_14, ab_15, hq16, hf⟩ := b2_of hf
        refine callVV (As := [.int 50]) (rest := []) (wr := []) C0 (c_X0_began q af0 ab0 50 _ hq16) lk_X0_38_X0_began rfl hP hD hS perm_nil 0 0 rfl rfl rfl hl.1 rfl rfl (Nat.le_of_ble_eq_true rfl) dX0_rolls_54 ⟨Nat.zero_le _, Nat.zero_le _⟩ (fun w H locs hw hP hD hS => ?_)
        have e2 := hw
        subst e2
        replace hP : va_P D vwCl (Aw q cA af_14 ab_15) H := hP.nil
        replace hD : va_D A (Aw q cA af_14 ab_15) := hD.nil
        refine lv_aload_n hx hb dX0_rolls_57 rfl (lv_at hl 0 rfl) ?_
        refine lv_iconst (v := 1) hx hb dX0_rolls_58 (by decide) ?_
        refine lv_iload_n hx hb dX0_rolls_59 rfl (lv_at hl 2 rfl) ?_
        obtain ⟨r17q, af_18, ab_19, hq20, hf⟩ := b3_of hf
        refine callVI (As := [.int 1, .int a2]) (rest := []) (wr := []) C0 (c_X0_rolls_1 q af_14 ab_15 1 a2 _ (by rw [← hkR]; exact hq20)) lk_X0_25_X0_rolls rfl hP hD hS perm_nil 0 0 rfl rfl rfl hl.1 rfl rfl (Nat.le_of_ble_eq_true rfl) dX0_rolls_60 ⟨Nat.zero_le _, Nat.zero_le _⟩ (fun r17 w H locs hw hP hD hS => ?_)
        obtain ⟨e1, e2⟩ := hw
        replace e1 : r17 = r17q := e1
        subst e1
        subst e2
        replace hP : va_P D vwCl (Aw q cA af_18 ab_19) H := hP.nil
        replace hD : va_D A (Aw q cA af_18 ab_19) := hD.nil
        refine lv_ineg hx hb dX0_rolls_63 ?_
        rw [hQ]
        exact ret_i C0 hP hD hS (by have e := Option.some.inj hf; rw [← e]; exact ⟨rfl, rfl⟩) dX0_rolls_64
      · replace hf := ie_of c13 hf
        by_cases c21 : a1 = 5
        · replace hf := it_of c21 hf
          refine lv_tableIn (off := 35) (tgt := 36) hx hb dX0_rolls_1 (by rw [c21]; decide) (by rw [c21]; decide) (by rw [c21]; decide) (by decide) ?_
          refine lv_aload_n hx hb dX0_rolls_36 rfl (lv_at hl 0 rfl) ?_
          refine lv_bipush (v := 30) hx hb dX0_rolls_37 (by decide) ?_
          obtain ⟨af_22, ab_23, hq24, hf⟩ := b2_of hf
          refine callVV (As := [.int 30]) (rest := []) (wr := []) C0 (c_X0_began q af0 ab0 30 _ hq24) lk_X0_38_X0_began rfl hP hD hS perm_nil 0 0 rfl rfl rfl hl.1 rfl rfl (Nat.le_of_ble_eq_true rfl) dX0_rolls_39 ⟨Nat.zero_le _, Nat.zero_le _⟩ (fun w H locs hw hP hD hS => ?_)
          have e2 := hw
          subst e2
          replace hP : va_P D vwCl (Aw q cA af_22 ab_23) H := hP.nil
          replace hD : va_D A (Aw q cA af_22 ab_23) := hD.nil
          refine lv_aload_n hx hb dX0_rolls_42 rfl (lv_at hl 0 rfl) ?_
          refine lv_iconst (v := 0) hx hb dX0_rolls_43 (by decide) ?_
          refine lv_iload_n hx hb dX0_rolls_44 rfl (lv_at hl 2 rfl) ?_
          refine lv_iconst (v := 3) hx hb dX0_rolls_45 (by decide) ?_
          refine lv_imul hx hb dX0_rolls_46 ?_
          obtain ⟨r25q, af_26, ab_27, hq28, hf⟩ := b3_of hf
          refine callVI (As := [.int 0, .int (a2 * 3)]) (rest := []) (wr := []) C0 (c_X0_rolls_1 q af_22 ab_23 0 (a2 * 3) _ (by rw [← hkR]; exact hq28)) lk_X0_25_X0_rolls rfl hP hD hS perm_nil 0 0 rfl rfl rfl hl.1 rfl rfl (Nat.le_of_ble_eq_true rfl) dX0_rolls_47 ⟨Nat.zero_le _, Nat.zero_le _⟩ (fun r25 w H locs hw hP hD hS => ?_)
          obtain ⟨e1, e2⟩ := hw
          replace e1 : r25 = r25q := e1
          subst e1
          subst e2
          replace hP : va_P D vwCl (Aw q cA af_26 ab_27) H := hP.nil
          replace hD : va_D A (Aw q cA af_26 ab_27) := hD.nil
          rw [hQ]
          exact ret_i C0 hP hD hS (by have e := Option.some.inj hf; rw [← e]; exact ⟨rfl, rfl⟩) dX0_rolls_50
        · replace hf := ie_of c21 hf
          by_cases c29 : a1 = 6
          · replace hf := it_of c29 hf
            refine lv_tableIn (off := 64) (tgt := 65) hx hb dX0_rolls_1 (by rw [c29]; decide) (by rw [c29]; decide) (by rw [c29]; decide) (by decide) ?_
            refine lv_aload_n hx hb dX0_rolls_65 rfl (lv_at hl 0 rfl) ?_
            refine lv_bipush (v := 71) hx hb dX0_rolls_66 (by decide) ?_
            obtain ⟨af_30, ab_31, hq32, hf⟩ := b2_of hf
            refine callVV (As := [.int 71]) (rest := []) (wr := []) C0 (c_X0_began q af0 ab0 71 _ hq32) lk_X0_38_X0_began rfl hP hD hS perm_nil 0 0 rfl rfl rfl hl.1 rfl rfl (Nat.le_of_ble_eq_true rfl) dX0_rolls_68 ⟨Nat.zero_le _, Nat.zero_le _⟩ (fun w H locs hw hP hD hS => ?_)
            have e2 := hw
            subst e2
            replace hP : va_P D vwCl (Aw q cA af_30 ab_31) H := hP.nil
            replace hD : va_D A (Aw q cA af_30 ab_31) := hD.nil
            refine lv_aload_n hx hb dX0_rolls_71 rfl (lv_at hl 0 rfl) ?_
            refine lv_iconst (v := 3) hx hb dX0_rolls_72 (by decide) ?_
            refine lv_iload_n hx hb dX0_rolls_73 rfl (lv_at hl 2 rfl) ?_
            obtain ⟨r33q, af_34, ab_35, hq36, hf⟩ := b3_of hf
            refine callVI (As := [.int 3, .int a2]) (rest := []) (wr := []) C0 (c_X0_rolls_1 q af_30 ab_31 3 a2 _ (by rw [← hkR]; exact hq36)) lk_X0_25_X0_rolls rfl hP hD hS perm_nil 0 0 rfl rfl rfl hl.1 rfl rfl (Nat.le_of_ble_eq_true rfl) dX0_rolls_74 ⟨Nat.zero_le _, Nat.zero_le _⟩ (fun r33 w H locs hw hP hD hS => ?_)
            obtain ⟨e1, e2⟩ := hw
            replace e1 : r33 = r33q := e1
            subst e1
            subst e2
            replace hP : va_P D vwCl (Aw q cA af_34 ab_35) H := hP.nil
            replace hD : va_D A (Aw q cA af_34 ab_35) := hD.nil
            refine lv_aload_n hx hb dX0_rolls_77 rfl (lv_at hl 0 rfl) ?_
            refine va_get (D := D) (ci := 0) (v := .int (af_34 4)) (C := RX0) (T := TX0) (N := 5) hx hb hts fw_0 hown hK hP 0 rfl rfl 4 (by decide) (hts _ m_fieldLink_P_Acts_22_P_Acts_v_I) (fun _ h9 => h9) rfl dX0_rolls_78 ?_
            refine lv_ixor hx hb dX0_rolls_81 ?_
            rw [hQ]
            exact ret_i C0 hP hD hS (by have e := Option.some.inj hf; rw [← e]; exact ⟨rfl, rfl⟩) dX0_rolls_82
          · replace hf := ie_of c29 hf
            refine lv_tableOut (tgt := 83) hx hb dX0_rolls_1 (by have := lv_neT c1 (a := 2) (by decide); have := lv_neT c9 (a := 3) (by decide); have := lv_neT c13 (a := 4) (by decide); have := lv_neT c21 (a := 5) (by decide); have := lv_neT c29 (a := 6) (by decide); omega) (by decide) ?_
            refine lv_aload_n hx hb dX0_rolls_83 rfl (lv_at hl 0 rfl) ?_
            refine lv_bipush (v := 10) hx hb dX0_rolls_84 (by decide) ?_
            obtain ⟨af_37, ab_38, hq39, hf⟩ := b2_of hf
            refine callVV (As := [.int 10]) (rest := []) (wr := []) C0 (c_X0_began q af0 ab0 10 _ hq39) lk_X0_38_X0_began rfl hP hD hS perm_nil 0 0 rfl rfl rfl hl.1 rfl rfl (Nat.le_of_ble_eq_true rfl) dX0_rolls_86 ⟨Nat.zero_le _, Nat.zero_le _⟩ (fun w H locs hw hP hD hS => ?_)
            have e2 := hw
            subst e2
            replace hP : va_P D vwCl (Aw q cA af_37 ab_38) H := hP.nil
            replace hD : va_D A (Aw q cA af_37 ab_38) := hD.nil
            refine lv_iload_n hx hb dX0_rolls_89 rfl (lv_at hl 2 rfl) ?_
            refine lv_aload_n hx hb dX0_rolls_90 rfl (lv_at hl 0 rfl) ?_
            refine va_get (D := D) (ci := 0) (v := .int (af_37 2)) (C := RX0) (T := TX0) (N := 5) hx hb hts fw_0 hown hK hP 0 rfl rfl 2 (by decide) (hts _ m_fieldLink_P_Acts_15_P_Acts_number_I) (fun _ h9 => h9) rfl dX0_rolls_91 ?_
            refine lv_iadd hx hb dX0_rolls_94 ?_
            rw [hQ]
            exact ret_i C0 hP hD hS (by have e := Option.some.inj hf; rw [← e]; exact ⟨rfl, rfl⟩) dX0_rolls_95
noncomputable def k_X0_hums_g (kR : Int32 → Int32 → (Nat → Int32) → (Nat → Int32) → Option (Int32 × (Nat → Int32) × (Nat → Int32))) (a1 : Int32) (a2 : Int32) (af0 : Nat → Int32) (ab0 : Nat → Int32) : Option (Int32 × (Nat → Int32) × (Nat → Int32)) := if a1 = 1 then b2 (k_X0_began 20 af0 ab0) (fun af_2 ab_3 => b3 (kR 0 a2 af_2 ab_3) (fun r5 af_6 ab_7 => some ((r5 ^^^ 6), af_6, ab_7))) else if a1 = 4 then b2 (k_X0_began 51 af0 ab0) (fun af_10 ab_11 => b3 (kR 1 (a2 + 1) af_10 ab_11) (fun r13 af_14 ab_15 => some (r13, af_14, ab_15))) else if a1 = 6 then b2 (k_X0_began 70 af0 ab0) (fun af_18 ab_19 => b3 (kR 3 a2 af_18 ab_19) (fun r21 af_22 ab_23 => b3 ((k_X0_rolls 2) 3 2 af_22 ab_23) (fun r25 af_26 ab_27 => some ((r21 + r25), af_26, ab_27)))) else b2 (k_X0_began 11 af0 ab0) (fun af_29 ab_30 => b3 ((k_X0_rolls 2) (af_29 3) a2 af_29 ab_30) (fun r32 af_33 ab_34 => some ((r32 - (af_33 4)), af_33, ab_34)))
noncomputable def k_X0_hums : Nat → Int32 → Int32 → (Nat → Int32) → (Nat → Int32) → Option (Int32 × (Nat → Int32) × (Nat → Int32))
  | 0 => fun _ _ _ _ => none
  | n + 1 => k_X0_hums_g (k_X0_hums n)
theorem c_X0_hums_0 {l : Launch} {D : va_G} {cA : Nat → ClassId} (q : Nat → Nat) (af0 : Nat → Int32) (ab0 : Nat → Int32) (a1 : Int32) (a2 : Int32) (o : Int32 × (Nat → Int32) × (Nat → Int32)) (hf : k_X0_hums 0 a1 a2 af0 ab0 = some o) : CI l D cA yX0_hums cX0_hums 3 (some .int) 0 0 [.ref (q 0), .int a1, .int a2] (Aw q cA af0 ab0) 0 0 (fun r w => r = o.1 ∧ w = (Aw q cA o.2.1 o.2.2)) := by cases hf
set_option maxHeartbeats 4000000 in
set_option maxRecDepth 100000 in
theorem c_X0_hums_1 {l : Launch} {D : va_G} {cA : Nat → ClassId} (q : Nat → Nat) (af0 : Nat → Int32) (ab0 : Nat → Int32) (a1 : Int32) (a2 : Int32) (o : Int32 × (Nat → Int32) × (Nat → Int32)) (hf : k_X0_hums 1 a1 a2 af0 ab0 = some o) : CI l D cA yX0_hums cX0_hums 3 (some .int) 3 66 [.ref (q 0), .int a1, .int a2] (Aw q cA af0 ab0) 0 0 (fun r w => r = o.1 ∧ w = (Aw q cA o.2.1 o.2.2)) := by
  intro sz
  refine met_start (by decide) rfl ?_
  intro p e s m args below meth c ls hsz hargs C0 hname hP hD hS hl
  generalize hAe : va_A (Aw q cA af0 ab0) sz = A at C0 hD hS ⊢
  obtain ⟨hx, hb, hr, hml, hown, hts, hlk, hK, hA⟩ := id C0
  replace hl : lv_has ls 3 [(0, .ref (q 0)), (1, .int a1), (2, .int a2)] := hl
  obtain ⟨Q, hQ⟩ : ∃ Q : State → Prop, Q = QI below D A (fun r w => r = o.1 ∧ w = (Aw q cA o.2.1 o.2.2)) args s 0 0 := ⟨_, rfl⟩
  refine cast (by rw [hQ]) (?_ : W p l e (RMx 3 66 0 0) s m args below meth c s.heap [] 0 0 Q (F0 m 0 ls []))
  obtain ⟨kR, hkR⟩ : ∃ z, z = k_X0_hums 0 := ⟨_, rfl⟩
  replace hf : k_X0_hums_g kR a1 a2 af0 ab0 = some o := by rw [hkR]; exact hf
  unfold k_X0_hums_g at hf
  refine lv_iload_n hx hb dX0_hums_0 rfl (lv_at hl 1 rfl) ?_
  by_cases c1 : a1 = 1
  · replace hf := it_of c1 hf
    refine lv_lookup (off := 35) (tgt := 36) hx hb dX0_hums_1 (by decide) (by rw [c1]; decide) (by decide) ?_
    refine lv_aload_n hx hb dX0_hums_36 rfl (lv_at hl 0 rfl) ?_
    refine lv_bipush (v := 20) hx hb dX0_hums_37 (by decide) ?_
    obtain ⟨af_2, ab_3, hq4, hf⟩ := b2_of hf
    refine callVV (As := [.int 20]) (rest := []) (wr := []) C0 (c_X0_began q af0 ab0 20 _ hq4) lk_X0_38_X0_began rfl hP hD hS perm_nil 0 0 rfl rfl rfl hl.1 rfl rfl (Nat.le_of_ble_eq_true rfl) dX0_hums_39 ⟨Nat.zero_le _, Nat.zero_le _⟩ (fun w H locs hw hP hD hS => ?_)
    have e2 := hw
    subst e2
    replace hP : va_P D vwCl (Aw q cA af_2 ab_3) H := hP.nil
    replace hD : va_D A (Aw q cA af_2 ab_3) := hD.nil
    refine lv_aload_n hx hb dX0_hums_42 rfl (lv_at hl 0 rfl) ?_
    refine lv_iconst (v := 0) hx hb dX0_hums_43 (by decide) ?_
    refine lv_iload_n hx hb dX0_hums_44 rfl (lv_at hl 2 rfl) ?_
    obtain ⟨r5q, af_6, ab_7, hq8, hf⟩ := b3_of hf
    refine callVI (As := [.int 0, .int a2]) (rest := []) (wr := []) C0 (c_X0_hums_0 q af_2 ab_3 0 a2 _ (by rw [← hkR]; exact hq8)) lk_X0_29_X0_hums rfl hP hD hS perm_nil 0 0 rfl rfl rfl hl.1 rfl rfl (Nat.le_of_ble_eq_true rfl) dX0_hums_45 ⟨Nat.zero_le _, Nat.zero_le _⟩ (fun r5 w H locs hw hP hD hS => ?_)
    obtain ⟨e1, e2⟩ := hw
    replace e1 : r5 = r5q := e1
    subst e1
    subst e2
    replace hP : va_P D vwCl (Aw q cA af_6 ab_7) H := hP.nil
    replace hD : va_D A (Aw q cA af_6 ab_7) := hD.nil
    refine lv_bipush (v := 6) hx hb dX0_hums_48 (by decide) ?_
    refine lv_ixor hx hb dX0_hums_50 ?_
    rw [hQ]
    exact ret_i C0 hP hD hS (by have e := Option.some.inj hf; rw [← e]; exact ⟨rfl, rfl⟩) dX0_hums_51
  · replace hf := ie_of c1 hf
    by_cases c9 : a1 = 4
    · replace hf := it_of c9 hf
      refine lv_lookup (off := 51) (tgt := 52) hx hb dX0_hums_1 (by decide) (by rw [c9]; decide) (by decide) ?_
      refine lv_aload_n hx hb dX0_hums_52 rfl (lv_at hl 0 rfl) ?_
      refine lv_bipush (v := 51) hx hb dX0_hums_53 (by decide) ?_
      obtain ⟨af_10, ab_11, hq12, hf⟩ := b2_of hf
      refine callVV (As := [.int 51]) (rest := []) (wr := []) C0 (c_X0_began q af0 ab0 51 _ hq12) lk_X0_38_X0_began rfl hP hD hS perm_nil 0 0 rfl rfl rfl hl.1 rfl rfl (Nat.le_of_ble_eq_true rfl) dX0_hums_55 ⟨Nat.zero_le _, Nat.zero_le _⟩ (fun w H locs hw hP hD hS => ?_)
      have e2 := hw
      subst e2
      replace hP : va_P D vwCl (Aw q cA af_10 ab_11) H := hP.nil
      replace hD : va_D A (Aw q cA af_10 ab_11) := hD.nil
      refine lv_aload_n hx hb dX0_hums_58 rfl (lv_at hl 0 rfl) ?_
      refine lv_iconst (v := 1) hx hb dX0_hums_59 (by decide) ?_
      refine lv_iload_n hx hb dX0_hums_60 rfl (lv_at hl 2 rfl) ?_
      refine lv_iconst (v := 1) hx hb dX0_hums_61 (by decide) ?_
      refine lv_iadd hx hb dX0_hums_62 ?_
      obtain ⟨r13q, af_14, ab_15, hq16, hf⟩ := b3_of hf
      refine callVI (As := [.int 1, .int (a2 + 1)]) (rest := []) (wr := []) C0 (c_X0_hums_0 q af_10 ab_11 1 (a2 + 1) _ (by rw [← hkR]; exact hq16)) lk_X0_29_X0_hums rfl hP hD hS perm_nil 0 0 rfl rfl rfl hl.1 rfl rfl (Nat.le_of_ble_eq_true rfl) dX0_hums_63 ⟨Nat.zero_le _, Nat.zero_le _⟩ (fun r13 w H locs hw hP hD hS => ?_)
      obtain ⟨e1, e2⟩ := hw
      replace e1 : r13 = r13q := e1
      subst e1
      subst e2
      replace hP : va_P D vwCl (Aw q cA af_14 ab_15) H := hP.nil
      replace hD : va_D A (Aw q cA af_14 ab_15) := hD.nil
      rw [hQ]
      exact ret_i C0 hP hD hS (by have e := Option.some.inj hf; rw [← e]; exact ⟨rfl, rfl⟩) dX0_hums_66
    · replace hf := ie_of c9 hf
      by_cases c17 : a1 = 6
      · replace hf := it_of c17 hf
        refine lv_lookup (off := 66) (tgt := 67) hx hb dX0_hums_1 (by decide) (by rw [c17]; decide) (by decide) ?_
        refine lv_aload_n hx hb dX0_hums_67 rfl (lv_at hl 0 rfl) ?_
        refine lv_bipush (v := 70) hx hb dX0_hums_68 (by decide) ?_
        obtain ⟨af_18, ab_19, hq20, hf⟩ := b2_of hf
        refine callVV (As := [.int 70]) (rest := []) (wr := []) C0 (c_X0_began q af0 ab0 70 _ hq20) lk_X0_38_X0_began rfl hP hD hS perm_nil 0 0 rfl rfl rfl hl.1 rfl rfl (Nat.le_of_ble_eq_true rfl) dX0_hums_70 ⟨Nat.zero_le _, Nat.zero_le _⟩ (fun w H locs hw hP hD hS => ?_)
        have e2 := hw
        subst e2
        replace hP : va_P D vwCl (Aw q cA af_18 ab_19) H := hP.nil
        replace hD : va_D A (Aw q cA af_18 ab_19) := hD.nil
        refine lv_aload_n hx hb dX0_hums_73 rfl (lv_at hl 0 rfl) ?_
        refine lv_iconst (v := 3) hx hb dX0_hums_74 (by decide) ?_
        refine lv_iload_n hx hb dX0_hums_75 rfl (lv_at hl 2 rfl) ?_
        obtain ⟨r21q, af_22, ab_23, hq24, hf⟩ := b3_of hf
        refine callVI (As := [.int 3, .int a2]) (rest := []) (wr := []) C0 (c_X0_hums_0 q af_18 ab_19 3 a2 _ (by rw [← hkR]; exact hq24)) lk_X0_29_X0_hums rfl hP hD hS perm_nil 0 0 rfl rfl rfl hl.1 rfl rfl (Nat.le_of_ble_eq_true rfl) dX0_hums_76 ⟨Nat.zero_le _, Nat.zero_le _⟩ (fun r21 w H locs hw hP hD hS => ?_)
        obtain ⟨e1, e2⟩ := hw
        replace e1 : r21 = r21q := e1
        subst e1
        subst e2
        replace hP : va_P D vwCl (Aw q cA af_22 ab_23) H := hP.nil
        replace hD : va_D A (Aw q cA af_22 ab_23) := hD.nil
        refine lv_aload_n hx hb dX0_hums_79 rfl (lv_at hl 0 rfl) ?_
        refine lv_iconst (v := 3) hx hb dX0_hums_80 (by decide) ?_
        refine lv_iconst (v := 2) hx hb dX0_hums_81 (by decide) ?_
        obtain ⟨r25q, af_26, ab_27, hq28, hf⟩ := b3_of hf
        refine callVI (As := [.int 3, .int 2]) (rest := [.int r21]) (wr := []) C0 (c_X0_rolls_2 q af_22 ab_23 3 2 _ hq28) lk_X0_25_X0_rolls rfl hP hD hS perm_nil 0 0 rfl rfl rfl hl.1 rfl rfl (Nat.le_of_ble_eq_true rfl) dX0_hums_82 ⟨Nat.zero_le _, Nat.zero_le _⟩ (fun r25 w H locs hw hP hD hS => ?_)
        obtain ⟨e1, e2⟩ := hw
        replace e1 : r25 = r25q := e1
        subst e1
        subst e2
        replace hP : va_P D vwCl (Aw q cA af_26 ab_27) H := hP.nil
        replace hD : va_D A (Aw q cA af_26 ab_27) := hD.nil
        refine lv_iadd hx hb dX0_hums_85 ?_
        rw [hQ]
        exact ret_i C0 hP hD hS (by have e := Option.some.inj hf; rw [← e]; exact ⟨rfl, rfl⟩) dX0_hums_86
      · replace hf := ie_of c17 hf
        refine lv_lookup (off := 86) (tgt := 87) hx hb dX0_hums_1 (by decide) (by rw [lv_osw c1 (by decide), lv_osw c9 (by decide), lv_osw c17 (by decide)]; rfl) (by decide) ?_
        refine lv_aload_n hx hb dX0_hums_87 rfl (lv_at hl 0 rfl) ?_
        refine lv_bipush (v := 11) hx hb dX0_hums_88 (by decide) ?_
        obtain ⟨af_29, ab_30, hq31, hf⟩ := b2_of hf
        refine callVV (As := [.int 11]) (rest := []) (wr := []) C0 (c_X0_began q af0 ab0 11 _ hq31) lk_X0_38_X0_began rfl hP hD hS perm_nil 0 0 rfl rfl rfl hl.1 rfl rfl (Nat.le_of_ble_eq_true rfl) dX0_hums_90 ⟨Nat.zero_le _, Nat.zero_le _⟩ (fun w H locs hw hP hD hS => ?_)
        have e2 := hw
        subst e2
        replace hP : va_P D vwCl (Aw q cA af_29 ab_30) H := hP.nil
        replace hD : va_D A (Aw q cA af_29 ab_30) := hD.nil
        refine lv_aload_n hx hb dX0_hums_93 rfl (lv_at hl 0 rfl) ?_
        refine lv_aload_n hx hb dX0_hums_94 rfl (lv_at hl 0 rfl) ?_
        refine va_get (D := D) (ci := 0) (v := .int (af_29 3)) (C := RX0) (T := TX0) (N := 5) hx hb hts fw_0 hown hK hP 0 rfl rfl 3 (by decide) (hts _ m_fieldLink_P_Acts_19_P_Acts_kind_I) (fun _ h9 => h9) rfl dX0_hums_95 ?_
        refine lv_iload_n hx hb dX0_hums_98 rfl (lv_at hl 2 rfl) ?_
        obtain ⟨r32q, af_33, ab_34, hq35, hf⟩ := b3_of hf
        refine callVI (As := [.int (af_29 3), .int a2]) (rest := []) (wr := []) C0 (c_X0_rolls_2 q af_29 ab_30 (af_29 3) a2 _ hq35) lk_X0_25_X0_rolls rfl hP hD hS perm_nil 0 0 rfl rfl rfl hl.1 rfl rfl (Nat.le_of_ble_eq_true rfl) dX0_hums_99 ⟨Nat.zero_le _, Nat.zero_le _⟩ (fun r32 w H locs hw hP hD hS => ?_)
        obtain ⟨e1, e2⟩ := hw
        replace e1 : r32 = r32q := e1
        subst e1
        subst e2
        replace hP : va_P D vwCl (Aw q cA af_33 ab_34) H := hP.nil
        replace hD : va_D A (Aw q cA af_33 ab_34) := hD.nil
        refine lv_aload_n hx hb dX0_hums_102 rfl (lv_at hl 0 rfl) ?_
        refine va_get (D := D) (ci := 0) (v := .int (af_33 4)) (C := RX0) (T := TX0) (N := 5) hx hb hts fw_0 hown hK hP 0 rfl rfl 4 (by decide) (hts _ m_fieldLink_P_Acts_22_P_Acts_v_I) (fun _ h9 => h9) rfl dX0_hums_103 ?_
        refine lv_isub hx hb dX0_hums_106 ?_
        rw [hQ]
        exact ret_i C0 hP hD hS (by have e := Option.some.inj hf; rw [← e]; exact ⟨rfl, rfl⟩) dX0_hums_107
set_option maxHeartbeats 4000000 in
set_option maxRecDepth 100000 in
theorem c_X0_hums_2 {l : Launch} {D : va_G} {cA : Nat → ClassId} (q : Nat → Nat) (af0 : Nat → Int32) (ab0 : Nat → Int32) (a1 : Int32) (a2 : Int32) (o : Int32 × (Nat → Int32) × (Nat → Int32)) (hf : k_X0_hums 2 a1 a2 af0 ab0 = some o) : CI l D cA yX0_hums cX0_hums 3 (some .int) 4 88 [.ref (q 0), .int a1, .int a2] (Aw q cA af0 ab0) 0 0 (fun r w => r = o.1 ∧ w = (Aw q cA o.2.1 o.2.2)) := by
  intro sz
  refine met_start (by decide) rfl ?_
  intro p e s m args below meth c ls hsz hargs C0 hname hP hD hS hl
  generalize hAe : va_A (Aw q cA af0 ab0) sz = A at C0 hD hS ⊢
  obtain ⟨hx, hb, hr, hml, hown, hts, hlk, hK, hA⟩ := id C0
  replace hl : lv_has ls 3 [(0, .ref (q 0)), (1, .int a1), (2, .int a2)] := hl
  obtain ⟨Q, hQ⟩ : ∃ Q : State → Prop, Q = QI below D A (fun r w => r = o.1 ∧ w = (Aw q cA o.2.1 o.2.2)) args s 0 0 := ⟨_, rfl⟩
  refine cast (by rw [hQ]) (?_ : W p l e (RMx 4 88 0 0) s m args below meth c s.heap [] 0 0 Q (F0 m 0 ls []))
  obtain ⟨kR, hkR⟩ : ∃ z, z = k_X0_hums 1 := ⟨_, rfl⟩
  replace hf : k_X0_hums_g kR a1 a2 af0 ab0 = some o := by rw [hkR]; exact hf
  unfold k_X0_hums_g at hf
  refine lv_iload_n hx hb dX0_hums_0 rfl (lv_at hl 1 rfl) ?_
  by_cases c1 : a1 = 1
  · replace hf := it_of c1 hf
    refine lv_lookup (off := 35) (tgt := 36) hx hb dX0_hums_1 (by decide) (by rw [c1]; decide) (by decide) ?_
    refine lv_aload_n hx hb dX0_hums_36 rfl (lv_at hl 0 rfl) ?_
    refine lv_bipush (v := 20) hx hb dX0_hums_37 (by decide) ?_
    obtain ⟨af_2, ab_3, hq4, hf⟩ := b2_of hf
    refine callVV (As := [.int 20]) (rest := []) (wr := []) C0 (c_X0_began q af0 ab0 20 _ hq4) lk_X0_38_X0_began rfl hP hD hS perm_nil 0 0 rfl rfl rfl hl.1 rfl rfl (Nat.le_of_ble_eq_true rfl) dX0_hums_39 ⟨Nat.zero_le _, Nat.zero_le _⟩ (fun w H locs hw hP hD hS => ?_)
    have e2 := hw
    subst e2
    replace hP : va_P D vwCl (Aw q cA af_2 ab_3) H := hP.nil
    replace hD : va_D A (Aw q cA af_2 ab_3) := hD.nil
    refine lv_aload_n hx hb dX0_hums_42 rfl (lv_at hl 0 rfl) ?_
    refine lv_iconst (v := 0) hx hb dX0_hums_43 (by decide) ?_
    refine lv_iload_n hx hb dX0_hums_44 rfl (lv_at hl 2 rfl) ?_
    obtain ⟨r5q, af_6, ab_7, hq8, hf⟩ := b3_of hf
    refine callVI (As := [.int 0, .int a2]) (rest := []) (wr := []) C0 (c_X0_hums_1 q af_2 ab_3 0 a2 _ (by rw [← hkR]; exact hq8)) lk_X0_29_X0_hums rfl hP hD hS perm_nil 0 0 rfl rfl rfl hl.1 rfl rfl (Nat.le_of_ble_eq_true rfl) dX0_hums_45 ⟨Nat.zero_le _, Nat.zero_le _⟩ (fun r5 w H locs hw hP hD hS => ?_)
    obtain ⟨e1, e2⟩ := hw
    replace e1 : r5 = r5q := e1
    subst e1
    subst e2
    replace hP : va_P D vwCl (Aw q cA af_6 ab_7) H := hP.nil
    replace hD : va_D A (Aw q cA af_6 ab_7) := hD.nil
    refine lv_bipush (v := 6) hx hb dX0_hums_48 (by decide) ?_
    refine lv_ixor hx hb dX0_hums_50 ?_
    rw [hQ]
    exact ret_i C0 hP hD hS (by have e := Option.some.inj hf; rw [← e]; exact ⟨rfl, rfl⟩) dX0_hums_51
  · replace hf := ie_of c1 hf
    by_cases c9 : a1 = 4
    · replace hf := it_of c9 hf
      refine lv_lookup (off := 51) (tgt := 52) hx hb dX0_hums_1 (by decide) (by rw [c9]; decide) (by decide) ?_
      refine lv_aload_n hx hb dX0_hums_52 rfl (lv_at hl 0 rfl) ?_
      refine lv_bipush (v := 51) hx hb dX0_hums_53 (by decide) ?_
      obtain ⟨af_10, ab_11, hq12, hf⟩ := b2_of hf
      refine callVV (As := [.int 51]) (rest := []) (wr := []) C0 (c_X0_began q af0 ab0 51 _ hq12) lk_X0_38_X0_began rfl hP hD hS perm_nil 0 0 rfl rfl rfl hl.1 rfl rfl (Nat.le_of_ble_eq_true rfl) dX0_hums_55 ⟨Nat.zero_le _, Nat.zero_le _⟩ (fun w H locs hw hP hD hS => ?_)
      have e2 := hw
      subst e2
      replace hP : va_P D vwCl (Aw q cA af_10 ab_11) H := hP.nil
      replace hD : va_D A (Aw q cA af_10 ab_11) := hD.nil
      refine lv_aload_n hx hb dX0_hums_58 rfl (lv_at hl 0 rfl) ?_
      refine lv_iconst (v := 1) hx hb dX0_hums_59 (by decide) ?_
      refine lv_iload_n hx hb dX0_hums_60 rfl (lv_at hl 2 rfl) ?_
      refine lv_iconst (v := 1) hx hb dX0_hums_61 (by decide) ?_
      refine lv_iadd hx hb dX0_hums_62 ?_
      obtain ⟨r13q, af_14, ab_15, hq16, hf⟩ := b3_of hf
      refine callVI (As := [.int 1, .int (a2 + 1)]) (rest := []) (wr := []) C0 (c_X0_hums_1 q af_10 ab_11 1 (a2 + 1) _ (by rw [← hkR]; exact hq16)) lk_X0_29_X0_hums rfl hP hD hS perm_nil 0 0 rfl rfl rfl hl.1 rfl rfl (Nat.le_of_ble_eq_true rfl) dX0_hums_63 ⟨Nat.zero_le _, Nat.zero_le _⟩ (fun r13 w H locs hw hP hD hS => ?_)
      obtain ⟨e1, e2⟩ := hw
      replace e1 : r13 = r13q := e1
      subst e1
      subst e2
      replace hP : va_P D vwCl (Aw q cA af_14 ab_15) H := hP.nil
      replace hD : va_D A (Aw q cA af_14 ab_15) := hD.nil
      rw [hQ]
      exact ret_i C0 hP hD hS (by have e := Option.some.inj hf; rw [← e]; exact ⟨rfl, rfl⟩) dX0_hums_66
    · replace hf := ie_of c9 hf
      by_cases c17 : a1 = 6
      · replace hf := it_of c17 hf
        refine lv_lookup (off := 66) (tgt := 67) hx hb dX0_hums_1 (by decide) (by rw [c17]; decide) (by decide) ?_
        refine lv_aload_n hx hb dX0_hums_67 rfl (lv_at hl 0 rfl) ?_
        refine lv_bipush (v := 70) hx hb dX0_hums_68 (by decide) ?_
        obtain ⟨af_18, ab_19, hq20, hf⟩ := b2_of hf
        refine callVV (As := [.int 70]) (rest := []) (wr := []) C0 (c_X0_began q af0 ab0 70 _ hq20) lk_X0_38_X0_began rfl hP hD hS perm_nil 0 0 rfl rfl rfl hl.1 rfl rfl (Nat.le_of_ble_eq_true rfl) dX0_hums_70 ⟨Nat.zero_le _, Nat.zero_le _⟩ (fun w H locs hw hP hD hS => ?_)
        have e2 := hw
        subst e2
        replace hP : va_P D vwCl (Aw q cA af_18 ab_19) H := hP.nil
        replace hD : va_D A (Aw q cA af_18 ab_19) := hD.nil
        refine lv_aload_n hx hb dX0_hums_73 rfl (lv_at hl 0 rfl) ?_
        refine lv_iconst (v := 3) hx hb dX0_hums_74 (by decide) ?_
        refine lv_iload_n hx hb dX0_hums_75 rfl (lv_at hl 2 rfl) ?_
        obtain ⟨r21q, af_22, ab_23, hq24, hf⟩ := b3_of hf
        refine callVI (As := [.int 3, .int a2]) (rest := []) (wr := []) C0 (c_X0_hums_1 q af_18 ab_19 3 a2 _ (by rw [← hkR]; exact hq24)) lk_X0_29_X0_hums rfl hP hD hS perm_nil 0 0 rfl rfl rfl hl.1 rfl rfl (Nat.le_of_ble_eq_true rfl) dX0_hums_76 ⟨Nat.zero_le _, Nat.zero_le _⟩ (fun r21 w H locs hw hP hD hS => ?_)
        obtain ⟨e1, e2⟩ := hw
        replace e1 : r21 = r21q := e1
        subst e1
        subst e2
        replace hP : va_P D vwCl (Aw q cA af_22 ab_23) H := hP.nil
        replace hD : va_D A (Aw q cA af_22 ab_23) := hD.nil
        refine lv_aload_n hx hb dX0_hums_79 rfl (lv_at hl 0 rfl) ?_
        refine lv_iconst (v := 3) hx hb dX0_hums_80 (by decide) ?_
        refine lv_iconst (v := 2) hx hb dX0_hums_81 (by decide) ?_
        obtain ⟨r25q, af_26, ab_27, hq28, hf⟩ := b3_of hf
        refine callVI (As := [.int 3, .int 2]) (rest := [.int r21]) (wr := []) C0 (c_X0_rolls_2 q af_22 ab_23 3 2 _ hq28) lk_X0_25_X0_rolls rfl hP hD hS perm_nil 0 0 rfl rfl rfl hl.1 rfl rfl (Nat.le_of_ble_eq_true rfl) dX0_hums_82 ⟨Nat.zero_le _, Nat.zero_le _⟩ (fun r25 w H locs hw hP hD hS => ?_)
        obtain ⟨e1, e2⟩ := hw
        replace e1 : r25 = r25q := e1
        subst e1
        subst e2
        replace hP : va_P D vwCl (Aw q cA af_26 ab_27) H := hP.nil
        replace hD : va_D A (Aw q cA af_26 ab_27) := hD.nil
        refine lv_iadd hx hb dX0_hums_85 ?_
        rw [hQ]
        exact ret_i C0 hP hD hS (by have e := Option.some.inj hf; rw [← e]; exact ⟨rfl, rfl⟩) dX0_hums_86
      · replace hf := ie_of c17 hf
        refine lv_lookup (off := 86) (tgt := 87) hx hb dX0_hums_1 (by decide) (by rw [lv_osw c1 (by decide), lv_osw c9 (by decide), lv_osw c17 (by decide)]; rfl) (by decide) ?_
        refine lv_aload_n hx hb dX0_hums_87 rfl (lv_at hl 0 rfl) ?_
        refine lv_bipush (v := 11) hx hb dX0_hums_88 (by decide) ?_
        obtain ⟨af_29, ab_30, hq31, hf⟩ := b2_of hf
        refine callVV (As := [.int 11]) (rest := []) (wr := []) C0 (c_X0_began q af0 ab0 11 _ hq31) lk_X0_38_X0_began rfl hP hD hS perm_nil 0 0 rfl rfl rfl hl.1 rfl rfl (Nat.le_of_ble_eq_true rfl) dX0_hums_90 ⟨Nat.zero_le _, Nat.zero_le _⟩ (fun w H locs hw hP hD hS => ?_)
        have e2 := hw
        subst e2
        replace hP : va_P D vwCl (Aw q cA af_29 ab_30) H := hP.nil
        replace hD : va_D A (Aw q cA af_29 ab_30) := hD.nil
        refine lv_aload_n hx hb dX0_hums_93 rfl (lv_at hl 0 rfl) ?_
        refine lv_aload_n hx hb dX0_hums_94 rfl (lv_at hl 0 rfl) ?_
        refine va_get (D := D) (ci := 0) (v := .int (af_29 3)) (C := RX0) (T := TX0) (N := 5) hx hb hts fw_0 hown hK hP 0 rfl rfl 3 (by decide) (hts _ m_fieldLink_P_Acts_19_P_Acts_kind_I) (fun _ h9 => h9) rfl dX0_hums_95 ?_
        refine lv_iload_n hx hb dX0_hums_98 rfl (lv_at hl 2 rfl) ?_
        obtain ⟨r32q, af_33, ab_34, hq35, hf⟩ := b3_of hf
        refine callVI (As := [.int (af_29 3), .int a2]) (rest := []) (wr := []) C0 (c_X0_rolls_2 q af_29 ab_30 (af_29 3) a2 _ hq35) lk_X0_25_X0_rolls rfl hP hD hS perm_nil 0 0 rfl rfl rfl hl.1 rfl rfl (Nat.le_of_ble_eq_true rfl) dX0_hums_99 ⟨Nat.zero_le _, Nat.zero_le _⟩ (fun r32 w H locs hw hP hD hS => ?_)
        obtain ⟨e1, e2⟩ := hw
        replace e1 : r32 = r32q := e1
        subst e1
        subst e2
        replace hP : va_P D vwCl (Aw q cA af_33 ab_34) H := hP.nil
        replace hD : va_D A (Aw q cA af_33 ab_34) := hD.nil
        refine lv_aload_n hx hb dX0_hums_102 rfl (lv_at hl 0 rfl) ?_
        refine va_get (D := D) (ci := 0) (v := .int (af_33 4)) (C := RX0) (T := TX0) (N := 5) hx hb hts fw_0 hown hK hP 0 rfl rfl 4 (by decide) (hts _ m_fieldLink_P_Acts_22_P_Acts_v_I) (fun _ h9 => h9) rfl dX0_hums_103 ?_
        refine lv_isub hx hb dX0_hums_106 ?_
        rw [hQ]
        exact ret_i C0 hP hD hS (by have e := Option.some.inj hf; rw [← e]; exact ⟨rfl, rfl⟩) dX0_hums_107
set_option maxHeartbeats 4000000 in
set_option maxRecDepth 100000 in
theorem c_X0_hums_3 {l : Launch} {D : va_G} {cA : Nat → ClassId} (q : Nat → Nat) (af0 : Nat → Int32) (ab0 : Nat → Int32) (a1 : Int32) (a2 : Int32) (o : Int32 × (Nat → Int32) × (Nat → Int32)) (hf : k_X0_hums 3 a1 a2 af0 ab0 = some o) : CI l D cA yX0_hums cX0_hums 3 (some .int) 5 110 [.ref (q 0), .int a1, .int a2] (Aw q cA af0 ab0) 0 0 (fun r w => r = o.1 ∧ w = (Aw q cA o.2.1 o.2.2)) := by
  intro sz
  refine met_start (by decide) rfl ?_
  intro p e s m args below meth c ls hsz hargs C0 hname hP hD hS hl
  generalize hAe : va_A (Aw q cA af0 ab0) sz = A at C0 hD hS ⊢
  obtain ⟨hx, hb, hr, hml, hown, hts, hlk, hK, hA⟩ := id C0
  replace hl : lv_has ls 3 [(0, .ref (q 0)), (1, .int a1), (2, .int a2)] := hl
  obtain ⟨Q, hQ⟩ : ∃ Q : State → Prop, Q = QI below D A (fun r w => r = o.1 ∧ w = (Aw q cA o.2.1 o.2.2)) args s 0 0 := ⟨_, rfl⟩
  refine cast (by rw [hQ]) (?_ : W p l e (RMx 5 110 0 0) s m args below meth c s.heap [] 0 0 Q (F0 m 0 ls []))
  obtain ⟨kR, hkR⟩ : ∃ z, z = k_X0_hums 2 := ⟨_, rfl⟩
  replace hf : k_X0_hums_g kR a1 a2 af0 ab0 = some o := by rw [hkR]; exact hf
  unfold k_X0_hums_g at hf
  refine lv_iload_n hx hb dX0_hums_0 rfl (lv_at hl 1 rfl) ?_
  by_cases c1 : a1 = 1
  · replace hf := it_of c1 hf
    refine lv_lookup (off := 35) (tgt := 36) hx hb dX0_hums_1 (by decide) (by rw [c1]; decide) (by decide) ?_
    refine lv_aload_n hx hb dX0_hums_36 rfl (lv_at hl 0 rfl) ?_
    refine lv_bipush (v := 20) hx hb dX0_hums_37 (by decide) ?_
    obtain ⟨af_2, ab_3, hq4, hf⟩ := b2_of hf
    refine callVV (As := [.int 20]) (rest := []) (wr := []) C0 (c_X0_began q af0 ab0 20 _ hq4) lk_X0_38_X0_began rfl hP hD hS perm_nil 0 0 rfl rfl rfl hl.1 rfl rfl (Nat.le_of_ble_eq_true rfl) dX0_hums_39 ⟨Nat.zero_le _, Nat.zero_le _⟩ (fun w H locs hw hP hD hS => ?_)
    have e2 := hw
    subst e2
    replace hP : va_P D vwCl (Aw q cA af_2 ab_3) H := hP.nil
    replace hD : va_D A (Aw q cA af_2 ab_3) := hD.nil
    refine lv_aload_n hx hb dX0_hums_42 rfl (lv_at hl 0 rfl) ?_
    refine lv_iconst (v := 0) hx hb dX0_hums_43 (by decide) ?_
    refine lv_iload_n hx hb dX0_hums_44 rfl (lv_at hl 2 rfl) ?_
    obtain ⟨r5q, af_6, ab_7, hq8, hf⟩ := b3_of hf
    refine callVI (As := [.int 0, .int a2]) (rest := []) (wr := []) C0 (c_X0_hums_2 q af_2 ab_3 0 a2 _ (by rw [← hkR]; exact hq8)) lk_X0_29_X0_hums rfl hP hD hS perm_nil 0 0 rfl rfl rfl hl.1 rfl rfl (Nat.le_of_ble_eq_true rfl) dX0_hums_45 ⟨Nat.zero_le _, Nat.zero_le _⟩ (fun r5 w H locs hw hP hD hS => ?_)
    obtain ⟨e1, e2⟩ := hw
    replace e1 : r5 = r5q := e1
    subst e1
    subst e2
    replace hP : va_P D vwCl (Aw q cA af_6 ab_7) H := hP.nil
    replace hD : va_D A (Aw q cA af_6 ab_7) := hD.nil
    refine lv_bipush (v := 6) hx hb dX0_hums_48 (by decide) ?_
    refine lv_ixor hx hb dX0_hums_50 ?_
    rw [hQ]
    exact ret_i C0 hP hD hS (by have e := Option.some.inj hf; rw [← e]; exact ⟨rfl, rfl⟩) dX0_hums_51
  · replace hf := ie_of c1 hf
    by_cases c9 : a1 = 4
    · replace hf := it_of c9 hf
      refine lv_lookup (off := 51) (tgt := 52) hx hb dX0_hums_1 (by decide) (by rw [c9]; decide) (by decide) ?_
      refine lv_aload_n hx hb dX0_hums_52 rfl (lv_at hl 0 rfl) ?_
      refine lv_bipush (v := 51) hx hb dX0_hums_53 (by decide) ?_
      obtain ⟨af_10, ab_11, hq12, hf⟩ := b2_of hf
      refine callVV (As := [.int 51]) (rest := []) (wr := []) C0 (c_X0_began q af0 ab0 51 _ hq12) lk_X0_38_X0_began rfl hP hD hS perm_nil 0 0 rfl rfl rfl hl.1 rfl rfl (Nat.le_of_ble_eq_true rfl) dX0_hums_55 ⟨Nat.zero_le _, Nat.zero_le _⟩ (fun w H locs hw hP hD hS => ?_)
      have e2 := hw
      subst e2
      replace hP : va_P D vwCl (Aw q cA af_10 ab_11) H := hP.nil
      replace hD : va_D A (Aw q cA af_10 ab_11) := hD.nil
      refine lv_aload_n hx hb dX0_hums_58 rfl (lv_at hl 0 rfl) ?_
      refine lv_iconst (v := 1) hx hb dX0_hums_59 (by decide) ?_
      refine lv_iload_n hx hb dX0_hums_60 rfl (lv_at hl 2 rfl) ?_
      refine lv_iconst (v := 1) hx hb dX0_hums_61 (by decide) ?_
      refine lv_iadd hx hb dX0_hums_62 ?_
      obtain ⟨r13q, af_14, ab_15, hq16, hf⟩ := b3_of hf
      refine callVI (As := [.int 1, .int (a2 + 1)]) (rest := []) (wr := []) C0 (c_X0_hums_2 q af_10 ab_11 1 (a2 + 1) _ (by rw [← hkR]; exact hq16)) lk_X0_29_X0_hums rfl hP hD hS perm_nil 0 0 rfl rfl rfl hl.1 rfl rfl (Nat.le_of_ble_eq_true rfl) dX0_hums_63 ⟨Nat.zero_le _, Nat.zero_le _⟩ (fun r13 w H locs hw hP hD hS => ?_)
      obtain ⟨e1, e2⟩ := hw
      replace e1 : r13 = r13q := e1
      subst e1
      subst e2
      replace hP : va_P D vwCl (Aw q cA af_14 ab_15) H := hP.nil
      replace hD : va_D A (Aw q cA af_14 ab_15) := hD.nil
      rw [hQ]
      exact ret_i C0 hP hD hS (by have e := Option.some.inj hf; rw [← e]; exact ⟨rfl, rfl⟩) dX0_hums_66
    · replace hf := ie_of c9 hf
      by_cases c17 : a1 = 6
      · replace hf := it_of c17 hf
        refine lv_lookup (off := 66) (tgt := 67) hx hb dX0_hums_1 (by decide) (by rw [c17]; decide) (by decide) ?_
        refine lv_aload_n hx hb dX0_hums_67 rfl (lv_at hl 0 rfl) ?_
        refine lv_bipush (v := 70) hx hb dX0_hums_68 (by decide) ?_
        obtain ⟨af_18, ab_19, hq20, hf⟩ := b2_of hf
        refine callVV (As := [.int 70]) (rest := []) (wr := []) C0 (c_X0_began q af0 ab0 70 _ hq20) lk_X0_38_X0_began rfl hP hD hS perm_nil 0 0 rfl rfl rfl hl.1 rfl rfl (Nat.le_of_ble_eq_true rfl) dX0_hums_70 ⟨Nat.zero_le _, Nat.zero_le _⟩ (fun w H locs hw hP hD hS => ?_)
        have e2 := hw
        subst e2
        replace hP : va_P D vwCl (Aw q cA af_18 ab_19) H := hP.nil
        replace hD : va_D A (Aw q cA af_18 ab_19) := hD.nil
        refine lv_aload_n hx hb dX0_hums_73 rfl (lv_at hl 0 rfl) ?_
        refine lv_iconst (v := 3) hx hb dX0_hums_74 (by decide) ?_
        refine lv_iload_n hx hb dX0_hums_75 rfl (lv_at hl 2 rfl) ?_
        obtain ⟨r21q, af_22, ab_23, hq24, hf⟩ := b3_of hf
        refine callVI (As := [.int 3, .int a2]) (rest := []) (wr := []) C0 (c_X0_hums_2 q af_18 ab_19 3 a2 _ (by rw [← hkR]; exact hq24)) lk_X0_29_X0_hums rfl hP hD hS perm_nil 0 0 rfl rfl rfl hl.1 rfl rfl (Nat.le_of_ble_eq_true rfl) dX0_hums_76 ⟨Nat.zero_le _, Nat.zero_le _⟩ (fun r21 w H locs hw hP hD hS => ?_)
        obtain ⟨e1, e2⟩ := hw
        replace e1 : r21 = r21q := e1
        subst e1
        subst e2
        replace hP : va_P D vwCl (Aw q cA af_22 ab_23) H := hP.nil
        replace hD : va_D A (Aw q cA af_22 ab_23) := hD.nil
        refine lv_aload_n hx hb dX0_hums_79 rfl (lv_at hl 0 rfl) ?_
        refine lv_iconst (v := 3) hx hb dX0_hums_80 (by decide) ?_
        refine lv_iconst (v := 2) hx hb dX0_hums_81 (by decide) ?_
        obtain ⟨r25q, af_26, ab_27, hq28, hf⟩ := b3_of hf
        refine callVI (As := [.int 3, .int 2]) (rest := [.int r21]) (wr := []) C0 (c_X0_rolls_2 q af_22 ab_23 3 2 _ hq28) lk_X0_25_X0_rolls rfl hP hD hS perm_nil 0 0 rfl rfl rfl hl.1 rfl rfl (Nat.le_of_ble_eq_true rfl) dX0_hums_82 ⟨Nat.zero_le _, Nat.zero_le _⟩ (fun r25 w H locs hw hP hD hS => ?_)
        obtain ⟨e1, e2⟩ := hw
        replace e1 : r25 = r25q := e1
        subst e1
        subst e2
        replace hP : va_P D vwCl (Aw q cA af_26 ab_27) H := hP.nil
        replace hD : va_D A (Aw q cA af_26 ab_27) := hD.nil
        refine lv_iadd hx hb dX0_hums_85 ?_
        rw [hQ]
        exact ret_i C0 hP hD hS (by have e := Option.some.inj hf; rw [← e]; exact ⟨rfl, rfl⟩) dX0_hums_86
      · replace hf := ie_of c17 hf
        refine lv_lookup (off := 86) (tgt := 87) hx hb dX0_hums_1 (by decide) (by rw [lv_osw c1 (by decide), lv_osw c9 (by decide), lv_osw c17 (by decide)]; rfl) (by decide) ?_
        refine lv_aload_n hx hb dX0_hums_87 rfl (lv_at hl 0 rfl) ?_
        refine lv_bipush (v := 11) hx hb dX0_hums_88 (by decide) ?_
        obtain ⟨af_29, ab_30, hq31, hf⟩ := b2_of hf
        refine callVV (As := [.int 11]) (rest := []) (wr := []) C0 (c_X0_began q af0 ab0 11 _ hq31) lk_X0_38_X0_began rfl hP hD hS perm_nil 0 0 rfl rfl rfl hl.1 rfl rfl (Nat.le_of_ble_eq_true rfl) dX0_hums_90 ⟨Nat.zero_le _, Nat.zero_le _⟩ (fun w H locs hw hP hD hS => ?_)
        have e2 := hw
        subst e2
        replace hP : va_P D vwCl (Aw q cA af_29 ab_30) H := hP.nil
        replace hD : va_D A (Aw q cA af_29 ab_30) := hD.nil
        refine lv_aload_n hx hb dX0_hums_93 rfl (lv_at hl 0 rfl) ?_
        refine lv_aload_n hx hb dX0_hums_94 rfl (lv_at hl 0 rfl) ?_
        refine va_get (D := D) (ci := 0) (v := .int (af_29 3)) (C := RX0) (T := TX0) (N := 5) hx hb hts fw_0 hown hK hP 0 rfl rfl 3 (by decide) (hts _ m_fieldLink_P_Acts_19_P_Acts_kind_I) (fun _ h9 => h9) rfl dX0_hums_95 ?_
        refine lv_iload_n hx hb dX0_hums_98 rfl (lv_at hl 2 rfl) ?_
        obtain ⟨r32q, af_33, ab_34, hq35, hf⟩ := b3_of hf
        refine callVI (As := [.int (af_29 3), .int a2]) (rest := []) (wr := []) C0 (c_X0_rolls_2 q af_29 ab_30 (af_29 3) a2 _ hq35) lk_X0_25_X0_rolls rfl hP hD hS perm_nil 0 0 rfl rfl rfl hl.1 rfl rfl (Nat.le_of_ble_eq_true rfl) dX0_hums_99 ⟨Nat.zero_le _, Nat.zero_le _⟩ (fun r32 w H locs hw hP hD hS => ?_)
        obtain ⟨e1, e2⟩ := hw
        replace e1 : r32 = r32q := e1
        subst e1
        subst e2
        replace hP : va_P D vwCl (Aw q cA af_33 ab_34) H := hP.nil
        replace hD : va_D A (Aw q cA af_33 ab_34) := hD.nil
        refine lv_aload_n hx hb dX0_hums_102 rfl (lv_at hl 0 rfl) ?_
        refine va_get (D := D) (ci := 0) (v := .int (af_33 4)) (C := RX0) (T := TX0) (N := 5) hx hb hts fw_0 hown hK hP 0 rfl rfl 4 (by decide) (hts _ m_fieldLink_P_Acts_22_P_Acts_v_I) (fun _ h9 => h9) rfl dX0_hums_103 ?_
        refine lv_isub hx hb dX0_hums_106 ?_
        rw [hQ]
        exact ret_i C0 hP hD hS (by have e := Option.some.inj hf; rw [← e]; exact ⟨rfl, rfl⟩) dX0_hums_107
noncomputable def k_X0_tells_g (kR : Int32 → Int32 → (Nat → Int32) → (Nat → Int32) → Option (Int32 × (Nat → Int32) × (Nat → Int32))) (a1 : Int32) (a2 : Int32) (af0 : Nat → Int32) (ab0 : Nat → Int32) : Option (Int32 × (Nat → Int32) × (Nat → Int32)) := if a1 = 3 then b2 (k_X0_began 40 af0 ab0) (fun af_2 ab_3 => b3 (kR 0 a2 af_2 ab_3) (fun r5 af_6 ab_7 => b3 ((k_X0_hums 3) (af_6 3) 1 af_6 ab_7) (fun r9 af_10 ab_11 => some ((r5 + r9), af_10, ab_11)))) else if a1 = 4 then b2 (k_X0_began 12 af0 ab0) (fun af_14 ab_15 => b3 ((k_X0_hums 3) (af_14 3) a2 af_14 ab_15) (fun r17 af_18 ab_19 => some ((r17 * 2), af_18, ab_19))) else if a1 = 5 then b2 (k_X0_began 60 af0 ab0) (fun af_22 ab_23 => b3 (kR 2 (a2 - (af_22 2)) af_22 ab_23) (fun r25 af_26 ab_27 => some (r25, af_26, ab_27))) else if a1 = 6 then b2 (k_X0_began 40 af0 ab0) (fun af_30 ab_31 => b3 (kR 0 a2 af_30 ab_31) (fun r33 af_34 ab_35 => b3 ((k_X0_hums 3) (af_34 3) 1 af_34 ab_35) (fun r37 af_38 ab_39 => some ((r33 + r37), af_38, ab_39)))) else b2 (k_X0_began 12 af0 ab0) (fun af_41 ab_42 => b3 ((k_X0_hums 3) (af_41 3) a2 af_41 ab_42) (fun r44 af_45 ab_46 => some ((r44 * 2), af_45, ab_46)))
noncomputable def k_X0_tells : Nat → Int32 → Int32 → (Nat → Int32) → (Nat → Int32) → Option (Int32 × (Nat → Int32) × (Nat → Int32))
  | 0 => fun _ _ _ _ => none
  | n + 1 => k_X0_tells_g (k_X0_tells n)
theorem c_X0_tells_0 {l : Launch} {D : va_G} {cA : Nat → ClassId} (q : Nat → Nat) (af0 : Nat → Int32) (ab0 : Nat → Int32) (a1 : Int32) (a2 : Int32) (o : Int32 × (Nat → Int32) × (Nat → Int32)) (hf : k_X0_tells 0 a1 a2 af0 ab0 = some o) : CI l D cA yX0_tells cX0_tells 3 (some .int) 0 0 [.ref (q 0), .int a1, .int a2] (Aw q cA af0 ab0) 0 0 (fun r w => r = o.1 ∧ w = (Aw q cA o.2.1 o.2.2)) := by cases hf
set_option maxHeartbeats 4000000 in
set_option maxRecDepth 100000 in
theorem c_X0_tells_1 {l : Launch} {D : va_G} {cA : Nat → ClassId} (q : Nat → Nat) (af0 : Nat → Int32) (ab0 : Nat → Int32) (a1 : Int32) (a2 : Int32) (o : Int32 × (Nat → Int32) × (Nat → Int32)) (hf : k_X0_tells 1 a1 a2 af0 ab0 = some o) : CI l D cA yX0_tells cX0_tells 3 (some .int) 6 132 [.ref (q 0), .int a1, .int a2] (Aw q cA af0 ab0) 0 0 (fun r w => r = o.1 ∧ w = (Aw q cA o.2.1 o.2.2)) := by
  intro sz
  refine met_start (by decide) rfl ?_
  intro p e s m args below meth c ls hsz hargs C0 hname hP hD hS hl
  generalize hAe : va_A (Aw q cA af0 ab0) sz = A at C0 hD hS ⊢
  obtain ⟨hx, hb, hr, hml, hown, hts, hlk, hK, hA⟩ := id C0
  replace hl : lv_has ls 3 [(0, .ref (q 0)), (1, .int a1), (2, .int a2)] := hl
  obtain ⟨Q, hQ⟩ : ∃ Q : State → Prop, Q = QI below D A (fun r w => r = o.1 ∧ w = (Aw q cA o.2.1 o.2.2)) args s 0 0 := ⟨_, rfl⟩
  refine cast (by rw [hQ]) (?_ : W p l e (RMx 6 132 0 0) s m args below meth c s.heap [] 0 0 Q (F0 m 0 ls []))
  obtain ⟨kR, hkR⟩ : ∃ z, z = k_X0_tells 0 := ⟨_, rfl⟩
  replace hf : k_X0_tells_g kR a1 a2 af0 ab0 = some o := by rw [hkR]; exact hf
  unfold k_X0_tells_g at hf
  refine lv_iload_n hx hb dX0_tells_0 rfl (lv_at hl 1 rfl) ?_
  by_cases c1 : a1 = 3
  · replace hf := it_of c1 hf
    refine lv_tableIn (off := 31) (tgt := 32) hx hb dX0_tells_1 (by rw [c1]; decide) (by rw [c1]; decide) (by rw [c1]; decide) (by decide) ?_
    refine lv_aload_n hx hb dX0_tells_32 rfl (lv_at hl 0 rfl) ?_
    refine lv_bipush (v := 40) hx hb dX0_tells_33 (by decide) ?_
    obtain ⟨af_2, ab_3, hq4, hf⟩ := b2_of hf
    refine callVV (As := [.int 40]) (rest := []) (wr := []) C0 (c_X0_began q af0 ab0 40 _ hq4) lk_X0_38_X0_began rfl hP hD hS perm_nil 0 0 rfl rfl rfl hl.1 rfl rfl (Nat.le_of_ble_eq_true rfl) dX0_tells_35 ⟨Nat.zero_le _, Nat.zero_le _⟩ (fun w H locs hw hP hD hS => ?_)
    have e2 := hw
    subst e2
    replace hP : va_P D vwCl (Aw q cA af_2 ab_3) H := hP.nil
    replace hD : va_D A (Aw q cA af_2 ab_3) := hD.nil
    refine lv_aload_n hx hb dX0_tells_38 rfl (lv_at hl 0 rfl) ?_
    refine lv_iconst (v := 0) hx hb dX0_tells_39 (by decide) ?_
    refine lv_iload_n hx hb dX0_tells_40 rfl (lv_at hl 2 rfl) ?_
    obtain ⟨r5q, af_6, ab_7, hq8, hf⟩ := b3_of hf
    refine callVI (As := [.int 0, .int a2]) (rest := []) (wr := []) C0 (c_X0_tells_0 q af_2 ab_3 0 a2 _ (by rw [← hkR]; exact hq8)) lk_X0_32_X0_tells rfl hP hD hS perm_nil 0 0 rfl rfl rfl hl.1 rfl rfl (Nat.le_of_ble_eq_true rfl) dX0_tells_41 ⟨Nat.zero_le _, Nat.zero_le _⟩ (fun r5 w H locs hw hP hD hS => ?_)
    obtain ⟨e1, e2⟩ := hw
    replace e1 : r5 = r5q := e1
    subst e1
    subst e2
    replace hP : va_P D vwCl (Aw q cA af_6 ab_7) H := hP.nil
    replace hD : va_D A (Aw q cA af_6 ab_7) := hD.nil
    refine lv_aload_n hx hb dX0_tells_44 rfl (lv_at hl 0 rfl) ?_
    refine lv_aload_n hx hb dX0_tells_45 rfl (lv_at hl 0 rfl) ?_
    refine va_get (D := D) (ci := 0) (v := .int (af_6 3)) (C := RX0) (T := TX0) (N := 5) hx hb hts fw_0 hown hK hP 0 rfl rfl 3 (by decide) (hts _ m_fieldLink_P_Acts_19_P_Acts_kind_I) (fun _ h9 => h9) rfl dX0_tells_46 ?_
    refine lv_iconst (v := 1) hx hb dX0_tells_49 (by decide) ?_
    obtain ⟨r9q, af_10, ab_11, hq12, hf⟩ := b3_of hf
    refine callVI (As := [.int (af_6 3), .int 1]) (rest := [.int r5]) (wr := []) C0 (c_X0_hums_3 q af_6 ab_7 (af_6 3) 1 _ hq12) lk_X0_29_X0_hums rfl hP hD hS perm_nil 0 0 rfl rfl rfl hl.1 rfl rfl (Nat.le_of_ble_eq_true rfl) dX0_tells_50 ⟨Nat.zero_le _, Nat.zero_le _⟩ (fun r9 w H locs hw hP hD hS => ?_)
    obtain ⟨e1, e2⟩ := hw
    replace e1 : r9 = r9q := e1
    subst e1
    subst e2
    replace hP : va_P D vwCl (Aw q cA af_10 ab_11) H := hP.nil
    replace hD : va_D A (Aw q cA af_10 ab_11) := hD.nil
    refine lv_iadd hx hb dX0_tells_53 ?_
    rw [hQ]
    exact ret_i C0 hP hD hS (by have e := Option.some.inj hf; rw [← e]; exact ⟨rfl, rfl⟩) dX0_tells_54
  · replace hf := ie_of c1 hf
    by_cases c13 : a1 = 4
    · replace hf := it_of c13 hf
      refine lv_tableIn (off := 72) (tgt := 73) hx hb dX0_tells_1 (by rw [c13]; decide) (by rw [c13]; decide) (by rw [c13]; decide) (by decide) ?_
      refine lv_aload_n hx hb dX0_tells_73 rfl (lv_at hl 0 rfl) ?_
      refine lv_bipush (v := 12) hx hb dX0_tells_74 (by decide) ?_
      obtain ⟨af_14, ab_15, hq16, hf⟩ := b2_of hf
      refine callVV (As := [.int 12]) (rest := []) (wr := []) C0 (c_X0_began q af0 ab0 12 _ hq16) lk_X0_38_X0_began rfl hP hD hS perm_nil 0 0 rfl rfl rfl hl.1 rfl rfl (Nat.le_of_ble_eq_true rfl) dX0_tells_76 ⟨Nat.zero_le _, Nat.zero_le _⟩ (fun w H locs hw hP hD hS => ?_)
      have e2 := hw
      subst e2
      replace hP : va_P D vwCl (Aw q cA af_14 ab_15) H := hP.nil
      replace hD : va_D A (Aw q cA af_14 ab_15) := hD.nil
      refine lv_aload_n hx hb dX0_tells_79 rfl (lv_at hl 0 rfl) ?_
      refine lv_aload_n hx hb dX0_tells_80 rfl (lv_at hl 0 rfl) ?_
      refine va_get (D := D) (ci := 0) (v := .int (af_14 3)) (C := RX0) (T := TX0) (N := 5) hx hb hts fw_0 hown hK hP 0 rfl rfl 3 (by decide) (hts _ m_fieldLink_P_Acts_19_P_Acts_kind_I) (fun _ h9 => h9) rfl dX0_tells_81 ?_
      refine lv_iload_n hx hb dX0_tells_84 rfl (lv_at hl 2 rfl) ?_
      obtain ⟨r17q, af_18, ab_19, hq20, hf⟩ := b3_of hf
      refine callVI (As := [.int (af_14 3), .int a2]) (rest := []) (wr := []) C0 (c_X0_hums_3 q af_14 ab_15 (af_14 3) a2 _ hq20) lk_X0_29_X0_hums rfl hP hD hS perm_nil 0 0 rfl rfl rfl hl.1 rfl rfl (Nat.le_of_ble_eq_true rfl) dX0_tells_85 ⟨Nat.zero_le _, Nat.zero_le _⟩ (fun r17 w H locs hw hP hD hS => ?_)
      obtain ⟨e1, e2⟩ := hw
      replace e1 : r17 = r17q := e1
      subst e1
      subst e2
      replace hP : va_P D vwCl (Aw q cA af_18 ab_19) H := hP.nil
      replace hD : va_D A (Aw q cA af_18 ab_19) := hD.nil
      refine lv_iconst (v := 2) hx hb dX0_tells_88 (by decide) ?_
      refine lv_imul hx hb dX0_tells_89 ?_
      rw [hQ]
      exact ret_i C0 hP hD hS (by have e := Option.some.inj hf; rw [← e]; exact ⟨rfl, rfl⟩) dX0_tells_90
    · replace hf := ie_of c13 hf
      by_cases c21 : a1 = 5
      · replace hf := it_of c21 hf
        refine lv_tableIn (off := 54) (tgt := 55) hx hb dX0_tells_1 (by rw [c21]; decide) (by rw [c21]; decide) (by rw [c21]; decide) (by decide) ?_
        refine lv_aload_n hx hb dX0_tells_55 rfl (lv_at hl 0 rfl) ?_
        refine lv_bipush (v := 60) hx hb dX0_tells_56 (by decide) ?_
        obtain ⟨af_22, ab_23, hq24, hf⟩ := b2_of hf
        refine callVV (As := [.int 60]) (rest := []) (wr := []) C0 (c_X0_began q af0 ab0 60 _ hq24) lk_X0_38_X0_began rfl hP hD hS perm_nil 0 0 rfl rfl rfl hl.1 rfl rfl (Nat.le_of_ble_eq_true rfl) dX0_tells_58 ⟨Nat.zero_le _, Nat.zero_le _⟩ (fun w H locs hw hP hD hS => ?_)
        have e2 := hw
        subst e2
        replace hP : va_P D vwCl (Aw q cA af_22 ab_23) H := hP.nil
        replace hD : va_D A (Aw q cA af_22 ab_23) := hD.nil
        refine lv_aload_n hx hb dX0_tells_61 rfl (lv_at hl 0 rfl) ?_
        refine lv_iconst (v := 2) hx hb dX0_tells_62 (by decide) ?_
        refine lv_iload_n hx hb dX0_tells_63 rfl (lv_at hl 2 rfl) ?_
        refine lv_aload_n hx hb dX0_tells_64 rfl (lv_at hl 0 rfl) ?_
        refine va_get (D := D) (ci := 0) (v := .int (af_22 2)) (C := RX0) (T := TX0) (N := 5) hx hb hts fw_0 hown hK hP 0 rfl rfl 2 (by decide) (hts _ m_fieldLink_P_Acts_15_P_Acts_number_I) (fun _ h9 => h9) rfl dX0_tells_65 ?_
        refine lv_isub hx hb dX0_tells_68 ?_
        obtain ⟨r25q, af_26, ab_27, hq28, hf⟩ := b3_of hf
        refine callVI (As := [.int 2, .int (a2 - (af_22 2))]) (rest := []) (wr := []) C0 (c_X0_tells_0 q af_22 ab_23 2 (a2 - (af_22 2)) _ (by rw [← hkR]; exact hq28)) lk_X0_32_X0_tells rfl hP hD hS perm_nil 0 0 rfl rfl rfl hl.1 rfl rfl (Nat.le_of_ble_eq_true rfl) dX0_tells_69 ⟨Nat.zero_le _, Nat.zero_le _⟩ (fun r25 w H locs hw hP hD hS => ?_)
        obtain ⟨e1, e2⟩ := hw
        replace e1 : r25 = r25q := e1
        subst e1
        subst e2
        replace hP : va_P D vwCl (Aw q cA af_26 ab_27) H := hP.nil
        replace hD : va_D A (Aw q cA af_26 ab_27) := hD.nil
        rw [hQ]
        exact ret_i C0 hP hD hS (by have e := Option.some.inj hf; rw [← e]; exact ⟨rfl, rfl⟩) dX0_tells_72
      · replace hf := ie_of c21 hf
        by_cases c29 : a1 = 6
        · replace hf := it_of c29 hf
          refine lv_tableIn (off := 31) (tgt := 32) hx hb dX0_tells_1 (by rw [c29]; decide) (by rw [c29]; decide) (by rw [c29]; decide) (by decide) ?_
          refine lv_aload_n hx hb dX0_tells_32 rfl (lv_at hl 0 rfl) ?_
          refine lv_bipush (v := 40) hx hb dX0_tells_33 (by decide) ?_
          obtain ⟨af_30, ab_31, hq32, hf⟩ := b2_of hf
          refine callVV (As := [.int 40]) (rest := []) (wr := []) C0 (c_X0_began q af0 ab0 40 _ hq32) lk_X0_38_X0_began rfl hP hD hS perm_nil 0 0 rfl rfl rfl hl.1 rfl rfl (Nat.le_of_ble_eq_true rfl) dX0_tells_35 ⟨Nat.zero_le _, Nat.zero_le _⟩ (fun w H locs hw hP hD hS => ?_)
          have e2 := hw
          subst e2
          replace hP : va_P D vwCl (Aw q cA af_30 ab_31) H := hP.nil
          replace hD : va_D A (Aw q cA af_30 ab_31) := hD.nil
          refine lv_aload_n hx hb dX0_tells_38 rfl (lv_at hl 0 rfl) ?_
          refine lv_iconst (v := 0) hx hb dX0_tells_39 (by decide) ?_
          refine lv_iload_n hx hb dX0_tells_40 rfl (lv_at hl 2 rfl) ?_
          obtain ⟨r33q, af_34, ab_35, hq36, hf⟩ := b3_of hf
          refine callVI (As := [.int 0, .int a2]) (rest := []) (wr := []) C0 (c_X0_tells_0 q af_30 ab_31 0 a2 _ (by rw [← hkR]; exact hq36)) lk_X0_32_X0_tells rfl hP hD hS perm_nil 0 0 rfl rfl rfl hl.1 rfl rfl (Nat.le_of_ble_eq_true rfl) dX0_tells_41 ⟨Nat.zero_le _, Nat.zero_le _⟩ (fun r33 w H locs hw hP hD hS => ?_)
          obtain ⟨e1, e2⟩ := hw
          replace e1 : r33 = r33q := e1
          subst e1
          subst e2
          replace hP : va_P D vwCl (Aw q cA af_34 ab_35) H := hP.nil
          replace hD : va_D A (Aw q cA af_34 ab_35) := hD.nil
          refine lv_aload_n hx hb dX0_tells_44 rfl (lv_at hl 0 rfl) ?_
          refine lv_aload_n hx hb dX0_tells_45 rfl (lv_at hl 0 rfl) ?_
          refine va_get (D := D) (ci := 0) (v := .int (af_34 3)) (C := RX0) (T := TX0) (N := 5) hx hb hts fw_0 hown hK hP 0 rfl rfl 3 (by decide) (hts _ m_fieldLink_P_Acts_19_P_Acts_kind_I) (fun _ h9 => h9) rfl dX0_tells_46 ?_
          refine lv_iconst (v := 1) hx hb dX0_tells_49 (by decide) ?_
          obtain ⟨r37q, af_38, ab_39, hq40, hf⟩ := b3_of hf
          refine callVI (As := [.int (af_34 3), .int 1]) (rest := [.int r33]) (wr := []) C0 (c_X0_hums_3 q af_34 ab_35 (af_34 3) 1 _ hq40) lk_X0_29_X0_hums rfl hP hD hS perm_nil 0 0 rfl rfl rfl hl.1 rfl rfl (Nat.le_of_ble_eq_true rfl) dX0_tells_50 ⟨Nat.zero_le _, Nat.zero_le _⟩ (fun r37 w H locs hw hP hD hS => ?_)
          obtain ⟨e1, e2⟩ := hw
          replace e1 : r37 = r37q := e1
          subst e1
          subst e2
          replace hP : va_P D vwCl (Aw q cA af_38 ab_39) H := hP.nil
          replace hD : va_D A (Aw q cA af_38 ab_39) := hD.nil
          refine lv_iadd hx hb dX0_tells_53 ?_
          rw [hQ]
          exact ret_i C0 hP hD hS (by have e := Option.some.inj hf; rw [← e]; exact ⟨rfl, rfl⟩) dX0_tells_54
        · replace hf := ie_of c29 hf
          refine lv_tableOut (tgt := 73) hx hb dX0_tells_1 (by have := lv_neT c1 (a := 3) (by decide); have := lv_neT c13 (a := 4) (by decide); have := lv_neT c21 (a := 5) (by decide); have := lv_neT c29 (a := 6) (by decide); omega) (by decide) ?_
          refine lv_aload_n hx hb dX0_tells_73 rfl (lv_at hl 0 rfl) ?_
          refine lv_bipush (v := 12) hx hb dX0_tells_74 (by decide) ?_
          obtain ⟨af_41, ab_42, hq43, hf⟩ := b2_of hf
          refine callVV (As := [.int 12]) (rest := []) (wr := []) C0 (c_X0_began q af0 ab0 12 _ hq43) lk_X0_38_X0_began rfl hP hD hS perm_nil 0 0 rfl rfl rfl hl.1 rfl rfl (Nat.le_of_ble_eq_true rfl) dX0_tells_76 ⟨Nat.zero_le _, Nat.zero_le _⟩ (fun w H locs hw hP hD hS => ?_)
          have e2 := hw
          subst e2
          replace hP : va_P D vwCl (Aw q cA af_41 ab_42) H := hP.nil
          replace hD : va_D A (Aw q cA af_41 ab_42) := hD.nil
          refine lv_aload_n hx hb dX0_tells_79 rfl (lv_at hl 0 rfl) ?_
          refine lv_aload_n hx hb dX0_tells_80 rfl (lv_at hl 0 rfl) ?_
          refine va_get (D := D) (ci := 0) (v := .int (af_41 3)) (C := RX0) (T := TX0) (N := 5) hx hb hts fw_0 hown hK hP 0 rfl rfl 3 (by decide) (hts _ m_fieldLink_P_Acts_19_P_Acts_kind_I) (fun _ h9 => h9) rfl dX0_tells_81 ?_
          refine lv_iload_n hx hb dX0_tells_84 rfl (lv_at hl 2 rfl) ?_
          obtain ⟨r44q, af_45, ab_46, hq47, hf⟩ := b3_of hf
          refine callVI (As := [.int (af_41 3), .int a2]) (rest := []) (wr := []) C0 (c_X0_hums_3 q af_41 ab_42 (af_41 3) a2 _ hq47) lk_X0_29_X0_hums rfl hP hD hS perm_nil 0 0 rfl rfl rfl hl.1 rfl rfl (Nat.le_of_ble_eq_true rfl) dX0_tells_85 ⟨Nat.zero_le _, Nat.zero_le _⟩ (fun r44 w H locs hw hP hD hS => ?_)
          obtain ⟨e1, e2⟩ := hw
          replace e1 : r44 = r44q := e1
          subst e1
          subst e2
          replace hP : va_P D vwCl (Aw q cA af_45 ab_46) H := hP.nil
          replace hD : va_D A (Aw q cA af_45 ab_46) := hD.nil
          refine lv_iconst (v := 2) hx hb dX0_tells_88 (by decide) ?_
          refine lv_imul hx hb dX0_tells_89 ?_
          rw [hQ]
          exact ret_i C0 hP hD hS (by have e := Option.some.inj hf; rw [← e]; exact ⟨rfl, rfl⟩) dX0_tells_90
set_option maxHeartbeats 4000000 in
set_option maxRecDepth 100000 in
theorem c_X0_tells_2 {l : Launch} {D : va_G} {cA : Nat → ClassId} (q : Nat → Nat) (af0 : Nat → Int32) (ab0 : Nat → Int32) (a1 : Int32) (a2 : Int32) (o : Int32 × (Nat → Int32) × (Nat → Int32)) (hf : k_X0_tells 2 a1 a2 af0 ab0 = some o) : CI l D cA yX0_tells cX0_tells 3 (some .int) 7 154 [.ref (q 0), .int a1, .int a2] (Aw q cA af0 ab0) 0 0 (fun r w => r = o.1 ∧ w = (Aw q cA o.2.1 o.2.2)) := by
  intro sz
  refine met_start (by decide) rfl ?_
  intro p e s m args below meth c ls hsz hargs C0 hname hP hD hS hl
  generalize hAe : va_A (Aw q cA af0 ab0) sz = A at C0 hD hS ⊢
  obtain ⟨hx, hb, hr, hml, hown, hts, hlk, hK, hA⟩ := id C0
  replace hl : lv_has ls 3 [(0, .ref (q 0)), (1, .int a1), (2, .int a2)] := hl
  obtain ⟨Q, hQ⟩ : ∃ Q : State → Prop, Q = QI below D A (fun r w => r = o.1 ∧ w = (Aw q cA o.2.1 o.2.2)) args s 0 0 := ⟨_, rfl⟩
  refine cast (by rw [hQ]) (?_ : W p l e (RMx 7 154 0 0) s m args below meth c s.heap [] 0 0 Q (F0 m 0 ls []))
  obtain ⟨kR, hkR⟩ : ∃ z, z = k_X0_tells 1 := ⟨_, rfl⟩
  replace hf : k_X0_tells_g kR a1 a2 af0 ab0 = some o := by rw [hkR]; exact hf
  unfold k_X0_tells_g at hf
  refine lv_iload_n hx hb dX0_tells_0 rfl (lv_at hl 1 rfl) ?_
  by_cases c1 : a1 = 3
  · replace hf := it_of c1 hf
    refine lv_tableIn (off := 31) (tgt := 32) hx hb dX0_tells_1 (by rw [c1]; decide) (by rw [c1]; decide) (by rw [c1]; decide) (by decide) ?_
    refine lv_aload_n hx hb dX0_tells_32 rfl (lv_at hl 0 rfl) ?_
    refine lv_bipush (v := 40) hx hb dX0_tells_33 (by decide) ?_
    obtain ⟨af_2, ab_3, hq4, hf⟩ := b2_of hf
    refine callVV (As := [.int 40]) (rest := []) (wr := []) C0 (c_X0_began q af0 ab0 40 _ hq4) lk_X0_38_X0_began rfl hP hD hS perm_nil 0 0 rfl rfl rfl hl.1 rfl rfl (Nat.le_of_ble_eq_true rfl) dX0_tells_35 ⟨Nat.zero_le _, Nat.zero_le _⟩ (fun w H locs hw hP hD hS => ?_)
    have e2 := hw
    subst e2
    replace hP : va_P D vwCl (Aw q cA af_2 ab_3) H := hP.nil
    replace hD : va_D A (Aw q cA af_2 ab_3) := hD.nil
    refine lv_aload_n hx hb dX0_tells_38 rfl (lv_at hl 0 rfl) ?_
    refine lv_iconst (v := 0) hx hb dX0_tells_39 (by decide) ?_
    refine lv_iload_n hx hb dX0_tells_40 rfl (lv_at hl 2 rfl) ?_
    obtain ⟨r5q, af_6, ab_7, hq8, hf⟩ := b3_of hf
    refine callVI (As := [.int 0, .int a2]) (rest := []) (wr := []) C0 (c_X0_tells_1 q af_2 ab_3 0 a2 _ (by rw [← hkR]; exact hq8)) lk_X0_32_X0_tells rfl hP hD hS perm_nil 0 0 rfl rfl rfl hl.1 rfl rfl (Nat.le_of_ble_eq_true rfl) dX0_tells_41 ⟨Nat.zero_le _, Nat.zero_le _⟩ (fun r5 w H locs hw hP hD hS => ?_)
    obtain ⟨e1, e2⟩ := hw
    replace e1 : r5 = r5q := e1
    subst e1
    subst e2
    replace hP : va_P D vwCl (Aw q cA af_6 ab_7) H := hP.nil
    replace hD : va_D A (Aw q cA af_6 ab_7) := hD.nil
    refine lv_aload_n hx hb dX0_tells_44 rfl (lv_at hl 0 rfl) ?_
    refine lv_aload_n hx hb dX0_tells_45 rfl (lv_at hl 0 rfl) ?_
    refine va_get (D := D) (ci := 0) (v := .int (af_6 3)) (C := RX0) (T := TX0) (N := 5) hx hb hts fw_0 hown hK hP 0 rfl rfl 3 (by decide) (hts _ m_fieldLink_P_Acts_19_P_Acts_kind_I) (fun _ h9 => h9) rfl dX0_tells_46 ?_
    refine lv_iconst (v := 1) hx hb dX0_tells_49 (by decide) ?_
    obtain ⟨r9q, af_10, ab_11, hq12, hf⟩ := b3_of hf
    refine callVI (As := [.int (af_6 3), .int 1]) (rest := [.int r5]) (wr := []) C0 (c_X0_hums_3 q af_6 ab_7 (af_6 3) 1 _ hq12) lk_X0_29_X0_hums rfl hP hD hS perm_nil 0 0 rfl rfl rfl hl.1 rfl rfl (Nat.le_of_ble_eq_true rfl) dX0_tells_50 ⟨Nat.zero_le _, Nat.zero_le _⟩ (fun r9 w H locs hw hP hD hS => ?_)
    obtain ⟨e1, e2⟩ := hw
    replace e1 : r9 = r9q := e1
    subst e1
    subst e2
    replace hP : va_P D vwCl (Aw q cA af_10 ab_11) H := hP.nil
    replace hD : va_D A (Aw q cA af_10 ab_11) := hD.nil
    refine lv_iadd hx hb dX0_tells_53 ?_
    rw [hQ]
    exact ret_i C0 hP hD hS (by have e := Option.some.inj hf; rw [← e]; exact ⟨rfl, rfl⟩) dX0_tells_54
  · replace hf := ie_of c1 hf
    by_cases c13 : a1 = 4
    · replace hf := it_of c13 hf
      refine lv_tableIn (off := 72) (tgt := 73) hx hb dX0_tells_1 (by rw [c13]; decide) (by rw [c13]; decide) (by rw [c13]; decide) (by decide) ?_
      refine lv_aload_n hx hb dX0_tells_73 rfl (lv_at hl 0 rfl) ?_
      refine lv_bipush (v := 12) hx hb dX0_tells_74 (by decide) ?_
      obtain ⟨af_14, ab_15, hq16, hf⟩ := b2_of hf
      refine callVV (As := [.int 12]) (rest := []) (wr := []) C0 (c_X0_began q af0 ab0 12 _ hq16) lk_X0_38_X0_began rfl hP hD hS perm_nil 0 0 rfl rfl rfl hl.1 rfl rfl (Nat.le_of_ble_eq_true rfl) dX0_tells_76 ⟨Nat.zero_le _, Nat.zero_le _⟩ (fun w H locs hw hP hD hS => ?_)
      have e2 := hw
      subst e2
      replace hP : va_P D vwCl (Aw q cA af_14 ab_15) H := hP.nil
      replace hD : va_D A (Aw q cA af_14 ab_15) := hD.nil
      refine lv_aload_n hx hb dX0_tells_79 rfl (lv_at hl 0 rfl) ?_
      refine lv_aload_n hx hb dX0_tells_80 rfl (lv_at hl 0 rfl) ?_
      refine va_get (D := D) (ci := 0) (v := .int (af_14 3)) (C := RX0) (T := TX0) (N := 5) hx hb hts fw_0 hown hK hP 0 rfl rfl 3 (by decide) (hts _ m_fieldLink_P_Acts_19_P_Acts_kind_I) (fun _ h9 => h9) rfl dX0_tells_81 ?_
      refine lv_iload_n hx hb dX0_tells_84 rfl (lv_at hl 2 rfl) ?_
      obtain ⟨r17q, af_18, ab_19, hq20, hf⟩ := b3_of hf
      refine callVI (As := [.int (af_14 3), .int a2]) (rest := []) (wr := []) C0 (c_X0_hums_3 q af_14 ab_15 (af_14 3) a2 _ hq20) lk_X0_29_X0_hums rfl hP hD hS perm_nil 0 0 rfl rfl rfl hl.1 rfl rfl (Nat.le_of_ble_eq_true rfl) dX0_tells_85 ⟨Nat.zero_le _, Nat.zero_le _⟩ (fun r17 w H locs hw hP hD hS => ?_)
      obtain ⟨e1, e2⟩ := hw
      replace e1 : r17 = r17q := e1
      subst e1
      subst e2
      replace hP : va_P D vwCl (Aw q cA af_18 ab_19) H := hP.nil
      replace hD : va_D A (Aw q cA af_18 ab_19) := hD.nil
      refine lv_iconst (v := 2) hx hb dX0_tells_88 (by decide) ?_
      refine lv_imul hx hb dX0_tells_89 ?_
      rw [hQ]
      exact ret_i C0 hP hD hS (by have e := Option.some.inj hf; rw [← e]; exact ⟨rfl, rfl⟩) dX0_tells_90
    · replace hf := ie_of c13 hf
      by_cases c21 : a1 = 5
      · replace hf := it_of c21 hf
        refine lv_tableIn (off := 54) (tgt := 55) hx hb dX0_tells_1 (by rw [c21]; decide) (by rw [c21]; decide) (by rw [c21]; decide) (by decide) ?_
        refine lv_aload_n hx hb dX0_tells_55 rfl (lv_at hl 0 rfl) ?_
        refine lv_bipush (v := 60) hx hb dX0_tells_56 (by decide) ?_
        obtain ⟨af_22, ab_23, hq24, hf⟩ := b2_of hf
        refine callVV (As := [.int 60]) (rest := []) (wr := []) C0 (c_X0_began q af0 ab0 60 _ hq24) lk_X0_38_X0_began rfl hP hD hS perm_nil 0 0 rfl rfl rfl hl.1 rfl rfl (Nat.le_of_ble_eq_true rfl) dX0_tells_58 ⟨Nat.zero_le _, Nat.zero_le _⟩ (fun w H locs hw hP hD hS => ?_)
        have e2 := hw
        subst e2
        replace hP : va_P D vwCl (Aw q cA af_22 ab_23) H := hP.nil
        replace hD : va_D A (Aw q cA af_22 ab_23) := hD.nil
        refine lv_aload_n hx hb dX0_tells_61 rfl (lv_at hl 0 rfl) ?_
        refine lv_iconst (v := 2) hx hb dX0_tells_62 (by decide) ?_
        refine lv_iload_n hx hb dX0_tells_63 rfl (lv_at hl 2 rfl) ?_
        refine lv_aload_n hx hb dX0_tells_64 rfl (lv_at hl 0 rfl) ?_
        refine va_get (D := D) (ci := 0) (v := .int (af_22 2)) (C := RX0) (T := TX0) (N := 5) hx hb hts fw_0 hown hK hP 0 rfl rfl 2 (by decide) (hts _ m_fieldLink_P_Acts_15_P_Acts_number_I) (fun _ h9 => h9) rfl dX0_tells_65 ?_
        refine lv_isub hx hb dX0_tells_68 ?_
        obtain ⟨r25q, af_26, ab_27, hq28, hf⟩ := b3_of hf
        refine callVI (As := [.int 2, .int (a2 - (af_22 2))]) (rest := []) (wr := []) C0 (c_X0_tells_1 q af_22 ab_23 2 (a2 - (af_22 2)) _ (by rw [← hkR]; exact hq28)) lk_X0_32_X0_tells rfl hP hD hS perm_nil 0 0 rfl rfl rfl hl.1 rfl rfl (Nat.le_of_ble_eq_true rfl) dX0_tells_69 ⟨Nat.zero_le _, Nat.zero_le _⟩ (fun r25 w H locs hw hP hD hS => ?_)
        obtain ⟨e1, e2⟩ := hw
        replace e1 : r25 = r25q := e1
        subst e1
        subst e2
        replace hP : va_P D vwCl (Aw q cA af_26 ab_27) H := hP.nil
        replace hD : va_D A (Aw q cA af_26 ab_27) := hD.nil
        rw [hQ]
        exact ret_i C0 hP hD hS (by have e := Option.some.inj hf; rw [← e]; exact ⟨rfl, rfl⟩) dX0_tells_72
      · replace hf := ie_of c21 hf
        by_cases c29 : a1 = 6
        · replace hf := it_of c29 hf
          refine lv_tableIn (off := 31) (tgt := 32) hx hb dX0_tells_1 (by rw [c29]; decide) (by rw [c29]; decide) (by rw [c29]; decide) (by decide) ?_
          refine lv_aload_n hx hb dX0_tells_32 rfl (lv_at hl 0 rfl) ?_
          refine lv_bipush (v := 40) hx hb dX0_tells_33 (by decide) ?_
          obtain ⟨af_30, ab_31, hq32, hf⟩ := b2_of hf
          refine callVV (As := [.int 40]) (rest := []) (wr := []) C0 (c_X0_began q af0 ab0 40 _ hq32) lk_X0_38_X0_began rfl hP hD hS perm_nil 0 0 rfl rfl rfl hl.1 rfl rfl (Nat.le_of_ble_eq_true rfl) dX0_tells_35 ⟨Nat.zero_le _, Nat.zero_le _⟩ (fun w H locs hw hP hD hS => ?_)
          have e2 := hw
          subst e2
          replace hP : va_P D vwCl (Aw q cA af_30 ab_31) H := hP.nil
          replace hD : va_D A (Aw q cA af_30 ab_31) := hD.nil
          refine lv_aload_n hx hb dX0_tells_38 rfl (lv_at hl 0 rfl) ?_
          refine lv_iconst (v := 0) hx hb dX0_tells_39 (by decide) ?_
          refine lv_iload_n hx hb dX0_tells_40 rfl (lv_at hl 2 rfl) ?_
          obtain ⟨r33q, af_34, ab_35, hq36, hf⟩ := b3_of hf
          refine callVI (As := [.int 0, .int a2]) (rest := []) (wr := []) C0 (c_X0_tells_1 q af_30 ab_31 0 a2 _ (by rw [← hkR]; exact hq36)) lk_X0_32_X0_tells rfl hP hD hS perm_nil 0 0 rfl rfl rfl hl.1 rfl rfl (Nat.le_of_ble_eq_true rfl) dX0_tells_41 ⟨Nat.zero_le _, Nat.zero_le _⟩ (fun r33 w H locs hw hP hD hS => ?_)
          obtain ⟨e1, e2⟩ := hw
          replace e1 : r33 = r33q := e1
          subst e1
          subst e2
          replace hP : va_P D vwCl (Aw q cA af_34 ab_35) H := hP.nil
          replace hD : va_D A (Aw q cA af_34 ab_35) := hD.nil
          refine lv_aload_n hx hb dX0_tells_44 rfl (lv_at hl 0 rfl) ?_
          refine lv_aload_n hx hb dX0_tells_45 rfl (lv_at hl 0 rfl) ?_
          refine va_get (D := D) (ci := 0) (v := .int (af_34 3)) (C := RX0) (T := TX0) (N := 5) hx hb hts fw_0 hown hK hP 0 rfl rfl 3 (by decide) (hts _ m_fieldLink_P_Acts_19_P_Acts_kind_I) (fun _ h9 => h9) rfl dX0_tells_46 ?_
          refine lv_iconst (v := 1) hx hb dX0_tells_49 (by decide) ?_
          obtain ⟨r37q, af_38, ab_39, hq40, hf⟩ := b3_of hf
          refine callVI (As := [.int (af_34 3), .int 1]) (rest := [.int r33]) (wr := []) C0 (c_X0_hums_3 q af_34 ab_35 (af_34 3) 1 _ hq40) lk_X0_29_X0_hums rfl hP hD hS perm_nil 0 0 rfl rfl rfl hl.1 rfl rfl (Nat.le_of_ble_eq_true rfl) dX0_tells_50 ⟨Nat.zero_le _, Nat.zero_le _⟩ (fun r37 w H locs hw hP hD hS => ?_)
          obtain ⟨e1, e2⟩ := hw
          replace e1 : r37 = r37q := e1
          subst e1
          subst e2
          replace hP : va_P D vwCl (Aw q cA af_38 ab_39) H := hP.nil
          replace hD : va_D A (Aw q cA af_38 ab_39) := hD.nil
          refine lv_iadd hx hb dX0_tells_53 ?_
          rw [hQ]
          exact ret_i C0 hP hD hS (by have e := Option.some.inj hf; rw [← e]; exact ⟨rfl, rfl⟩) dX0_tells_54
        · replace hf := ie_of c29 hf
          refine lv_tableOut (tgt := 73) hx hb dX0_tells_1 (by have := lv_neT c1 (a := 3) (by decide); have := lv_neT c13 (a := 4) (by decide); have := lv_neT c21 (a := 5) (by decide); have := lv_neT c29 (a := 6) (by decide); omega) (by decide) ?_
          refine lv_aload_n hx hb dX0_tells_73 rfl (lv_at hl 0 rfl) ?_
          refine lv_bipush (v := 12) hx hb dX0_tells_74 (by decide) ?_
          obtain ⟨af_41, ab_42, hq43, hf⟩ := b2_of hf
          refine callVV (As := [.int 12]) (rest := []) (wr := []) C0 (c_X0_began q af0 ab0 12 _ hq43) lk_X0_38_X0_began rfl hP hD hS perm_nil 0 0 rfl rfl rfl hl.1 rfl rfl (Nat.le_of_ble_eq_true rfl) dX0_tells_76 ⟨Nat.zero_le _, Nat.zero_le _⟩ (fun w H locs hw hP hD hS => ?_)
          have e2 := hw
          subst e2
          replace hP : va_P D vwCl (Aw q cA af_41 ab_42) H := hP.nil
          replace hD : va_D A (Aw q cA af_41 ab_42) := hD.nil
          refine lv_aload_n hx hb dX0_tells_79 rfl (lv_at hl 0 rfl) ?_
          refine lv_aload_n hx hb dX0_tells_80 rfl (lv_at hl 0 rfl) ?_
          refine va_get (D := D) (ci := 0) (v := .int (af_41 3)) (C := RX0) (T := TX0) (N := 5) hx hb hts fw_0 hown hK hP 0 rfl rfl 3 (by decide) (hts _ m_fieldLink_P_Acts_19_P_Acts_kind_I) (fun _ h9 => h9) rfl dX0_tells_81 ?_
          refine lv_iload_n hx hb dX0_tells_84 rfl (lv_at hl 2 rfl) ?_
          obtain ⟨r44q, af_45, ab_46, hq47, hf⟩ := b3_of hf
          refine callVI (As := [.int (af_41 3), .int a2]) (rest := []) (wr := []) C0 (c_X0_hums_3 q af_41 ab_42 (af_41 3) a2 _ hq47) lk_X0_29_X0_hums rfl hP hD hS perm_nil 0 0 rfl rfl rfl hl.1 rfl rfl (Nat.le_of_ble_eq_true rfl) dX0_tells_85 ⟨Nat.zero_le _, Nat.zero_le _⟩ (fun r44 w H locs hw hP hD hS => ?_)
          obtain ⟨e1, e2⟩ := hw
          replace e1 : r44 = r44q := e1
          subst e1
          subst e2
          replace hP : va_P D vwCl (Aw q cA af_45 ab_46) H := hP.nil
          replace hD : va_D A (Aw q cA af_45 ab_46) := hD.nil
          refine lv_iconst (v := 2) hx hb dX0_tells_88 (by decide) ?_
          refine lv_imul hx hb dX0_tells_89 ?_
          rw [hQ]
          exact ret_i C0 hP hD hS (by have e := Option.some.inj hf; rw [← e]; exact ⟨rfl, rfl⟩) dX0_tells_90
noncomputable def k_X0_run (a1 : Int32) (a2 : Int32) (a3 : Int32) (a4 : Int32) (a5 : Int32) (af0 : Nat → Int32) (ab0 : Nat → Int32) : Option (Int32 × (Nat → Int32) × (Nat → Int32)) := nm (upd (upd (upd af0 2 a2) 3 a3) 4 a4) (fun af_1 => if a1 = 0 then b3 ((k_X0_rolls 2) (af_1 3) a5 af_1 ab0) (fun r4 af_5 ab_6 => some (r4, af_5, ab_6)) else if a1 = 1 then b3 ((k_X0_hums 3) (af_1 3) a5 af_1 ab0) (fun r9 af_10 ab_11 => some (r9, af_10, ab_11)) else b3 ((k_X0_tells 2) (af_1 3) a5 af_1 ab0) (fun r13 af_14 ab_15 => some (r13, af_14, ab_15)))
set_option maxHeartbeats 4000000 in
set_option maxRecDepth 100000 in
theorem c_X0_run {l : Launch} {D : va_G} {cA : Nat → ClassId} (q : Nat → Nat) (af0 : Nat → Int32) (ab0 : Nat → Int32) (a1 : Int32) (a2 : Int32) (a3 : Int32) (a4 : Int32) (a5 : Int32) (o : Int32 × (Nat → Int32) × (Nat → Int32)) (hf : k_X0_run a1 a2 a3 a4 a5 af0 ab0 = some o) : CI l D cA yX0_run cX0_run 6 (some .int) 8 176 [.ref (q 0), .int a1, .int a2, .int a3, .int a4, .int a5] (Aw q cA af0 ab0) 0 0 (fun r w => r = o.1 ∧ w = (Aw q cA o.2.1 o.2.2)) := by
  intro sz
  refine met_start (by decide) rfl ?_
  intro p e s m args below meth c ls hsz hargs C0 hname hP hD hS hl
  generalize hAe : va_A (Aw q cA af0 ab0) sz = A at C0 hD hS ⊢
  obtain ⟨hx, hb, hr, hml, hown, hts, hlk, hK, hA⟩ := id C0
  replace hl : lv_has ls 6 [(0, .ref (q 0)), (1, .int a1), (2, .int a2), (3, .int a3), (4, .int a4), (5, .int a5)] := hl
  obtain ⟨Q, hQ⟩ : ∃ Q : State → Prop, Q = QI below D A (fun r w => r = o.1 ∧ w = (Aw q cA o.2.1 o.2.2)) args s 0 0 := ⟨_, rfl⟩
  refine cast (by rw [hQ]) (?_ : W p l e (RMx 8 176 0 0) s m args below meth c s.heap [] 0 0 Q (F0 m 0 ls []))
  unfold k_X0_run at hf
  refine lv_aload_n hx hb dX0_run_0 rfl (lv_at hl 0 rfl) ?_
  refine lv_iload_n hx hb dX0_run_1 rfl (lv_at hl 2 rfl) ?_
  refine va_put (D := D) (ci := 0) (v := .int a2) (ty := .int) (C := RX0) (T := TX0) (N := 5) hx hb hts fw_0 tyX0 tyX0_ok nmX0 hown hK hP hD hS 0 rfl rfl 2 (by decide) (hts _ m_fieldLink_P_Acts_15_P_Acts_number_I) (fun _ h9 => h9) rfl (by decide +kernel) rfl rfl (Nat.le_of_ble_eq_true rfl) dX0_run_2 (fun H locs hP hD hS => ?_)
  replace hP : va_P D vwCl (Aw q cA (upd af0 2 a2) ab0) H := hP
  replace hD : va_D A (Aw q cA (upd af0 2 a2) ab0) := hD
  refine lv_aload_n hx hb dX0_run_5 rfl (lv_at hl 0 rfl) ?_
  refine lv_iload_n hx hb dX0_run_6 rfl (lv_at hl 3 rfl) ?_
  refine va_put (D := D) (ci := 0) (v := .int a3) (ty := .int) (C := RX0) (T := TX0) (N := 5) hx hb hts fw_0 tyX0 tyX0_ok nmX0 hown hK hP hD hS 0 rfl rfl 3 (by decide) (hts _ m_fieldLink_P_Acts_19_P_Acts_kind_I) (fun _ h9 => h9) rfl (by decide +kernel) rfl rfl (Nat.le_of_ble_eq_true rfl) dX0_run_7 (fun H locs hP hD hS => ?_)
  replace hP : va_P D vwCl (Aw q cA (upd (upd af0 2 a2) 3 a3) ab0) H := hP
  replace hD : va_D A (Aw q cA (upd (upd af0 2 a2) 3 a3) ab0) := hD
  refine lv_aload_n hx hb dX0_run_10 rfl (lv_at hl 0 rfl) ?_
  refine lv_iload hx hb dX0_run_11 (lv_at hl 4 rfl) ?_
  refine va_put (D := D) (ci := 0) (v := .int a4) (ty := .int) (C := RX0) (T := TX0) (N := 5) hx hb hts fw_0 tyX0 tyX0_ok nmX0 hown hK hP hD hS 0 rfl rfl 4 (by decide) (hts _ m_fieldLink_P_Acts_22_P_Acts_v_I) (fun _ h9 => h9) rfl (by decide +kernel) rfl rfl (Nat.le_of_ble_eq_true rfl) dX0_run_13 (fun H locs hP hD hS => ?_)
  replace hP : va_P D vwCl (Aw q cA (upd (upd (upd af0 2 a2) 3 a3) 4 a4) ab0) H := hP
  replace hD : va_D A (Aw q cA (upd (upd (upd af0 2 a2) 3 a3) 4 a4) ab0) := hD
  obtain ⟨af_1, hv2, hf⟩ := nm_of hf
  replace hP : va_P D vwCl (Aw q cA af_1 ab0) H := by rw [hv2]; exact hP
  replace hD : va_D A (Aw q cA af_1 ab0) := by rw [hv2]; exact hD
  refine lv_iload_n hx hb dX0_run_16 rfl (lv_at hl 1 rfl) ?_
  by_cases c3 : a1 = 0
  · replace hf := it_of c3 hf
    refine lv_lookup (off := 27) (tgt := 44) hx hb dX0_run_17 (by decide) (by rw [c3]; decide) (by decide) ?_
    refine lv_aload_n hx hb dX0_run_44 rfl (lv_at hl 0 rfl) ?_
    refine lv_aload_n hx hb dX0_run_45 rfl (lv_at hl 0 rfl) ?_
    refine va_get (D := D) (ci := 0) (v := .int (af_1 3)) (C := RX0) (T := TX0) (N := 5) hx hb hts fw_0 hown hK hP 0 rfl rfl 3 (by decide) (hts _ m_fieldLink_P_Acts_19_P_Acts_kind_I) (fun _ h9 => h9) rfl dX0_run_46 ?_
    refine lv_iload hx hb dX0_run_49 (lv_at hl 5 rfl) ?_
    obtain ⟨r4q, af_5, ab_6, hq7, hf⟩ := b3_of hf
    refine callVI (As := [.int (af_1 3), .int a5]) (rest := []) (wr := []) C0 (c_X0_rolls_2 q af_1 ab0 (af_1 3) a5 _ hq7) lk_X0_25_X0_rolls rfl hP hD hS perm_nil 0 0 rfl rfl rfl hl.1 rfl rfl (Nat.le_of_ble_eq_true rfl) dX0_run_51 ⟨Nat.zero_le _, Nat.zero_le _⟩ (fun r4 w H locs hw hP hD hS => ?_)
    obtain ⟨e1, e2⟩ := hw
    replace e1 : r4 = r4q := e1
    subst e1
    subst e2
    replace hP : va_P D vwCl (Aw q cA af_5 ab_6) H := hP.nil
    replace hD : va_D A (Aw q cA af_5 ab_6) := hD.nil
    rw [hQ]
    exact ret_i C0 hP hD hS (by have e := Option.some.inj hf; rw [← e]; exact ⟨rfl, rfl⟩) dX0_run_54
  · replace hf := ie_of c3 hf
    by_cases c8 : a1 = 1
    · replace hf := it_of c8 hf
      refine lv_lookup (off := 38) (tgt := 55) hx hb dX0_run_17 (by decide) (by rw [c8]; decide) (by decide) ?_
      refine lv_aload_n hx hb dX0_run_55 rfl (lv_at hl 0 rfl) ?_
      refine lv_aload_n hx hb dX0_run_56 rfl (lv_at hl 0 rfl) ?_
      refine va_get (D := D) (ci := 0) (v := .int (af_1 3)) (C := RX0) (T := TX0) (N := 5) hx hb hts fw_0 hown hK hP 0 rfl rfl 3 (by decide) (hts _ m_fieldLink_P_Acts_19_P_Acts_kind_I) (fun _ h9 => h9) rfl dX0_run_57 ?_
      refine lv_iload hx hb dX0_run_60 (lv_at hl 5 rfl) ?_
      obtain ⟨r9q, af_10, ab_11, hq12, hf⟩ := b3_of hf
      refine callVI (As := [.int (af_1 3), .int a5]) (rest := []) (wr := []) C0 (c_X0_hums_3 q af_1 ab0 (af_1 3) a5 _ hq12) lk_X0_29_X0_hums rfl hP hD hS perm_nil 0 0 rfl rfl rfl hl.1 rfl rfl (Nat.le_of_ble_eq_true rfl) dX0_run_62 ⟨Nat.zero_le _, Nat.zero_le _⟩ (fun r9 w H locs hw hP hD hS => ?_)
      obtain ⟨e1, e2⟩ := hw
      replace e1 : r9 = r9q := e1
      subst e1
      subst e2
      replace hP : va_P D vwCl (Aw q cA af_10 ab_11) H := hP.nil
      replace hD : va_D A (Aw q cA af_10 ab_11) := hD.nil
      rw [hQ]
      exact ret_i C0 hP hD hS (by have e := Option.some.inj hf; rw [← e]; exact ⟨rfl, rfl⟩) dX0_run_65
    · replace hf := ie_of c8 hf
      refine lv_lookup (off := 49) (tgt := 66) hx hb dX0_run_17 (by decide) (by rw [lv_osw c3 (by decide), lv_osw c8 (by decide)]; rfl) (by decide) ?_
      refine lv_aload_n hx hb dX0_run_66 rfl (lv_at hl 0 rfl) ?_
      refine lv_aload_n hx hb dX0_run_67 rfl (lv_at hl 0 rfl) ?_
      refine va_get (D := D) (ci := 0) (v := .int (af_1 3)) (C := RX0) (T := TX0) (N := 5) hx hb hts fw_0 hown hK hP 0 rfl rfl 3 (by decide) (hts _ m_fieldLink_P_Acts_19_P_Acts_kind_I) (fun _ h9 => h9) rfl dX0_run_68 ?_
      refine lv_iload hx hb dX0_run_71 (lv_at hl 5 rfl) ?_
      obtain ⟨r13q, af_14, ab_15, hq16, hf⟩ := b3_of hf
      refine callVI (As := [.int (af_1 3), .int a5]) (rest := []) (wr := []) C0 (c_X0_tells_2 q af_1 ab0 (af_1 3) a5 _ hq16) lk_X0_32_X0_tells rfl hP hD hS perm_nil 0 0 rfl rfl rfl hl.1 rfl rfl (Nat.le_of_ble_eq_true rfl) dX0_run_73 ⟨Nat.zero_le _, Nat.zero_le _⟩ (fun r13 w H locs hw hP hD hS => ?_)
      obtain ⟨e1, e2⟩ := hw
      replace e1 : r13 = r13q := e1
      subst e1
      subst e2
      replace hP : va_P D vwCl (Aw q cA af_14 ab_15) H := hP.nil
      replace hD : va_D A (Aw q cA af_14 ab_15) := hD.nil
      rw [hQ]
      exact ret_i C0 hP hD hS (by have e := Option.some.inj hf; rw [← e]; exact ⟨rfl, rfl⟩) dX0_run_76
noncomputable def k_X6_act (a1 : Int32) (a2 : Int32) (a3 : Int32) (nf : Nat → Int32) (ng : Nat → Nat → Int32) (af0 : Nat → Int32) (ab0 : Nat → Int32) : Option (Int32 × (Nat → Int32) × (Nat → Int32)) := b1 (k_X1_has a1 nf) (fun r1 => if r1 = 0 then some (0, (upd af0 0 0), ab0) else b1 (k_X6_isWithin a2 2) (fun r5 => if r5 = 0 then some (0, (upd af0 0 0), ab0) else gd a1 6 (gd a1 6 (b3 (k_X0_run a2 a1 ((ng 7) (Int32.toNatClampNeg a1)) ((ng 8) (Int32.toNatClampNeg a1)) a3 (upd af0 0 0) ab0) (fun r11 af_12 ab_13 => some (r11, af_12, ab_13))))))
set_option maxHeartbeats 4000000 in
set_option maxRecDepth 100000 in
theorem c_X6_act {l : Launch} {D : va_G} {cA : Nat → ClassId} (oo : Nat) (qn : Nat → Nat) (qk : Nat → Nat) (qt : Nat → Nat) (qx : Nat → Nat) (qa : Nat → Nat) (ts : Nat) (wa : Nat) (qc : Nat → Nat → Nat) (pf : Nat → Int32) (sp : Option Nat) (nf : Nat → Int32) (ng : Nat → Nat → Int32) (nc : Option Nat) (af0 : Nat → Int32) (ab0 : Nat → Int32) (a1 : Int32) (a2 : Int32) (a3 : Int32) (o : Int32 × (Nat → Int32) × (Nat → Int32)) (hf : k_X6_act a1 a2 a3 nf ng af0 ab0 = some o) : CI l D cA yX6_act cX6_act 4 (some .int) 9 201 [.ref oo, .int a1, .int a2, .int a3] (List.flatten [(Po oo qn qk qt qx qa ts wa pf (chv qc sp)), (Cw qn cA (chv qc nc) nf ng), (Aw qa cA af0 ab0)]) 0 0 (fun r w => r = o.1 ∧ w = (List.flatten [(Po oo qn qk qt qx qa ts wa pf (chv qc sp)), (Cw qn cA (chv qc nc) nf ng), (Aw qa cA o.2.1 o.2.2)])) := by
  intro sz
  refine met_start (by decide) rfl ?_
  intro p e s m args below meth c ls hsz hargs C0 hname hP hD hS hl
  generalize hAe : va_A (List.flatten [(Po oo qn qk qt qx qa ts wa pf (chv qc sp)), (Cw qn cA (chv qc nc) nf ng), (Aw qa cA af0 ab0)]) sz = A at C0 hD hS ⊢
  obtain ⟨hx, hb, hr, hml, hown, hts, hlk, hK, hA⟩ := id C0
  replace hl : lv_has ls 4 [(0, .ref oo), (1, .int a1), (2, .int a2), (3, .int a3)] := hl
  obtain ⟨Q, hQ⟩ : ∃ Q : State → Prop, Q = QI below D A (fun r w => r = o.1 ∧ w = (List.flatten [(Po oo qn qk qt qx qa ts wa pf (chv qc sp)), (Cw qn cA (chv qc nc) nf ng), (Aw qa cA o.2.1 o.2.2)])) args s 0 0 := ⟨_, rfl⟩
  refine cast (by rw [hQ]) (?_ : W p l e (RMx 9 201 0 0) s m args below meth c s.heap [] 0 0 Q (F0 m 0 ls []))
  unfold k_X6_act at hf
  refine lv_aload_n hx hb dX6_act_0 rfl (lv_at hl 0 rfl) ?_
  refine va_get (D := D) (ci := 6) (v := .ref (qa 0)) (C := RX6) (T := TX6) (N := 10) hx hb hts fw_6 hown hK hP 0 rfl rfl 4 (by decide) (hts _ m_fieldLink_P_34_P_acts_LP_Acts) (fun _ h9 => h9) rfl dX6_act_1 ?_
  refine lv_iconst (v := 0) hx hb dX6_act_4 (by decide) ?_
  refine va_put (D := D) (ci := 0) (v := .int 0) (ty := .int) (C := RX0) (T := TX0) (N := 5) hx hb hts fw_0 tyX0 tyX0_ok nmX0 hown hK hP hD hS 7 rfl rfl 0 (by decide) (hts _ m_fieldLink_P_235_P_Acts_ran_I) (fun _ h9 => h9) rfl (by decide +kernel) rfl rfl (Nat.le_of_ble_eq_true rfl) dX6_act_5 (fun H locs hP hD hS => ?_)
  replace hP : va_P D vwCl (List.flatten [(Po oo qn qk qt qx qa ts wa pf (chv qc sp)), (Cw qn cA (chv qc nc) nf ng), (Aw qa cA (upd af0 0 0) ab0)]) H := hP
  replace hD : va_D A (List.flatten [(Po oo qn qk qt qx qa ts wa pf (chv qc sp)), (Cw qn cA (chv qc nc) nf ng), (Aw qa cA (upd af0 0 0) ab0)]) := hD
  refine lv_aload_n hx hb dX6_act_8 rfl (lv_at hl 0 rfl) ?_
  refine va_get (D := D) (ci := 6) (v := .ref (qn 0)) (C := RX6) (T := TX6) (N := 10) hx hb hts fw_6 hown hK hP 0 rfl rfl 0 (by decide) (hts _ m_fieldLink_P_12_P_now_LP_Cellar) (fun _ h9 => h9) rfl dX6_act_9 ?_
  refine lv_iload_n hx hb dX6_act_12 rfl (lv_at hl 1 rfl) ?_
  obtain ⟨r1q, hq2, hf⟩ := b1_of hf
  refine callVI (As := [.int a1]) (rest := []) (wr := segpick [(Po oo qn qk qt qx qa ts wa pf (chv qc sp)), (Cw qn cA (chv qc nc) nf ng), (Aw qa cA (upd af0 0 0) ab0)] [0, 2]) C0 (c_X1_has qn qc nf ng nc a1 _ hq2) lk_X6_61_X1_has rfl hP hD hS (seg_out [(Po oo qn qk qt qx qa ts wa pf (chv qc sp)), (Cw qn cA (chv qc nc) nf ng), (Aw qa cA (upd af0 0 0) ab0)] [1] [0, 2] 3 rfl (by decide)) 1 1 rfl rfl rfl hl.1 rfl rfl (Nat.le_of_ble_eq_true rfl) dX6_act_13 ⟨Nat.zero_le _, Nat.zero_le _⟩ (fun r1 w H locs hw hP hD hS => ?_)
  obtain ⟨⟨e1, e2⟩, z3⟩ := hw
  replace e1 : r1 = r1q := e1
  subst e1
  subst e2
  replace hP : va_P D vwCl (List.flatten [(Po oo qn qk qt qx qa ts wa pf (chv qc sp)), (Cw qn cA (chv qc nc) nf ng), (Aw qa cA (upd af0 0 0) ab0)]) H := hP.perm (seg_out [(Po oo qn qk qt qx qa ts wa pf (chv qc sp)), (Cw qn cA (chv qc nc) nf ng), (Aw qa cA (upd af0 0 0) ab0)] [1] [0, 2] 3 rfl (by decide)).symm
  replace hD : va_D A (List.flatten [(Po oo qn qk qt qx qa ts wa pf (chv qc sp)), (Cw qn cA (chv qc nc) nf ng), (Aw qa cA (upd af0 0 0) ab0)]) := hD.perm (seg_out [(Po oo qn qk qt qx qa ts wa pf (chv qc sp)), (Cw qn cA (chv qc nc) nf ng), (Aw qa cA (upd af0 0 0) ab0)] [1] [0, 2] 3 rfl (by decide)).symm
  refine lv_if_eq (tgt := 27) hx hb dX6_act_16 (by decide) (fun c4 => ?_) (fun c4 => ?_)
  · replace hf := it_of c4 hf
    refine lv_iconst (v := 0) hx hb dX6_act_27 (by decide) ?_
    rw [hQ]
    exact ret_i C0 hP hD hS (by have e := Option.some.inj hf; rw [← e]; exact ⟨rfl, rfl⟩) dX6_act_28
  · replace hf := ie_of c4 hf
    refine lv_iload_n hx hb dX6_act_19 rfl (lv_at hl 2 rfl) ?_
    refine lv_iconst (v := 2) hx hb dX6_act_20 (by decide) ?_
    obtain ⟨r5q, hq6, hf⟩ := b1_of hf
    refine callSI (As := [.int a2, .int 2]) (rest := []) (wr := (List.flatten [(Po oo qn qk qt qx qa ts wa pf (chv qc sp)), (Cw qn cA (chv qc nc) nf ng), (Aw qa cA (upd af0 0 0) ab0)])) C0 (c_X6_isWithin a2 2 _ hq6) lk_X6_49_X6_isWithin rfl hP hD hS (List.Perm.refl _) hl.1 rfl rfl (Nat.le_of_ble_eq_true rfl) dX6_act_21 ⟨Nat.zero_le _, Nat.zero_le _⟩ (fun r5 w H locs hw hP hD hS => ?_)
    obtain ⟨⟨e1, e2⟩, z7⟩ := hw
    replace e1 : r5 = r5q := e1
    subst e1
    subst e2
    replace hP : va_P D vwCl (List.flatten [(Po oo qn qk qt qx qa ts wa pf (chv qc sp)), (Cw qn cA (chv qc nc) nf ng), (Aw qa cA (upd af0 0 0) ab0)]) H := hP
    replace hD : va_D A (List.flatten [(Po oo qn qk qt qx qa ts wa pf (chv qc sp)), (Cw qn cA (chv qc nc) nf ng), (Aw qa cA (upd af0 0 0) ab0)]) := hD
    refine lv_if_ne (tgt := 29) hx hb dX6_act_24 (by decide) (fun c8 => ?_) (fun c8 => ?_)
    · replace hf := ie_of c8 hf
      refine lv_aload_n hx hb dX6_act_29 rfl (lv_at hl 0 rfl) ?_
      refine va_get (D := D) (ci := 6) (v := .ref (qa 0)) (C := RX6) (T := TX6) (N := 10) hx hb hts fw_6 hown hK hP 0 rfl rfl 4 (by decide) (hts _ m_fieldLink_P_34_P_acts_LP_Acts) (fun _ h9 => h9) rfl dX6_act_30 ?_
      refine lv_iload_n hx hb dX6_act_33 rfl (lv_at hl 2 rfl) ?_
      refine lv_iload_n hx hb dX6_act_34 rfl (lv_at hl 1 rfl) ?_
      refine lv_aload_n hx hb dX6_act_35 rfl (lv_at hl 0 rfl) ?_
      refine va_get (D := D) (ci := 6) (v := .ref (qn 0)) (C := RX6) (T := TX6) (N := 10) hx hb hts fw_6 hown hK hP 0 rfl rfl 0 (by decide) (hts _ m_fieldLink_P_12_P_now_LP_Cellar) (fun _ h9 => h9) rfl dX6_act_36 ?_
      refine va_get (D := D) (ci := 1) (v := .ref (qn 7)) (C := RX1) (T := TX1) (N := 16) hx hb hts fw_1 hown hK hP 1 rfl rfl 7 (by decide) (hts _ m_fieldLink_P_65_P_Cellar_kind_aI) (fun _ h9 => h9) rfl dX6_act_39 ?_
      refine lv_iload_n hx hb dX6_act_42 rfl (lv_at hl 1 rfl) ?_
      obtain ⟨hi9, hf⟩ := gd_of hf
      refine va_iald hx hb hK hP 2 0 rfl rfl hi9 dX6_act_43 ?_
      refine lv_aload_n hx hb dX6_act_44 rfl (lv_at hl 0 rfl) ?_
      refine va_get (D := D) (ci := 6) (v := .ref (qn 0)) (C := RX6) (T := TX6) (N := 10) hx hb hts fw_6 hown hK hP 0 rfl rfl 0 (by decide) (hts _ m_fieldLink_P_12_P_now_LP_Cellar) (fun _ h9 => h9) rfl dX6_act_45 ?_
      refine va_get (D := D) (ci := 1) (v := .ref (qn 8)) (C := RX1) (T := TX1) (N := 16) hx hb hts fw_1 hown hK hP 1 rfl rfl 8 (by decide) (hts _ m_fieldLink_P_68_P_Cellar_v_aI) (fun _ h9 => h9) rfl dX6_act_48 ?_
      refine lv_iload_n hx hb dX6_act_51 rfl (lv_at hl 1 rfl) ?_
      obtain ⟨hi10, hf⟩ := gd_of hf
      refine va_iald hx hb hK hP 3 0 rfl rfl hi10 dX6_act_52 ?_
      refine lv_iload_n hx hb dX6_act_53 rfl (lv_at hl 3 rfl) ?_
      obtain ⟨r11q, af_12, ab_13, hq14, hf⟩ := b3_of hf
      refine callVI (As := [.int a2, .int a1, .int ((ng 7) (Int32.toNatClampNeg a1)), .int ((ng 8) (Int32.toNatClampNeg a1)), .int a3]) (rest := []) (wr := segpick [(Po oo qn qk qt qx qa ts wa pf (chv qc sp)), (Cw qn cA (chv qc nc) nf ng), (Aw qa cA (upd af0 0 0) ab0)] [0, 1]) C0 (c_X0_run qa (upd af0 0 0) ab0 a2 a1 ((ng 7) (Int32.toNatClampNeg a1)) ((ng 8) (Int32.toNatClampNeg a1)) a3 _ hq14) lk_X6_238_X0_run rfl hP hD hS (seg_out [(Po oo qn qk qt qx qa ts wa pf (chv qc sp)), (Cw qn cA (chv qc nc) nf ng), (Aw qa cA (upd af0 0 0) ab0)] [2] [0, 1] 3 rfl (by decide)) 7 0 rfl rfl rfl hl.1 rfl rfl (Nat.le_of_ble_eq_true rfl) dX6_act_54 ⟨Nat.zero_le _, Nat.zero_le _⟩ (fun r11 w H locs hw hP hD hS => ?_)
      obtain ⟨e1, e2⟩ := hw
      replace e1 : r11 = r11q := e1
      subst e1
      subst e2
      replace hP : va_P D vwCl (List.flatten [(Po oo qn qk qt qx qa ts wa pf (chv qc sp)), (Cw qn cA (chv qc nc) nf ng), (Aw qa cA af_12 ab_13)]) H := hP.perm (seg_out [(Po oo qn qk qt qx qa ts wa pf (chv qc sp)), (Cw qn cA (chv qc nc) nf ng), (Aw qa cA af_12 ab_13)] [2] [0, 1] 3 rfl (by decide)).symm
      replace hD : va_D A (List.flatten [(Po oo qn qk qt qx qa ts wa pf (chv qc sp)), (Cw qn cA (chv qc nc) nf ng), (Aw qa cA af_12 ab_13)]) := hD.perm (seg_out [(Po oo qn qk qt qx qa ts wa pf (chv qc sp)), (Cw qn cA (chv qc nc) nf ng), (Aw qa cA af_12 ab_13)] [2] [0, 1] 3 rfl (by decide)).symm
      rw [hQ]
      exact ret_i C0 hP hD hS (by have e := Option.some.inj hf; rw [← e]; exact ⟨rfl, rfl⟩) dX6_act_57
    · replace hf := it_of c8 hf
      refine lv_iconst (v := 0) hx hb dX6_act_27 (by decide) ?_
      rw [hQ]
      exact ret_i C0 hP hD hS (by have e := Option.some.inj hf; rw [← e]; exact ⟨rfl, rfl⟩) dX6_act_28

-- body
noncomputable def k_X7_body (a1 : Int32) (fi0 : Nat → Int32) (ga0 : Nat → Nat → Int32) : Option ((Nat → Int32) × (Nat → Nat → Int32)) := if 20 ≤ (fi0 67) then some ((upd fi0 67 ((fi0 67) + 1)), ga0) else gd (fi0 67) 20 (some ((upd fi0 67 ((fi0 67) + 1)), (va_up ga0 68 (upd (ga0 68) (Int32.toNatClampNeg (fi0 67)) a1))))
set_option maxHeartbeats 4000000 in
set_option maxRecDepth 100000 in
theorem c_X7_body {l : Launch} {D : va_G} {cA : Nat → ClassId} (h : Nat) (q : Nat → Nat) (fi0 : Nat → Int32) (fs : Nat → Int32) (ga0 : Nat → Nat → Int32) (gs : Nat → Nat → Int32) (pl : Nat → Int32) (it : Nat → Int64) (asd : Nat → Int64) (a1 : Int32) (o : (Nat → Int32) × (Nat → Nat → Int32)) (hf : k_X7_body a1 fi0 ga0 = some o) : CV l D cA yX7_body cX7_body 2 none 0 0 [.ref h, .int a1] (Mw h q cA fi0 fs ga0 gs pl it asd) 0 0 (fun w => w = (Mw h q cA o.1 fs o.2 gs pl it asd)) := by
  intro sz
  refine met_start (by decide) rfl ?_
  intro p e s m args below meth c ls hsz hargs C0 hname hP hD hS hl
  generalize hAe : va_A (Mw h q cA fi0 fs ga0 gs pl it asd) sz = A at C0 hD hS ⊢
  obtain ⟨hx, hb, hr, hml, hown, hts, hlk, hK, hA⟩ := id C0
  replace hl : lv_has ls 2 [(0, .ref h), (1, .int a1)] := hl
  obtain ⟨Q, hQ⟩ : ∃ Q : State → Prop, Q = QV below D A (fun w => w = (Mw h q cA o.1 fs o.2 gs pl it asd)) args s 0 0 := ⟨_, rfl⟩
  refine cast (by rw [hQ]) (?_ : W p l e (RMx 0 0 0 0) s m args below meth c s.heap [] 0 0 Q (F0 m 0 ls []))
  unfold k_X7_body at hf
  refine lv_aload_n hx hb dX7_body_0 rfl (lv_at hl 0 rfl) ?_
  refine va_get (D := D) (ci := 7) (v := .int (fi0 67)) (C := RX7) (T := TX7) (N := 73) hx hb hts fw_7 hown hK hP 0 rfl rfl 67 (by decide) (hts _ m_fieldLink_M_214_M_ran_I) (fun _ h9 => h9) rfl dX7_body_1 ?_
  refine lv_bipush (v := 20) hx hb dX7_body_4 (by decide) ?_
  refine lv_icmp_ge (tgt := 19) hx hb dX7_body_6 (by decide) (fun c1 => ?_) (fun c1 => ?_)
  · replace hf := it_of c1 hf
    refine lv_aload_n hx hb dX7_body_19 rfl (lv_at hl 0 rfl) ?_
    refine lv_dup hx hb dX7_body_20 rfl ?_
    refine va_get (D := D) (ci := 7) (v := .int (fi0 67)) (C := RX7) (T := TX7) (N := 73) hx hb hts fw_7 hown hK hP 0 rfl rfl 67 (by decide) (hts _ m_fieldLink_M_214_M_ran_I) (fun _ h9 => h9) rfl dX7_body_21 ?_
    refine lv_iconst (v := 1) hx hb dX7_body_24 (by decide) ?_
    refine lv_iadd hx hb dX7_body_25 ?_
    refine va_put (D := D) (ci := 7) (v := .int ((fi0 67) + 1)) (ty := .int) (C := RX7) (T := TX7) (N := 73) hx hb hts fw_7 tyX7 tyX7_ok nmX7 hown hK hP hD hS 0 rfl rfl 67 (by decide) (hts _ m_fieldLink_M_214_M_ran_I) (fun _ h9 => h9) rfl (by decide +kernel) rfl rfl (Nat.le_of_ble_eq_true rfl) dX7_body_26 (fun H locs hP hD hS => ?_)
    replace hP : va_P D vwCl (Mw h q cA (upd fi0 67 ((fi0 67) + 1)) fs ga0 gs pl it asd) H := hP
    replace hD : va_D A (Mw h q cA (upd fi0 67 ((fi0 67) + 1)) fs ga0 gs pl it asd) := hD
    rw [hQ]
    exact ret_v C0 hP hD hS (by have e := Option.some.inj hf; first | (rw [← e]; done) | (rw [← e]; exact rfl)) dX7_body_29
  · replace hf := ie_of c1 hf
    refine lv_aload_n hx hb dX7_body_9 rfl (lv_at hl 0 rfl) ?_
    refine va_get (D := D) (ci := 7) (v := .ref (q 68)) (C := RX7) (T := TX7) (N := 73) hx hb hts fw_7 hown hK hP 0 rfl rfl 68 (by decide) (hts _ m_fieldLink_M_217_M_bodies_aI) (fun _ h9 => h9) rfl dX7_body_10 ?_
    refine lv_aload_n hx hb dX7_body_13 rfl (lv_at hl 0 rfl) ?_
    refine va_get (D := D) (ci := 7) (v := .int (fi0 67)) (C := RX7) (T := TX7) (N := 73) hx hb hts fw_7 hown hK hP 0 rfl rfl 67 (by decide) (hts _ m_fieldLink_M_214_M_ran_I) (fun _ h9 => h9) rfl dX7_body_14 ?_
    refine lv_iload_n hx hb dX7_body_17 rfl (lv_at hl 1 rfl) ?_
    obtain ⟨hi2, hf⟩ := gd_of hf
    refine va_iast hx hb hK hP hD hS 34 0 rfl rfl hi2 dX7_body_18 (fun H locs hP hD hS => ?_)
    replace hP : va_P D vwCl (Mw h q cA fi0 fs (va_up ga0 68 (upd (ga0 68) (Int32.toNatClampNeg (fi0 67)) a1)) gs pl it asd) H := hP
    replace hD : va_D A (Mw h q cA fi0 fs (va_up ga0 68 (upd (ga0 68) (Int32.toNatClampNeg (fi0 67)) a1)) gs pl it asd) := hD
    refine lv_aload_n hx hb dX7_body_19 rfl (lv_at hl 0 rfl) ?_
    refine lv_dup hx hb dX7_body_20 rfl ?_
    refine va_get (D := D) (ci := 7) (v := .int (fi0 67)) (C := RX7) (T := TX7) (N := 73) hx hb hts fw_7 hown hK hP 0 rfl rfl 67 (by decide) (hts _ m_fieldLink_M_214_M_ran_I) (fun _ h9 => h9) rfl dX7_body_21 ?_
    refine lv_iconst (v := 1) hx hb dX7_body_24 (by decide) ?_
    refine lv_iadd hx hb dX7_body_25 ?_
    refine va_put (D := D) (ci := 7) (v := .int ((fi0 67) + 1)) (ty := .int) (C := RX7) (T := TX7) (N := 73) hx hb hts fw_7 tyX7 tyX7_ok nmX7 hown hK hP hD hS 0 rfl rfl 67 (by decide) (hts _ m_fieldLink_M_214_M_ran_I) (fun _ h9 => h9) rfl (by decide +kernel) rfl rfl (Nat.le_of_ble_eq_true rfl) dX7_body_26 (fun H locs hP hD hS => ?_)
    replace hP : va_P D vwCl (Mw h q cA (upd fi0 67 ((fi0 67) + 1)) fs (va_up ga0 68 (upd (ga0 68) (Int32.toNatClampNeg (fi0 67)) a1)) gs pl it asd) H := hP
    replace hD : va_D A (Mw h q cA (upd fi0 67 ((fi0 67) + 1)) fs (va_up ga0 68 (upd (ga0 68) (Int32.toNatClampNeg (fi0 67)) a1)) gs pl it asd) := hD
    rw [hQ]
    exact ret_v C0 hP hD hS (by have e := Option.some.inj hf; first | (rw [← e]; done) | (rw [← e]; exact rfl)) dX7_body_29
-- manRolls
noncomputable def k_X7_manRolls (a1 : Int32) (a2 : Int32) (fi0 : Nat → Int32) (ga0 : Nat → Nat → Int32) : Option (Int32 × (Nat → Int32) × (Nat → Nat → Int32)) := b2 (k_X7_body 10 fi0 ga0) (fun fi_1 ga_2 => some ((a2 + a1), fi_1, ga_2))
set_option maxHeartbeats 4000000 in
set_option maxRecDepth 100000 in
theorem c_X7_manRolls {l : Launch} {D : va_G} {cA : Nat → ClassId} (h : Nat) (q : Nat → Nat) (fi0 : Nat → Int32) (fs : Nat → Int32) (ga0 : Nat → Nat → Int32) (gs : Nat → Nat → Int32) (pl : Nat → Int32) (it : Nat → Int64) (asd : Nat → Int64) (a1 : Int32) (a2 : Int32) (o : Int32 × (Nat → Int32) × (Nat → Nat → Int32)) (hf : k_X7_manRolls a1 a2 fi0 ga0 = some o) : CI l D cA yX7_manRolls cX7_manRolls 3 (some .int) 1 21 [.ref h, .int a1, .int a2] (Mw h q cA fi0 fs ga0 gs pl it asd) 0 0 (fun r w => r = o.1 ∧ w = (Mw h q cA o.2.1 fs o.2.2 gs pl it asd)) := by
  intro sz
  refine met_start (by decide) rfl ?_
  intro p e s m args below meth c ls hsz hargs C0 hname hP hD hS hl
  generalize hAe : va_A (Mw h q cA fi0 fs ga0 gs pl it asd) sz = A at C0 hD hS ⊢
  obtain ⟨hx, hb, hr, hml, hown, hts, hlk, hK, hA⟩ := id C0
  replace hl : lv_has ls 3 [(0, .ref h), (1, .int a1), (2, .int a2)] := hl
  obtain ⟨Q, hQ⟩ : ∃ Q : State → Prop, Q = QI below D A (fun r w => r = o.1 ∧ w = (Mw h q cA o.2.1 fs o.2.2 gs pl it asd)) args s 0 0 := ⟨_, rfl⟩
  refine cast (by rw [hQ]) (?_ : W p l e (RMx 1 21 0 0) s m args below meth c s.heap [] 0 0 Q (F0 m 0 ls []))
  unfold k_X7_manRolls at hf
  refine lv_aload_n hx hb dX7_manRolls_0 rfl (lv_at hl 0 rfl) ?_
  refine lv_bipush (v := 10) hx hb dX7_manRolls_1 (by decide) ?_
  obtain ⟨fi_1, ga_2, hq3, hf⟩ := b2_of hf
  refine callVV (As := [.int 10]) (rest := []) (wr := []) C0 (c_X7_body h q fi0 fs ga0 gs pl it asd 10 _ hq3) lk_X7_395_X7_body rfl hP hD hS perm_nil 0 7 rfl rfl rfl hl.1 rfl rfl (Nat.le_of_ble_eq_true rfl) dX7_manRolls_3 ⟨Nat.zero_le _, Nat.zero_le _⟩ (fun w H locs hw hP hD hS => ?_)
  have e2 := hw
  subst e2
  replace hP : va_P D vwCl (Mw h q cA fi_1 fs ga_2 gs pl it asd) H := hP.nil
  replace hD : va_D A (Mw h q cA fi_1 fs ga_2 gs pl it asd) := hD.nil
  refine lv_iload_n hx hb dX7_manRolls_6 rfl (lv_at hl 2 rfl) ?_
  refine lv_iload_n hx hb dX7_manRolls_7 rfl (lv_at hl 1 rfl) ?_
  refine lv_iadd hx hb dX7_manRolls_8 ?_
  rw [hQ]
  exact ret_i C0 hP hD hS (by have e := Option.some.inj hf; rw [← e]; exact ⟨rfl, rfl⟩) dX7_manRolls_9
-- rollsAct
noncomputable def k_X7_rollsAct (a1 : Int32) (a2 : Int32) (fi0 : Nat → Int32) (ga0 : Nat → Nat → Int32) : Option (Int32 × (Nat → Int32) × (Nat → Nat → Int32)) := gd a1 6 (if ((ga0 6) (Int32.toNatClampNeg a1)) = 2 then b2 (k_X7_body 30 fi0 ga0) (fun fi_3 ga_4 => b3 (k_X7_manRolls a1 (a2 * 3) fi_3 ga_4) (fun r6 fi_7 ga_8 => some (r6, fi_7, ga_8))) else if ((ga0 6) (Int32.toNatClampNeg a1)) = 3 then b3 (k_X7_manRolls a1 a2 fi0 ga0) (fun r11 fi_12 ga_13 => some (r11, fi_12, ga_13)) else if ((ga0 6) (Int32.toNatClampNeg a1)) = 4 then b2 (k_X7_body 50 fi0 ga0) (fun fi_16 ga_17 => b3 (k_X7_manRolls a1 a2 fi_16 ga_17) (fun r19 fi_20 ga_21 => some ((-r19), fi_20, ga_21))) else if ((ga0 6) (Int32.toNatClampNeg a1)) = 5 then b2 (k_X7_body 30 fi0 ga0) (fun fi_24 ga_25 => b3 (k_X7_manRolls a1 (a2 * 3) fi_24 ga_25) (fun r27 fi_28 ga_29 => some (r27, fi_28, ga_29))) else if ((ga0 6) (Int32.toNatClampNeg a1)) = 6 then b2 (k_X7_body 71 fi0 ga0) (fun fi_32 ga_33 => b3 (k_X7_manRolls a1 a2 fi_32 ga_33) (fun r35 fi_36 ga_37 => gd a1 6 (some ((r35 ^^^ ((ga_37 7) (Int32.toNatClampNeg a1))), fi_36, ga_37)))) else b3 (k_X7_manRolls a1 a2 fi0 ga0) (fun r40 fi_41 ga_42 => some (r40, fi_41, ga_42)))
set_option maxHeartbeats 4000000 in
set_option maxRecDepth 100000 in
theorem c_X7_rollsAct {l : Launch} {D : va_G} {cA : Nat → ClassId} (h : Nat) (q : Nat → Nat) (fi0 : Nat → Int32) (fs : Nat → Int32) (ga0 : Nat → Nat → Int32) (gs : Nat → Nat → Int32) (pl : Nat → Int32) (it : Nat → Int64) (asd : Nat → Int64) (a1 : Int32) (a2 : Int32) (o : Int32 × (Nat → Int32) × (Nat → Nat → Int32)) (hf : k_X7_rollsAct a1 a2 fi0 ga0 = some o) : CI l D cA yX7_rollsAct cX7_rollsAct 3 (some .int) 2 43 [.ref h, .int a1, .int a2] (Mw h q cA fi0 fs ga0 gs pl it asd) 0 0 (fun r w => r = o.1 ∧ w = (Mw h q cA o.2.1 fs o.2.2 gs pl it asd)) := by
  intro sz
  refine met_start (by decide) rfl ?_
  intro p e s m args below meth c ls hsz hargs C0 hname hP hD hS hl
  generalize hAe : va_A (Mw h q cA fi0 fs ga0 gs pl it asd) sz = A at C0 hD hS ⊢
  obtain ⟨hx, hb, hr, hml, hown, hts, hlk, hK, hA⟩ := id C0
  replace hl : lv_has ls 3 [(0, .ref h), (1, .int a1), (2, .int a2)] := hl
  obtain ⟨Q, hQ⟩ : ∃ Q : State → Prop, Q = QI below D A (fun r w => r = o.1 ∧ w = (Mw h q cA o.2.1 fs o.2.2 gs pl it asd)) args s 0 0 := ⟨_, rfl⟩
  refine cast (by rw [hQ]) (?_ : W p l e (RMx 2 43 0 0) s m args below meth c s.heap [] 0 0 Q (F0 m 0 ls []))
  unfold k_X7_rollsAct at hf
  refine lv_aload_n hx hb dX7_rollsAct_0 rfl (lv_at hl 0 rfl) ?_
  refine va_get (D := D) (ci := 7) (v := .ref (q 6)) (C := RX7) (T := TX7) (N := 73) hx hb hts fw_7 hown hK hP 0 rfl rfl 6 (by decide) (hts _ m_fieldLink_M_28_M_kind_aI) (fun _ h9 => h9) rfl dX7_rollsAct_1 ?_
  refine lv_iload_n hx hb dX7_rollsAct_4 rfl (lv_at hl 1 rfl) ?_
  obtain ⟨hi1, hf⟩ := gd_of hf
  refine va_iald hx hb hK hP 1 0 rfl rfl hi1 dX7_rollsAct_5 ?_
  by_cases c2 : ((ga0 6) (Int32.toNatClampNeg a1)) = 2
  · replace hf := it_of c2 hf
    refine lv_tableIn (off := 34) (tgt := 40) hx hb dX7_rollsAct_6 (by rw [c2]; decide) (by rw [c2]; decide) (by rw [c2]; decide) (by decide) ?_
    refine lv_aload_n hx hb dX7_rollsAct_40 rfl (lv_at hl 0 rfl) ?_
    refine lv_bipush (v := 30) hx hb dX7_rollsAct_41 (by decide) ?_
    obtain ⟨fi_3, ga_4, hq5, hf⟩ := b2_of hf
    refine callVV (As := [.int 30]) (rest := []) (wr := []) C0 (c_X7_body h q fi0 fs ga0 gs pl it asd 30 _ hq5) lk_X7_395_X7_body rfl hP hD hS perm_nil 0 7 rfl rfl rfl hl.1 rfl rfl (Nat.le_of_ble_eq_true rfl) dX7_rollsAct_43 ⟨Nat.zero_le _, Nat.zero_le _⟩ (fun w H locs hw hP hD hS => ?_)
    have e2 := hw
    subst e2
    replace hP : va_P D vwCl (Mw h q cA fi_3 fs ga_4 gs pl it asd) H := hP.nil
    replace hD : va_D A (Mw h q cA fi_3 fs ga_4 gs pl it asd) := hD.nil
    refine lv_aload_n hx hb dX7_rollsAct_46 rfl (lv_at hl 0 rfl) ?_
    refine lv_iload_n hx hb dX7_rollsAct_47 rfl (lv_at hl 1 rfl) ?_
    refine lv_iload_n hx hb dX7_rollsAct_48 rfl (lv_at hl 2 rfl) ?_
    refine lv_iconst (v := 3) hx hb dX7_rollsAct_49 (by decide) ?_
    refine lv_imul hx hb dX7_rollsAct_50 ?_
    obtain ⟨r6q, fi_7, ga_8, hq9, hf⟩ := b3_of hf
    refine callVI (As := [.int a1, .int (a2 * 3)]) (rest := []) (wr := []) C0 (c_X7_manRolls h q fi_3 fs ga_4 gs pl it asd a1 (a2 * 3) _ hq9) lk_X7_398_X7_manRolls rfl hP hD hS perm_nil 0 7 rfl rfl rfl hl.1 rfl rfl (Nat.le_of_ble_eq_true rfl) dX7_rollsAct_51 ⟨Nat.zero_le _, Nat.zero_le _⟩ (fun r6 w H locs hw hP hD hS => ?_)
    obtain ⟨e1, e2⟩ := hw
    replace e1 : r6 = r6q := e1
    subst e1
    subst e2
    replace hP : va_P D vwCl (Mw h q cA fi_7 fs ga_8 gs pl it asd) H := hP.nil
    replace hD : va_D A (Mw h q cA fi_7 fs ga_8 gs pl it asd) := hD.nil
    rw [hQ]
    exact ret_i C0 hP hD hS (by have e := Option.some.inj hf; rw [← e]; exact ⟨rfl, rfl⟩) dX7_rollsAct_54
  · replace hf := ie_of c2 hf
    by_cases c10 : ((ga0 6) (Int32.toNatClampNeg a1)) = 3
    · replace hf := it_of c10 hf
      refine lv_tableIn (off := 83) (tgt := 89) hx hb dX7_rollsAct_6 (by rw [c10]; decide) (by rw [c10]; decide) (by rw [c10]; decide) (by decide) ?_
      refine lv_aload_n hx hb dX7_rollsAct_89 rfl (lv_at hl 0 rfl) ?_
      refine lv_iload_n hx hb dX7_rollsAct_90 rfl (lv_at hl 1 rfl) ?_
      refine lv_iload_n hx hb dX7_rollsAct_91 rfl (lv_at hl 2 rfl) ?_
      obtain ⟨r11q, fi_12, ga_13, hq14, hf⟩ := b3_of hf
      refine callVI (As := [.int a1, .int a2]) (rest := []) (wr := []) C0 (c_X7_manRolls h q fi0 fs ga0 gs pl it asd a1 a2 _ hq14) lk_X7_398_X7_manRolls rfl hP hD hS perm_nil 0 7 rfl rfl rfl hl.1 rfl rfl (Nat.le_of_ble_eq_true rfl) dX7_rollsAct_92 ⟨Nat.zero_le _, Nat.zero_le _⟩ (fun r11 w H locs hw hP hD hS => ?_)
      obtain ⟨e1, e2⟩ := hw
      replace e1 : r11 = r11q := e1
      subst e1
      subst e2
      replace hP : va_P D vwCl (Mw h q cA fi_12 fs ga_13 gs pl it asd) H := hP.nil
      replace hD : va_D A (Mw h q cA fi_12 fs ga_13 gs pl it asd) := hD.nil
      rw [hQ]
      exact ret_i C0 hP hD hS (by have e := Option.some.inj hf; rw [← e]; exact ⟨rfl, rfl⟩) dX7_rollsAct_95
    · replace hf := ie_of c10 hf
      by_cases c15 : ((ga0 6) (Int32.toNatClampNeg a1)) = 4
      · replace hf := it_of c15 hf
        refine lv_tableIn (off := 49) (tgt := 55) hx hb dX7_rollsAct_6 (by rw [c15]; decide) (by rw [c15]; decide) (by rw [c15]; decide) (by decide) ?_
        refine lv_aload_n hx hb dX7_rollsAct_55 rfl (lv_at hl 0 rfl) ?_
        refine lv_bipush (v := 50) hx hb dX7_rollsAct_56 (by decide) ?_
        obtain ⟨fi_16, ga_17, hq18, hf⟩ := b2_of hf
        refine callVV (As := [.int 50]) (rest := []) (wr := []) C0 (c_X7_body h q fi0 fs ga0 gs pl it asd 50 _ hq18) lk_X7_395_X7_body rfl hP hD hS perm_nil 0 7 rfl rfl rfl hl.1 rfl rfl (Nat.le_of_ble_eq_true rfl) dX7_rollsAct_58 ⟨Nat.zero_le _, Nat.zero_le _⟩ (fun w H locs hw hP hD hS => ?_)
        have e2 := hw
        subst e2
        replace hP : va_P D vwCl (Mw h q cA fi_16 fs ga_17 gs pl it asd) H := hP.nil
        replace hD : va_D A (Mw h q cA fi_16 fs ga_17 gs pl it asd) := hD.nil
        refine lv_aload_n hx hb dX7_rollsAct_61 rfl (lv_at hl 0 rfl) ?_
        refine lv_iload_n hx hb dX7_rollsAct_62 rfl (lv_at hl 1 rfl) ?_
        refine lv_iload_n hx hb dX7_rollsAct_63 rfl (lv_at hl 2 rfl) ?_
        obtain ⟨r19q, fi_20, ga_21, hq22, hf⟩ := b3_of hf
        refine callVI (As := [.int a1, .int a2]) (rest := []) (wr := []) C0 (c_X7_manRolls h q fi_16 fs ga_17 gs pl it asd a1 a2 _ hq22) lk_X7_398_X7_manRolls rfl hP hD hS perm_nil 0 7 rfl rfl rfl hl.1 rfl rfl (Nat.le_of_ble_eq_true rfl) dX7_rollsAct_64 ⟨Nat.zero_le _, Nat.zero_le _⟩ (fun r19 w H locs hw hP hD hS => ?_)
        obtain ⟨e1, e2⟩ := hw
        replace e1 : r19 = r19q := e1
        subst e1
        subst e2
        replace hP : va_P D vwCl (Mw h q cA fi_20 fs ga_21 gs pl it asd) H := hP.nil
        replace hD : va_D A (Mw h q cA fi_20 fs ga_21 gs pl it asd) := hD.nil
        refine lv_ineg hx hb dX7_rollsAct_67 ?_
        rw [hQ]
        exact ret_i C0 hP hD hS (by have e := Option.some.inj hf; rw [← e]; exact ⟨rfl, rfl⟩) dX7_rollsAct_68
      · replace hf := ie_of c15 hf
        by_cases c23 : ((ga0 6) (Int32.toNatClampNeg a1)) = 5
        · replace hf := it_of c23 hf
          refine lv_tableIn (off := 34) (tgt := 40) hx hb dX7_rollsAct_6 (by rw [c23]; decide) (by rw [c23]; decide) (by rw [c23]; decide) (by decide) ?_
          refine lv_aload_n hx hb dX7_rollsAct_40 rfl (lv_at hl 0 rfl) ?_
          refine lv_bipush (v := 30) hx hb dX7_rollsAct_41 (by decide) ?_
          obtain ⟨fi_24, ga_25, hq26, hf⟩ := b2_of hf
          refine callVV (As := [.int 30]) (rest := []) (wr := []) C0 (c_X7_body h q fi0 fs ga0 gs pl it asd 30 _ hq26) lk_X7_395_X7_body rfl hP hD hS perm_nil 0 7 rfl rfl rfl hl.1 rfl rfl (Nat.le_of_ble_eq_true rfl) dX7_rollsAct_43 ⟨Nat.zero_le _, Nat.zero_le _⟩ (fun w H locs hw hP hD hS => ?_)
          have e2 := hw
          subst e2
          replace hP : va_P D vwCl (Mw h q cA fi_24 fs ga_25 gs pl it asd) H := hP.nil
          replace hD : va_D A (Mw h q cA fi_24 fs ga_25 gs pl it asd) := hD.nil
          refine lv_aload_n hx hb dX7_rollsAct_46 rfl (lv_at hl 0 rfl) ?_
          refine lv_iload_n hx hb dX7_rollsAct_47 rfl (lv_at hl 1 rfl) ?_
          refine lv_iload_n hx hb dX7_rollsAct_48 rfl (lv_at hl 2 rfl) ?_
          refine lv_iconst (v := 3) hx hb dX7_rollsAct_49 (by decide) ?_
          refine lv_imul hx hb dX7_rollsAct_50 ?_
          obtain ⟨r27q, fi_28, ga_29, hq30, hf⟩ := b3_of hf
          refine callVI (As := [.int a1, .int (a2 * 3)]) (rest := []) (wr := []) C0 (c_X7_manRolls h q fi_24 fs ga_25 gs pl it asd a1 (a2 * 3) _ hq30) lk_X7_398_X7_manRolls rfl hP hD hS perm_nil 0 7 rfl rfl rfl hl.1 rfl rfl (Nat.le_of_ble_eq_true rfl) dX7_rollsAct_51 ⟨Nat.zero_le _, Nat.zero_le _⟩ (fun r27 w H locs hw hP hD hS => ?_)
          obtain ⟨e1, e2⟩ := hw
          replace e1 : r27 = r27q := e1
          subst e1
          subst e2
          replace hP : va_P D vwCl (Mw h q cA fi_28 fs ga_29 gs pl it asd) H := hP.nil
          replace hD : va_D A (Mw h q cA fi_28 fs ga_29 gs pl it asd) := hD.nil
          rw [hQ]
          exact ret_i C0 hP hD hS (by have e := Option.some.inj hf; rw [← e]; exact ⟨rfl, rfl⟩) dX7_rollsAct_54
        · replace hf := ie_of c23 hf
          by_cases c31 : ((ga0 6) (Int32.toNatClampNeg a1)) = 6
          · replace hf := it_of c31 hf
            refine lv_tableIn (off := 63) (tgt := 69) hx hb dX7_rollsAct_6 (by rw [c31]; decide) (by rw [c31]; decide) (by rw [c31]; decide) (by decide) ?_
            refine lv_aload_n hx hb dX7_rollsAct_69 rfl (lv_at hl 0 rfl) ?_
            refine lv_bipush (v := 71) hx hb dX7_rollsAct_70 (by decide) ?_
            obtain ⟨fi_32, ga_33, hq34, hf⟩ := b2_of hf
            refine callVV (As := [.int 71]) (rest := []) (wr := []) C0 (c_X7_body h q fi0 fs ga0 gs pl it asd 71 _ hq34) lk_X7_395_X7_body rfl hP hD hS perm_nil 0 7 rfl rfl rfl hl.1 rfl rfl (Nat.le_of_ble_eq_true rfl) dX7_rollsAct_72 ⟨Nat.zero_le _, Nat.zero_le _⟩ (fun w H locs hw hP hD hS => ?_)
            have e2 := hw
            subst e2
            replace hP : va_P D vwCl (Mw h q cA fi_32 fs ga_33 gs pl it asd) H := hP.nil
            replace hD : va_D A (Mw h q cA fi_32 fs ga_33 gs pl it asd) := hD.nil
            refine lv_aload_n hx hb dX7_rollsAct_75 rfl (lv_at hl 0 rfl) ?_
            refine lv_iload_n hx hb dX7_rollsAct_76 rfl (lv_at hl 1 rfl) ?_
            refine lv_iload_n hx hb dX7_rollsAct_77 rfl (lv_at hl 2 rfl) ?_
            obtain ⟨r35q, fi_36, ga_37, hq38, hf⟩ := b3_of hf
            refine callVI (As := [.int a1, .int a2]) (rest := []) (wr := []) C0 (c_X7_manRolls h q fi_32 fs ga_33 gs pl it asd a1 a2 _ hq38) lk_X7_398_X7_manRolls rfl hP hD hS perm_nil 0 7 rfl rfl rfl hl.1 rfl rfl (Nat.le_of_ble_eq_true rfl) dX7_rollsAct_78 ⟨Nat.zero_le _, Nat.zero_le _⟩ (fun r35 w H locs hw hP hD hS => ?_)
            obtain ⟨e1, e2⟩ := hw
            replace e1 : r35 = r35q := e1
            subst e1
            subst e2
            replace hP : va_P D vwCl (Mw h q cA fi_36 fs ga_37 gs pl it asd) H := hP.nil
            replace hD : va_D A (Mw h q cA fi_36 fs ga_37 gs pl it asd) := hD.nil
            refine lv_aload_n hx hb dX7_rollsAct_81 rfl (lv_at hl 0 rfl) ?_
            refine va_get (D := D) (ci := 7) (v := .ref (q 7)) (C := RX7) (T := TX7) (N := 73) hx hb hts fw_7 hown hK hP 0 rfl rfl 7 (by decide) (hts _ m_fieldLink_M_32_M_v_aI) (fun _ h9 => h9) rfl dX7_rollsAct_82 ?_
            refine lv_iload_n hx hb dX7_rollsAct_85 rfl (lv_at hl 1 rfl) ?_
            obtain ⟨hi39, hf⟩ := gd_of hf
            refine va_iald hx hb hK hP 2 0 rfl rfl hi39 dX7_rollsAct_86 ?_
            refine lv_ixor hx hb dX7_rollsAct_87 ?_
            rw [hQ]
            exact ret_i C0 hP hD hS (by have e := Option.some.inj hf; rw [← e]; exact ⟨rfl, rfl⟩) dX7_rollsAct_88
          · replace hf := ie_of c31 hf
            refine lv_tableOut (tgt := 89) hx hb dX7_rollsAct_6 (by have := lv_neT c2 (a := 2) (by decide); have := lv_neT c10 (a := 3) (by decide); have := lv_neT c15 (a := 4) (by decide); have := lv_neT c23 (a := 5) (by decide); have := lv_neT c31 (a := 6) (by decide); omega) (by decide) ?_
            refine lv_aload_n hx hb dX7_rollsAct_89 rfl (lv_at hl 0 rfl) ?_
            refine lv_iload_n hx hb dX7_rollsAct_90 rfl (lv_at hl 1 rfl) ?_
            refine lv_iload_n hx hb dX7_rollsAct_91 rfl (lv_at hl 2 rfl) ?_
            obtain ⟨r40q, fi_41, ga_42, hq43, hf⟩ := b3_of hf
            refine callVI (As := [.int a1, .int a2]) (rest := []) (wr := []) C0 (c_X7_manRolls h q fi0 fs ga0 gs pl it asd a1 a2 _ hq43) lk_X7_398_X7_manRolls rfl hP hD hS perm_nil 0 7 rfl rfl rfl hl.1 rfl rfl (Nat.le_of_ble_eq_true rfl) dX7_rollsAct_92 ⟨Nat.zero_le _, Nat.zero_le _⟩ (fun r40 w H locs hw hP hD hS => ?_)
            obtain ⟨e1, e2⟩ := hw
            replace e1 : r40 = r40q := e1
            subst e1
            subst e2
            replace hP : va_P D vwCl (Mw h q cA fi_41 fs ga_42 gs pl it asd) H := hP.nil
            replace hD : va_D A (Mw h q cA fi_41 fs ga_42 gs pl it asd) := hD.nil
            rw [hQ]
            exact ret_i C0 hP hD hS (by have e := Option.some.inj hf; rw [← e]; exact ⟨rfl, rfl⟩) dX7_rollsAct_95
-- manHums
noncomputable def k_X7_manHums (a1 : Int32) (a2 : Int32) (fi0 : Nat → Int32) (ga0 : Nat → Nat → Int32) : Option (Int32 × (Nat → Int32) × (Nat → Nat → Int32)) := b2 (k_X7_body 11 fi0 ga0) (fun fi_1 ga_2 => b3 (k_X7_rollsAct a1 a2 fi_1 ga_2) (fun r4 fi_5 ga_6 => gd a1 6 (some ((r4 - ((ga_6 7) (Int32.toNatClampNeg a1))), fi_5, ga_6))))
set_option maxHeartbeats 4000000 in
set_option maxRecDepth 100000 in
theorem c_X7_manHums {l : Launch} {D : va_G} {cA : Nat → ClassId} (h : Nat) (q : Nat → Nat) (fi0 : Nat → Int32) (fs : Nat → Int32) (ga0 : Nat → Nat → Int32) (gs : Nat → Nat → Int32) (pl : Nat → Int32) (it : Nat → Int64) (asd : Nat → Int64) (a1 : Int32) (a2 : Int32) (o : Int32 × (Nat → Int32) × (Nat → Nat → Int32)) (hf : k_X7_manHums a1 a2 fi0 ga0 = some o) : CI l D cA yX7_manHums cX7_manHums 3 (some .int) 3 65 [.ref h, .int a1, .int a2] (Mw h q cA fi0 fs ga0 gs pl it asd) 0 0 (fun r w => r = o.1 ∧ w = (Mw h q cA o.2.1 fs o.2.2 gs pl it asd)) := by
  intro sz
  refine met_start (by decide) rfl ?_
  intro p e s m args below meth c ls hsz hargs C0 hname hP hD hS hl
  generalize hAe : va_A (Mw h q cA fi0 fs ga0 gs pl it asd) sz = A at C0 hD hS ⊢
  obtain ⟨hx, hb, hr, hml, hown, hts, hlk, hK, hA⟩ := id C0
  replace hl : lv_has ls 3 [(0, .ref h), (1, .int a1), (2, .int a2)] := hl
  obtain ⟨Q, hQ⟩ : ∃ Q : State → Prop, Q = QI below D A (fun r w => r = o.1 ∧ w = (Mw h q cA o.2.1 fs o.2.2 gs pl it asd)) args s 0 0 := ⟨_, rfl⟩
  refine cast (by rw [hQ]) (?_ : W p l e (RMx 3 65 0 0) s m args below meth c s.heap [] 0 0 Q (F0 m 0 ls []))
  unfold k_X7_manHums at hf
  refine lv_aload_n hx hb dX7_manHums_0 rfl (lv_at hl 0 rfl) ?_
  refine lv_bipush (v := 11) hx hb dX7_manHums_1 (by decide) ?_
  obtain ⟨fi_1, ga_2, hq3, hf⟩ := b2_of hf
  refine callVV (As := [.int 11]) (rest := []) (wr := []) C0 (c_X7_body h q fi0 fs ga0 gs pl it asd 11 _ hq3) lk_X7_395_X7_body rfl hP hD hS perm_nil 0 7 rfl rfl rfl hl.1 rfl rfl (Nat.le_of_ble_eq_true rfl) dX7_manHums_3 ⟨Nat.zero_le _, Nat.zero_le _⟩ (fun w H locs hw hP hD hS => ?_)
  have e2 := hw
  subst e2
  replace hP : va_P D vwCl (Mw h q cA fi_1 fs ga_2 gs pl it asd) H := hP.nil
  replace hD : va_D A (Mw h q cA fi_1 fs ga_2 gs pl it asd) := hD.nil
  refine lv_aload_n hx hb dX7_manHums_6 rfl (lv_at hl 0 rfl) ?_
  refine lv_iload_n hx hb dX7_manHums_7 rfl (lv_at hl 1 rfl) ?_
  refine lv_iload_n hx hb dX7_manHums_8 rfl (lv_at hl 2 rfl) ?_
  obtain ⟨r4q, fi_5, ga_6, hq7, hf⟩ := b3_of hf
  refine callVI (As := [.int a1, .int a2]) (rest := []) (wr := []) C0 (c_X7_rollsAct h q fi_1 fs ga_2 gs pl it asd a1 a2 _ hq7) lk_X7_401_X7_rollsAct rfl hP hD hS perm_nil 0 7 rfl rfl rfl hl.1 rfl rfl (Nat.le_of_ble_eq_true rfl) dX7_manHums_9 ⟨Nat.zero_le _, Nat.zero_le _⟩ (fun r4 w H locs hw hP hD hS => ?_)
  obtain ⟨e1, e2⟩ := hw
  replace e1 : r4 = r4q := e1
  subst e1
  subst e2
  replace hP : va_P D vwCl (Mw h q cA fi_5 fs ga_6 gs pl it asd) H := hP.nil
  replace hD : va_D A (Mw h q cA fi_5 fs ga_6 gs pl it asd) := hD.nil
  refine lv_aload_n hx hb dX7_manHums_12 rfl (lv_at hl 0 rfl) ?_
  refine va_get (D := D) (ci := 7) (v := .ref (q 7)) (C := RX7) (T := TX7) (N := 73) hx hb hts fw_7 hown hK hP 0 rfl rfl 7 (by decide) (hts _ m_fieldLink_M_32_M_v_aI) (fun _ h9 => h9) rfl dX7_manHums_13 ?_
  refine lv_iload_n hx hb dX7_manHums_16 rfl (lv_at hl 1 rfl) ?_
  obtain ⟨hi8, hf⟩ := gd_of hf
  refine va_iald hx hb hK hP 2 0 rfl rfl hi8 dX7_manHums_17 ?_
  refine lv_isub hx hb dX7_manHums_18 ?_
  rw [hQ]
  exact ret_i C0 hP hD hS (by have e := Option.some.inj hf; rw [← e]; exact ⟨rfl, rfl⟩) dX7_manHums_19
-- cookHums
noncomputable def k_X7_cookHums (a1 : Int32) (a2 : Int32) (fi0 : Nat → Int32) (ga0 : Nat → Nat → Int32) : Option (Int32 × (Nat → Int32) × (Nat → Nat → Int32)) := b2 (k_X7_body 20 fi0 ga0) (fun fi_1 ga_2 => b3 (k_X7_manHums a1 a2 fi_1 ga_2) (fun r4 fi_5 ga_6 => some ((r4 ^^^ 6), fi_5, ga_6)))
set_option maxHeartbeats 4000000 in
set_option maxRecDepth 100000 in
theorem c_X7_cookHums {l : Launch} {D : va_G} {cA : Nat → ClassId} (h : Nat) (q : Nat → Nat) (fi0 : Nat → Int32) (fs : Nat → Int32) (ga0 : Nat → Nat → Int32) (gs : Nat → Nat → Int32) (pl : Nat → Int32) (it : Nat → Int64) (asd : Nat → Int64) (a1 : Int32) (a2 : Int32) (o : Int32 × (Nat → Int32) × (Nat → Nat → Int32)) (hf : k_X7_cookHums a1 a2 fi0 ga0 = some o) : CI l D cA yX7_cookHums cX7_cookHums 3 (some .int) 4 87 [.ref h, .int a1, .int a2] (Mw h q cA fi0 fs ga0 gs pl it asd) 0 0 (fun r w => r = o.1 ∧ w = (Mw h q cA o.2.1 fs o.2.2 gs pl it asd)) := by
  intro sz
  refine met_start (by decide) rfl ?_
  intro p e s m args below meth c ls hsz hargs C0 hname hP hD hS hl
  generalize hAe : va_A (Mw h q cA fi0 fs ga0 gs pl it asd) sz = A at C0 hD hS ⊢
  obtain ⟨hx, hb, hr, hml, hown, hts, hlk, hK, hA⟩ := id C0
  replace hl : lv_has ls 3 [(0, .ref h), (1, .int a1), (2, .int a2)] := hl
  obtain ⟨Q, hQ⟩ : ∃ Q : State → Prop, Q = QI below D A (fun r w => r = o.1 ∧ w = (Mw h q cA o.2.1 fs o.2.2 gs pl it asd)) args s 0 0 := ⟨_, rfl⟩
  refine cast (by rw [hQ]) (?_ : W p l e (RMx 4 87 0 0) s m args below meth c s.heap [] 0 0 Q (F0 m 0 ls []))
  unfold k_X7_cookHums at hf
  refine lv_aload_n hx hb dX7_cookHums_0 rfl (lv_at hl 0 rfl) ?_
  refine lv_bipush (v := 20) hx hb dX7_cookHums_1 (by decide) ?_
  obtain ⟨fi_1, ga_2, hq3, hf⟩ := b2_of hf
  refine callVV (As := [.int 20]) (rest := []) (wr := []) C0 (c_X7_body h q fi0 fs ga0 gs pl it asd 20 _ hq3) lk_X7_395_X7_body rfl hP hD hS perm_nil 0 7 rfl rfl rfl hl.1 rfl rfl (Nat.le_of_ble_eq_true rfl) dX7_cookHums_3 ⟨Nat.zero_le _, Nat.zero_le _⟩ (fun w H locs hw hP hD hS => ?_)
  have e2 := hw
  subst e2
  replace hP : va_P D vwCl (Mw h q cA fi_1 fs ga_2 gs pl it asd) H := hP.nil
  replace hD : va_D A (Mw h q cA fi_1 fs ga_2 gs pl it asd) := hD.nil
  refine lv_aload_n hx hb dX7_cookHums_6 rfl (lv_at hl 0 rfl) ?_
  refine lv_iload_n hx hb dX7_cookHums_7 rfl (lv_at hl 1 rfl) ?_
  refine lv_iload_n hx hb dX7_cookHums_8 rfl (lv_at hl 2 rfl) ?_
  obtain ⟨r4q, fi_5, ga_6, hq7, hf⟩ := b3_of hf
  refine callVI (As := [.int a1, .int a2]) (rest := []) (wr := []) C0 (c_X7_manHums h q fi_1 fs ga_2 gs pl it asd a1 a2 _ hq7) lk_X7_404_X7_manHums rfl hP hD hS perm_nil 0 7 rfl rfl rfl hl.1 rfl rfl (Nat.le_of_ble_eq_true rfl) dX7_cookHums_9 ⟨Nat.zero_le _, Nat.zero_le _⟩ (fun r4 w H locs hw hP hD hS => ?_)
  obtain ⟨e1, e2⟩ := hw
  replace e1 : r4 = r4q := e1
  subst e1
  subst e2
  replace hP : va_P D vwCl (Mw h q cA fi_5 fs ga_6 gs pl it asd) H := hP.nil
  replace hD : va_D A (Mw h q cA fi_5 fs ga_6 gs pl it asd) := hD.nil
  refine lv_bipush (v := 6) hx hb dX7_cookHums_12 (by decide) ?_
  refine lv_ixor hx hb dX7_cookHums_14 ?_
  rw [hQ]
  exact ret_i C0 hP hD hS (by have e := Option.some.inj hf; rw [← e]; exact ⟨rfl, rfl⟩) dX7_cookHums_15
-- humsAct
noncomputable def k_X7_humsAct (a1 : Int32) (a2 : Int32) (fi0 : Nat → Int32) (ga0 : Nat → Nat → Int32) : Option (Int32 × (Nat → Int32) × (Nat → Nat → Int32)) := gd a1 6 (if ((ga0 6) (Int32.toNatClampNeg a1)) = 1 then b3 (k_X7_cookHums a1 a2 fi0 ga0) (fun r3 fi_4 ga_5 => some (r3, fi_4, ga_5)) else if ((ga0 6) (Int32.toNatClampNeg a1)) = 4 then b2 (k_X7_body 51 fi0 ga0) (fun fi_8 ga_9 => b3 (k_X7_cookHums a1 (a2 + 1) fi_8 ga_9) (fun r11 fi_12 ga_13 => some (r11, fi_12, ga_13))) else if ((ga0 6) (Int32.toNatClampNeg a1)) = 6 then b2 (k_X7_body 70 fi0 ga0) (fun fi_16 ga_17 => b3 (k_X7_manHums a1 a2 fi_16 ga_17) (fun r19 fi_20 ga_21 => b3 (k_X7_manRolls a1 2 fi_20 ga_21) (fun r23 fi_24 ga_25 => some ((r19 + r23), fi_24, ga_25)))) else b3 (k_X7_manHums a1 a2 fi0 ga0) (fun r27 fi_28 ga_29 => some (r27, fi_28, ga_29)))
set_option maxHeartbeats 4000000 in
set_option maxRecDepth 100000 in
theorem c_X7_humsAct {l : Launch} {D : va_G} {cA : Nat → ClassId} (h : Nat) (q : Nat → Nat) (fi0 : Nat → Int32) (fs : Nat → Int32) (ga0 : Nat → Nat → Int32) (gs : Nat → Nat → Int32) (pl : Nat → Int32) (it : Nat → Int64) (asd : Nat → Int64) (a1 : Int32) (a2 : Int32) (o : Int32 × (Nat → Int32) × (Nat → Nat → Int32)) (hf : k_X7_humsAct a1 a2 fi0 ga0 = some o) : CI l D cA yX7_humsAct cX7_humsAct 4 (some .int) 5 109 [.ref h, .int a1, .int a2] (Mw h q cA fi0 fs ga0 gs pl it asd) 0 0 (fun r w => r = o.1 ∧ w = (Mw h q cA o.2.1 fs o.2.2 gs pl it asd)) := by
  intro sz
  refine met_start (by decide) rfl ?_
  intro p e s m args below meth c ls hsz hargs C0 hname hP hD hS hl
  generalize hAe : va_A (Mw h q cA fi0 fs ga0 gs pl it asd) sz = A at C0 hD hS ⊢
  obtain ⟨hx, hb, hr, hml, hown, hts, hlk, hK, hA⟩ := id C0
  replace hl : lv_has ls 4 [(0, .ref h), (1, .int a1), (2, .int a2)] := hl
  obtain ⟨Q, hQ⟩ : ∃ Q : State → Prop, Q = QI below D A (fun r w => r = o.1 ∧ w = (Mw h q cA o.2.1 fs o.2.2 gs pl it asd)) args s 0 0 := ⟨_, rfl⟩
  refine cast (by rw [hQ]) (?_ : W p l e (RMx 5 109 0 0) s m args below meth c s.heap [] 0 0 Q (F0 m 0 ls []))
  unfold k_X7_humsAct at hf
  refine lv_aload_n hx hb dX7_humsAct_0 rfl (lv_at hl 0 rfl) ?_
  refine va_get (D := D) (ci := 7) (v := .ref (q 6)) (C := RX7) (T := TX7) (N := 73) hx hb hts fw_7 hown hK hP 0 rfl rfl 6 (by decide) (hts _ m_fieldLink_M_28_M_kind_aI) (fun _ h9 => h9) rfl dX7_humsAct_1 ?_
  refine lv_iload_n hx hb dX7_humsAct_4 rfl (lv_at hl 1 rfl) ?_
  obtain ⟨hi1, hf⟩ := gd_of hf
  refine va_iald hx hb hK hP 1 0 rfl rfl hi1 dX7_humsAct_5 ?_
  by_cases c2 : ((ga0 6) (Int32.toNatClampNeg a1)) = 1
  · replace hf := it_of c2 hf
    refine lv_lookup (off := 34) (tgt := 40) hx hb dX7_humsAct_6 (by decide) (by rw [c2]; decide) (by decide) ?_
    refine lv_aload_n hx hb dX7_humsAct_40 rfl (lv_at hl 0 rfl) ?_
    refine lv_iload_n hx hb dX7_humsAct_41 rfl (lv_at hl 1 rfl) ?_
    refine lv_iload_n hx hb dX7_humsAct_42 rfl (lv_at hl 2 rfl) ?_
    obtain ⟨r3q, fi_4, ga_5, hq6, hf⟩ := b3_of hf
    refine callVI (As := [.int a1, .int a2]) (rest := []) (wr := []) C0 (c_X7_cookHums h q fi0 fs ga0 gs pl it asd a1 a2 _ hq6) lk_X7_407_X7_cookHums rfl hP hD hS perm_nil 0 7 rfl rfl rfl hl.1 rfl rfl (Nat.le_of_ble_eq_true rfl) dX7_humsAct_43 ⟨Nat.zero_le _, Nat.zero_le _⟩ (fun r3 w H locs hw hP hD hS => ?_)
    obtain ⟨e1, e2⟩ := hw
    replace e1 : r3 = r3q := e1
    subst e1
    subst e2
    replace hP : va_P D vwCl (Mw h q cA fi_4 fs ga_5 gs pl it asd) H := hP.nil
    replace hD : va_D A (Mw h q cA fi_4 fs ga_5 gs pl it asd) := hD.nil
    rw [hQ]
    exact ret_i C0 hP hD hS (by have e := Option.some.inj hf; rw [← e]; exact ⟨rfl, rfl⟩) dX7_humsAct_46
  · replace hf := ie_of c2 hf
    by_cases c7 : ((ga0 6) (Int32.toNatClampNeg a1)) = 4
    · replace hf := it_of c7 hf
      refine lv_lookup (off := 41) (tgt := 47) hx hb dX7_humsAct_6 (by decide) (by rw [c7]; decide) (by decide) ?_
      refine lv_aload_n hx hb dX7_humsAct_47 rfl (lv_at hl 0 rfl) ?_
      refine lv_bipush (v := 51) hx hb dX7_humsAct_48 (by decide) ?_
      obtain ⟨fi_8, ga_9, hq10, hf⟩ := b2_of hf
      refine callVV (As := [.int 51]) (rest := []) (wr := []) C0 (c_X7_body h q fi0 fs ga0 gs pl it asd 51 _ hq10) lk_X7_395_X7_body rfl hP hD hS perm_nil 0 7 rfl rfl rfl hl.1 rfl rfl (Nat.le_of_ble_eq_true rfl) dX7_humsAct_50 ⟨Nat.zero_le _, Nat.zero_le _⟩ (fun w H locs hw hP hD hS => ?_)
      have e2 := hw
      subst e2
      replace hP : va_P D vwCl (Mw h q cA fi_8 fs ga_9 gs pl it asd) H := hP.nil
      replace hD : va_D A (Mw h q cA fi_8 fs ga_9 gs pl it asd) := hD.nil
      refine lv_aload_n hx hb dX7_humsAct_53 rfl (lv_at hl 0 rfl) ?_
      refine lv_iload_n hx hb dX7_humsAct_54 rfl (lv_at hl 1 rfl) ?_
      refine lv_iload_n hx hb dX7_humsAct_55 rfl (lv_at hl 2 rfl) ?_
      refine lv_iconst (v := 1) hx hb dX7_humsAct_56 (by decide) ?_
      refine lv_iadd hx hb dX7_humsAct_57 ?_
      obtain ⟨r11q, fi_12, ga_13, hq14, hf⟩ := b3_of hf
      refine callVI (As := [.int a1, .int (a2 + 1)]) (rest := []) (wr := []) C0 (c_X7_cookHums h q fi_8 fs ga_9 gs pl it asd a1 (a2 + 1) _ hq14) lk_X7_407_X7_cookHums rfl hP hD hS perm_nil 0 7 rfl rfl rfl hl.1 rfl rfl (Nat.le_of_ble_eq_true rfl) dX7_humsAct_58 ⟨Nat.zero_le _, Nat.zero_le _⟩ (fun r11 w H locs hw hP hD hS => ?_)
      obtain ⟨e1, e2⟩ := hw
      replace e1 : r11 = r11q := e1
      subst e1
      subst e2
      replace hP : va_P D vwCl (Mw h q cA fi_12 fs ga_13 gs pl it asd) H := hP.nil
      replace hD : va_D A (Mw h q cA fi_12 fs ga_13 gs pl it asd) := hD.nil
      rw [hQ]
      exact ret_i C0 hP hD hS (by have e := Option.some.inj hf; rw [← e]; exact ⟨rfl, rfl⟩) dX7_humsAct_61
    · replace hf := ie_of c7 hf
      by_cases c15 : ((ga0 6) (Int32.toNatClampNeg a1)) = 6
      · replace hf := it_of c15 hf
        refine lv_lookup (off := 56) (tgt := 62) hx hb dX7_humsAct_6 (by decide) (by rw [c15]; decide) (by decide) ?_
        refine lv_aload_n hx hb dX7_humsAct_62 rfl (lv_at hl 0 rfl) ?_
        refine lv_bipush (v := 70) hx hb dX7_humsAct_63 (by decide) ?_
        obtain ⟨fi_16, ga_17, hq18, hf⟩ := b2_of hf
        refine callVV (As := [.int 70]) (rest := []) (wr := []) C0 (c_X7_body h q fi0 fs ga0 gs pl it asd 70 _ hq18) lk_X7_395_X7_body rfl hP hD hS perm_nil 0 7 rfl rfl rfl hl.1 rfl rfl (Nat.le_of_ble_eq_true rfl) dX7_humsAct_65 ⟨Nat.zero_le _, Nat.zero_le _⟩ (fun w H locs hw hP hD hS => ?_)
        have e2 := hw
        subst e2
        replace hP : va_P D vwCl (Mw h q cA fi_16 fs ga_17 gs pl it asd) H := hP.nil
        replace hD : va_D A (Mw h q cA fi_16 fs ga_17 gs pl it asd) := hD.nil
        refine lv_aload_n hx hb dX7_humsAct_68 rfl (lv_at hl 0 rfl) ?_
        refine lv_iload_n hx hb dX7_humsAct_69 rfl (lv_at hl 1 rfl) ?_
        refine lv_iload_n hx hb dX7_humsAct_70 rfl (lv_at hl 2 rfl) ?_
        obtain ⟨r19q, fi_20, ga_21, hq22, hf⟩ := b3_of hf
        refine callVI (As := [.int a1, .int a2]) (rest := []) (wr := []) C0 (c_X7_manHums h q fi_16 fs ga_17 gs pl it asd a1 a2 _ hq22) lk_X7_404_X7_manHums rfl hP hD hS perm_nil 0 7 rfl rfl rfl hl.1 rfl rfl (Nat.le_of_ble_eq_true rfl) dX7_humsAct_71 ⟨Nat.zero_le _, Nat.zero_le _⟩ (fun r19 w H locs hw hP hD hS => ?_)
        obtain ⟨e1, e2⟩ := hw
        replace e1 : r19 = r19q := e1
        subst e1
        subst e2
        replace hP : va_P D vwCl (Mw h q cA fi_20 fs ga_21 gs pl it asd) H := hP.nil
        replace hD : va_D A (Mw h q cA fi_20 fs ga_21 gs pl it asd) := hD.nil
        refine lv_istore_n (lv' := [(3, .int r19), (0, .ref h), (1, .int a1), (2, .int a2)]) hx hb dX7_humsAct_74 rfl hl (by decide) rfl (fun ls hl => ?_)
        refine lv_iload_n hx hb dX7_humsAct_75 rfl (lv_at hl 0 rfl) ?_
        refine lv_aload_n hx hb dX7_humsAct_76 rfl (lv_at hl 1 rfl) ?_
        refine lv_iload_n hx hb dX7_humsAct_77 rfl (lv_at hl 2 rfl) ?_
        refine lv_iconst (v := 2) hx hb dX7_humsAct_78 (by decide) ?_
        obtain ⟨r23q, fi_24, ga_25, hq26, hf⟩ := b3_of hf
        refine callVI (As := [.int a1, .int 2]) (rest := [.int r19]) (wr := []) C0 (c_X7_manRolls h q fi_20 fs ga_21 gs pl it asd a1 2 _ hq26) lk_X7_398_X7_manRolls rfl hP hD hS perm_nil 0 7 rfl rfl rfl hl.1 rfl rfl (Nat.le_of_ble_eq_true rfl) dX7_humsAct_79 ⟨Nat.zero_le _, Nat.zero_le _⟩ (fun r23 w H locs hw hP hD hS => ?_)
        obtain ⟨e1, e2⟩ := hw
        replace e1 : r23 = r23q := e1
        subst e1
        subst e2
        replace hP : va_P D vwCl (Mw h q cA fi_24 fs ga_25 gs pl it asd) H := hP.nil
        replace hD : va_D A (Mw h q cA fi_24 fs ga_25 gs pl it asd) := hD.nil
        refine lv_iadd hx hb dX7_humsAct_82 ?_
        rw [hQ]
        exact ret_i C0 hP hD hS (by have e := Option.some.inj hf; rw [← e]; exact ⟨rfl, rfl⟩) dX7_humsAct_83
      · replace hf := ie_of c15 hf
        refine lv_lookup (off := 78) (tgt := 84) hx hb dX7_humsAct_6 (by decide) (by rw [lv_osw c2 (by decide), lv_osw c7 (by decide), lv_osw c15 (by decide)]; rfl) (by decide) ?_
        refine lv_aload_n hx hb dX7_humsAct_84 rfl (lv_at hl 0 rfl) ?_
        refine lv_iload_n hx hb dX7_humsAct_85 rfl (lv_at hl 1 rfl) ?_
        refine lv_iload_n hx hb dX7_humsAct_86 rfl (lv_at hl 2 rfl) ?_
        obtain ⟨r27q, fi_28, ga_29, hq30, hf⟩ := b3_of hf
        refine callVI (As := [.int a1, .int a2]) (rest := []) (wr := []) C0 (c_X7_manHums h q fi0 fs ga0 gs pl it asd a1 a2 _ hq30) lk_X7_404_X7_manHums rfl hP hD hS perm_nil 0 7 rfl rfl rfl hl.1 rfl rfl (Nat.le_of_ble_eq_true rfl) dX7_humsAct_87 ⟨Nat.zero_le _, Nat.zero_le _⟩ (fun r27 w H locs hw hP hD hS => ?_)
        obtain ⟨e1, e2⟩ := hw
        replace e1 : r27 = r27q := e1
        subst e1
        subst e2
        replace hP : va_P D vwCl (Mw h q cA fi_28 fs ga_29 gs pl it asd) H := hP.nil
        replace hD : va_D A (Mw h q cA fi_28 fs ga_29 gs pl it asd) := hD.nil
        rw [hQ]
        exact ret_i C0 hP hD hS (by have e := Option.some.inj hf; rw [← e]; exact ⟨rfl, rfl⟩) dX7_humsAct_90
-- manTells
noncomputable def k_X7_manTells (a1 : Int32) (a2 : Int32) (fi0 : Nat → Int32) (ga0 : Nat → Nat → Int32) : Option (Int32 × (Nat → Int32) × (Nat → Nat → Int32)) := b2 (k_X7_body 12 fi0 ga0) (fun fi_1 ga_2 => b3 (k_X7_humsAct a1 a2 fi_1 ga_2) (fun r4 fi_5 ga_6 => some ((r4 * 2), fi_5, ga_6)))
set_option maxHeartbeats 4000000 in
set_option maxRecDepth 100000 in
theorem c_X7_manTells {l : Launch} {D : va_G} {cA : Nat → ClassId} (h : Nat) (q : Nat → Nat) (fi0 : Nat → Int32) (fs : Nat → Int32) (ga0 : Nat → Nat → Int32) (gs : Nat → Nat → Int32) (pl : Nat → Int32) (it : Nat → Int64) (asd : Nat → Int64) (a1 : Int32) (a2 : Int32) (o : Int32 × (Nat → Int32) × (Nat → Nat → Int32)) (hf : k_X7_manTells a1 a2 fi0 ga0 = some o) : CI l D cA yX7_manTells cX7_manTells 3 (some .int) 6 132 [.ref h, .int a1, .int a2] (Mw h q cA fi0 fs ga0 gs pl it asd) 0 0 (fun r w => r = o.1 ∧ w = (Mw h q cA o.2.1 fs o.2.2 gs pl it asd)) := by
  intro sz
  refine met_start (by decide) rfl ?_
  intro p e s m args below meth c ls hsz hargs C0 hname hP hD hS hl
  generalize hAe : va_A (Mw h q cA fi0 fs ga0 gs pl it asd) sz = A at C0 hD hS ⊢
  obtain ⟨hx, hb, hr, hml, hown, hts, hlk, hK, hA⟩ := id C0
  replace hl : lv_has ls 3 [(0, .ref h), (1, .int a1), (2, .int a2)] := hl
  obtain ⟨Q, hQ⟩ : ∃ Q : State → Prop, Q = QI below D A (fun r w => r = o.1 ∧ w = (Mw h q cA o.2.1 fs o.2.2 gs pl it asd)) args s 0 0 := ⟨_, rfl⟩
  refine cast (by rw [hQ]) (?_ : W p l e (RMx 6 132 0 0) s m args below meth c s.heap [] 0 0 Q (F0 m 0 ls []))
  unfold k_X7_manTells at hf
  refine lv_aload_n hx hb dX7_manTells_0 rfl (lv_at hl 0 rfl) ?_
  refine lv_bipush (v := 12) hx hb dX7_manTells_1 (by decide) ?_
  obtain ⟨fi_1, ga_2, hq3, hf⟩ := b2_of hf
  refine callVV (As := [.int 12]) (rest := []) (wr := []) C0 (c_X7_body h q fi0 fs ga0 gs pl it asd 12 _ hq3) lk_X7_395_X7_body rfl hP hD hS perm_nil 0 7 rfl rfl rfl hl.1 rfl rfl (Nat.le_of_ble_eq_true rfl) dX7_manTells_3 ⟨Nat.zero_le _, Nat.zero_le _⟩ (fun w H locs hw hP hD hS => ?_)
  have e2 := hw
  subst e2
  replace hP : va_P D vwCl (Mw h q cA fi_1 fs ga_2 gs pl it asd) H := hP.nil
  replace hD : va_D A (Mw h q cA fi_1 fs ga_2 gs pl it asd) := hD.nil
  refine lv_aload_n hx hb dX7_manTells_6 rfl (lv_at hl 0 rfl) ?_
  refine lv_iload_n hx hb dX7_manTells_7 rfl (lv_at hl 1 rfl) ?_
  refine lv_iload_n hx hb dX7_manTells_8 rfl (lv_at hl 2 rfl) ?_
  obtain ⟨r4q, fi_5, ga_6, hq7, hf⟩ := b3_of hf
  refine callVI (As := [.int a1, .int a2]) (rest := []) (wr := []) C0 (c_X7_humsAct h q fi_1 fs ga_2 gs pl it asd a1 a2 _ hq7) lk_X7_410_X7_humsAct rfl hP hD hS perm_nil 0 7 rfl rfl rfl hl.1 rfl rfl (Nat.le_of_ble_eq_true rfl) dX7_manTells_9 ⟨Nat.zero_le _, Nat.zero_le _⟩ (fun r4 w H locs hw hP hD hS => ?_)
  obtain ⟨e1, e2⟩ := hw
  replace e1 : r4 = r4q := e1
  subst e1
  subst e2
  replace hP : va_P D vwCl (Mw h q cA fi_5 fs ga_6 gs pl it asd) H := hP.nil
  replace hD : va_D A (Mw h q cA fi_5 fs ga_6 gs pl it asd) := hD.nil
  refine lv_iconst (v := 2) hx hb dX7_manTells_12 (by decide) ?_
  refine lv_imul hx hb dX7_manTells_13 ?_
  rw [hQ]
  exact ret_i C0 hP hD hS (by have e := Option.some.inj hf; rw [← e]; exact ⟨rfl, rfl⟩) dX7_manTells_14
-- tellsAct
noncomputable def k_X7_tellsAct (a1 : Int32) (a2 : Int32) (fi0 : Nat → Int32) (ga0 : Nat → Nat → Int32) : Option (Int32 × (Nat → Int32) × (Nat → Nat → Int32)) := gd a1 6 (if ((ga0 6) (Int32.toNatClampNeg a1)) = 3 then b2 (k_X7_body 40 fi0 ga0) (fun fi_3 ga_4 => b3 (k_X7_manTells a1 a2 fi_3 ga_4) (fun r6 fi_7 ga_8 => b3 (k_X7_humsAct a1 1 fi_7 ga_8) (fun r10 fi_11 ga_12 => some ((r6 + r10), fi_11, ga_12)))) else if ((ga0 6) (Int32.toNatClampNeg a1)) = 4 then b3 (k_X7_manTells a1 a2 fi0 ga0) (fun r15 fi_16 ga_17 => some (r15, fi_16, ga_17)) else if ((ga0 6) (Int32.toNatClampNeg a1)) = 5 then b2 (k_X7_body 60 fi0 ga0) (fun fi_20 ga_21 => b3 (k_X7_manTells a1 (a2 - a1) fi_20 ga_21) (fun r23 fi_24 ga_25 => some (r23, fi_24, ga_25))) else if ((ga0 6) (Int32.toNatClampNeg a1)) = 6 then b2 (k_X7_body 40 fi0 ga0) (fun fi_28 ga_29 => b3 (k_X7_manTells a1 a2 fi_28 ga_29) (fun r31 fi_32 ga_33 => b3 (k_X7_humsAct a1 1 fi_32 ga_33) (fun r35 fi_36 ga_37 => some ((r31 + r35), fi_36, ga_37)))) else b3 (k_X7_manTells a1 a2 fi0 ga0) (fun r39 fi_40 ga_41 => some (r39, fi_40, ga_41)))
set_option maxHeartbeats 4000000 in
set_option maxRecDepth 100000 in
theorem c_X7_tellsAct {l : Launch} {D : va_G} {cA : Nat → ClassId} (h : Nat) (q : Nat → Nat) (fi0 : Nat → Int32) (fs : Nat → Int32) (ga0 : Nat → Nat → Int32) (gs : Nat → Nat → Int32) (pl : Nat → Int32) (it : Nat → Int64) (asd : Nat → Int64) (a1 : Int32) (a2 : Int32) (o : Int32 × (Nat → Int32) × (Nat → Nat → Int32)) (hf : k_X7_tellsAct a1 a2 fi0 ga0 = some o) : CI l D cA yX7_tellsAct cX7_tellsAct 4 (some .int) 7 154 [.ref h, .int a1, .int a2] (Mw h q cA fi0 fs ga0 gs pl it asd) 0 0 (fun r w => r = o.1 ∧ w = (Mw h q cA o.2.1 fs o.2.2 gs pl it asd)) := by
  intro sz
  refine met_start (by decide) rfl ?_
  intro p e s m args below meth c ls hsz hargs C0 hname hP hD hS hl
  generalize hAe : va_A (Mw h q cA fi0 fs ga0 gs pl it asd) sz = A at C0 hD hS ⊢
  obtain ⟨hx, hb, hr, hml, hown, hts, hlk, hK, hA⟩ := id C0
  replace hl : lv_has ls 4 [(0, .ref h), (1, .int a1), (2, .int a2)] := hl
  obtain ⟨Q, hQ⟩ : ∃ Q : State → Prop, Q = QI below D A (fun r w => r = o.1 ∧ w = (Mw h q cA o.2.1 fs o.2.2 gs pl it asd)) args s 0 0 := ⟨_, rfl⟩
  refine cast (by rw [hQ]) (?_ : W p l e (RMx 7 154 0 0) s m args below meth c s.heap [] 0 0 Q (F0 m 0 ls []))
  unfold k_X7_tellsAct at hf
  refine lv_aload_n hx hb dX7_tellsAct_0 rfl (lv_at hl 0 rfl) ?_
  refine va_get (D := D) (ci := 7) (v := .ref (q 6)) (C := RX7) (T := TX7) (N := 73) hx hb hts fw_7 hown hK hP 0 rfl rfl 6 (by decide) (hts _ m_fieldLink_M_28_M_kind_aI) (fun _ h9 => h9) rfl dX7_tellsAct_1 ?_
  refine lv_iload_n hx hb dX7_tellsAct_4 rfl (lv_at hl 1 rfl) ?_
  obtain ⟨hi1, hf⟩ := gd_of hf
  refine va_iald hx hb hK hP 1 0 rfl rfl hi1 dX7_tellsAct_5 ?_
  by_cases c2 : ((ga0 6) (Int32.toNatClampNeg a1)) = 3
  · replace hf := it_of c2 hf
    refine lv_tableIn (off := 30) (tgt := 36) hx hb dX7_tellsAct_6 (by rw [c2]; decide) (by rw [c2]; decide) (by rw [c2]; decide) (by decide) ?_
    refine lv_aload_n hx hb dX7_tellsAct_36 rfl (lv_at hl 0 rfl) ?_
    refine lv_bipush (v := 40) hx hb dX7_tellsAct_37 (by decide) ?_
    obtain ⟨fi_3, ga_4, hq5, hf⟩ := b2_of hf
    refine callVV (As := [.int 40]) (rest := []) (wr := []) C0 (c_X7_body h q fi0 fs ga0 gs pl it asd 40 _ hq5) lk_X7_395_X7_body rfl hP hD hS perm_nil 0 7 rfl rfl rfl hl.1 rfl rfl (Nat.le_of_ble_eq_true rfl) dX7_tellsAct_39 ⟨Nat.zero_le _, Nat.zero_le _⟩ (fun w H locs hw hP hD hS => ?_)
    have e2 := hw
    subst e2
    replace hP : va_P D vwCl (Mw h q cA fi_3 fs ga_4 gs pl it asd) H := hP.nil
    replace hD : va_D A (Mw h q cA fi_3 fs ga_4 gs pl it asd) := hD.nil
    refine lv_aload_n hx hb dX7_tellsAct_42 rfl (lv_at hl 0 rfl) ?_
    refine lv_iload_n hx hb dX7_tellsAct_43 rfl (lv_at hl 1 rfl) ?_
    refine lv_iload_n hx hb dX7_tellsAct_44 rfl (lv_at hl 2 rfl) ?_
    obtain ⟨r6q, fi_7, ga_8, hq9, hf⟩ := b3_of hf
    refine callVI (As := [.int a1, .int a2]) (rest := []) (wr := []) C0 (c_X7_manTells h q fi_3 fs ga_4 gs pl it asd a1 a2 _ hq9) lk_X7_413_X7_manTells rfl hP hD hS perm_nil 0 7 rfl rfl rfl hl.1 rfl rfl (Nat.le_of_ble_eq_true rfl) dX7_tellsAct_45 ⟨Nat.zero_le _, Nat.zero_le _⟩ (fun r6 w H locs hw hP hD hS => ?_)
    obtain ⟨e1, e2⟩ := hw
    replace e1 : r6 = r6q := e1
    subst e1
    subst e2
    replace hP : va_P D vwCl (Mw h q cA fi_7 fs ga_8 gs pl it asd) H := hP.nil
    replace hD : va_D A (Mw h q cA fi_7 fs ga_8 gs pl it asd) := hD.nil
    refine lv_istore_n (lv' := [(3, .int r6), (0, .ref h), (1, .int a1), (2, .int a2)]) hx hb dX7_tellsAct_48 rfl hl (by decide) rfl (fun ls hl => ?_)
    refine lv_iload_n hx hb dX7_tellsAct_49 rfl (lv_at hl 0 rfl) ?_
    refine lv_aload_n hx hb dX7_tellsAct_50 rfl (lv_at hl 1 rfl) ?_
    refine lv_iload_n hx hb dX7_tellsAct_51 rfl (lv_at hl 2 rfl) ?_
    refine lv_iconst (v := 1) hx hb dX7_tellsAct_52 (by decide) ?_
    obtain ⟨r10q, fi_11, ga_12, hq13, hf⟩ := b3_of hf
    refine callVI (As := [.int a1, .int 1]) (rest := [.int r6]) (wr := []) C0 (c_X7_humsAct h q fi_7 fs ga_8 gs pl it asd a1 1 _ hq13) lk_X7_410_X7_humsAct rfl hP hD hS perm_nil 0 7 rfl rfl rfl hl.1 rfl rfl (Nat.le_of_ble_eq_true rfl) dX7_tellsAct_53 ⟨Nat.zero_le _, Nat.zero_le _⟩ (fun r10 w H locs hw hP hD hS => ?_)
    obtain ⟨e1, e2⟩ := hw
    replace e1 : r10 = r10q := e1
    subst e1
    subst e2
    replace hP : va_P D vwCl (Mw h q cA fi_11 fs ga_12 gs pl it asd) H := hP.nil
    replace hD : va_D A (Mw h q cA fi_11 fs ga_12 gs pl it asd) := hD.nil
    refine lv_iadd hx hb dX7_tellsAct_56 ?_
    rw [hQ]
    exact ret_i C0 hP hD hS (by have e := Option.some.inj hf; rw [← e]; exact ⟨rfl, rfl⟩) dX7_tellsAct_57
  · replace hf := ie_of c2 hf
    by_cases c14 : ((ga0 6) (Int32.toNatClampNeg a1)) = 4
    · replace hf := it_of c14 hf
      refine lv_tableIn (off := 67) (tgt := 73) hx hb dX7_tellsAct_6 (by rw [c14]; decide) (by rw [c14]; decide) (by rw [c14]; decide) (by decide) ?_
      refine lv_aload_n hx hb dX7_tellsAct_73 rfl (lv_at hl 0 rfl) ?_
      refine lv_iload_n hx hb dX7_tellsAct_74 rfl (lv_at hl 1 rfl) ?_
      refine lv_iload_n hx hb dX7_tellsAct_75 rfl (lv_at hl 2 rfl) ?_
      obtain ⟨r15q, fi_16, ga_17, hq18, hf⟩ := b3_of hf
      refine callVI (As := [.int a1, .int a2]) (rest := []) (wr := []) C0 (c_X7_manTells h q fi0 fs ga0 gs pl it asd a1 a2 _ hq18) lk_X7_413_X7_manTells rfl hP hD hS perm_nil 0 7 rfl rfl rfl hl.1 rfl rfl (Nat.le_of_ble_eq_true rfl) dX7_tellsAct_76 ⟨Nat.zero_le _, Nat.zero_le _⟩ (fun r15 w H locs hw hP hD hS => ?_)
      obtain ⟨e1, e2⟩ := hw
      replace e1 : r15 = r15q := e1
      subst e1
      subst e2
      replace hP : va_P D vwCl (Mw h q cA fi_16 fs ga_17 gs pl it asd) H := hP.nil
      replace hD : va_D A (Mw h q cA fi_16 fs ga_17 gs pl it asd) := hD.nil
      rw [hQ]
      exact ret_i C0 hP hD hS (by have e := Option.some.inj hf; rw [← e]; exact ⟨rfl, rfl⟩) dX7_tellsAct_79
    · replace hf := ie_of c14 hf
      by_cases c19 : ((ga0 6) (Int32.toNatClampNeg a1)) = 5
      · replace hf := it_of c19 hf
        refine lv_tableIn (off := 52) (tgt := 58) hx hb dX7_tellsAct_6 (by rw [c19]; decide) (by rw [c19]; decide) (by rw [c19]; decide) (by decide) ?_
        refine lv_aload_n hx hb dX7_tellsAct_58 rfl (lv_at hl 0 rfl) ?_
        refine lv_bipush (v := 60) hx hb dX7_tellsAct_59 (by decide) ?_
        obtain ⟨fi_20, ga_21, hq22, hf⟩ := b2_of hf
        refine callVV (As := [.int 60]) (rest := []) (wr := []) C0 (c_X7_body h q fi0 fs ga0 gs pl it asd 60 _ hq22) lk_X7_395_X7_body rfl hP hD hS perm_nil 0 7 rfl rfl rfl hl.1 rfl rfl (Nat.le_of_ble_eq_true rfl) dX7_tellsAct_61 ⟨Nat.zero_le _, Nat.zero_le _⟩ (fun w H locs hw hP hD hS => ?_)
        have e2 := hw
        subst e2
        replace hP : va_P D vwCl (Mw h q cA fi_20 fs ga_21 gs pl it asd) H := hP.nil
        replace hD : va_D A (Mw h q cA fi_20 fs ga_21 gs pl it asd) := hD.nil
        refine lv_aload_n hx hb dX7_tellsAct_64 rfl (lv_at hl 0 rfl) ?_
        refine lv_iload_n hx hb dX7_tellsAct_65 rfl (lv_at hl 1 rfl) ?_
        refine lv_iload_n hx hb dX7_tellsAct_66 rfl (lv_at hl 2 rfl) ?_
        refine lv_iload_n hx hb dX7_tellsAct_67 rfl (lv_at hl 1 rfl) ?_
        refine lv_isub hx hb dX7_tellsAct_68 ?_
        obtain ⟨r23q, fi_24, ga_25, hq26, hf⟩ := b3_of hf
        refine callVI (As := [.int a1, .int (a2 - a1)]) (rest := []) (wr := []) C0 (c_X7_manTells h q fi_20 fs ga_21 gs pl it asd a1 (a2 - a1) _ hq26) lk_X7_413_X7_manTells rfl hP hD hS perm_nil 0 7 rfl rfl rfl hl.1 rfl rfl (Nat.le_of_ble_eq_true rfl) dX7_tellsAct_69 ⟨Nat.zero_le _, Nat.zero_le _⟩ (fun r23 w H locs hw hP hD hS => ?_)
        obtain ⟨e1, e2⟩ := hw
        replace e1 : r23 = r23q := e1
        subst e1
        subst e2
        replace hP : va_P D vwCl (Mw h q cA fi_24 fs ga_25 gs pl it asd) H := hP.nil
        replace hD : va_D A (Mw h q cA fi_24 fs ga_25 gs pl it asd) := hD.nil
        rw [hQ]
        exact ret_i C0 hP hD hS (by have e := Option.some.inj hf; rw [← e]; exact ⟨rfl, rfl⟩) dX7_tellsAct_72
      · replace hf := ie_of c19 hf
        by_cases c27 : ((ga0 6) (Int32.toNatClampNeg a1)) = 6
        · replace hf := it_of c27 hf
          refine lv_tableIn (off := 30) (tgt := 36) hx hb dX7_tellsAct_6 (by rw [c27]; decide) (by rw [c27]; decide) (by rw [c27]; decide) (by decide) ?_
          refine lv_aload_n hx hb dX7_tellsAct_36 rfl (lv_at hl 0 rfl) ?_
          refine lv_bipush (v := 40) hx hb dX7_tellsAct_37 (by decide) ?_
          obtain ⟨fi_28, ga_29, hq30, hf⟩ := b2_of hf
          refine callVV (As := [.int 40]) (rest := []) (wr := []) C0 (c_X7_body h q fi0 fs ga0 gs pl it asd 40 _ hq30) lk_X7_395_X7_body rfl hP hD hS perm_nil 0 7 rfl rfl rfl hl.1 rfl rfl (Nat.le_of_ble_eq_true rfl) dX7_tellsAct_39 ⟨Nat.zero_le _, Nat.zero_le _⟩ (fun w H locs hw hP hD hS => ?_)
          have e2 := hw
          subst e2
          replace hP : va_P D vwCl (Mw h q cA fi_28 fs ga_29 gs pl it asd) H := hP.nil
          replace hD : va_D A (Mw h q cA fi_28 fs ga_29 gs pl it asd) := hD.nil
          refine lv_aload_n hx hb dX7_tellsAct_42 rfl (lv_at hl 0 rfl) ?_
          refine lv_iload_n hx hb dX7_tellsAct_43 rfl (lv_at hl 1 rfl) ?_
          refine lv_iload_n hx hb dX7_tellsAct_44 rfl (lv_at hl 2 rfl) ?_
          obtain ⟨r31q, fi_32, ga_33, hq34, hf⟩ := b3_of hf
          refine callVI (As := [.int a1, .int a2]) (rest := []) (wr := []) C0 (c_X7_manTells h q fi_28 fs ga_29 gs pl it asd a1 a2 _ hq34) lk_X7_413_X7_manTells rfl hP hD hS perm_nil 0 7 rfl rfl rfl hl.1 rfl rfl (Nat.le_of_ble_eq_true rfl) dX7_tellsAct_45 ⟨Nat.zero_le _, Nat.zero_le _⟩ (fun r31 w H locs hw hP hD hS => ?_)
          obtain ⟨e1, e2⟩ := hw
          replace e1 : r31 = r31q := e1
          subst e1
          subst e2
          replace hP : va_P D vwCl (Mw h q cA fi_32 fs ga_33 gs pl it asd) H := hP.nil
          replace hD : va_D A (Mw h q cA fi_32 fs ga_33 gs pl it asd) := hD.nil
          refine lv_istore_n (lv' := [(3, .int r31), (0, .ref h), (1, .int a1), (2, .int a2)]) hx hb dX7_tellsAct_48 rfl hl (by decide) rfl (fun ls hl => ?_)
          refine lv_iload_n hx hb dX7_tellsAct_49 rfl (lv_at hl 0 rfl) ?_
          refine lv_aload_n hx hb dX7_tellsAct_50 rfl (lv_at hl 1 rfl) ?_
          refine lv_iload_n hx hb dX7_tellsAct_51 rfl (lv_at hl 2 rfl) ?_
          refine lv_iconst (v := 1) hx hb dX7_tellsAct_52 (by decide) ?_
          obtain ⟨r35q, fi_36, ga_37, hq38, hf⟩ := b3_of hf
          refine callVI (As := [.int a1, .int 1]) (rest := [.int r31]) (wr := []) C0 (c_X7_humsAct h q fi_32 fs ga_33 gs pl it asd a1 1 _ hq38) lk_X7_410_X7_humsAct rfl hP hD hS perm_nil 0 7 rfl rfl rfl hl.1 rfl rfl (Nat.le_of_ble_eq_true rfl) dX7_tellsAct_53 ⟨Nat.zero_le _, Nat.zero_le _⟩ (fun r35 w H locs hw hP hD hS => ?_)
          obtain ⟨e1, e2⟩ := hw
          replace e1 : r35 = r35q := e1
          subst e1
          subst e2
          replace hP : va_P D vwCl (Mw h q cA fi_36 fs ga_37 gs pl it asd) H := hP.nil
          replace hD : va_D A (Mw h q cA fi_36 fs ga_37 gs pl it asd) := hD.nil
          refine lv_iadd hx hb dX7_tellsAct_56 ?_
          rw [hQ]
          exact ret_i C0 hP hD hS (by have e := Option.some.inj hf; rw [← e]; exact ⟨rfl, rfl⟩) dX7_tellsAct_57
        · replace hf := ie_of c27 hf
          refine lv_tableOut (tgt := 73) hx hb dX7_tellsAct_6 (by have := lv_neT c2 (a := 3) (by decide); have := lv_neT c14 (a := 4) (by decide); have := lv_neT c19 (a := 5) (by decide); have := lv_neT c27 (a := 6) (by decide); omega) (by decide) ?_
          refine lv_aload_n hx hb dX7_tellsAct_73 rfl (lv_at hl 0 rfl) ?_
          refine lv_iload_n hx hb dX7_tellsAct_74 rfl (lv_at hl 1 rfl) ?_
          refine lv_iload_n hx hb dX7_tellsAct_75 rfl (lv_at hl 2 rfl) ?_
          obtain ⟨r39q, fi_40, ga_41, hq42, hf⟩ := b3_of hf
          refine callVI (As := [.int a1, .int a2]) (rest := []) (wr := []) C0 (c_X7_manTells h q fi0 fs ga0 gs pl it asd a1 a2 _ hq42) lk_X7_413_X7_manTells rfl hP hD hS perm_nil 0 7 rfl rfl rfl hl.1 rfl rfl (Nat.le_of_ble_eq_true rfl) dX7_tellsAct_76 ⟨Nat.zero_le _, Nat.zero_le _⟩ (fun r39 w H locs hw hP hD hS => ?_)
          obtain ⟨e1, e2⟩ := hw
          replace e1 : r39 = r39q := e1
          subst e1
          subst e2
          replace hP : va_P D vwCl (Mw h q cA fi_40 fs ga_41 gs pl it asd) H := hP.nil
          replace hD : va_D A (Mw h q cA fi_40 fs ga_41 gs pl it asd) := hD.nil
          rw [hQ]
          exact ret_i C0 hP hD hS (by have e := Option.some.inj hf; rw [← e]; exact ⟨rfl, rfl⟩) dX7_tellsAct_79
-- act
noncomputable def k_X7_act (a1 : Int32) (a2 : Int32) (a3 : Int32) (fi0 : Nat → Int32) (ga0 : Nat → Nat → Int32) : Option (Int32 × (Nat → Int32) × (Nat → Nat → Int32)) := b1 (k_X7_isMan a1 (upd fi0 67 0)) (fun r1 => if r1 = 0 then some (0, (upd fi0 67 0), ga0) else b1 (k_X7_in a2 0 2) (fun r5 => if r5 = 0 then some (0, (upd fi0 67 0), ga0) else if a2 = 0 then b3 (k_X7_rollsAct a1 a3 (upd fi0 67 0) ga0) (fun r19 fi_20 ga_21 => some (r19, fi_20, ga_21)) else if a2 = 1 then b3 (k_X7_humsAct a1 a3 (upd fi0 67 0) ga0) (fun r15 fi_16 ga_17 => some (r15, fi_16, ga_17)) else b3 (k_X7_tellsAct a1 a3 (upd fi0 67 0) ga0) (fun r11 fi_12 ga_13 => some (r11, fi_12, ga_13))))
set_option maxHeartbeats 4000000 in
set_option maxRecDepth 100000 in
theorem c_X7_act {l : Launch} {D : va_G} {cA : Nat → ClassId} (h : Nat) (q : Nat → Nat) (fi0 : Nat → Int32) (fs : Nat → Int32) (ga0 : Nat → Nat → Int32) (gs : Nat → Nat → Int32) (pl : Nat → Int32) (it : Nat → Int64) (asd : Nat → Int64) (a1 : Int32) (a2 : Int32) (a3 : Int32) (o : Int32 × (Nat → Int32) × (Nat → Nat → Int32)) (hf : k_X7_act a1 a2 a3 fi0 ga0 = some o) : CI l D cA yX7_act cX7_act 4 (some .int) 8 177 [.ref h, .int a1, .int a2, .int a3] (Mw h q cA fi0 fs ga0 gs pl it asd) 0 0 (fun r w => r = o.1 ∧ w = (Mw h q cA o.2.1 fs o.2.2 gs pl it asd)) := by
  intro sz
  refine met_start (by decide) rfl ?_
  intro p e s m args below meth c ls hsz hargs C0 hname hP hD hS hl
  generalize hAe : va_A (Mw h q cA fi0 fs ga0 gs pl it asd) sz = A at C0 hD hS ⊢
  obtain ⟨hx, hb, hr, hml, hown, hts, hlk, hK, hA⟩ := id C0
  replace hl : lv_has ls 4 [(0, .ref h), (1, .int a1), (2, .int a2), (3, .int a3)] := hl
  obtain ⟨Q, hQ⟩ : ∃ Q : State → Prop, Q = QI below D A (fun r w => r = o.1 ∧ w = (Mw h q cA o.2.1 fs o.2.2 gs pl it asd)) args s 0 0 := ⟨_, rfl⟩
  refine cast (by rw [hQ]) (?_ : W p l e (RMx 8 177 0 0) s m args below meth c s.heap [] 0 0 Q (F0 m 0 ls []))
  unfold k_X7_act at hf
  refine lv_aload_n hx hb dX7_act_0 rfl (lv_at hl 0 rfl) ?_
  refine lv_iconst (v := 0) hx hb dX7_act_1 (by decide) ?_
  refine va_put (D := D) (ci := 7) (v := .int 0) (ty := .int) (C := RX7) (T := TX7) (N := 73) hx hb hts fw_7 tyX7 tyX7_ok nmX7 hown hK hP hD hS 0 rfl rfl 67 (by decide) (hts _ m_fieldLink_M_214_M_ran_I) (fun _ h9 => h9) rfl (by decide +kernel) rfl rfl (Nat.le_of_ble_eq_true rfl) dX7_act_2 (fun H locs hP hD hS => ?_)
  replace hP : va_P D vwCl (Mw h q cA (upd fi0 67 0) fs ga0 gs pl it asd) H := hP
  replace hD : va_D A (Mw h q cA (upd fi0 67 0) fs ga0 gs pl it asd) := hD
  refine lv_aload_n hx hb dX7_act_5 rfl (lv_at hl 0 rfl) ?_
  refine lv_iload_n hx hb dX7_act_6 rfl (lv_at hl 1 rfl) ?_
  obtain ⟨r1q, hq2, hf⟩ := b1_of hf
  refine callVI (As := [.int a1]) (rest := []) (wr := []) C0 (c_X7_isMan h q (upd fi0 67 0) fs ga0 gs pl it asd a1 _ hq2) lk_X7_245_X7_isMan rfl hP hD hS perm_nil 0 7 rfl rfl rfl hl.1 rfl rfl (Nat.le_of_ble_eq_true rfl) dX7_act_7 ⟨Nat.zero_le _, Nat.zero_le _⟩ (fun r1 w H locs hw hP hD hS => ?_)
  obtain ⟨⟨e1, e2⟩, z3⟩ := hw
  replace e1 : r1 = r1q := e1
  subst e1
  subst e2
  replace hP : va_P D vwCl (Mw h q cA (upd fi0 67 0) fs ga0 gs pl it asd) H := hP.nil
  replace hD : va_D A (Mw h q cA (upd fi0 67 0) fs ga0 gs pl it asd) := hD.nil
  refine lv_if_eq (tgt := 23) hx hb dX7_act_10 (by decide) (fun c4 => ?_) (fun c4 => ?_)
  · replace hf := it_of c4 hf
    refine lv_iconst (v := 0) hx hb dX7_act_23 (by decide) ?_
    rw [hQ]
    exact ret_i C0 hP hD hS (by have e := Option.some.inj hf; rw [← e]; exact ⟨rfl, rfl⟩) dX7_act_24
  · replace hf := ie_of c4 hf
    refine lv_aload_n hx hb dX7_act_13 rfl (lv_at hl 0 rfl) ?_
    refine lv_iload_n hx hb dX7_act_14 rfl (lv_at hl 2 rfl) ?_
    refine lv_iconst (v := 0) hx hb dX7_act_15 (by decide) ?_
    refine lv_iconst (v := 2) hx hb dX7_act_16 (by decide) ?_
    obtain ⟨r5q, hq6, hf⟩ := b1_of hf
    refine callVI (As := [.int a2, .int 0, .int 2]) (rest := []) (wr := (Mw h q cA (upd fi0 67 0) fs ga0 gs pl it asd)) C0 (c_X7_in h a2 0 2 _ hq6) lk_X7_237_X7_in rfl hP hD hS (List.Perm.refl _) 0 7 rfl rfl rfl hl.1 rfl rfl (Nat.le_of_ble_eq_true rfl) dX7_act_17 ⟨Nat.zero_le _, Nat.zero_le _⟩ (fun r5 w H locs hw hP hD hS => ?_)
    obtain ⟨⟨e1, e2⟩, z7⟩ := hw
    replace e1 : r5 = r5q := e1
    subst e1
    subst e2
    replace hP : va_P D vwCl (Mw h q cA (upd fi0 67 0) fs ga0 gs pl it asd) H := hP
    replace hD : va_D A (Mw h q cA (upd fi0 67 0) fs ga0 gs pl it asd) := hD
    refine lv_if_ne (tgt := 25) hx hb dX7_act_20 (by decide) (fun c8 => ?_) (fun c8 => ?_)
    · replace hf := ie_of c8 hf
      refine lv_iload_n hx hb dX7_act_25 rfl (lv_at hl 2 rfl) ?_
      refine lv_if_ne (tgt := 38) hx hb dX7_act_26 (by decide) (fun c9 => ?_) (fun c9 => ?_)
      · replace hf := ie_of c9 hf
        refine lv_iload_n hx hb dX7_act_38 rfl (lv_at hl 2 rfl) ?_
        refine lv_iconst (v := 1) hx hb dX7_act_39 (by decide) ?_
        refine lv_icmp_ne (tgt := 52) hx hb dX7_act_40 (by decide) (fun c10 => ?_) (fun c10 => ?_)
        · replace hf := ie_of c10 hf
          refine lv_aload_n hx hb dX7_act_52 rfl (lv_at hl 0 rfl) ?_
          refine lv_iload_n hx hb dX7_act_53 rfl (lv_at hl 1 rfl) ?_
          refine lv_iload_n hx hb dX7_act_54 rfl (lv_at hl 3 rfl) ?_
          obtain ⟨r11q, fi_12, ga_13, hq14, hf⟩ := b3_of hf
          refine callVI (As := [.int a1, .int a3]) (rest := []) (wr := []) C0 (c_X7_tellsAct h q (upd fi0 67 0) fs ga0 gs pl it asd a1 a3 _ hq14) lk_X7_416_X7_tellsAct rfl hP hD hS perm_nil 0 7 rfl rfl rfl hl.1 rfl rfl (Nat.le_of_ble_eq_true rfl) dX7_act_55 ⟨Nat.zero_le _, Nat.zero_le _⟩ (fun r11 w H locs hw hP hD hS => ?_)
          obtain ⟨e1, e2⟩ := hw
          replace e1 : r11 = r11q := e1
          subst e1
          subst e2
          replace hP : va_P D vwCl (Mw h q cA fi_12 fs ga_13 gs pl it asd) H := hP.nil
          replace hD : va_D A (Mw h q cA fi_12 fs ga_13 gs pl it asd) := hD.nil
          rw [hQ]
          exact ret_i C0 hP hD hS (by have e := Option.some.inj hf; rw [← e]; exact ⟨rfl, rfl⟩) dX7_act_58
        · replace hf := it_of c10 hf
          refine lv_aload_n hx hb dX7_act_43 rfl (lv_at hl 0 rfl) ?_
          refine lv_iload_n hx hb dX7_act_44 rfl (lv_at hl 1 rfl) ?_
          refine lv_iload_n hx hb dX7_act_45 rfl (lv_at hl 3 rfl) ?_
          obtain ⟨r15q, fi_16, ga_17, hq18, hf⟩ := b3_of hf
          refine callVI (As := [.int a1, .int a3]) (rest := []) (wr := []) C0 (c_X7_humsAct h q (upd fi0 67 0) fs ga0 gs pl it asd a1 a3 _ hq18) lk_X7_410_X7_humsAct rfl hP hD hS perm_nil 0 7 rfl rfl rfl hl.1 rfl rfl (Nat.le_of_ble_eq_true rfl) dX7_act_46 ⟨Nat.zero_le _, Nat.zero_le _⟩ (fun r15 w H locs hw hP hD hS => ?_)
          obtain ⟨e1, e2⟩ := hw
          replace e1 : r15 = r15q := e1
          subst e1
          subst e2
          replace hP : va_P D vwCl (Mw h q cA fi_16 fs ga_17 gs pl it asd) H := hP.nil
          replace hD : va_D A (Mw h q cA fi_16 fs ga_17 gs pl it asd) := hD.nil
          refine lv_goto (tgt := 58) hx hb dX7_act_49 (by decide) ?_
          rw [hQ]
          exact ret_i C0 hP hD hS (by have e := Option.some.inj hf; rw [← e]; exact ⟨rfl, rfl⟩) dX7_act_58
      · replace hf := it_of c9 hf
        refine lv_aload_n hx hb dX7_act_29 rfl (lv_at hl 0 rfl) ?_
        refine lv_iload_n hx hb dX7_act_30 rfl (lv_at hl 1 rfl) ?_
        refine lv_iload_n hx hb dX7_act_31 rfl (lv_at hl 3 rfl) ?_
        obtain ⟨r19q, fi_20, ga_21, hq22, hf⟩ := b3_of hf
        refine callVI (As := [.int a1, .int a3]) (rest := []) (wr := []) C0 (c_X7_rollsAct h q (upd fi0 67 0) fs ga0 gs pl it asd a1 a3 _ hq22) lk_X7_401_X7_rollsAct rfl hP hD hS perm_nil 0 7 rfl rfl rfl hl.1 rfl rfl (Nat.le_of_ble_eq_true rfl) dX7_act_32 ⟨Nat.zero_le _, Nat.zero_le _⟩ (fun r19 w H locs hw hP hD hS => ?_)
        obtain ⟨e1, e2⟩ := hw
        replace e1 : r19 = r19q := e1
        subst e1
        subst e2
        replace hP : va_P D vwCl (Mw h q cA fi_20 fs ga_21 gs pl it asd) H := hP.nil
        replace hD : va_D A (Mw h q cA fi_20 fs ga_21 gs pl it asd) := hD.nil
        refine lv_goto (tgt := 58) hx hb dX7_act_35 (by decide) ?_
        rw [hQ]
        exact ret_i C0 hP hD hS (by have e := Option.some.inj hf; rw [← e]; exact ⟨rfl, rfl⟩) dX7_act_58
    · replace hf := it_of c8 hf
      refine lv_iconst (v := 0) hx hb dX7_act_23 (by decide) ?_
      rw [hQ]
      exact ret_i C0 hP hD hS (by have e := Option.some.inj hf; rw [← e]; exact ⟨rfl, rfl⟩) dX7_act_24
-- trace
noncomputable def k_X7_trace (a1 : Int32) (fi : Nat → Int32) (ga : Nat → Nat → Int32) : Option Int32 := b1 (k_X7_in a1 0 19) (fun r1 => if r1 = 0 then some (-1) else if (fi 67) ≤ a1 then some (-1) else gd a1 20 (some ((ga 68) (Int32.toNatClampNeg a1))))
set_option maxHeartbeats 4000000 in
set_option maxRecDepth 100000 in
theorem c_X7_trace {l : Launch} {D : va_G} {cA : Nat → ClassId} (h : Nat) (q : Nat → Nat) (fi : Nat → Int32) (fs : Nat → Int32) (ga : Nat → Nat → Int32) (gs : Nat → Nat → Int32) (pl : Nat → Int32) (it : Nat → Int64) (asd : Nat → Int64) (a1 : Int32) (o : Int32) (hf : k_X7_trace a1 fi ga = some o) : CI l D cA yX7_trace cX7_trace 2 (some .int) 1 23 [.ref h, .int a1] (Mw h q cA fi fs ga gs pl it asd) 0 0 (fun r w => r = o ∧ w = (Mw h q cA fi fs ga gs pl it asd)) := by
  intro sz
  refine met_start (by decide) rfl ?_
  intro p e s m args below meth c ls hsz hargs C0 hname hP hD hS hl
  generalize hAe : va_A (Mw h q cA fi fs ga gs pl it asd) sz = A at C0 hD hS ⊢
  obtain ⟨hx, hb, hr, hml, hown, hts, hlk, hK, hA⟩ := id C0
  replace hl : lv_has ls 2 [(0, .ref h), (1, .int a1)] := hl
  obtain ⟨Q, hQ⟩ : ∃ Q : State → Prop, Q = QI below D A (fun r w => r = o ∧ w = (Mw h q cA fi fs ga gs pl it asd)) args s 0 0 := ⟨_, rfl⟩
  refine cast (by rw [hQ]) (?_ : W p l e (RMx 1 23 0 0) s m args below meth c s.heap [] 0 0 Q (F0 m 0 ls []))
  unfold k_X7_trace at hf
  refine lv_aload_n hx hb dX7_trace_0 rfl (lv_at hl 0 rfl) ?_
  refine lv_iload_n hx hb dX7_trace_1 rfl (lv_at hl 1 rfl) ?_
  refine lv_iconst (v := 0) hx hb dX7_trace_2 (by decide) ?_
  refine lv_bipush (v := 19) hx hb dX7_trace_3 (by decide) ?_
  obtain ⟨r1q, hq2, hf⟩ := b1_of hf
  refine callVI (As := [.int a1, .int 0, .int 19]) (rest := []) (wr := (Mw h q cA fi fs ga gs pl it asd)) C0 (c_X7_in h a1 0 19 _ hq2) lk_X7_237_X7_in rfl hP hD hS (List.Perm.refl _) 0 7 rfl rfl rfl hl.1 rfl rfl (Nat.le_of_ble_eq_true rfl) dX7_trace_5 ⟨Nat.zero_le _, Nat.zero_le _⟩ (fun r1 w H locs hw hP hD hS => ?_)
  obtain ⟨⟨e1, e2⟩, z3⟩ := hw
  replace e1 : r1 = r1q := e1
  subst e1
  subst e2
  replace hP : va_P D vwCl (Mw h q cA fi fs ga gs pl it asd) H := hP
  replace hD : va_D A (Mw h q cA fi fs ga gs pl it asd) := hD
  refine lv_if_eq (tgt := 28) hx hb dX7_trace_8 (by decide) (fun c4 => ?_) (fun c4 => ?_)
  · replace hf := it_of c4 hf
    refine lv_iconst (v := (-1)) hx hb dX7_trace_28 (by decide) ?_
    rw [hQ]
    exact ret_i C0 hP hD hS (by have e := Option.some.inj hf; rw [← e]; exact ⟨rfl, rfl⟩) dX7_trace_29
  · replace hf := ie_of c4 hf
    refine lv_iload_n hx hb dX7_trace_11 rfl (lv_at hl 1 rfl) ?_
    refine lv_aload_n hx hb dX7_trace_12 rfl (lv_at hl 0 rfl) ?_
    refine va_get (D := D) (ci := 7) (v := .int (fi 67)) (C := RX7) (T := TX7) (N := 73) hx hb hts fw_7 hown hK hP 0 rfl rfl 67 (by decide) (hts _ m_fieldLink_M_214_M_ran_I) (fun _ h9 => h9) rfl dX7_trace_13 ?_
    refine lv_icmp_ge (tgt := 28) hx hb dX7_trace_16 (by decide) (fun c5 => ?_) (fun c5 => ?_)
    · replace hf := it_of c5 hf
      refine lv_iconst (v := (-1)) hx hb dX7_trace_28 (by decide) ?_
      rw [hQ]
      exact ret_i C0 hP hD hS (by have e := Option.some.inj hf; rw [← e]; exact ⟨rfl, rfl⟩) dX7_trace_29
    · replace hf := ie_of c5 hf
      refine lv_aload_n hx hb dX7_trace_19 rfl (lv_at hl 0 rfl) ?_
      refine va_get (D := D) (ci := 7) (v := .ref (q 68)) (C := RX7) (T := TX7) (N := 73) hx hb hts fw_7 hown hK hP 0 rfl rfl 68 (by decide) (hts _ m_fieldLink_M_217_M_bodies_aI) (fun _ h9 => h9) rfl dX7_trace_20 ?_
      refine lv_iload_n hx hb dX7_trace_23 rfl (lv_at hl 1 rfl) ?_
      obtain ⟨hi6, hf⟩ := gd_of hf
      refine va_iald hx hb hK hP 34 0 rfl rfl hi6 dX7_trace_24 ?_
      refine lv_goto (tgt := 29) hx hb dX7_trace_25 (by decide) ?_
      rw [hQ]
      exact ret_i C0 hP hD hS (by have e := Option.some.inj hf; rw [← e]; exact ⟨rfl, rfl⟩) dX7_trace_29
-- taken
noncomputable def k_X7_taken_61 (a2 : Int32) (x3 : Int32) : Option Int32 := if a2 = 3 then if x3 = 6 then some x3 else some (-12) else some (-12)
noncomputable def k_X7_taken_51 (a2 : Int32) (x3 : Int32) : Option Int32 := if a2 = 2 then if x3 = 5 then some x3 else k_X7_taken_61 a2 x3 else k_X7_taken_61 a2 x3
noncomputable def k_X7_taken (a1 : Int32) (a2 : Int32) (fi : Nat → Int32) (ga : Nat → Nat → Int32) : Option Int32 := b1 (k_X7_in a2 0 6) (fun r1 => if r1 = 0 then some (-2) else b1 (k_X7_isMan a1 fi) (fun r5 => if r5 = 0 then some (-11) else gd a1 6 (if a2 = 0 then some ((ga 6) (Int32.toNatClampNeg a1)) else if ((ga 6) (Int32.toNatClampNeg a1)) = a2 then some ((ga 6) (Int32.toNatClampNeg a1)) else if a2 = 1 then if ((ga 6) (Int32.toNatClampNeg a1)) = 4 then some ((ga 6) (Int32.toNatClampNeg a1)) else k_X7_taken_51 a2 ((ga 6) (Int32.toNatClampNeg a1)) else k_X7_taken_51 a2 ((ga 6) (Int32.toNatClampNeg a1)))))
set_option maxHeartbeats 4000000 in
set_option maxRecDepth 100000 in
theorem c_X7_taken {l : Launch} {D : va_G} {cA : Nat → ClassId} (h : Nat) (q : Nat → Nat) (fi : Nat → Int32) (fs : Nat → Int32) (ga : Nat → Nat → Int32) (gs : Nat → Nat → Int32) (pl : Nat → Int32) (it : Nat → Int64) (asd : Nat → Int64) (a1 : Int32) (a2 : Int32) (o : Int32) (hf : k_X7_taken a1 a2 fi ga = some o) : CI l D cA yX7_taken cX7_taken 4 (some .int) 2 44 [.ref h, .int a1, .int a2] (Mw h q cA fi fs ga gs pl it asd) 0 0 (fun r w => r = o ∧ w = (Mw h q cA fi fs ga gs pl it asd)) := by
  intro sz
  refine met_start (by decide) rfl ?_
  intro p e s m args below meth c ls hsz hargs C0 hname hP hD hS hl
  generalize hAe : va_A (Mw h q cA fi fs ga gs pl it asd) sz = A at C0 hD hS ⊢
  obtain ⟨hx, hb, hr, hml, hown, hts, hlk, hK, hA⟩ := id C0
  replace hl : lv_has ls 4 [(0, .ref h), (1, .int a1), (2, .int a2)] := hl
  obtain ⟨Q, hQ⟩ : ∃ Q : State → Prop, Q = QI below D A (fun r w => r = o ∧ w = (Mw h q cA fi fs ga gs pl it asd)) args s 0 0 := ⟨_, rfl⟩
  refine cast (by rw [hQ]) (?_ : W p l e (RMx 2 44 0 0) s m args below meth c s.heap [] 0 0 Q (F0 m 0 ls []))
  have J61 : ∀ (x3 : Int32), k_X7_taken_61 a2 x3 = some o → ∀ (H : Heap) (locs : List Loc), va_P D vwCl (Mw h q cA fi fs ga gs pl it asd) H → va_D A (Mw h q cA fi fs ga gs pl it asd) → va_S A s.heap H locs → ∀ ls : Array Slot, lv_has ls 4 [(2, .int a2), (3, .int x3)] → W p l e (RMx 2 44 0 0) s m args below meth c H locs 0 0 Q (F0 m 61 ls []) := by
    intro  x3 hf H locs hP hD hS ls hl
    unfold k_X7_taken_61 at hf
    refine lv_iload_n hx hb dX7_taken_61 rfl (lv_at hl 0 rfl) ?_
    refine lv_iconst (v := 3) hx hb dX7_taken_62 (by decide) ?_
    refine lv_icmp_ne (tgt := 76) hx hb dX7_taken_63 (by decide) (fun c1 => ?_) (fun c1 => ?_)
    · replace hf := ie_of c1 hf
      refine lv_bipush (v := (-12)) hx hb dX7_taken_76 (by decide) ?_
      rw [hQ]
      exact ret_i C0 hP hD hS (by have e := Option.some.inj hf; rw [← e]; exact ⟨rfl, rfl⟩) dX7_taken_78
    · replace hf := it_of c1 hf
      refine lv_iload_n hx hb dX7_taken_66 rfl (lv_at hl 1 rfl) ?_
      refine lv_bipush (v := 6) hx hb dX7_taken_67 (by decide) ?_
      refine lv_icmp_ne (tgt := 76) hx hb dX7_taken_69 (by decide) (fun c2 => ?_) (fun c2 => ?_)
      · replace hf := ie_of c2 hf
        refine lv_bipush (v := (-12)) hx hb dX7_taken_76 (by decide) ?_
        rw [hQ]
        exact ret_i C0 hP hD hS (by have e := Option.some.inj hf; rw [← e]; exact ⟨rfl, rfl⟩) dX7_taken_78
      · replace hf := it_of c2 hf
        refine lv_iload_n hx hb dX7_taken_72 rfl (lv_at hl 1 rfl) ?_
        refine lv_goto (tgt := 78) hx hb dX7_taken_73 (by decide) ?_
        rw [hQ]
        exact ret_i C0 hP hD hS (by have e := Option.some.inj hf; rw [← e]; exact ⟨rfl, rfl⟩) dX7_taken_78
  have J51 : ∀ (x3 : Int32), k_X7_taken_51 a2 x3 = some o → ∀ (H : Heap) (locs : List Loc), va_P D vwCl (Mw h q cA fi fs ga gs pl it asd) H → va_D A (Mw h q cA fi fs ga gs pl it asd) → va_S A s.heap H locs → ∀ ls : Array Slot, lv_has ls 4 [(2, .int a2), (3, .int x3)] → W p l e (RMx 2 44 0 0) s m args below meth c H locs 0 0 Q (F0 m 51 ls []) := by
    intro  x3 hf H locs hP hD hS ls hl
    unfold k_X7_taken_51 at hf
    refine lv_iload_n hx hb dX7_taken_51 rfl (lv_at hl 0 rfl) ?_
    refine lv_iconst (v := 2) hx hb dX7_taken_52 (by decide) ?_
    refine lv_icmp_ne (tgt := 61) hx hb dX7_taken_53 (by decide) (fun c1 => ?_) (fun c1 => ?_)
    · replace hf := ie_of c1 hf
      exact J61 x3 hf _ _ hP hD hS _ (lv_sub hl [0, 1] rfl)
    · replace hf := it_of c1 hf
      refine lv_iload_n hx hb dX7_taken_56 rfl (lv_at hl 1 rfl) ?_
      refine lv_iconst (v := 5) hx hb dX7_taken_57 (by decide) ?_
      refine lv_icmp_eq (tgt := 72) hx hb dX7_taken_58 (by decide) (fun c2 => ?_) (fun c2 => ?_)
      · replace hf := it_of c2 hf
        refine lv_iload_n hx hb dX7_taken_72 rfl (lv_at hl 1 rfl) ?_
        refine lv_goto (tgt := 78) hx hb dX7_taken_73 (by decide) ?_
        rw [hQ]
        exact ret_i C0 hP hD hS (by have e := Option.some.inj hf; rw [← e]; exact ⟨rfl, rfl⟩) dX7_taken_78
      · replace hf := ie_of c2 hf
        exact J61 x3 hf _ _ hP hD hS _ (lv_sub hl [0, 1] rfl)
  unfold k_X7_taken at hf
  refine lv_aload_n hx hb dX7_taken_0 rfl (lv_at hl 0 rfl) ?_
  refine lv_iload_n hx hb dX7_taken_1 rfl (lv_at hl 2 rfl) ?_
  refine lv_iconst (v := 0) hx hb dX7_taken_2 (by decide) ?_
  refine lv_bipush (v := 6) hx hb dX7_taken_3 (by decide) ?_
  obtain ⟨r1q, hq2, hf⟩ := b1_of hf
  refine callVI (As := [.int a2, .int 0, .int 6]) (rest := []) (wr := (Mw h q cA fi fs ga gs pl it asd)) C0 (c_X7_in h a2 0 6 _ hq2) lk_X7_237_X7_in rfl hP hD hS (List.Perm.refl _) 0 7 rfl rfl rfl hl.1 rfl rfl (Nat.le_of_ble_eq_true rfl) dX7_taken_5 ⟨Nat.zero_le _, Nat.zero_le _⟩ (fun r1 w H locs hw hP hD hS => ?_)
  obtain ⟨⟨e1, e2⟩, z3⟩ := hw
  replace e1 : r1 = r1q := e1
  subst e1
  subst e2
  replace hP : va_P D vwCl (Mw h q cA fi fs ga gs pl it asd) H := hP
  replace hD : va_D A (Mw h q cA fi fs ga gs pl it asd) := hD
  refine lv_if_ne (tgt := 14) hx hb dX7_taken_8 (by decide) (fun c4 => ?_) (fun c4 => ?_)
  · replace hf := ie_of c4 hf
    refine lv_aload_n hx hb dX7_taken_14 rfl (lv_at hl 0 rfl) ?_
    refine lv_iload_n hx hb dX7_taken_15 rfl (lv_at hl 1 rfl) ?_
    obtain ⟨r5q, hq6, hf⟩ := b1_of hf
    refine callVI (As := [.int a1]) (rest := []) (wr := []) C0 (c_X7_isMan h q fi fs ga gs pl it asd a1 _ hq6) lk_X7_245_X7_isMan rfl hP hD hS perm_nil 0 7 rfl rfl rfl hl.1 rfl rfl (Nat.le_of_ble_eq_true rfl) dX7_taken_16 ⟨Nat.zero_le _, Nat.zero_le _⟩ (fun r5 w H locs hw hP hD hS => ?_)
    obtain ⟨⟨e1, e2⟩, z7⟩ := hw
    replace e1 : r5 = r5q := e1
    subst e1
    subst e2
    replace hP : va_P D vwCl (Mw h q cA fi fs ga gs pl it asd) H := hP.nil
    replace hD : va_D A (Mw h q cA fi fs ga gs pl it asd) := hD.nil
    refine lv_if_ne (tgt := 25) hx hb dX7_taken_19 (by decide) (fun c8 => ?_) (fun c8 => ?_)
    · replace hf := ie_of c8 hf
      refine lv_aload_n hx hb dX7_taken_25 rfl (lv_at hl 0 rfl) ?_
      refine va_get (D := D) (ci := 7) (v := .ref (q 6)) (C := RX7) (T := TX7) (N := 73) hx hb hts fw_7 hown hK hP 0 rfl rfl 6 (by decide) (hts _ m_fieldLink_M_28_M_kind_aI) (fun _ h9 => h9) rfl dX7_taken_26 ?_
      refine lv_iload_n hx hb dX7_taken_29 rfl (lv_at hl 1 rfl) ?_
      obtain ⟨hi9, hf⟩ := gd_of hf
      refine va_iald hx hb hK hP 1 0 rfl rfl hi9 dX7_taken_30 ?_
      refine lv_istore_n (lv' := [(3, .int ((ga 6) (Int32.toNatClampNeg a1))), (0, .ref h), (1, .int a1), (2, .int a2)]) hx hb dX7_taken_31 rfl hl (by decide) rfl (fun ls hl => ?_)
      refine lv_iload_n hx hb dX7_taken_32 rfl (lv_at hl 3 rfl) ?_
      refine lv_if_eq (tgt := 72) hx hb dX7_taken_33 (by decide) (fun c10 => ?_) (fun c10 => ?_)
      · replace hf := it_of c10 hf
        refine lv_iload_n hx hb dX7_taken_72 rfl (lv_at hl 0 rfl) ?_
        refine lv_goto (tgt := 78) hx hb dX7_taken_73 (by decide) ?_
        rw [hQ]
        exact ret_i C0 hP hD hS (by have e := Option.some.inj hf; rw [← e]; exact ⟨rfl, rfl⟩) dX7_taken_78
      · replace hf := ie_of c10 hf
        refine lv_iload_n hx hb dX7_taken_36 rfl (lv_at hl 0 rfl) ?_
        refine lv_iload_n hx hb dX7_taken_37 rfl (lv_at hl 3 rfl) ?_
        refine lv_icmp_eq (tgt := 72) hx hb dX7_taken_38 (by decide) (fun c11 => ?_) (fun c11 => ?_)
        · replace hf := it_of c11 hf
          refine lv_iload_n hx hb dX7_taken_72 rfl (lv_at hl 0 rfl) ?_
          refine lv_goto (tgt := 78) hx hb dX7_taken_73 (by decide) ?_
          rw [hQ]
          exact ret_i C0 hP hD hS (by have e := Option.some.inj hf; rw [← e]; exact ⟨rfl, rfl⟩) dX7_taken_78
        · replace hf := ie_of c11 hf
          refine lv_iload_n hx hb dX7_taken_41 rfl (lv_at hl 3 rfl) ?_
          refine lv_iconst (v := 1) hx hb dX7_taken_42 (by decide) ?_
          refine lv_icmp_ne (tgt := 51) hx hb dX7_taken_43 (by decide) (fun c12 => ?_) (fun c12 => ?_)
          · replace hf := ie_of c12 hf
            exact J51 ((ga 6) (Int32.toNatClampNeg a1)) hf _ _ hP hD hS _ (lv_sub hl [3, 0] rfl)
          · replace hf := it_of c12 hf
            refine lv_iload_n hx hb dX7_taken_46 rfl (lv_at hl 0 rfl) ?_
            refine lv_iconst (v := 4) hx hb dX7_taken_47 (by decide) ?_
            refine lv_icmp_eq (tgt := 72) hx hb dX7_taken_48 (by decide) (fun c13 => ?_) (fun c13 => ?_)
            · replace hf := it_of c13 hf
              refine lv_iload_n hx hb dX7_taken_72 rfl (lv_at hl 0 rfl) ?_
              refine lv_goto (tgt := 78) hx hb dX7_taken_73 (by decide) ?_
              rw [hQ]
              exact ret_i C0 hP hD hS (by have e := Option.some.inj hf; rw [← e]; exact ⟨rfl, rfl⟩) dX7_taken_78
            · replace hf := ie_of c13 hf
              exact J51 ((ga 6) (Int32.toNatClampNeg a1)) hf _ _ hP hD hS _ (lv_sub hl [3, 0] rfl)
    · replace hf := it_of c8 hf
      refine lv_bipush (v := (-11)) hx hb dX7_taken_22 (by decide) ?_
      rw [hQ]
      exact ret_i C0 hP hD hS (by have e := Option.some.inj hf; rw [← e]; exact ⟨rfl, rfl⟩) dX7_taken_24
  · replace hf := it_of c4 hf
    refine lv_bipush (v := (-2)) hx hb dX7_taken_11 (by decide) ?_
    rw [hQ]
    exact ret_i C0 hP hD hS (by have e := Option.some.inj hf; rw [← e]; exact ⟨rfl, rfl⟩) dX7_taken_13
-- count
noncomputable def k_X7_count (a1 : Int32) (fi : Nat → Int32) : Option Int32 := if a1 = 0 then some (fi 0) else if a1 = 1 then some (fi 11) else if a1 = 2 then some (fi 36) else if a1 = 3 then some (fi 39) else if a1 = 4 then some (fi 40) else if a1 = 5 then some (fi 13) else if a1 = 6 then some (fi 67) else some (-2)
set_option maxHeartbeats 4000000 in
set_option maxRecDepth 100000 in
theorem c_X7_count {l : Launch} {D : va_G} {cA : Nat → ClassId} (h : Nat) (q : Nat → Nat) (fi : Nat → Int32) (fs : Nat → Int32) (ga : Nat → Nat → Int32) (gs : Nat → Nat → Int32) (pl : Nat → Int32) (it : Nat → Int64) (asd : Nat → Int64) (a1 : Int32) (o : Int32) (hf : k_X7_count a1 fi = some o) : CI l D cA yX7_count cX7_count 2 (some .int) 0 0 [.ref h, .int a1] (Mw h q cA fi fs ga gs pl it asd) 0 0 (fun r w => r = o ∧ w = (Mw h q cA fi fs ga gs pl it asd)) := by
  intro sz
  refine met_start (by decide) rfl ?_
  intro p e s m args below meth c ls hsz hargs C0 hname hP hD hS hl
  generalize hAe : va_A (Mw h q cA fi fs ga gs pl it asd) sz = A at C0 hD hS ⊢
  obtain ⟨hx, hb, hr, hml, hown, hts, hlk, hK, hA⟩ := id C0
  replace hl : lv_has ls 2 [(0, .ref h), (1, .int a1)] := hl
  obtain ⟨Q, hQ⟩ : ∃ Q : State → Prop, Q = QI below D A (fun r w => r = o ∧ w = (Mw h q cA fi fs ga gs pl it asd)) args s 0 0 := ⟨_, rfl⟩
  refine cast (by rw [hQ]) (?_ : W p l e (RMx 0 0 0 0) s m args below meth c s.heap [] 0 0 Q (F0 m 0 ls []))
  unfold k_X7_count at hf
  refine lv_iload_n hx hb dX7_count_0 rfl (lv_at hl 1 rfl) ?_
  by_cases c1 : a1 = 0
  · replace hf := it_of c1 hf
    refine lv_tableIn (off := 43) (tgt := 44) hx hb dX7_count_1 (by rw [c1]; decide) (by rw [c1]; decide) (by rw [c1]; decide) (by decide) ?_
    refine lv_aload_n hx hb dX7_count_44 rfl (lv_at hl 0 rfl) ?_
    refine va_get (D := D) (ci := 7) (v := .int (fi 0)) (C := RX7) (T := TX7) (N := 73) hx hb hts fw_7 hown hK hP 0 rfl rfl 0 (by decide) (hts _ m_fieldLink_M_7_M_men_I) (fun _ h9 => h9) rfl dX7_count_45 ?_
    rw [hQ]
    exact ret_i C0 hP hD hS (by have e := Option.some.inj hf; rw [← e]; exact ⟨rfl, rfl⟩) dX7_count_48
  · replace hf := ie_of c1 hf
    by_cases c2 : a1 = 1
    · replace hf := it_of c2 hf
      refine lv_tableIn (off := 48) (tgt := 49) hx hb dX7_count_1 (by rw [c2]; decide) (by rw [c2]; decide) (by rw [c2]; decide) (by decide) ?_
      refine lv_aload_n hx hb dX7_count_49 rfl (lv_at hl 0 rfl) ?_
      refine va_get (D := D) (ci := 7) (v := .int (fi 11)) (C := RX7) (T := TX7) (N := 73) hx hb hts fw_7 hown hK hP 0 rfl rfl 11 (by decide) (hts _ m_fieldLink_M_44_M_charters_I) (fun _ h9 => h9) rfl dX7_count_50 ?_
      rw [hQ]
      exact ret_i C0 hP hD hS (by have e := Option.some.inj hf; rw [← e]; exact ⟨rfl, rfl⟩) dX7_count_53
    · replace hf := ie_of c2 hf
      by_cases c3 : a1 = 2
      · replace hf := it_of c3 hf
        refine lv_tableIn (off := 53) (tgt := 54) hx hb dX7_count_1 (by rw [c3]; decide) (by rw [c3]; decide) (by rw [c3]; decide) (by decide) ?_
        refine lv_aload_n hx hb dX7_count_54 rfl (lv_at hl 0 rfl) ?_
        refine va_get (D := D) (ci := 7) (v := .int (fi 36)) (C := RX7) (T := TX7) (N := 73) hx hb hts fw_7 hown hK hP 0 rfl rfl 36 (by decide) (hts _ m_fieldLink_M_120_M_heard_I) (fun _ h9 => h9) rfl dX7_count_55 ?_
        rw [hQ]
        exact ret_i C0 hP hD hS (by have e := Option.some.inj hf; rw [← e]; exact ⟨rfl, rfl⟩) dX7_count_58
      · replace hf := ie_of c3 hf
        by_cases c4 : a1 = 3
        · replace hf := it_of c4 hf
          refine lv_tableIn (off := 58) (tgt := 59) hx hb dX7_count_1 (by rw [c4]; decide) (by rw [c4]; decide) (by rw [c4]; decide) (by decide) ?_
          refine lv_aload_n hx hb dX7_count_59 rfl (lv_at hl 0 rfl) ?_
          refine va_get (D := D) (ci := 7) (v := .int (fi 39)) (C := RX7) (T := TX7) (N := 73) hx hb hts fw_7 hown hK hP 0 rfl rfl 39 (by decide) (hts _ m_fieldLink_M_129_M_plans_I) (fun _ h9 => h9) rfl dX7_count_60 ?_
          rw [hQ]
          exact ret_i C0 hP hD hS (by have e := Option.some.inj hf; rw [← e]; exact ⟨rfl, rfl⟩) dX7_count_63
        · replace hf := ie_of c4 hf
          by_cases c5 : a1 = 4
          · replace hf := it_of c5 hf
            refine lv_tableIn (off := 63) (tgt := 64) hx hb dX7_count_1 (by rw [c5]; decide) (by rw [c5]; decide) (by rw [c5]; decide) (by decide) ?_
            refine lv_aload_n hx hb dX7_count_64 rfl (lv_at hl 0 rfl) ?_
            refine va_get (D := D) (ci := 7) (v := .int (fi 40)) (C := RX7) (T := TX7) (N := 73) hx hb hts fw_7 hown hK hP 0 rfl rfl 40 (by decide) (hts _ m_fieldLink_M_132_M_books_I) (fun _ h9 => h9) rfl dX7_count_65 ?_
            rw [hQ]
            exact ret_i C0 hP hD hS (by have e := Option.some.inj hf; rw [← e]; exact ⟨rfl, rfl⟩) dX7_count_68
          · replace hf := ie_of c5 hf
            by_cases c6 : a1 = 5
            · replace hf := it_of c6 hf
              refine lv_tableIn (off := 68) (tgt := 69) hx hb dX7_count_1 (by rw [c6]; decide) (by rw [c6]; decide) (by rw [c6]; decide) (by decide) ?_
              refine lv_aload_n hx hb dX7_count_69 rfl (lv_at hl 0 rfl) ?_
              refine va_get (D := D) (ci := 7) (v := .int (fi 13)) (C := RX7) (T := TX7) (N := 73) hx hb hts fw_7 hown hK hP 0 rfl rfl 13 (by decide) (hts _ m_fieldLink_M_50_M_fed_I) (fun _ h9 => h9) rfl dX7_count_70 ?_
              rw [hQ]
              exact ret_i C0 hP hD hS (by have e := Option.some.inj hf; rw [← e]; exact ⟨rfl, rfl⟩) dX7_count_73
            · replace hf := ie_of c6 hf
              by_cases c7 : a1 = 6
              · replace hf := it_of c7 hf
                refine lv_tableIn (off := 73) (tgt := 74) hx hb dX7_count_1 (by rw [c7]; decide) (by rw [c7]; decide) (by rw [c7]; decide) (by decide) ?_
                refine lv_aload_n hx hb dX7_count_74 rfl (lv_at hl 0 rfl) ?_
                refine va_get (D := D) (ci := 7) (v := .int (fi 67)) (C := RX7) (T := TX7) (N := 73) hx hb hts fw_7 hown hK hP 0 rfl rfl 67 (by decide) (hts _ m_fieldLink_M_214_M_ran_I) (fun _ h9 => h9) rfl dX7_count_75 ?_
                rw [hQ]
                exact ret_i C0 hP hD hS (by have e := Option.some.inj hf; rw [← e]; exact ⟨rfl, rfl⟩) dX7_count_78
              · replace hf := ie_of c7 hf
                refine lv_tableOut (tgt := 79) hx hb dX7_count_1 (by have := lv_neT c1 (a := 0) (by decide); have := lv_neT c2 (a := 1) (by decide); have := lv_neT c3 (a := 2) (by decide); have := lv_neT c4 (a := 3) (by decide); have := lv_neT c5 (a := 4) (by decide); have := lv_neT c6 (a := 5) (by decide); have := lv_neT c7 (a := 6) (by decide); omega) (by decide) ?_
                refine lv_bipush (v := (-2)) hx hb dX7_count_79 (by decide) ?_
                rw [hQ]
                exact ret_i C0 hP hD hS (by have e := Option.some.inj hf; rw [← e]; exact ⟨rfl, rfl⟩) dX7_count_81

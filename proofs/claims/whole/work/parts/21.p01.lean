-- X1 calm
noncomputable def k_X1_calm (mc : Option Nat) (cn : Nat) (cf : Nat → Nat → Int32) : Option Int32 := oc mc (some 10) (fun i1 => gp i1 cn (some (cf i1 0)))
set_option maxHeartbeats 4000000 in
set_option maxRecDepth 100000 in
theorem c_X1_calm {l : Launch} {D : va_G} {cA : Nat → ClassId} (q : Nat → Nat) (qc : Nat → Nat → Nat) (mf : Nat → Int32) (mg : Nat → Nat → Int32) (mc : Option Nat) (cn : Nat) (cf : Nat → Nat → Int32) (cg : Nat → Nat → Nat → Int32)  (o : Int32) (hf : k_X1_calm mc cn cf = some o) : CI l D cA yX1_calm cX1_calm 1 (some .int) 0 0 [.ref (q 0)] (List.flatten [(Cw q cA (chv qc mc) mf mg), (chPool cn qc cA cf cg)]) 0 0 (fun r w => r = o ∧ w = (List.flatten [(Cw q cA (chv qc mc) mf mg), (chPool cn qc cA cf cg)])) := by
  intro sz
  refine met_start (by decide) rfl ?_
  intro p e s m args below meth c ls hsz hargs C0 hname hP hD hS hl
  generalize hAe : va_A (List.flatten [(Cw q cA (chv qc mc) mf mg), (chPool cn qc cA cf cg)]) sz = A at C0 hD hS ⊢
  obtain ⟨hx, hb, hr, hml, hown, hts, hlk, hK, hA⟩ := id C0
  replace hl : lv_has ls 1 [(0, .ref (q 0))] := hl
  obtain ⟨Q, hQ⟩ : ∃ Q : State → Prop, Q = QI below D A (fun r w => r = o ∧ w = (List.flatten [(Cw q cA (chv qc mc) mf mg), (chPool cn qc cA cf cg)])) args s 0 0 := ⟨_, rfl⟩
  refine cast (by rw [hQ]) (?_ : W p l e (RMx 0 0 0 0) s m args below meth c s.heap [] 0 0 Q (F0 m 0 ls []))
  unfold k_X1_calm at hf
  refine lv_aload_n hx hb dX1_calm_0 rfl (lv_at hl 0 rfl) ?_
  refine va_get (D := D) (ci := 1) (v := chv qc mc) (C := RX1) (T := TX1) (N := 16) hx hb hts fw_1 hown hK hP 0 rfl rfl 6 (by decide) (hts _ m_fieldLink_P_Cellar_56_P_Cellar_charter_LP_Charter) (fun _ h9 => h9) rfl dX1_calm_1 ?_
  rcases mc with _ | i1
  · replace hf := oc_n hf
    refine lv_ifnonnullN hx hb dX1_calm_4 ?_
    refine lv_bipush (v := 10) hx hb dX1_calm_7 (by decide) ?_
    refine lv_goto (tgt := 19) hx hb dX1_calm_9 (by decide) ?_
    rw [hQ]
    exact ret_i C0 hP hD hS (by have e := Option.some.inj hf; rw [← e]; exact ⟨rfl, rfl⟩) dX1_calm_19
  · replace hf := oc_s hf
    refine lv_ifnonnull (tgt := 12) hx hb dX1_calm_4 (by decide) ?_
    refine lv_aload_n hx hb dX1_calm_12 rfl (lv_at hl 0 rfl) ?_
    refine va_get (D := D) (ci := 1) (v := chv qc (some i1)) (C := RX1) (T := TX1) (N := 16) hx hb hts fw_1 hown hK hP 0 rfl rfl 6 (by decide) (hts _ m_fieldLink_P_Cellar_56_P_Cellar_charter_LP_Charter) (fun _ h9 => h9) rfl dX1_calm_13 ?_
    obtain ⟨hg2, hf⟩ := gp_of hf
    refine va_get (D := D) (ci := 2) (v := .int (cf i1 0)) (C := RX2) (T := TX2) (N := 9) hx hb hts fw_2 hown hK hP (6 + 7 * i1) ((pool_at hg2 (List.flatten [(Cw q cA (chv qc (some i1)) mf mg)]) [] rfl : _)) rfl 0 (by decide) (hts _ m_fieldLink_P_Cellar_60_P_Charter_calm_I) (fun _ h9 => h9) rfl dX1_calm_16 ?_
    rw [hQ]
    exact ret_i C0 hP hD hS (by have e := Option.some.inj hf; rw [← e]; exact ⟨rfl, rfl⟩) dX1_calm_19
-- X1 valuesOf
noncomputable def k_X1_valuesOf (a1 : Int32) (mf : Nat → Int32) (mg : Nat → Nat → Int32) (mv0 : Nat → Int32) : Option (Nat → Int32) := gd 0 6 (gd a1 6 (gd 1 6 (gd a1 6 (gd 2 6 (nm (upd (upd (upd mv0 (Int32.toNatClampNeg 0) a1) (Int32.toNatClampNeg 1) ((mg 7) (Int32.toNatClampNeg a1))) (Int32.toNatClampNeg 2) ((mg 8) (Int32.toNatClampNeg a1))) (fun mv_6 => gd a1 6 (gd 3 6 (gd a1 6 (gd 4 6 (gd 5 6 (nm (upd (upd (upd mv_6 (Int32.toNatClampNeg 3) ((mg 9) (Int32.toNatClampNeg a1))) (Int32.toNatClampNeg 4) (((mg 10) (Int32.toNatClampNeg a1)) - ((mg 10) (Int32.toNatClampNeg a1)) / 10 * 10)) (Int32.toNatClampNeg 5) ((mf 5) - (mf 5) / 7 * 7)) (fun mv_13 => some mv_13))))))))))))
set_option maxHeartbeats 4000000 in
set_option maxRecDepth 100000 in
theorem c_X1_valuesOf {l : Launch} {D : va_G} {cA : Nat → ClassId} (q : Nat → Nat) (qc : Nat → Nat → Nat) (mf : Nat → Int32) (mg : Nat → Nat → Int32) (mc : Option Nat) (mv0 : Nat → Int32) (a1 : Int32) (o : Nat → Int32) (hf : k_X1_valuesOf a1 mf mg mv0 = some o) : CR l D cA yX1_valuesOf cX1_valuesOf 2 (some (.array .int)) 0 0 [.ref (q 0), .int a1] (List.flatten [(Cw q cA (chv qc mc) mf mg), (Vw (q 15) cA mv0)]) 0 0 (fun r w => r = (q 15) ∧ w = (List.flatten [(Cw q cA (chv qc mc) mf mg), (Vw (q 15) cA o)])) := by
  intro sz
  refine met_start (by decide) rfl ?_
  intro p e s m args below meth c ls hsz hargs C0 hname hP hD hS hl
  generalize hAe : va_A (List.flatten [(Cw q cA (chv qc mc) mf mg), (Vw (q 15) cA mv0)]) sz = A at C0 hD hS ⊢
  obtain ⟨hx, hb, hr, hml, hown, hts, hlk, hK, hA⟩ := id C0
  replace hl : lv_has ls 2 [(0, .ref (q 0)), (1, .int a1)] := hl
  obtain ⟨Q, hQ⟩ : ∃ Q : State → Prop, Q = QR below D A (fun r w => r = (q 15) ∧ w = (List.flatten [(Cw q cA (chv qc mc) mf mg), (Vw (q 15) cA o)])) args s 0 0 := ⟨_, rfl⟩
  refine cast (by rw [hQ]) (?_ : W p l e (RMx 0 0 0 0) s m args below meth c s.heap [] 0 0 Q (F0 m 0 ls []))
  unfold k_X1_valuesOf at hf
  refine lv_aload_n hx hb dX1_valuesOf_0 rfl (lv_at hl 0 rfl) ?_
  refine va_get (D := D) (ci := 1) (v := .ref (q 15)) (C := RX1) (T := TX1) (N := 16) hx hb hts fw_1 hown hK hP 0 rfl rfl 15 (by decide) (hts _ m_fieldLink_P_Cellar_42_P_Cellar_values_aI) (fun _ h9 => h9) rfl dX1_valuesOf_1 ?_
  refine lv_iconst (v := 0) hx hb dX1_valuesOf_4 (by decide) ?_
  refine lv_iload_n hx hb dX1_valuesOf_5 rfl (lv_at hl 1 rfl) ?_
  obtain ⟨hi1, hf⟩ := gd_of hf
  refine va_iast hx hb hK hP hD hS 6 0 rfl rfl hi1 dX1_valuesOf_6 (fun H locs hP hD hS => ?_)
  replace hP : va_P D vwCl (List.flatten [(Cw q cA (chv qc mc) mf mg), (Vw (q 15) cA (upd mv0 (Int32.toNatClampNeg 0) a1))]) H := hP
  replace hD : va_D A (List.flatten [(Cw q cA (chv qc mc) mf mg), (Vw (q 15) cA (upd mv0 (Int32.toNatClampNeg 0) a1))]) := hD
  refine lv_aload_n hx hb dX1_valuesOf_7 rfl (lv_at hl 0 rfl) ?_
  refine va_get (D := D) (ci := 1) (v := .ref (q 15)) (C := RX1) (T := TX1) (N := 16) hx hb hts fw_1 hown hK hP 0 rfl rfl 15 (by decide) (hts _ m_fieldLink_P_Cellar_42_P_Cellar_values_aI) (fun _ h9 => h9) rfl dX1_valuesOf_8 ?_
  refine lv_iconst (v := 1) hx hb dX1_valuesOf_11 (by decide) ?_
  refine lv_aload_n hx hb dX1_valuesOf_12 rfl (lv_at hl 0 rfl) ?_
  refine va_get (D := D) (ci := 1) (v := .ref (q 7)) (C := RX1) (T := TX1) (N := 16) hx hb hts fw_1 hown hK hP 0 rfl rfl 7 (by decide) (hts _ m_fieldLink_P_Cellar_9_P_Cellar_kind_aI) (fun _ h9 => h9) rfl dX1_valuesOf_13 ?_
  refine lv_iload_n hx hb dX1_valuesOf_16 rfl (lv_at hl 1 rfl) ?_
  obtain ⟨hi2, hf⟩ := gd_of hf
  refine va_iald hx hb hK hP 1 0 rfl rfl hi2 dX1_valuesOf_17 ?_
  obtain ⟨hi3, hf⟩ := gd_of hf
  refine va_iast hx hb hK hP hD hS 6 0 rfl rfl hi3 dX1_valuesOf_18 (fun H locs hP hD hS => ?_)
  replace hP : va_P D vwCl (List.flatten [(Cw q cA (chv qc mc) mf mg), (Vw (q 15) cA (upd (upd mv0 (Int32.toNatClampNeg 0) a1) (Int32.toNatClampNeg 1) ((mg 7) (Int32.toNatClampNeg a1))))]) H := hP
  replace hD : va_D A (List.flatten [(Cw q cA (chv qc mc) mf mg), (Vw (q 15) cA (upd (upd mv0 (Int32.toNatClampNeg 0) a1) (Int32.toNatClampNeg 1) ((mg 7) (Int32.toNatClampNeg a1))))]) := hD
  refine lv_aload_n hx hb dX1_valuesOf_19 rfl (lv_at hl 0 rfl) ?_
  refine va_get (D := D) (ci := 1) (v := .ref (q 15)) (C := RX1) (T := TX1) (N := 16) hx hb hts fw_1 hown hK hP 0 rfl rfl 15 (by decide) (hts _ m_fieldLink_P_Cellar_42_P_Cellar_values_aI) (fun _ h9 => h9) rfl dX1_valuesOf_20 ?_
  refine lv_iconst (v := 2) hx hb dX1_valuesOf_23 (by decide) ?_
  refine lv_aload_n hx hb dX1_valuesOf_24 rfl (lv_at hl 0 rfl) ?_
  refine va_get (D := D) (ci := 1) (v := .ref (q 8)) (C := RX1) (T := TX1) (N := 16) hx hb hts fw_1 hown hK hP 0 rfl rfl 8 (by decide) (hts _ m_fieldLink_P_Cellar_15_P_Cellar_v_aI) (fun _ h9 => h9) rfl dX1_valuesOf_25 ?_
  refine lv_iload_n hx hb dX1_valuesOf_28 rfl (lv_at hl 1 rfl) ?_
  obtain ⟨hi4, hf⟩ := gd_of hf
  refine va_iald hx hb hK hP 2 0 rfl rfl hi4 dX1_valuesOf_29 ?_
  obtain ⟨hi5, hf⟩ := gd_of hf
  refine va_iast hx hb hK hP hD hS 6 0 rfl rfl hi5 dX1_valuesOf_30 (fun H locs hP hD hS => ?_)
  replace hP : va_P D vwCl (List.flatten [(Cw q cA (chv qc mc) mf mg), (Vw (q 15) cA (upd (upd (upd mv0 (Int32.toNatClampNeg 0) a1) (Int32.toNatClampNeg 1) ((mg 7) (Int32.toNatClampNeg a1))) (Int32.toNatClampNeg 2) ((mg 8) (Int32.toNatClampNeg a1))))]) H := hP
  replace hD : va_D A (List.flatten [(Cw q cA (chv qc mc) mf mg), (Vw (q 15) cA (upd (upd (upd mv0 (Int32.toNatClampNeg 0) a1) (Int32.toNatClampNeg 1) ((mg 7) (Int32.toNatClampNeg a1))) (Int32.toNatClampNeg 2) ((mg 8) (Int32.toNatClampNeg a1))))]) := hD
  obtain ⟨mv_6, hv7, hf⟩ := nm_of hf
  replace hP : va_P D vwCl (List.flatten [(Cw q cA (chv qc mc) mf mg), (Vw (q 15) cA mv_6)]) H := by rw [hv7]; exact hP
  replace hD : va_D A (List.flatten [(Cw q cA (chv qc mc) mf mg), (Vw (q 15) cA mv_6)]) := by rw [hv7]; exact hD
  refine lv_aload_n hx hb dX1_valuesOf_31 rfl (lv_at hl 0 rfl) ?_
  refine va_get (D := D) (ci := 1) (v := .ref (q 15)) (C := RX1) (T := TX1) (N := 16) hx hb hts fw_1 hown hK hP 0 rfl rfl 15 (by decide) (hts _ m_fieldLink_P_Cellar_42_P_Cellar_values_aI) (fun _ h9 => h9) rfl dX1_valuesOf_32 ?_
  refine lv_iconst (v := 3) hx hb dX1_valuesOf_35 (by decide) ?_
  refine lv_aload_n hx hb dX1_valuesOf_36 rfl (lv_at hl 0 rfl) ?_
  refine va_get (D := D) (ci := 1) (v := .ref (q 9)) (C := RX1) (T := TX1) (N := 16) hx hb hts fw_1 hown hK hP 0 rfl rfl 9 (by decide) (hts _ m_fieldLink_P_Cellar_18_P_Cellar_nerve_aI) (fun _ h9 => h9) rfl dX1_valuesOf_37 ?_
  refine lv_iload_n hx hb dX1_valuesOf_40 rfl (lv_at hl 1 rfl) ?_
  obtain ⟨hi8, hf⟩ := gd_of hf
  refine va_iald hx hb hK hP 3 0 rfl rfl hi8 dX1_valuesOf_41 ?_
  obtain ⟨hi9, hf⟩ := gd_of hf
  refine va_iast hx hb hK hP hD hS 6 0 rfl rfl hi9 dX1_valuesOf_42 (fun H locs hP hD hS => ?_)
  replace hP : va_P D vwCl (List.flatten [(Cw q cA (chv qc mc) mf mg), (Vw (q 15) cA (upd mv_6 (Int32.toNatClampNeg 3) ((mg 9) (Int32.toNatClampNeg a1))))]) H := hP
  replace hD : va_D A (List.flatten [(Cw q cA (chv qc mc) mf mg), (Vw (q 15) cA (upd mv_6 (Int32.toNatClampNeg 3) ((mg 9) (Int32.toNatClampNeg a1))))]) := hD
  refine lv_aload_n hx hb dX1_valuesOf_43 rfl (lv_at hl 0 rfl) ?_
  refine va_get (D := D) (ci := 1) (v := .ref (q 15)) (C := RX1) (T := TX1) (N := 16) hx hb hts fw_1 hown hK hP 0 rfl rfl 15 (by decide) (hts _ m_fieldLink_P_Cellar_42_P_Cellar_values_aI) (fun _ h9 => h9) rfl dX1_valuesOf_44 ?_
  refine lv_iconst (v := 4) hx hb dX1_valuesOf_47 (by decide) ?_
  refine lv_aload_n hx hb dX1_valuesOf_48 rfl (lv_at hl 0 rfl) ?_
  refine va_get (D := D) (ci := 1) (v := .ref (q 10)) (C := RX1) (T := TX1) (N := 16) hx hb hts fw_1 hown hK hP 0 rfl rfl 10 (by decide) (hts _ m_fieldLink_P_Cellar_21_P_Cellar_spell_aI) (fun _ h9 => h9) rfl dX1_valuesOf_49 ?_
  refine lv_iload_n hx hb dX1_valuesOf_52 rfl (lv_at hl 1 rfl) ?_
  obtain ⟨hi10, hf⟩ := gd_of hf
  refine va_iald hx hb hK hP 4 0 rfl rfl hi10 dX1_valuesOf_53 ?_
  refine lv_bipush (v := 10) hx hb dX1_valuesOf_54 (by decide) ?_
  refine lv_irem hx hb dX1_valuesOf_56 (by decide) ?_
  obtain ⟨hi11, hf⟩ := gd_of hf
  refine va_iast hx hb hK hP hD hS 6 0 rfl rfl hi11 dX1_valuesOf_57 (fun H locs hP hD hS => ?_)
  replace hP : va_P D vwCl (List.flatten [(Cw q cA (chv qc mc) mf mg), (Vw (q 15) cA (upd (upd mv_6 (Int32.toNatClampNeg 3) ((mg 9) (Int32.toNatClampNeg a1))) (Int32.toNatClampNeg 4) (((mg 10) (Int32.toNatClampNeg a1)) - ((mg 10) (Int32.toNatClampNeg a1)) / 10 * 10)))]) H := hP
  replace hD : va_D A (List.flatten [(Cw q cA (chv qc mc) mf mg), (Vw (q 15) cA (upd (upd mv_6 (Int32.toNatClampNeg 3) ((mg 9) (Int32.toNatClampNeg a1))) (Int32.toNatClampNeg 4) (((mg 10) (Int32.toNatClampNeg a1)) - ((mg 10) (Int32.toNatClampNeg a1)) / 10 * 10)))]) := hD
  refine lv_aload_n hx hb dX1_valuesOf_58 rfl (lv_at hl 0 rfl) ?_
  refine va_get (D := D) (ci := 1) (v := .ref (q 15)) (C := RX1) (T := TX1) (N := 16) hx hb hts fw_1 hown hK hP 0 rfl rfl 15 (by decide) (hts _ m_fieldLink_P_Cellar_42_P_Cellar_values_aI) (fun _ h9 => h9) rfl dX1_valuesOf_59 ?_
  refine lv_iconst (v := 5) hx hb dX1_valuesOf_62 (by decide) ?_
  refine lv_aload_n hx hb dX1_valuesOf_63 rfl (lv_at hl 0 rfl) ?_
  refine va_get (D := D) (ci := 1) (v := .int (mf 5)) (C := RX1) (T := TX1) (N := 16) hx hb hts fw_1 hown hK hP 0 rfl rfl 5 (by decide) (hts _ m_fieldLink_P_Cellar_73_P_Cellar_day_I) (fun _ h9 => h9) rfl dX1_valuesOf_64 ?_
  refine lv_bipush (v := 7) hx hb dX1_valuesOf_67 (by decide) ?_
  refine lv_irem hx hb dX1_valuesOf_69 (by decide) ?_
  obtain ⟨hi12, hf⟩ := gd_of hf
  refine va_iast hx hb hK hP hD hS 6 0 rfl rfl hi12 dX1_valuesOf_70 (fun H locs hP hD hS => ?_)
  replace hP : va_P D vwCl (List.flatten [(Cw q cA (chv qc mc) mf mg), (Vw (q 15) cA (upd (upd (upd mv_6 (Int32.toNatClampNeg 3) ((mg 9) (Int32.toNatClampNeg a1))) (Int32.toNatClampNeg 4) (((mg 10) (Int32.toNatClampNeg a1)) - ((mg 10) (Int32.toNatClampNeg a1)) / 10 * 10)) (Int32.toNatClampNeg 5) ((mf 5) - (mf 5) / 7 * 7)))]) H := hP
  replace hD : va_D A (List.flatten [(Cw q cA (chv qc mc) mf mg), (Vw (q 15) cA (upd (upd (upd mv_6 (Int32.toNatClampNeg 3) ((mg 9) (Int32.toNatClampNeg a1))) (Int32.toNatClampNeg 4) (((mg 10) (Int32.toNatClampNeg a1)) - ((mg 10) (Int32.toNatClampNeg a1)) / 10 * 10)) (Int32.toNatClampNeg 5) ((mf 5) - (mf 5) / 7 * 7)))]) := hD
  obtain ⟨mv_13, hv14, hf⟩ := nm_of hf
  replace hP : va_P D vwCl (List.flatten [(Cw q cA (chv qc mc) mf mg), (Vw (q 15) cA mv_13)]) H := by rw [hv14]; exact hP
  replace hD : va_D A (List.flatten [(Cw q cA (chv qc mc) mf mg), (Vw (q 15) cA mv_13)]) := by rw [hv14]; exact hD
  refine lv_aload_n hx hb dX1_valuesOf_71 rfl (lv_at hl 0 rfl) ?_
  refine va_get (D := D) (ci := 1) (v := .ref (q 15)) (C := RX1) (T := TX1) (N := 16) hx hb hts fw_1 hown hK hP 0 rfl rfl 15 (by decide) (hts _ m_fieldLink_P_Cellar_42_P_Cellar_values_aI) (fun _ h9 => h9) rfl dX1_valuesOf_72 ?_
  rw [hQ]
  exact ret_r C0 (Or.inr ⟨_, rfl⟩) hP hD hS (by have e := Option.some.inj hf; rw [← e]; exact ⟨rfl, rfl⟩) dX1_valuesOf_75
-- X1 isDancingWith
noncomputable def k_X1_isDancingWith_2 (a1 : Int32) (mf : Nat → Int32) (mg : Nat → Nat → Int32) : Nat → Int32 → Option Int32
  | 0, _ => none
  | n + 1, x2 => if (mf 0) ≤ x2 then some 0 else if x2 = a1 then k_X1_isDancingWith_2 a1 mf mg n (x2 + 1) else gd x2 6 (if ((mg 7) (Int32.toNatClampNeg x2)) = 5 then b1 (k_X1_isUp x2 mf) (fun r5 => if r5 = 0 then some 1 else k_X1_isDancingWith_2 a1 mf mg n (x2 + 1)) else k_X1_isDancingWith_2 a1 mf mg n (x2 + 1))
noncomputable def k_X1_isDancingWith (a1 : Int32) (mf : Nat → Int32) (mg : Nat → Nat → Int32) : Option Int32 := k_X1_isDancingWith_2 a1 mf mg 100000 0
set_option maxHeartbeats 4000000 in
set_option maxRecDepth 100000 in
theorem c_X1_isDancingWith {l : Launch} {D : va_G} {cA : Nat → ClassId} (q : Nat → Nat) (qc : Nat → Nat → Nat) (mf : Nat → Int32) (mg : Nat → Nat → Int32) (mc : Option Nat) (a1 : Int32) (o : Int32) (hf : k_X1_isDancingWith a1 mf mg = some o) : CI l D cA yX1_isDancingWith cX1_isDancingWith 3 (some .boolean) 1 21 [.ref (q 0), .int a1] (Cw q cA (chv qc mc) mf mg) 0 0 (fun r w => (r = o ∧ w = (Cw q cA (chv qc mc) mf mg)) ∧ narrow .boolean (.int r) = .int r) := by
  intro sz
  refine met_start (by decide) rfl ?_
  intro p e s m args below meth c ls hsz hargs C0 hname hP hD hS hl
  generalize hAe : va_A (Cw q cA (chv qc mc) mf mg) sz = A at C0 hD hS ⊢
  obtain ⟨hx, hb, hr, hml, hown, hts, hlk, hK, hA⟩ := id C0
  replace hl : lv_has ls 3 [(0, .ref (q 0)), (1, .int a1)] := hl
  obtain ⟨Q, hQ⟩ : ∃ Q : State → Prop, Q = QI below D A (fun r w => (r = o ∧ w = (Cw q cA (chv qc mc) mf mg)) ∧ narrow .boolean (.int r) = .int r) args s 0 0 := ⟨_, rfl⟩
  refine cast (by rw [hQ]) (?_ : W p l e (RMx 1 21 0 0) s m args below meth c s.heap [] 0 0 Q (F0 m 0 ls []))
  have J2 : ∀ n : Nat, ∀ (x2 : Int32), k_X1_isDancingWith_2 a1 mf mg n x2 = some o → ∀ (H : Heap) (locs : List Loc), va_P D vwCl (Cw q cA (chv qc mc) mf mg) H → va_D A (Cw q cA (chv qc mc) mf mg) → va_S A s.heap H locs → ∀ ls : Array Slot, lv_has ls 3 [(0, .ref (q 0)), (1, .int a1), (2, .int x2)] → W p l e (RMx 1 21 0 0) s m args below meth c H locs 0 0 Q (F0 m 2 ls []) := by
    intro  n
    induction n with
    | zero =>
      intro x2 hf
      rw [k_X1_isDancingWith_2] at hf
      cases hf
    | succ n ih =>
      intro x2 hf H locs hP hD hS ls hl
      rw [k_X1_isDancingWith_2] at hf
      refine lv_iload_n hx hb dX1_isDancingWith_2 rfl (lv_at hl 2 rfl) ?_
      refine lv_aload_n hx hb dX1_isDancingWith_3 rfl (lv_at hl 0 rfl) ?_
      refine va_get (D := D) (ci := 1) (v := .int (mf 0)) (C := RX1) (T := TX1) (N := 16) hx hb hts fw_1 hown hK hP 0 rfl rfl 0 (by decide) (hts _ m_fieldLink_P_Cellar_45_P_Cellar_men_I) (fun _ h9 => h9) rfl dX1_isDancingWith_4 ?_
      refine lv_icmp_ge (tgt := 41) hx hb dX1_isDancingWith_7 (by decide) (fun c1 => ?_) (fun c1 => ?_)
      · replace hf := it_of c1 hf
        refine lv_iconst (v := 0) hx hb dX1_isDancingWith_41 (by decide) ?_
        rw [hQ]
        exact ret_z C0 hP hD hS (by have e := Option.some.inj hf; rw [← e]; exact ⟨rfl, rfl⟩) rfl dX1_isDancingWith_42
      · replace hf := ie_of c1 hf
        refine lv_iload_n hx hb dX1_isDancingWith_10 rfl (lv_at hl 2 rfl) ?_
        refine lv_iload_n hx hb dX1_isDancingWith_11 rfl (lv_at hl 1 rfl) ?_
        refine lv_icmp_eq (tgt := 35) hx hb dX1_isDancingWith_12 (by decide) (fun c2 => ?_) (fun c2 => ?_)
        · replace hf := it_of c2 hf
          refine lv_iinc (v := (x2 + 1)) (lv' := [(2, .int (x2 + 1)), (0, .ref (q 0)), (1, .int a1)]) hx hb dX1_isDancingWith_35 hl (k := 2) rfl rfl (by decide) rfl (fun ls hl => ?_)
          refine lv_goto (tgt := 2) hx hb dX1_isDancingWith_38 (by decide) ?_
          exact ih (x2 + 1) hf _ _ hP hD hS _ (lv_sub hl [1, 2, 0] rfl)
        · replace hf := ie_of c2 hf
          refine lv_aload_n hx hb dX1_isDancingWith_15 rfl (lv_at hl 0 rfl) ?_
          refine va_get (D := D) (ci := 1) (v := .ref (q 7)) (C := RX1) (T := TX1) (N := 16) hx hb hts fw_1 hown hK hP 0 rfl rfl 7 (by decide) (hts _ m_fieldLink_P_Cellar_9_P_Cellar_kind_aI) (fun _ h9 => h9) rfl dX1_isDancingWith_16 ?_
          refine lv_iload_n hx hb dX1_isDancingWith_19 rfl (lv_at hl 2 rfl) ?_
          obtain ⟨hi3, hf⟩ := gd_of hf
          refine va_iald hx hb hK hP 1 0 rfl rfl hi3 dX1_isDancingWith_20 ?_
          refine lv_iconst (v := 5) hx hb dX1_isDancingWith_21 (by decide) ?_
          refine lv_icmp_ne (tgt := 35) hx hb dX1_isDancingWith_22 (by decide) (fun c4 => ?_) (fun c4 => ?_)
          · replace hf := ie_of c4 hf
            refine lv_iinc (v := (x2 + 1)) (lv' := [(2, .int (x2 + 1)), (0, .ref (q 0)), (1, .int a1)]) hx hb dX1_isDancingWith_35 hl (k := 2) rfl rfl (by decide) rfl (fun ls hl => ?_)
            refine lv_goto (tgt := 2) hx hb dX1_isDancingWith_38 (by decide) ?_
            exact ih (x2 + 1) hf _ _ hP hD hS _ (lv_sub hl [1, 2, 0] rfl)
          · replace hf := it_of c4 hf
            refine lv_aload_n hx hb dX1_isDancingWith_25 rfl (lv_at hl 0 rfl) ?_
            refine lv_iload_n hx hb dX1_isDancingWith_26 rfl (lv_at hl 2 rfl) ?_
            obtain ⟨r5q, hq6, hf⟩ := b1_of hf
            refine callVI (As := [.int x2]) (rest := []) (wr := []) C0 (c_X1_isUp q qc mf mg mc x2 _ hq6) lk_X1_86_X1_isUp rfl hP hD hS perm_nil 0 1 rfl rfl rfl hl.1 rfl rfl (Nat.le_of_ble_eq_true rfl) dX1_isDancingWith_27 ⟨Nat.zero_le _, Nat.zero_le _⟩ (fun r5 w H locs hw hP hD hS => ?_)
            obtain ⟨⟨e1, e2⟩, z7⟩ := hw
            replace e1 : r5 = r5q := e1
            subst e1
            subst e2
            replace hP : va_P D vwCl (Cw q cA (chv qc mc) mf mg) H := hP.nil
            replace hD : va_D A (Cw q cA (chv qc mc) mf mg) := hD.nil
            refine lv_if_ne (tgt := 35) hx hb dX1_isDancingWith_30 (by decide) (fun c8 => ?_) (fun c8 => ?_)
            · replace hf := ie_of c8 hf
              refine lv_iinc (v := (x2 + 1)) (lv' := [(2, .int (x2 + 1)), (0, .ref (q 0)), (1, .int a1)]) hx hb dX1_isDancingWith_35 hl (k := 2) rfl rfl (by decide) rfl (fun ls hl => ?_)
              refine lv_goto (tgt := 2) hx hb dX1_isDancingWith_38 (by decide) ?_
              exact ih (x2 + 1) hf _ _ hP hD hS _ (lv_sub hl [1, 2, 0] rfl)
            · replace hf := it_of c8 hf
              refine lv_iconst (v := 1) hx hb dX1_isDancingWith_33 (by decide) ?_
              rw [hQ]
              exact ret_z C0 hP hD hS (by have e := Option.some.inj hf; rw [← e]; exact ⟨rfl, rfl⟩) rfl dX1_isDancingWith_34
  unfold k_X1_isDancingWith at hf
  refine lv_iconst (v := 0) hx hb dX1_isDancingWith_0 (by decide) ?_
  refine lv_istore_n (lv' := [(2, .int 0), (0, .ref (q 0)), (1, .int a1)]) hx hb dX1_isDancingWith_1 rfl hl (by decide) rfl (fun ls hl => ?_)
  exact J2 100000 0 hf _ _ hP hD hS _ (lv_sub hl [1, 2, 0] rfl)
-- X1 noise
noncomputable def k_X1_noise_48 (a1 : Int32) (mf : Nat → Int32) (mg : Nat → Nat → Int32) (x2 : Int32) (t0 : Int32) (mv : Nat → Int32) : Option (Int32 × (Nat → Int32)) := gd a1 6 (if ((mg 7) (Int32.toNatClampNeg a1)) = 1 then gd a1 6 (some ((x2 + ((mg 8) (Int32.toNatClampNeg a1))), mv)) else if ((mg 7) (Int32.toNatClampNeg a1)) = 2 then some (((x2 / 2) + 3), mv) else if ((mg 7) (Int32.toNatClampNeg a1)) = 3 then some (t0, mv) else if ((mg 7) (Int32.toNatClampNeg a1)) = 4 then gd a1 6 (gd a1 6 (some (((x2 + ((mg 8) (Int32.toNatClampNeg a1))) - (if 9 < ((mg 10) (Int32.toNatClampNeg a1)) then 9 else ((mg 10) (Int32.toNatClampNeg a1)))), mv))) else if ((mg 7) (Int32.toNatClampNeg a1)) = 5 then b1 (k_X1_isDancingWith a1 mf mg) (fun r10 => if r10 = 0 then some (((x2 / 2) + 3), mv) else some ((((x2 / 2) + 3) * 2), mv)) else if ((mg 7) (Int32.toNatClampNeg a1)) = 6 then gd ((a1 * 4) + ((mf 5) - (mf 5) / 4 * 4)) 24 (some ((t0 + ((mg 11) (Int32.toNatClampNeg ((a1 * 4) + ((mf 5) - (mf 5) / 4 * 4))))), mv)) else some (x2, mv))
noncomputable def k_X1_noise_23 (a1 : Int32) (mf : Nat → Int32) (mg : Nat → Nat → Int32) (t0 : Int32) (mv : Nat → Int32) : Option (Int32 × (Nat → Int32)) := gd a1 6 (if ((mf 5) - (mf 5) / 7 * 7) = 0 then k_X1_noise_48 a1 mf mg (t0 - (((mg 9) (Int32.toNatClampNeg a1)) / 4)) 0 mv else k_X1_noise_48 a1 mf mg (t0 - (((mg 9) (Int32.toNatClampNeg a1)) / 4)) (t0 - (((mg 9) (Int32.toNatClampNeg a1)) / 4)) mv)
noncomputable def k_X1_noise (a1 : Int32) (mf : Nat → Int32) (mg : Nat → Nat → Int32) (mc : Option Nat) (mv0 : Nat → Int32) (cn : Nat) (cf : Nat → Nat → Int32) (cg : Nat → Nat → Nat → Int32) : Option (Int32 × (Nat → Int32)) := oc mc (k_X1_noise_23 a1 mf mg 0 mv0) (fun i1 => b1 (k_X1_valuesOf a1 mf mg mv0) (fun mv_2 => gp i1 cn (b1 (k_X2_sumBy (cf i1) (cg i1) mv_2) (fun r5 => k_X1_noise_23 a1 mf mg r5 mv_2))))
set_option maxHeartbeats 4000000 in
set_option maxRecDepth 100000 in
theorem c_X1_noise {l : Launch} {D : va_G} {cA : Nat → ClassId} (q : Nat → Nat) (qc : Nat → Nat → Nat) (mf : Nat → Int32) (mg : Nat → Nat → Int32) (mc : Option Nat) (mv0 : Nat → Int32) (cn : Nat) (cf : Nat → Nat → Int32) (cg : Nat → Nat → Nat → Int32) (a1 : Int32) (o : Int32 × (Nat → Int32)) (hf : k_X1_noise a1 mf mg mc mv0 cn cf cg = some o) : CI l D cA yX1_noise cX1_noise 5 (some .int) 2 50 [.ref (q 0), .int a1] (List.flatten [(Cw q cA (chv qc mc) mf mg), (Vw (q 15) cA mv0), (chPool cn qc cA cf cg)]) 0 0 (fun r w => r = o.1 ∧ w = (List.flatten [(Cw q cA (chv qc mc) mf mg), (Vw (q 15) cA o.2), (chPool cn qc cA cf cg)])) := by
  intro sz
  refine met_start (by decide) rfl ?_
  intro p e s m args below meth c ls hsz hargs C0 hname hP hD hS hl
  generalize hAe : va_A (List.flatten [(Cw q cA (chv qc mc) mf mg), (Vw (q 15) cA mv0), (chPool cn qc cA cf cg)]) sz = A at C0 hD hS ⊢
  obtain ⟨hx, hb, hr, hml, hown, hts, hlk, hK, hA⟩ := id C0
  replace hl : lv_has ls 5 [(0, .ref (q 0)), (1, .int a1)] := hl
  obtain ⟨Q, hQ⟩ : ∃ Q : State → Prop, Q = QI below D A (fun r w => r = o.1 ∧ w = (List.flatten [(Cw q cA (chv qc mc) mf mg), (Vw (q 15) cA o.2), (chPool cn qc cA cf cg)])) args s 0 0 := ⟨_, rfl⟩
  refine cast (by rw [hQ]) (?_ : W p l e (RMx 2 50 0 0) s m args below meth c s.heap [] 0 0 Q (F0 m 0 ls []))
  have J48 : ∀ (x2 : Int32) (t0 : Int32) (mv : Nat → Int32), k_X1_noise_48 a1 mf mg x2 t0 mv = some o → ∀ (H : Heap) (locs : List Loc), va_P D vwCl (List.flatten [(Cw q cA (chv qc mc) mf mg), (Vw (q 15) cA mv), (chPool cn qc cA cf cg)]) H → va_D A (List.flatten [(Cw q cA (chv qc mc) mf mg), (Vw (q 15) cA mv), (chPool cn qc cA cf cg)]) → va_S A s.heap H locs → ∀ ls : Array Slot, lv_has ls 5 [(0, .ref (q 0)), (1, .int a1), (2, .int x2)] → W p l e (RMx 2 50 0 0) s m args below meth c H locs 0 0 Q (F0 m 48 ls [.int t0]) := by
    intro  x2 t0 mv hf H locs hP hD hS ls hl
    unfold k_X1_noise_48 at hf
    refine lv_istore_n (lv' := [(3, .int t0), (0, .ref (q 0)), (1, .int a1), (2, .int x2)]) hx hb dX1_noise_48 rfl hl (by decide) rfl (fun ls hl => ?_)
    refine lv_iload_n hx hb dX1_noise_49 rfl (lv_at hl 3 rfl) ?_
    refine lv_iconst (v := 2) hx hb dX1_noise_50 (by decide) ?_
    refine lv_idiv hx hb dX1_noise_51 (by decide) ?_
    refine lv_iconst (v := 3) hx hb dX1_noise_52 (by decide) ?_
    refine lv_iadd hx hb dX1_noise_53 ?_
    refine lv_istore (lv' := [(4, .int ((x2 / 2) + 3)), (3, .int t0), (0, .ref (q 0)), (1, .int a1), (2, .int x2)]) hx hb dX1_noise_54 hl (by decide) rfl (fun ls hl => ?_)
    refine lv_aload_n hx hb dX1_noise_56 rfl (lv_at hl 2 rfl) ?_
    refine va_get (D := D) (ci := 1) (v := .ref (q 7)) (C := RX1) (T := TX1) (N := 16) hx hb hts fw_1 hown hK hP 0 rfl rfl 7 (by decide) (hts _ m_fieldLink_P_Cellar_9_P_Cellar_kind_aI) (fun _ h9 => h9) rfl dX1_noise_57 ?_
    refine lv_iload_n hx hb dX1_noise_60 rfl (lv_at hl 3 rfl) ?_
    obtain ⟨hi1, hf⟩ := gd_of hf
    refine va_iald hx hb hK hP 1 0 rfl rfl hi1 dX1_noise_61 ?_
    by_cases c2 : ((mg 7) (Int32.toNatClampNeg a1)) = 1
    · replace hf := it_of c2 hf
      refine lv_tableIn (off := 38) (tgt := 100) hx hb dX1_noise_62 (by rw [c2]; decide) (by rw [c2]; decide) (by rw [c2]; decide) (by decide) ?_
      refine lv_iload_n hx hb dX1_noise_100 rfl (lv_at hl 4 rfl) ?_
      refine lv_aload_n hx hb dX1_noise_101 rfl (lv_at hl 2 rfl) ?_
      refine va_get (D := D) (ci := 1) (v := .ref (q 8)) (C := RX1) (T := TX1) (N := 16) hx hb hts fw_1 hown hK hP 0 rfl rfl 8 (by decide) (hts _ m_fieldLink_P_Cellar_15_P_Cellar_v_aI) (fun _ h9 => h9) rfl dX1_noise_102 ?_
      refine lv_iload_n hx hb dX1_noise_105 rfl (lv_at hl 3 rfl) ?_
      obtain ⟨hi3, hf⟩ := gd_of hf
      refine va_iald hx hb hK hP 2 0 rfl rfl hi3 dX1_noise_106 ?_
      refine lv_iadd hx hb dX1_noise_107 ?_
      rw [hQ]
      exact ret_i C0 hP hD hS (by have e := Option.some.inj hf; rw [← e]; exact ⟨rfl, rfl⟩) dX1_noise_108
    · replace hf := ie_of c2 hf
      by_cases c4 : ((mg 7) (Int32.toNatClampNeg a1)) = 2
      · replace hf := it_of c4 hf
        refine lv_tableIn (off := 47) (tgt := 109) hx hb dX1_noise_62 (by rw [c4]; decide) (by rw [c4]; decide) (by rw [c4]; decide) (by decide) ?_
        refine lv_iload hx hb dX1_noise_109 (lv_at hl 0 rfl) ?_
        rw [hQ]
        exact ret_i C0 hP hD hS (by have e := Option.some.inj hf; rw [← e]; exact ⟨rfl, rfl⟩) dX1_noise_111
      · replace hf := ie_of c4 hf
        by_cases c5 : ((mg 7) (Int32.toNatClampNeg a1)) = 3
        · replace hf := it_of c5 hf
          refine lv_tableIn (off := 50) (tgt := 112) hx hb dX1_noise_62 (by rw [c5]; decide) (by rw [c5]; decide) (by rw [c5]; decide) (by decide) ?_
          refine lv_iload_n hx hb dX1_noise_112 rfl (lv_at hl 1 rfl) ?_
          rw [hQ]
          exact ret_i C0 hP hD hS (by have e := Option.some.inj hf; rw [← e]; exact ⟨rfl, rfl⟩) dX1_noise_113
        · replace hf := ie_of c5 hf
          by_cases c6 : ((mg 7) (Int32.toNatClampNeg a1)) = 4
          · replace hf := it_of c6 hf
            refine lv_tableIn (off := 52) (tgt := 114) hx hb dX1_noise_62 (by rw [c6]; decide) (by rw [c6]; decide) (by rw [c6]; decide) (by decide) ?_
            refine lv_iload_n hx hb dX1_noise_114 rfl (lv_at hl 4 rfl) ?_
            refine lv_aload_n hx hb dX1_noise_115 rfl (lv_at hl 2 rfl) ?_
            refine va_get (D := D) (ci := 1) (v := .ref (q 8)) (C := RX1) (T := TX1) (N := 16) hx hb hts fw_1 hown hK hP 0 rfl rfl 8 (by decide) (hts _ m_fieldLink_P_Cellar_15_P_Cellar_v_aI) (fun _ h9 => h9) rfl dX1_noise_116 ?_
            refine lv_iload_n hx hb dX1_noise_119 rfl (lv_at hl 3 rfl) ?_
            obtain ⟨hi7, hf⟩ := gd_of hf
            refine va_iald hx hb hK hP 2 0 rfl rfl hi7 dX1_noise_120 ?_
            refine lv_iadd hx hb dX1_noise_121 ?_
            refine lv_aload_n hx hb dX1_noise_122 rfl (lv_at hl 2 rfl) ?_
            refine va_get (D := D) (ci := 1) (v := .ref (q 10)) (C := RX1) (T := TX1) (N := 16) hx hb hts fw_1 hown hK hP 0 rfl rfl 10 (by decide) (hts _ m_fieldLink_P_Cellar_21_P_Cellar_spell_aI) (fun _ h9 => h9) rfl dX1_noise_123 ?_
            refine lv_iload_n hx hb dX1_noise_126 rfl (lv_at hl 3 rfl) ?_
            obtain ⟨hi8, hf⟩ := gd_of hf
            refine va_iald hx hb hK hP 4 0 rfl rfl hi8 dX1_noise_127 ?_
            refine lv_bipush (v := 9) hx hb dX1_noise_128 (by decide) ?_
            refine va_mmin hx hb (by rw [hml]; exact hl.1.symm) hown (hts _ m_methodLink_P_Cellar_76_java_lang_Math_min_II_I) (hts _ m_static_java_lang_Math_min_II_I) (hts _ m_initialized_java_lang_Math) (hts _ m_code_java_lang_Math_min_II_I) (Nat.le_of_ble_eq_true rfl) (Nat.le_of_ble_eq_true rfl) (Nat.zero_le _) (Nat.zero_le _) dX1_noise_130 ?_
            refine lv_isub hx hb dX1_noise_133 ?_
            rw [hQ]
            exact ret_i C0 hP hD hS (by have e := Option.some.inj hf; rw [← e]; exact ⟨rfl, rfl⟩) dX1_noise_134
          · replace hf := ie_of c6 hf
            by_cases c9 : ((mg 7) (Int32.toNatClampNeg a1)) = 5
            · replace hf := it_of c9 hf
              refine lv_tableIn (off := 73) (tgt := 135) hx hb dX1_noise_62 (by rw [c9]; decide) (by rw [c9]; decide) (by rw [c9]; decide) (by decide) ?_
              refine lv_aload_n hx hb dX1_noise_135 rfl (lv_at hl 2 rfl) ?_
              refine lv_iload_n hx hb dX1_noise_136 rfl (lv_at hl 3 rfl) ?_
              obtain ⟨r10q, hq11, hf⟩ := b1_of hf
              refine callVI (As := [.int a1]) (rest := []) (wr := segpick [(Cw q cA (chv qc mc) mf mg), (Vw (q 15) cA mv), (chPool cn qc cA cf cg)] [1, 2]) C0 (c_X1_isDancingWith q qc mf mg mc a1 _ hq11) lk_X1_82_X1_isDancingWith rfl hP hD hS (seg_out [(Cw q cA (chv qc mc) mf mg), (Vw (q 15) cA mv), (chPool cn qc cA cf cg)] [0] [1, 2] (by decide)) 0 1 rfl rfl rfl hl.1 rfl rfl (Nat.le_of_ble_eq_true rfl) dX1_noise_137 ⟨Nat.zero_le _, Nat.zero_le _⟩ (fun r10 w H locs hw hP hD hS => ?_)
              obtain ⟨⟨e1, e2⟩, z12⟩ := hw
              replace e1 : r10 = r10q := e1
              subst e1
              subst e2
              replace hP : va_P D vwCl (List.flatten [(Cw q cA (chv qc mc) mf mg), (Vw (q 15) cA mv), (chPool cn qc cA cf cg)]) H := hP.perm (seg_out [(Cw q cA (chv qc mc) mf mg), (Vw (q 15) cA mv), (chPool cn qc cA cf cg)] [0] [1, 2] (by decide)).symm
              replace hD : va_D A (List.flatten [(Cw q cA (chv qc mc) mf mg), (Vw (q 15) cA mv), (chPool cn qc cA cf cg)]) := hD.perm (seg_out [(Cw q cA (chv qc mc) mf mg), (Vw (q 15) cA mv), (chPool cn qc cA cf cg)] [0] [1, 2] (by decide)).symm
              refine lv_if_eq (tgt := 150) hx hb dX1_noise_140 (by decide) (fun c13 => ?_) (fun c13 => ?_)
              · replace hf := it_of c13 hf
                refine lv_iload hx hb dX1_noise_150 (lv_at hl 0 rfl) ?_
                rw [hQ]
                exact ret_i C0 hP hD hS (by have e := Option.some.inj hf; rw [← e]; exact ⟨rfl, rfl⟩) dX1_noise_152
              · replace hf := ie_of c13 hf
                refine lv_iload hx hb dX1_noise_143 (lv_at hl 0 rfl) ?_
                refine lv_iconst (v := 2) hx hb dX1_noise_145 (by decide) ?_
                refine lv_imul hx hb dX1_noise_146 ?_
                refine lv_goto (tgt := 152) hx hb dX1_noise_147 (by decide) ?_
                rw [hQ]
                exact ret_i C0 hP hD hS (by have e := Option.some.inj hf; rw [← e]; exact ⟨rfl, rfl⟩) dX1_noise_152
            · replace hf := ie_of c9 hf
              by_cases c14 : ((mg 7) (Int32.toNatClampNeg a1)) = 6
              · replace hf := it_of c14 hf
                refine lv_tableIn (off := 91) (tgt := 153) hx hb dX1_noise_62 (by rw [c14]; decide) (by rw [c14]; decide) (by rw [c14]; decide) (by decide) ?_
                refine lv_iload_n hx hb dX1_noise_153 rfl (lv_at hl 1 rfl) ?_
                refine lv_aload_n hx hb dX1_noise_154 rfl (lv_at hl 2 rfl) ?_
                refine va_get (D := D) (ci := 1) (v := .ref (q 11)) (C := RX1) (T := TX1) (N := 16) hx hb hts fw_1 hown hK hP 0 rfl rfl 11 (by decide) (hts _ m_fieldLink_P_Cellar_24_P_Cellar_rows_aI) (fun _ h9 => h9) rfl dX1_noise_155 ?_
                refine lv_iload_n hx hb dX1_noise_158 rfl (lv_at hl 3 rfl) ?_
                refine lv_iconst (v := 4) hx hb dX1_noise_159 (by decide) ?_
                refine lv_imul hx hb dX1_noise_160 ?_
                refine lv_aload_n hx hb dX1_noise_161 rfl (lv_at hl 2 rfl) ?_
                refine va_get (D := D) (ci := 1) (v := .int (mf 5)) (C := RX1) (T := TX1) (N := 16) hx hb hts fw_1 hown hK hP 0 rfl rfl 5 (by decide) (hts _ m_fieldLink_P_Cellar_73_P_Cellar_day_I) (fun _ h9 => h9) rfl dX1_noise_162 ?_
                refine lv_iconst (v := 4) hx hb dX1_noise_165 (by decide) ?_
                refine lv_irem hx hb dX1_noise_166 (by decide) ?_
                refine lv_iadd hx hb dX1_noise_167 ?_
                obtain ⟨hi15, hf⟩ := gd_of hf
                refine va_iald hx hb hK hP 5 0 rfl rfl hi15 dX1_noise_168 ?_
                refine lv_iadd hx hb dX1_noise_169 ?_
                rw [hQ]
                exact ret_i C0 hP hD hS (by have e := Option.some.inj hf; rw [← e]; exact ⟨rfl, rfl⟩) dX1_noise_170
              · replace hf := ie_of c14 hf
                refine lv_tableOut (tgt := 171) hx hb dX1_noise_62 (by have := lv_neT c2 (a := 1) (by decide); have := lv_neT c4 (a := 2) (by decide); have := lv_neT c5 (a := 3) (by decide); have := lv_neT c6 (a := 4) (by decide); have := lv_neT c9 (a := 5) (by decide); have := lv_neT c14 (a := 6) (by decide); omega) (by decide) ?_
                refine lv_iload_n hx hb dX1_noise_171 rfl (lv_at hl 4 rfl) ?_
                rw [hQ]
                exact ret_i C0 hP hD hS (by have e := Option.some.inj hf; rw [← e]; exact ⟨rfl, rfl⟩) dX1_noise_172
  have J23 : ∀ (t0 : Int32) (mv : Nat → Int32), k_X1_noise_23 a1 mf mg t0 mv = some o → ∀ (H : Heap) (locs : List Loc), va_P D vwCl (List.flatten [(Cw q cA (chv qc mc) mf mg), (Vw (q 15) cA mv), (chPool cn qc cA cf cg)]) H → va_D A (List.flatten [(Cw q cA (chv qc mc) mf mg), (Vw (q 15) cA mv), (chPool cn qc cA cf cg)]) → va_S A s.heap H locs → ∀ ls : Array Slot, lv_has ls 5 [(0, .ref (q 0)), (1, .int a1)] → W p l e (RMx 2 50 0 0) s m args below meth c H locs 0 0 Q (F0 m 23 ls [.int t0]) := by
    intro  t0 mv hf H locs hP hD hS ls hl
    unfold k_X1_noise_23 at hf
    refine lv_aload_n hx hb dX1_noise_23 rfl (lv_at hl 0 rfl) ?_
    refine va_get (D := D) (ci := 1) (v := .ref (q 9)) (C := RX1) (T := TX1) (N := 16) hx hb hts fw_1 hown hK hP 0 rfl rfl 9 (by decide) (hts _ m_fieldLink_P_Cellar_18_P_Cellar_nerve_aI) (fun _ h9 => h9) rfl dX1_noise_24 ?_
    refine lv_iload_n hx hb dX1_noise_27 rfl (lv_at hl 1 rfl) ?_
    obtain ⟨hi1, hf⟩ := gd_of hf
    refine va_iald hx hb hK hP 3 0 rfl rfl hi1 dX1_noise_28 ?_
    refine lv_iconst (v := 4) hx hb dX1_noise_29 (by decide) ?_
    refine lv_idiv hx hb dX1_noise_30 (by decide) ?_
    refine lv_isub hx hb dX1_noise_31 ?_
    refine lv_istore_n (lv' := [(2, .int (t0 - (((mg 9) (Int32.toNatClampNeg a1)) / 4))), (0, .ref (q 0)), (1, .int a1)]) hx hb dX1_noise_32 rfl hl (by decide) rfl (fun ls hl => ?_)
    refine lv_aload_n hx hb dX1_noise_33 rfl (lv_at hl 1 rfl) ?_
    refine va_get (D := D) (ci := 1) (v := .int (mf 5)) (C := RX1) (T := TX1) (N := 16) hx hb hts fw_1 hown hK hP 0 rfl rfl 5 (by decide) (hts _ m_fieldLink_P_Cellar_73_P_Cellar_day_I) (fun _ h9 => h9) rfl dX1_noise_34 ?_
    refine lv_bipush (v := 7) hx hb dX1_noise_37 (by decide) ?_
    refine lv_irem hx hb dX1_noise_39 (by decide) ?_
    refine lv_if_ne (tgt := 47) hx hb dX1_noise_40 (by decide) (fun c2 => ?_) (fun c2 => ?_)
    · replace hf := ie_of c2 hf
      refine lv_iload_n hx hb dX1_noise_47 rfl (lv_at hl 0 rfl) ?_
      exact J48 (t0 - (((mg 9) (Int32.toNatClampNeg a1)) / 4)) (t0 - (((mg 9) (Int32.toNatClampNeg a1)) / 4)) mv hf _ _ hP hD hS _ (lv_sub hl [1, 2, 0] rfl)
    · replace hf := it_of c2 hf
      refine lv_iconst (v := 0) hx hb dX1_noise_43 (by decide) ?_
      refine lv_goto (tgt := 48) hx hb dX1_noise_44 (by decide) ?_
      exact J48 (t0 - (((mg 9) (Int32.toNatClampNeg a1)) / 4)) 0 mv hf _ _ hP hD hS _ (lv_sub hl [1, 2, 0] rfl)
  unfold k_X1_noise at hf
  refine lv_aload_n hx hb dX1_noise_0 rfl (lv_at hl 0 rfl) ?_
  refine va_get (D := D) (ci := 1) (v := chv qc mc) (C := RX1) (T := TX1) (N := 16) hx hb hts fw_1 hown hK hP 0 rfl rfl 6 (by decide) (hts _ m_fieldLink_P_Cellar_56_P_Cellar_charter_LP_Charter) (fun _ h9 => h9) rfl dX1_noise_1 ?_
  rcases mc with _ | i1
  · replace hf := oc_n hf
    refine lv_ifnonnullN hx hb dX1_noise_4 ?_
    refine lv_iconst (v := 0) hx hb dX1_noise_7 (by decide) ?_
    refine lv_goto (tgt := 23) hx hb dX1_noise_8 (by decide) ?_
    exact J23 0 mv0 hf _ _ hP hD hS _ (lv_sub hl [0, 1] rfl)
  · replace hf := oc_s hf
    refine lv_ifnonnull (tgt := 11) hx hb dX1_noise_4 (by decide) ?_
    refine lv_aload_n hx hb dX1_noise_11 rfl (lv_at hl 0 rfl) ?_
    refine va_get (D := D) (ci := 1) (v := chv qc (some i1)) (C := RX1) (T := TX1) (N := 16) hx hb hts fw_1 hown hK hP 0 rfl rfl 6 (by decide) (hts _ m_fieldLink_P_Cellar_56_P_Cellar_charter_LP_Charter) (fun _ h9 => h9) rfl dX1_noise_12 ?_
    refine lv_aload_n hx hb dX1_noise_15 rfl (lv_at hl 0 rfl) ?_
    refine lv_iload_n hx hb dX1_noise_16 rfl (lv_at hl 1 rfl) ?_
    obtain ⟨mv_2, hq3, hf⟩ := b1_of hf
    refine callVR (As := [.int a1]) (rest := [.ref (qc i1 0)]) (wr := segpick [(Cw q cA (chv qc (some i1)) mf mg), (Vw (q 15) cA mv0), (chPool cn qc cA cf cg)] [2]) C0 (c_X1_valuesOf q qc mf mg (some i1) mv0 a1 _ hq3) lk_X1_65_X1_valuesOf rfl hP hD hS (seg_out [(Cw q cA (chv qc (some i1)) mf mg), (Vw (q 15) cA mv0), (chPool cn qc cA cf cg)] [0, 1] [2] (by decide)) 0 1 rfl rfl rfl hl.1 rfl rfl (Nat.le_of_ble_eq_true rfl) dX1_noise_17 ⟨Nat.zero_le _, Nat.zero_le _⟩ (fun rhq3_ w H locs hw hP hD hS => ?_)
    obtain ⟨e1, e2⟩ := hw
    subst e1
    subst e2
    replace hP : va_P D vwCl (List.flatten [(Cw q cA (chv qc (some i1)) mf mg), (Vw (q 15) cA mv_2), (chPool cn qc cA cf cg)]) H := hP.perm (seg_out [(Cw q cA (chv qc (some i1)) mf mg), (Vw (q 15) cA mv_2), (chPool cn qc cA cf cg)] [0, 1] [2] (by decide)).symm
    replace hD : va_D A (List.flatten [(Cw q cA (chv qc (some i1)) mf mg), (Vw (q 15) cA mv_2), (chPool cn qc cA cf cg)]) := hD.perm (seg_out [(Cw q cA (chv qc (some i1)) mf mg), (Vw (q 15) cA mv_2), (chPool cn qc cA cf cg)] [0, 1] [2] (by decide)).symm
    obtain ⟨hg4, hf⟩ := gp_of hf
    obtain ⟨r5q, hq6, hf⟩ := b1_of hf
    refine callVI (As := [.ref (q 15)]) (rest := []) (wr := segpick [(Cw q cA (chv qc (some i1)) mf mg), (Vw (q 15) cA mv_2), (Chw (qc i1) cA (cf i1) (cg i1)), (chPoolR cn qc cA cf cg i1)] [0, 3]) C0 (c_X2_sumBy (qc i1) (q 15) (cf i1) (cg i1) mv_2 _ hq6) lk_X1_69_X2_sumBy rfl hP hD hS ((seg_split [(Cw q cA (chv qc (some i1)) mf mg), (Vw (q 15) cA mv_2)] (chPool cn qc cA cf cg) (Chw (qc i1) cA (cf i1) (cg i1)) (chPoolR cn qc cA cf cg i1) [] (pool_out hg4)).trans (seg_out [(Cw q cA (chv qc (some i1)) mf mg), (Vw (q 15) cA mv_2), (Chw (qc i1) cA (cf i1) (cg i1)), (chPoolR cn qc cA cf cg i1)] [2, 1] [0, 3] (by decide))) (7 + 7 * i1) 2 ((pool_at hg4 (List.flatten [(Cw q cA (chv qc (some i1)) mf mg), (Vw (q 15) cA mv_2)]) [] rfl : _)) rfl rfl hl.1 rfl rfl (Nat.le_of_ble_eq_true rfl) dX1_noise_20 ⟨Nat.zero_le _, Nat.zero_le _⟩ (fun r5 w H locs hw hP hD hS => ?_)
    obtain ⟨e1, e2⟩ := hw
    replace e1 : r5 = r5q := e1
    subst e1
    subst e2
    replace hP : va_P D vwCl (List.flatten [(Cw q cA (chv qc (some i1)) mf mg), (Vw (q 15) cA mv_2), (chPool cn qc cA cf cg)]) H := hP.perm ((seg_out [(Cw q cA (chv qc (some i1)) mf mg), (Vw (q 15) cA mv_2), (Chw (qc i1) cA (cf i1) (cg i1)), (chPoolR cn qc cA cf cg i1)] [2, 1] [0, 3] (by decide)).symm.trans (seg_split [(Cw q cA (chv qc (some i1)) mf mg), (Vw (q 15) cA mv_2)] (chPool cn qc cA cf cg) (Chw (qc i1) cA (cf i1) (cg i1)) (chPoolR cn qc cA cf cg i1) [] (pool_out hg4)).symm)
    replace hD : va_D A (List.flatten [(Cw q cA (chv qc (some i1)) mf mg), (Vw (q 15) cA mv_2), (chPool cn qc cA cf cg)]) := hD.perm ((seg_out [(Cw q cA (chv qc (some i1)) mf mg), (Vw (q 15) cA mv_2), (Chw (qc i1) cA (cf i1) (cg i1)), (chPoolR cn qc cA cf cg i1)] [2, 1] [0, 3] (by decide)).symm.trans (seg_split [(Cw q cA (chv qc (some i1)) mf mg), (Vw (q 15) cA mv_2)] (chPool cn qc cA cf cg) (Chw (qc i1) cA (cf i1) (cg i1)) (chPoolR cn qc cA cf cg i1) [] (pool_out hg4)).symm)
    exact J23 r5 mv_2 hf _ _ hP hD hS _ (lv_sub hl [0, 1] rfl)
-- X1 sound
noncomputable def k_X1_sound_4 (mf : Nat → Int32) (mg : Nat → Nat → Int32) (mc : Option Nat) (cn : Nat) (cf : Nat → Nat → Int32) (cg : Nat → Nat → Nat → Int32) : Nat → Int32 → Int32 → (Nat → Int32) → Option (Int32 × (Nat → Int32))
  | 0, _, _, _ => none
  | n + 1, x1, x2, mv => if (mf 0) ≤ x2 then some (x1, mv) else b1 (k_X1_isUp x2 mf) (fun r2 => if r2 = 0 then b2 (k_X1_noise x2 mf mg mc mv cn cf cg) (fun r6 mv_7 => k_X1_sound_4 mf mg mc cn cf cg n (x1 + (if 0 < r6 then r6 else 0)) (x2 + 1) mv_7) else k_X1_sound_4 mf mg mc cn cf cg n x1 (x2 + 1) mv)
noncomputable def k_X1_sound (mf : Nat → Int32) (mg : Nat → Nat → Int32) (mc : Option Nat) (mv0 : Nat → Int32) (cn : Nat) (cf : Nat → Nat → Int32) (cg : Nat → Nat → Nat → Int32) : Option (Int32 × (Nat → Int32)) := k_X1_sound_4 mf mg mc cn cf cg 100000 0 0 mv0
set_option maxHeartbeats 4000000 in
set_option maxRecDepth 100000 in
theorem c_X1_sound {l : Launch} {D : va_G} {cA : Nat → ClassId} (q : Nat → Nat) (qc : Nat → Nat → Nat) (mf : Nat → Int32) (mg : Nat → Nat → Int32) (mc : Option Nat) (mv0 : Nat → Int32) (cn : Nat) (cf : Nat → Nat → Int32) (cg : Nat → Nat → Nat → Int32)  (o : Int32 × (Nat → Int32)) (hf : k_X1_sound mf mg mc mv0 cn cf cg = some o) : CI l D cA yX1_sound cX1_sound 3 (some .int) 3 74 [.ref (q 0)] (List.flatten [(Cw q cA (chv qc mc) mf mg), (Vw (q 15) cA mv0), (chPool cn qc cA cf cg)]) 0 0 (fun r w => r = o.1 ∧ w = (List.flatten [(Cw q cA (chv qc mc) mf mg), (Vw (q 15) cA o.2), (chPool cn qc cA cf cg)])) := by
  intro sz
  refine met_start (by decide) rfl ?_
  intro p e s m args below meth c ls hsz hargs C0 hname hP hD hS hl
  generalize hAe : va_A (List.flatten [(Cw q cA (chv qc mc) mf mg), (Vw (q 15) cA mv0), (chPool cn qc cA cf cg)]) sz = A at C0 hD hS ⊢
  obtain ⟨hx, hb, hr, hml, hown, hts, hlk, hK, hA⟩ := id C0
  replace hl : lv_has ls 3 [(0, .ref (q 0))] := hl
  obtain ⟨Q, hQ⟩ : ∃ Q : State → Prop, Q = QI below D A (fun r w => r = o.1 ∧ w = (List.flatten [(Cw q cA (chv qc mc) mf mg), (Vw (q 15) cA o.2), (chPool cn qc cA cf cg)])) args s 0 0 := ⟨_, rfl⟩
  refine cast (by rw [hQ]) (?_ : W p l e (RMx 3 74 0 0) s m args below meth c s.heap [] 0 0 Q (F0 m 0 ls []))
  have J4 : ∀ n : Nat, ∀ (x1 : Int32) (x2 : Int32) (mv : Nat → Int32), k_X1_sound_4 mf mg mc cn cf cg n x1 x2 mv = some o → ∀ (H : Heap) (locs : List Loc), va_P D vwCl (List.flatten [(Cw q cA (chv qc mc) mf mg), (Vw (q 15) cA mv), (chPool cn qc cA cf cg)]) H → va_D A (List.flatten [(Cw q cA (chv qc mc) mf mg), (Vw (q 15) cA mv), (chPool cn qc cA cf cg)]) → va_S A s.heap H locs → ∀ ls : Array Slot, lv_has ls 3 [(0, .ref (q 0)), (1, .int x1), (2, .int x2)] → W p l e (RMx 3 74 0 0) s m args below meth c H locs 0 0 Q (F0 m 4 ls []) := by
    intro  n
    induction n with
    | zero =>
      intro x1 x2 mv hf
      rw [k_X1_sound_4] at hf
      cases hf
    | succ n ih =>
      intro x1 x2 mv hf H locs hP hD hS ls hl
      rw [k_X1_sound_4] at hf
      refine lv_iload_n hx hb dX1_sound_4 rfl (lv_at hl 2 rfl) ?_
      refine lv_aload_n hx hb dX1_sound_5 rfl (lv_at hl 0 rfl) ?_
      refine va_get (D := D) (ci := 1) (v := .int (mf 0)) (C := RX1) (T := TX1) (N := 16) hx hb hts fw_1 hown hK hP 0 rfl rfl 0 (by decide) (hts _ m_fieldLink_P_Cellar_45_P_Cellar_men_I) (fun _ h9 => h9) rfl dX1_sound_6 ?_
      refine lv_icmp_ge (tgt := 38) hx hb dX1_sound_9 (by decide) (fun c1 => ?_) (fun c1 => ?_)
      · replace hf := it_of c1 hf
        refine lv_iload_n hx hb dX1_sound_38 rfl (lv_at hl 1 rfl) ?_
        rw [hQ]
        exact ret_i C0 hP hD hS (by have e := Option.some.inj hf; rw [← e]; exact ⟨rfl, rfl⟩) dX1_sound_39
      · replace hf := ie_of c1 hf
        refine lv_aload_n hx hb dX1_sound_12 rfl (lv_at hl 0 rfl) ?_
        refine lv_iload_n hx hb dX1_sound_13 rfl (lv_at hl 2 rfl) ?_
        obtain ⟨r2q, hq3, hf⟩ := b1_of hf
        refine callVI (As := [.int x2]) (rest := []) (wr := segpick [(Cw q cA (chv qc mc) mf mg), (Vw (q 15) cA mv), (chPool cn qc cA cf cg)] [1, 2]) C0 (c_X1_isUp q qc mf mg mc x2 _ hq3) lk_X1_86_X1_isUp rfl hP hD hS (seg_out [(Cw q cA (chv qc mc) mf mg), (Vw (q 15) cA mv), (chPool cn qc cA cf cg)] [0] [1, 2] (by decide)) 0 1 rfl rfl rfl hl.1 rfl rfl (Nat.le_of_ble_eq_true rfl) dX1_sound_14 ⟨Nat.zero_le _, Nat.zero_le _⟩ (fun r2 w H locs hw hP hD hS => ?_)
        obtain ⟨⟨e1, e2⟩, z4⟩ := hw
        replace e1 : r2 = r2q := e1
        subst e1
        subst e2
        replace hP : va_P D vwCl (List.flatten [(Cw q cA (chv qc mc) mf mg), (Vw (q 15) cA mv), (chPool cn qc cA cf cg)]) H := hP.perm (seg_out [(Cw q cA (chv qc mc) mf mg), (Vw (q 15) cA mv), (chPool cn qc cA cf cg)] [0] [1, 2] (by decide)).symm
        replace hD : va_D A (List.flatten [(Cw q cA (chv qc mc) mf mg), (Vw (q 15) cA mv), (chPool cn qc cA cf cg)]) := hD.perm (seg_out [(Cw q cA (chv qc mc) mf mg), (Vw (q 15) cA mv), (chPool cn qc cA cf cg)] [0] [1, 2] (by decide)).symm
        refine lv_if_ne (tgt := 32) hx hb dX1_sound_17 (by decide) (fun c5 => ?_) (fun c5 => ?_)
        · replace hf := ie_of c5 hf
          refine lv_iinc (v := (x2 + 1)) (lv' := [(2, .int (x2 + 1)), (0, .ref (q 0)), (1, .int x1)]) hx hb dX1_sound_32 hl (k := 2) rfl rfl (by decide) rfl (fun ls hl => ?_)
          refine lv_goto (tgt := 4) hx hb dX1_sound_35 (by decide) ?_
          exact ih x1 (x2 + 1) mv hf _ _ hP hD hS _ (lv_sub hl [1, 2, 0] rfl)
        · replace hf := it_of c5 hf
          refine lv_iload_n hx hb dX1_sound_20 rfl (lv_at hl 1 rfl) ?_
          refine lv_iconst (v := 0) hx hb dX1_sound_21 (by decide) ?_
          refine lv_aload_n hx hb dX1_sound_22 rfl (lv_at hl 0 rfl) ?_
          refine lv_iload_n hx hb dX1_sound_23 rfl (lv_at hl 2 rfl) ?_
          obtain ⟨r6q, mv_7, hq8, hf⟩ := b2_of hf
          refine callVI (As := [.int x2]) (rest := [.int 0, .int x1]) (wr := []) C0 (c_X1_noise q qc mf mg mc mv cn cf cg x2 _ hq8) lk_X1_89_X1_noise rfl hP hD hS perm_nil 0 1 rfl rfl rfl hl.1 rfl rfl (Nat.le_of_ble_eq_true rfl) dX1_sound_24 ⟨Nat.zero_le _, Nat.zero_le _⟩ (fun r6 w H locs hw hP hD hS => ?_)
          obtain ⟨e1, e2⟩ := hw
          replace e1 : r6 = r6q := e1
          subst e1
          subst e2
          replace hP : va_P D vwCl (List.flatten [(Cw q cA (chv qc mc) mf mg), (Vw (q 15) cA mv_7), (chPool cn qc cA cf cg)]) H := hP.nil
          replace hD : va_D A (List.flatten [(Cw q cA (chv qc mc) mf mg), (Vw (q 15) cA mv_7), (chPool cn qc cA cf cg)]) := hD.nil
          refine va_mmax hx hb (by rw [hml]; exact hl.1.symm) hown (hts _ m_methodLink_P_Cellar_93_java_lang_Math_max_II_I) (hts _ m_static_java_lang_Math_max_II_I) (hts _ m_initialized_java_lang_Math) (hts _ m_code_java_lang_Math_max_II_I) (Nat.le_of_ble_eq_true rfl) (Nat.le_of_ble_eq_true rfl) (Nat.zero_le _) (Nat.zero_le _) dX1_sound_27 ?_
          refine lv_iadd hx hb dX1_sound_30 ?_
          refine lv_istore_n (lv' := [(1, .int (x1 + (if 0 < r6 then r6 else 0))), (0, .ref (q 0)), (2, .int x2)]) hx hb dX1_sound_31 rfl hl (by decide) rfl (fun ls hl => ?_)
          refine lv_iinc (v := (x2 + 1)) (lv' := [(2, .int (x2 + 1)), (1, .int (x1 + (if 0 < r6 then r6 else 0))), (0, .ref (q 0))]) hx hb dX1_sound_32 hl (k := 2) rfl rfl (by decide) rfl (fun ls hl => ?_)
          refine lv_goto (tgt := 4) hx hb dX1_sound_35 (by decide) ?_
          exact ih (x1 + (if 0 < r6 then r6 else 0)) (x2 + 1) mv_7 hf _ _ hP hD hS _ (lv_sub hl [2, 1, 0] rfl)
  unfold k_X1_sound at hf
  refine lv_iconst (v := 0) hx hb dX1_sound_0 (by decide) ?_
  refine lv_istore_n (lv' := [(1, .int 0), (0, .ref (q 0))]) hx hb dX1_sound_1 rfl hl (by decide) rfl (fun ls hl => ?_)
  refine lv_iconst (v := 0) hx hb dX1_sound_2 (by decide) ?_
  refine lv_istore_n (lv' := [(2, .int 0), (1, .int 0), (0, .ref (q 0))]) hx hb dX1_sound_3 rfl hl (by decide) rfl (fun ls hl => ?_)
  exact J4 100000 0 0 mv0 hf _ _ hP hD hS _ (lv_sub hl [2, 1, 0] rfl)
-- X1 passDay
noncomputable def k_X1_passDay_137  (kc100 : Int32 → (Nat → Int32) → (Nat → Nat → Int32) → Option ((Nat → Int32) × (Nat → Nat → Int32))) (x3 : Int32) (t1 : Int32) (t2 : Int32) (mf : Nat → Int32) (mg : Nat → Nat → Int32) : Option ((Nat → Int32) × (Nat → Nat → Int32)) := gd t1 6 (kc100 (x3 + 1) mf (va_up mg 10 (upd (mg 10) (Int32.toNatClampNeg t1) t2)))
noncomputable def k_X1_passDay_100 (a2 : Int32) : Nat → Int32 → (Nat → Int32) → (Nat → Nat → Int32) → Option ((Nat → Int32) × (Nat → Nat → Int32))
  | 0, _, _, _ => none
  | n + 1, x3, mf, mg => if (mf 0) ≤ x3 then some ((upd mf 5 ((mf 5) + 1)), mg) else b1 (k_X1_isUp x3 mf) (fun r2 => if r2 = 0 then gd x3 6 (k_X1_passDay_137 (k_X1_passDay_100 a2 n) x3 x3 (if a2 < (((mg 10) (Int32.toNatClampNeg x3)) + 1) then a2 else (((mg 10) (Int32.toNatClampNeg x3)) + 1)) mf mg) else k_X1_passDay_137 (k_X1_passDay_100 a2 n) x3 x3 0 mf mg)
noncomputable def k_X1_passDay_51 (a2 : Int32) (mf : Nat → Int32) (mg : Nat → Nat → Int32) : Option ((Nat → Int32) × (Nat → Nat → Int32)) := if (if 9999 < (mf 2) then 9999 else (mf 2)) < 100 then k_X1_passDay_100 a2 100000 0 (upd mf 2 (if 9999 < (mf 2) then 9999 else (mf 2))) mg else nm (upd (upd mf 2 (if 9999 < (mf 2) then 9999 else (mf 2))) 3 (if a2 < (((upd mf 2 (if 9999 < (mf 2) then 9999 else (mf 2))) 3) + 1) then a2 else (((upd mf 2 (if 9999 < (mf 2) then 9999 else (mf 2))) 3) + 1))) (fun mf_2 => k_X1_passDay_100 a2 100000 0 (upd mf_2 2 ((mf_2 2) / 2)) mg)
noncomputable def k_X1_passDay (a1 : Int32) (a2 : Int32) (mf0 : Nat → Int32) (mg0 : Nat → Nat → Int32) (mc : Option Nat) (cn : Nat) (cf : Nat → Nat → Int32) : Option ((Nat → Int32) × (Nat → Nat → Int32)) := if a1 = 0 then nm (upd (upd mf0 4 (if a2 < ((mf0 4) + 1) then a2 else ((mf0 4) + 1))) 2 (((upd mf0 4 (if a2 < ((mf0 4) + 1) then a2 else ((mf0 4) + 1))) 2) + 50)) (fun mf_4 => k_X1_passDay_51 a2 mf_4 mg0) else b1 (k_X1_calm mc cn cf) (fun r2 => k_X1_passDay_51 a2 (upd mf0 2 (if 0 < (((mf0 2) + a1) - r2) then (((mf0 2) + a1) - r2) else 0)) mg0)
set_option maxHeartbeats 4000000 in
set_option maxRecDepth 100000 in
theorem c_X1_passDay {l : Launch} {D : va_G} {cA : Nat → ClassId} (q : Nat → Nat) (qc : Nat → Nat → Nat) (mf0 : Nat → Int32) (mg0 : Nat → Nat → Int32) (mc : Option Nat) (cn : Nat) (cf : Nat → Nat → Int32) (cg : Nat → Nat → Nat → Int32) (a1 : Int32) (a2 : Int32) (o : (Nat → Int32) × (Nat → Nat → Int32)) (hf : k_X1_passDay a1 a2 mf0 mg0 mc cn cf = some o) : CV l D cA yX1_passDay cX1_passDay 4 none 1 23 [.ref (q 0), .int a1, .int a2] (List.flatten [(Cw q cA (chv qc mc) mf0 mg0), (chPool cn qc cA cf cg)]) 0 0 (fun w => w = (List.flatten [(Cw q cA (chv qc mc) o.1 o.2), (chPool cn qc cA cf cg)])) := by
  intro sz
  refine met_start (by decide) rfl ?_
  intro p e s m args below meth c ls hsz hargs C0 hname hP hD hS hl
  generalize hAe : va_A (List.flatten [(Cw q cA (chv qc mc) mf0 mg0), (chPool cn qc cA cf cg)]) sz = A at C0 hD hS ⊢
  obtain ⟨hx, hb, hr, hml, hown, hts, hlk, hK, hA⟩ := id C0
  replace hl : lv_has ls 4 [(0, .ref (q 0)), (1, .int a1), (2, .int a2)] := hl
  obtain ⟨Q, hQ⟩ : ∃ Q : State → Prop, Q = QV below D A (fun w => w = (List.flatten [(Cw q cA (chv qc mc) o.1 o.2), (chPool cn qc cA cf cg)])) args s 0 0 := ⟨_, rfl⟩
  refine cast (by rw [hQ]) (?_ : W p l e (RMx 1 23 0 0) s m args below meth c s.heap [] 0 0 Q (F0 m 0 ls []))
  have J137 : ∀ (kc100 : Int32 → (Nat → Int32) → (Nat → Nat → Int32) → Option ((Nat → Int32) × (Nat → Nat → Int32))) (hkc100 : ∀ (x3 : Int32) (mf : Nat → Int32) (mg : Nat → Nat → Int32), kc100 x3 mf mg = some o → ∀ (H : Heap) (locs : List Loc), va_P D vwCl (List.flatten [(Cw q cA (chv qc mc) mf mg), (chPool cn qc cA cf cg)]) H → va_D A (List.flatten [(Cw q cA (chv qc mc) mf mg), (chPool cn qc cA cf cg)]) → va_S A s.heap H locs → ∀ ls : Array Slot, lv_has ls 4 [(0, .ref (q 0)), (2, .int a2), (3, .int x3)] → W p l e (RMx 1 23 0 0) s m args below meth c H locs 0 0 Q (F0 m 100 ls [])), ∀ (x3 : Int32) (t1 : Int32) (t2 : Int32) (mf : Nat → Int32) (mg : Nat → Nat → Int32), k_X1_passDay_137 kc100 x3 t1 t2 mf mg = some o → ∀ (H : Heap) (locs : List Loc), va_P D vwCl (List.flatten [(Cw q cA (chv qc mc) mf mg), (chPool cn qc cA cf cg)]) H → va_D A (List.flatten [(Cw q cA (chv qc mc) mf mg), (chPool cn qc cA cf cg)]) → va_S A s.heap H locs → ∀ ls : Array Slot, lv_has ls 4 [(0, .ref (q 0)), (2, .int a2), (3, .int x3)] → W p l e (RMx 1 23 0 0) s m args below meth c H locs 0 0 Q (F0 m 137 ls [.int t2, .int t1, .ref (q 10)]) := by
    intro kc100 hkc100 x3 t1 t2 mf mg hf H locs hP hD hS ls hl
    unfold k_X1_passDay_137 at hf
    obtain ⟨hi1, hf⟩ := gd_of hf
    refine va_iast hx hb hK hP hD hS 4 0 rfl rfl hi1 dX1_passDay_137 (fun H locs hP hD hS => ?_)
    replace hP : va_P D vwCl (List.flatten [(Cw q cA (chv qc mc) mf (va_up mg 10 (upd (mg 10) (Int32.toNatClampNeg t1) t2))), (chPool cn qc cA cf cg)]) H := hP
    replace hD : va_D A (List.flatten [(Cw q cA (chv qc mc) mf (va_up mg 10 (upd (mg 10) (Int32.toNatClampNeg t1) t2))), (chPool cn qc cA cf cg)]) := hD
    refine lv_iinc (v := (x3 + 1)) (lv' := [(3, .int (x3 + 1)), (0, .ref (q 0)), (2, .int a2)]) hx hb dX1_passDay_138 hl (k := 2) rfl rfl (by decide) rfl (fun ls hl => ?_)
    refine lv_goto (tgt := 100) hx hb dX1_passDay_141 (by decide) ?_
    exact hkc100 (x3 + 1) mf (va_up mg 10 (upd (mg 10) (Int32.toNatClampNeg t1) t2)) hf _ _ hP hD hS _ (lv_sub hl [1, 2, 0] rfl)
  have J100 : ∀ n : Nat, ∀ (x3 : Int32) (mf : Nat → Int32) (mg : Nat → Nat → Int32), k_X1_passDay_100 a2 n x3 mf mg = some o → ∀ (H : Heap) (locs : List Loc), va_P D vwCl (List.flatten [(Cw q cA (chv qc mc) mf mg), (chPool cn qc cA cf cg)]) H → va_D A (List.flatten [(Cw q cA (chv qc mc) mf mg), (chPool cn qc cA cf cg)]) → va_S A s.heap H locs → ∀ ls : Array Slot, lv_has ls 4 [(0, .ref (q 0)), (2, .int a2), (3, .int x3)] → W p l e (RMx 1 23 0 0) s m args below meth c H locs 0 0 Q (F0 m 100 ls []) := by
    intro  n
    induction n with
    | zero =>
      intro x3 mf mg hf
      rw [k_X1_passDay_100] at hf
      cases hf
    | succ n ih =>
      intro x3 mf mg hf H locs hP hD hS ls hl
      rw [k_X1_passDay_100] at hf
      refine lv_iload_n hx hb dX1_passDay_100 rfl (lv_at hl 2 rfl) ?_
      refine lv_aload_n hx hb dX1_passDay_101 rfl (lv_at hl 0 rfl) ?_
      refine va_get (D := D) (ci := 1) (v := .int (mf 0)) (C := RX1) (T := TX1) (N := 16) hx hb hts fw_1 hown hK hP 0 rfl rfl 0 (by decide) (hts _ m_fieldLink_P_Cellar_45_P_Cellar_men_I) (fun _ h9 => h9) rfl dX1_passDay_102 ?_
      refine lv_icmp_ge (tgt := 144) hx hb dX1_passDay_105 (by decide) (fun c1 => ?_) (fun c1 => ?_)
      · replace hf := it_of c1 hf
        refine lv_aload_n hx hb dX1_passDay_144 rfl (lv_at hl 0 rfl) ?_
        refine lv_dup hx hb dX1_passDay_145 rfl ?_
        refine va_get (D := D) (ci := 1) (v := .int (mf 5)) (C := RX1) (T := TX1) (N := 16) hx hb hts fw_1 hown hK hP 0 rfl rfl 5 (by decide) (hts _ m_fieldLink_P_Cellar_73_P_Cellar_day_I) (fun _ h9 => h9) rfl dX1_passDay_146 ?_
        refine lv_iconst (v := 1) hx hb dX1_passDay_149 (by decide) ?_
        refine lv_iadd hx hb dX1_passDay_150 ?_
        refine va_put (D := D) (ci := 1) (v := .int ((mf 5) + 1)) (ty := .int) (C := RX1) (T := TX1) (N := 16) hx hb hts fw_1 tyX1 tyX1_ok nmX1 hown hK hP hD hS 0 rfl rfl 5 (by decide) (hts _ m_fieldLink_P_Cellar_73_P_Cellar_day_I) (fun _ h9 => h9) rfl (by decide +kernel) rfl rfl (Nat.le_of_ble_eq_true rfl) dX1_passDay_151 (fun H locs hP hD hS => ?_)
        replace hP : va_P D vwCl (List.flatten [(Cw q cA (chv qc mc) (upd mf 5 ((mf 5) + 1)) mg), (chPool cn qc cA cf cg)]) H := hP
        replace hD : va_D A (List.flatten [(Cw q cA (chv qc mc) (upd mf 5 ((mf 5) + 1)) mg), (chPool cn qc cA cf cg)]) := hD
        rw [hQ]
        exact ret_v C0 hP hD hS (by have e := Option.some.inj hf; first | (rw [← e]; done) | (rw [← e]; exact rfl)) dX1_passDay_154
      · replace hf := ie_of c1 hf
        refine lv_aload_n hx hb dX1_passDay_108 rfl (lv_at hl 0 rfl) ?_
        refine va_get (D := D) (ci := 1) (v := .ref (q 10)) (C := RX1) (T := TX1) (N := 16) hx hb hts fw_1 hown hK hP 0 rfl rfl 10 (by decide) (hts _ m_fieldLink_P_Cellar_21_P_Cellar_spell_aI) (fun _ h9 => h9) rfl dX1_passDay_109 ?_
        refine lv_iload_n hx hb dX1_passDay_112 rfl (lv_at hl 2 rfl) ?_
        refine lv_aload_n hx hb dX1_passDay_113 rfl (lv_at hl 0 rfl) ?_
        refine lv_iload_n hx hb dX1_passDay_114 rfl (lv_at hl 2 rfl) ?_
        obtain ⟨r2q, hq3, hf⟩ := b1_of hf
        refine callVI (As := [.int x3]) (rest := [.int x3, .ref (q 10)]) (wr := segpick [(Cw q cA (chv qc mc) mf mg), (chPool cn qc cA cf cg)] [1]) C0 (c_X1_isUp q qc mf mg mc x3 _ hq3) lk_X1_86_X1_isUp rfl hP hD hS (seg_out [(Cw q cA (chv qc mc) mf mg), (chPool cn qc cA cf cg)] [0] [1] (by decide)) 0 1 rfl rfl rfl hl.1 rfl rfl (Nat.le_of_ble_eq_true rfl) dX1_passDay_115 ⟨Nat.zero_le _, Nat.zero_le _⟩ (fun r2 w H locs hw hP hD hS => ?_)
        obtain ⟨⟨e1, e2⟩, z4⟩ := hw
        replace e1 : r2 = r2q := e1
        subst e1
        subst e2
        replace hP : va_P D vwCl (List.flatten [(Cw q cA (chv qc mc) mf mg), (chPool cn qc cA cf cg)]) H := hP.perm (seg_out [(Cw q cA (chv qc mc) mf mg), (chPool cn qc cA cf cg)] [0] [1] (by decide)).symm
        replace hD : va_D A (List.flatten [(Cw q cA (chv qc mc) mf mg), (chPool cn qc cA cf cg)]) := hD.perm (seg_out [(Cw q cA (chv qc mc) mf mg), (chPool cn qc cA cf cg)] [0] [1] (by decide)).symm
        refine lv_if_eq (tgt := 125) hx hb dX1_passDay_118 (by decide) (fun c5 => ?_) (fun c5 => ?_)
        · replace hf := it_of c5 hf
          refine lv_aload_n hx hb dX1_passDay_125 rfl (lv_at hl 0 rfl) ?_
          refine va_get (D := D) (ci := 1) (v := .ref (q 10)) (C := RX1) (T := TX1) (N := 16) hx hb hts fw_1 hown hK hP 0 rfl rfl 10 (by decide) (hts _ m_fieldLink_P_Cellar_21_P_Cellar_spell_aI) (fun _ h9 => h9) rfl dX1_passDay_126 ?_
          refine lv_iload_n hx hb dX1_passDay_129 rfl (lv_at hl 2 rfl) ?_
          obtain ⟨hi6, hf⟩ := gd_of hf
          refine va_iald hx hb hK hP 4 0 rfl rfl hi6 dX1_passDay_130 ?_
          refine lv_iconst (v := 1) hx hb dX1_passDay_131 (by decide) ?_
          refine lv_iadd hx hb dX1_passDay_132 ?_
          refine lv_iload_n hx hb dX1_passDay_133 rfl (lv_at hl 1 rfl) ?_
          refine va_mmin hx hb (by rw [hml]; exact hl.1.symm) hown (hts _ m_methodLink_P_Cellar_76_java_lang_Math_min_II_I) (hts _ m_static_java_lang_Math_min_II_I) (hts _ m_initialized_java_lang_Math) (hts _ m_code_java_lang_Math_min_II_I) (Nat.le_of_ble_eq_true rfl) (Nat.le_of_ble_eq_true rfl) (Nat.zero_le _) (Nat.zero_le _) dX1_passDay_134 ?_
          exact J137 _ ih x3 x3 (if a2 < (((mg 10) (Int32.toNatClampNeg x3)) + 1) then a2 else (((mg 10) (Int32.toNatClampNeg x3)) + 1)) mf mg hf _ _ hP hD hS _ (lv_sub hl [0, 1, 2] rfl)
        · replace hf := ie_of c5 hf
          refine lv_iconst (v := 0) hx hb dX1_passDay_121 (by decide) ?_
          refine lv_goto (tgt := 137) hx hb dX1_passDay_122 (by decide) ?_
          exact J137 _ ih x3 x3 0 mf mg hf _ _ hP hD hS _ (lv_sub hl [0, 1, 2] rfl)
  have J51 : ∀ (mf : Nat → Int32) (mg : Nat → Nat → Int32), k_X1_passDay_51 a2 mf mg = some o → ∀ (H : Heap) (locs : List Loc), va_P D vwCl (List.flatten [(Cw q cA (chv qc mc) mf mg), (chPool cn qc cA cf cg)]) H → va_D A (List.flatten [(Cw q cA (chv qc mc) mf mg), (chPool cn qc cA cf cg)]) → va_S A s.heap H locs → ∀ ls : Array Slot, lv_has ls 4 [(0, .ref (q 0)), (2, .int a2)] → W p l e (RMx 1 23 0 0) s m args below meth c H locs 0 0 Q (F0 m 51 ls []) := by
    intro  mf mg hf H locs hP hD hS ls hl
    unfold k_X1_passDay_51 at hf
    refine lv_aload_n hx hb dX1_passDay_51 rfl (lv_at hl 0 rfl) ?_
    refine lv_aload_n hx hb dX1_passDay_52 rfl (lv_at hl 0 rfl) ?_
    refine va_get (D := D) (ci := 1) (v := .int (mf 2)) (C := RX1) (T := TX1) (N := 16) hx hb hts fw_1 hown hK hP 0 rfl rfl 2 (by decide) (hts _ m_fieldLink_P_Cellar_107_P_Cellar_fear_I) (fun _ h9 => h9) rfl dX1_passDay_53 ?_
    refine lv_sipush (v := 9999) hx hb dX1_passDay_56 (by decide) ?_
    refine va_mmin hx hb (by rw [hml]; exact hl.1.symm) hown (hts _ m_methodLink_P_Cellar_76_java_lang_Math_min_II_I) (hts _ m_static_java_lang_Math_min_II_I) (hts _ m_initialized_java_lang_Math) (hts _ m_code_java_lang_Math_min_II_I) (Nat.le_of_ble_eq_true rfl) (Nat.le_of_ble_eq_true rfl) (Nat.zero_le _) (Nat.zero_le _) dX1_passDay_59 ?_
    refine va_put (D := D) (ci := 1) (v := .int (if 9999 < (mf 2) then 9999 else (mf 2))) (ty := .int) (C := RX1) (T := TX1) (N := 16) hx hb hts fw_1 tyX1 tyX1_ok nmX1 hown hK hP hD hS 0 rfl rfl 2 (by decide) (hts _ m_fieldLink_P_Cellar_107_P_Cellar_fear_I) (fun _ h9 => h9) rfl (by decide +kernel) rfl rfl (Nat.le_of_ble_eq_true rfl) dX1_passDay_62 (fun H locs hP hD hS => ?_)
    replace hP : va_P D vwCl (List.flatten [(Cw q cA (chv qc mc) (upd mf 2 (if 9999 < (mf 2) then 9999 else (mf 2))) mg), (chPool cn qc cA cf cg)]) H := hP
    replace hD : va_D A (List.flatten [(Cw q cA (chv qc mc) (upd mf 2 (if 9999 < (mf 2) then 9999 else (mf 2))) mg), (chPool cn qc cA cf cg)]) := hD
    refine lv_aload_n hx hb dX1_passDay_65 rfl (lv_at hl 0 rfl) ?_
    refine va_get (D := D) (ci := 1) (v := .int (if 9999 < (mf 2) then 9999 else (mf 2))) (C := RX1) (T := TX1) (N := 16) hx hb hts fw_1 hown hK hP 0 rfl rfl 2 (by decide) (hts _ m_fieldLink_P_Cellar_107_P_Cellar_fear_I) (fun _ h9 => h9) rfl dX1_passDay_66 ?_
    refine lv_bipush (v := 100) hx hb dX1_passDay_69 (by decide) ?_
    refine lv_icmp_lt (tgt := 98) hx hb dX1_passDay_71 (by decide) (fun c1 => ?_) (fun c1 => ?_)
    · replace hf := it_of c1 hf
      refine lv_iconst (v := 0) hx hb dX1_passDay_98 (by decide) ?_
      refine lv_istore_n (lv' := [(3, .int 0), (0, .ref (q 0)), (2, .int a2)]) hx hb dX1_passDay_99 rfl hl (by decide) rfl (fun ls hl => ?_)
      exact J100 100000 0 (upd mf 2 (if 9999 < (mf 2) then 9999 else (mf 2))) mg hf _ _ hP hD hS _ (lv_sub hl [1, 2, 0] rfl)
    · replace hf := ie_of c1 hf
      refine lv_aload_n hx hb dX1_passDay_74 rfl (lv_at hl 0 rfl) ?_
      refine lv_aload_n hx hb dX1_passDay_75 rfl (lv_at hl 0 rfl) ?_
      refine va_get (D := D) (ci := 1) (v := .int ((upd mf 2 (if 9999 < (mf 2) then 9999 else (mf 2))) 3)) (C := RX1) (T := TX1) (N := 16) hx hb hts fw_1 hown hK hP 0 rfl rfl 3 (by decide) (hts _ m_fieldLink_P_Cellar_112_P_Cellar_truths_I) (fun _ h9 => h9) rfl dX1_passDay_76 ?_
      refine lv_iconst (v := 1) hx hb dX1_passDay_79 (by decide) ?_
      refine lv_iadd hx hb dX1_passDay_80 ?_
      refine lv_iload_n hx hb dX1_passDay_81 rfl (lv_at hl 1 rfl) ?_
      refine va_mmin hx hb (by rw [hml]; exact hl.1.symm) hown (hts _ m_methodLink_P_Cellar_76_java_lang_Math_min_II_I) (hts _ m_static_java_lang_Math_min_II_I) (hts _ m_initialized_java_lang_Math) (hts _ m_code_java_lang_Math_min_II_I) (Nat.le_of_ble_eq_true rfl) (Nat.le_of_ble_eq_true rfl) (Nat.zero_le _) (Nat.zero_le _) dX1_passDay_82 ?_
      refine va_put (D := D) (ci := 1) (v := .int (if a2 < (((upd mf 2 (if 9999 < (mf 2) then 9999 else (mf 2))) 3) + 1) then a2 else (((upd mf 2 (if 9999 < (mf 2) then 9999 else (mf 2))) 3) + 1))) (ty := .int) (C := RX1) (T := TX1) (N := 16) hx hb hts fw_1 tyX1 tyX1_ok nmX1 hown hK hP hD hS 0 rfl rfl 3 (by decide) (hts _ m_fieldLink_P_Cellar_112_P_Cellar_truths_I) (fun _ h9 => h9) rfl (by decide +kernel) rfl rfl (Nat.le_of_ble_eq_true rfl) dX1_passDay_85 (fun H locs hP hD hS => ?_)
      replace hP : va_P D vwCl (List.flatten [(Cw q cA (chv qc mc) (upd (upd mf 2 (if 9999 < (mf 2) then 9999 else (mf 2))) 3 (if a2 < (((upd mf 2 (if 9999 < (mf 2) then 9999 else (mf 2))) 3) + 1) then a2 else (((upd mf 2 (if 9999 < (mf 2) then 9999 else (mf 2))) 3) + 1))) mg), (chPool cn qc cA cf cg)]) H := hP
      replace hD : va_D A (List.flatten [(Cw q cA (chv qc mc) (upd (upd mf 2 (if 9999 < (mf 2) then 9999 else (mf 2))) 3 (if a2 < (((upd mf 2 (if 9999 < (mf 2) then 9999 else (mf 2))) 3) + 1) then a2 else (((upd mf 2 (if 9999 < (mf 2) then 9999 else (mf 2))) 3) + 1))) mg), (chPool cn qc cA cf cg)]) := hD
      obtain ⟨mf_2, hv3, hf⟩ := nm_of hf
      replace hP : va_P D vwCl (List.flatten [(Cw q cA (chv qc mc) mf_2 mg), (chPool cn qc cA cf cg)]) H := by rw [hv3]; exact hP
      replace hD : va_D A (List.flatten [(Cw q cA (chv qc mc) mf_2 mg), (chPool cn qc cA cf cg)]) := by rw [hv3]; exact hD
      refine lv_aload_n hx hb dX1_passDay_88 rfl (lv_at hl 0 rfl) ?_
      refine lv_dup hx hb dX1_passDay_89 rfl ?_
      refine va_get (D := D) (ci := 1) (v := .int (mf_2 2)) (C := RX1) (T := TX1) (N := 16) hx hb hts fw_1 hown hK hP 0 rfl rfl 2 (by decide) (hts _ m_fieldLink_P_Cellar_107_P_Cellar_fear_I) (fun _ h9 => h9) rfl dX1_passDay_90 ?_
      refine lv_iconst (v := 2) hx hb dX1_passDay_93 (by decide) ?_
      refine lv_idiv hx hb dX1_passDay_94 (by decide) ?_
      refine va_put (D := D) (ci := 1) (v := .int ((mf_2 2) / 2)) (ty := .int) (C := RX1) (T := TX1) (N := 16) hx hb hts fw_1 tyX1 tyX1_ok nmX1 hown hK hP hD hS 0 rfl rfl 2 (by decide) (hts _ m_fieldLink_P_Cellar_107_P_Cellar_fear_I) (fun _ h9 => h9) rfl (by decide +kernel) rfl rfl (Nat.le_of_ble_eq_true rfl) dX1_passDay_95 (fun H locs hP hD hS => ?_)
      replace hP : va_P D vwCl (List.flatten [(Cw q cA (chv qc mc) (upd mf_2 2 ((mf_2 2) / 2)) mg), (chPool cn qc cA cf cg)]) H := hP
      replace hD : va_D A (List.flatten [(Cw q cA (chv qc mc) (upd mf_2 2 ((mf_2 2) / 2)) mg), (chPool cn qc cA cf cg)]) := hD
      refine lv_iconst (v := 0) hx hb dX1_passDay_98 (by decide) ?_
      refine lv_istore_n (lv' := [(3, .int 0), (0, .ref (q 0)), (2, .int a2)]) hx hb dX1_passDay_99 rfl hl (by decide) rfl (fun ls hl => ?_)
      exact J100 100000 0 (upd mf_2 2 ((mf_2 2) / 2)) mg hf _ _ hP hD hS _ (lv_sub hl [1, 2, 0] rfl)
  unfold k_X1_passDay at hf
  refine lv_iload_n hx hb dX1_passDay_0 rfl (lv_at hl 1 rfl) ?_
  refine lv_if_ne (tgt := 32) hx hb dX1_passDay_1 (by decide) (fun c1 => ?_) (fun c1 => ?_)
  · replace hf := ie_of c1 hf
    refine lv_aload_n hx hb dX1_passDay_32 rfl (lv_at hl 0 rfl) ?_
    refine lv_iconst (v := 0) hx hb dX1_passDay_33 (by decide) ?_
    refine lv_aload_n hx hb dX1_passDay_34 rfl (lv_at hl 0 rfl) ?_
    refine va_get (D := D) (ci := 1) (v := .int (mf0 2)) (C := RX1) (T := TX1) (N := 16) hx hb hts fw_1 hown hK hP 0 rfl rfl 2 (by decide) (hts _ m_fieldLink_P_Cellar_107_P_Cellar_fear_I) (fun _ h9 => h9) rfl dX1_passDay_35 ?_
    refine lv_iload_n hx hb dX1_passDay_38 rfl (lv_at hl 1 rfl) ?_
    refine lv_iadd hx hb dX1_passDay_39 ?_
    refine lv_aload_n hx hb dX1_passDay_40 rfl (lv_at hl 0 rfl) ?_
    obtain ⟨r2q, hq3, hf⟩ := b1_of hf
    refine callVI (As := []) (rest := [.int ((mf0 2) + a1), .int 0, .ref (q 0)]) (wr := []) C0 (c_X1_calm q qc mf0 mg0 mc cn cf cg _ hq3) lk_X1_110_X1_calm rfl hP hD hS perm_nil 0 1 rfl rfl rfl hl.1 rfl rfl (Nat.le_of_ble_eq_true rfl) dX1_passDay_41 ⟨Nat.zero_le _, Nat.zero_le _⟩ (fun r2 w H locs hw hP hD hS => ?_)
    obtain ⟨e1, e2⟩ := hw
    replace e1 : r2 = r2q := e1
    subst e1
    subst e2
    replace hP : va_P D vwCl (List.flatten [(Cw q cA (chv qc mc) mf0 mg0), (chPool cn qc cA cf cg)]) H := hP.nil
    replace hD : va_D A (List.flatten [(Cw q cA (chv qc mc) mf0 mg0), (chPool cn qc cA cf cg)]) := hD.nil
    refine lv_isub hx hb dX1_passDay_44 ?_
    refine va_mmax hx hb (by rw [hml]; exact hl.1.symm) hown (hts _ m_methodLink_P_Cellar_93_java_lang_Math_max_II_I) (hts _ m_static_java_lang_Math_max_II_I) (hts _ m_initialized_java_lang_Math) (hts _ m_code_java_lang_Math_max_II_I) (Nat.le_of_ble_eq_true rfl) (Nat.le_of_ble_eq_true rfl) (Nat.zero_le _) (Nat.zero_le _) dX1_passDay_45 ?_
    refine va_put (D := D) (ci := 1) (v := .int (if 0 < (((mf0 2) + a1) - r2) then (((mf0 2) + a1) - r2) else 0)) (ty := .int) (C := RX1) (T := TX1) (N := 16) hx hb hts fw_1 tyX1 tyX1_ok nmX1 hown hK hP hD hS 0 rfl rfl 2 (by decide) (hts _ m_fieldLink_P_Cellar_107_P_Cellar_fear_I) (fun _ h9 => h9) rfl (by decide +kernel) rfl rfl (Nat.le_of_ble_eq_true rfl) dX1_passDay_48 (fun H locs hP hD hS => ?_)
    replace hP : va_P D vwCl (List.flatten [(Cw q cA (chv qc mc) (upd mf0 2 (if 0 < (((mf0 2) + a1) - r2) then (((mf0 2) + a1) - r2) else 0)) mg0), (chPool cn qc cA cf cg)]) H := hP
    replace hD : va_D A (List.flatten [(Cw q cA (chv qc mc) (upd mf0 2 (if 0 < (((mf0 2) + a1) - r2) then (((mf0 2) + a1) - r2) else 0)) mg0), (chPool cn qc cA cf cg)]) := hD
    exact J51 (upd mf0 2 (if 0 < (((mf0 2) + a1) - r2) then (((mf0 2) + a1) - r2) else 0)) mg0 hf _ _ hP hD hS _ (lv_sub hl [0, 2] rfl)
  · replace hf := it_of c1 hf
    refine lv_aload_n hx hb dX1_passDay_4 rfl (lv_at hl 0 rfl) ?_
    refine lv_aload_n hx hb dX1_passDay_5 rfl (lv_at hl 0 rfl) ?_
    refine va_get (D := D) (ci := 1) (v := .int (mf0 4)) (C := RX1) (T := TX1) (N := 16) hx hb hts fw_1 hown hK hP 0 rfl rfl 4 (by decide) (hts _ m_fieldLink_P_Cellar_104_P_Cellar_silences_I) (fun _ h9 => h9) rfl dX1_passDay_6 ?_
    refine lv_iconst (v := 1) hx hb dX1_passDay_9 (by decide) ?_
    refine lv_iadd hx hb dX1_passDay_10 ?_
    refine lv_iload_n hx hb dX1_passDay_11 rfl (lv_at hl 2 rfl) ?_
    refine va_mmin hx hb (by rw [hml]; exact hl.1.symm) hown (hts _ m_methodLink_P_Cellar_76_java_lang_Math_min_II_I) (hts _ m_static_java_lang_Math_min_II_I) (hts _ m_initialized_java_lang_Math) (hts _ m_code_java_lang_Math_min_II_I) (Nat.le_of_ble_eq_true rfl) (Nat.le_of_ble_eq_true rfl) (Nat.zero_le _) (Nat.zero_le _) dX1_passDay_12 ?_
    refine va_put (D := D) (ci := 1) (v := .int (if a2 < ((mf0 4) + 1) then a2 else ((mf0 4) + 1))) (ty := .int) (C := RX1) (T := TX1) (N := 16) hx hb hts fw_1 tyX1 tyX1_ok nmX1 hown hK hP hD hS 0 rfl rfl 4 (by decide) (hts _ m_fieldLink_P_Cellar_104_P_Cellar_silences_I) (fun _ h9 => h9) rfl (by decide +kernel) rfl rfl (Nat.le_of_ble_eq_true rfl) dX1_passDay_15 (fun H locs hP hD hS => ?_)
    replace hP : va_P D vwCl (List.flatten [(Cw q cA (chv qc mc) (upd mf0 4 (if a2 < ((mf0 4) + 1) then a2 else ((mf0 4) + 1))) mg0), (chPool cn qc cA cf cg)]) H := hP
    replace hD : va_D A (List.flatten [(Cw q cA (chv qc mc) (upd mf0 4 (if a2 < ((mf0 4) + 1) then a2 else ((mf0 4) + 1))) mg0), (chPool cn qc cA cf cg)]) := hD
    refine lv_aload_n hx hb dX1_passDay_18 rfl (lv_at hl 0 rfl) ?_
    refine lv_dup hx hb dX1_passDay_19 rfl ?_
    refine va_get (D := D) (ci := 1) (v := .int ((upd mf0 4 (if a2 < ((mf0 4) + 1) then a2 else ((mf0 4) + 1))) 2)) (C := RX1) (T := TX1) (N := 16) hx hb hts fw_1 hown hK hP 0 rfl rfl 2 (by decide) (hts _ m_fieldLink_P_Cellar_107_P_Cellar_fear_I) (fun _ h9 => h9) rfl dX1_passDay_20 ?_
    refine lv_bipush (v := 50) hx hb dX1_passDay_23 (by decide) ?_
    refine lv_iadd hx hb dX1_passDay_25 ?_
    refine va_put (D := D) (ci := 1) (v := .int (((upd mf0 4 (if a2 < ((mf0 4) + 1) then a2 else ((mf0 4) + 1))) 2) + 50)) (ty := .int) (C := RX1) (T := TX1) (N := 16) hx hb hts fw_1 tyX1 tyX1_ok nmX1 hown hK hP hD hS 0 rfl rfl 2 (by decide) (hts _ m_fieldLink_P_Cellar_107_P_Cellar_fear_I) (fun _ h9 => h9) rfl (by decide +kernel) rfl rfl (Nat.le_of_ble_eq_true rfl) dX1_passDay_26 (fun H locs hP hD hS => ?_)
    replace hP : va_P D vwCl (List.flatten [(Cw q cA (chv qc mc) (upd (upd mf0 4 (if a2 < ((mf0 4) + 1) then a2 else ((mf0 4) + 1))) 2 (((upd mf0 4 (if a2 < ((mf0 4) + 1) then a2 else ((mf0 4) + 1))) 2) + 50)) mg0), (chPool cn qc cA cf cg)]) H := hP
    replace hD : va_D A (List.flatten [(Cw q cA (chv qc mc) (upd (upd mf0 4 (if a2 < ((mf0 4) + 1) then a2 else ((mf0 4) + 1))) 2 (((upd mf0 4 (if a2 < ((mf0 4) + 1) then a2 else ((mf0 4) + 1))) 2) + 50)) mg0), (chPool cn qc cA cf cg)]) := hD
    obtain ⟨mf_4, hv5, hf⟩ := nm_of hf
    replace hP : va_P D vwCl (List.flatten [(Cw q cA (chv qc mc) mf_4 mg0), (chPool cn qc cA cf cg)]) H := by rw [hv5]; exact hP
    replace hD : va_D A (List.flatten [(Cw q cA (chv qc mc) mf_4 mg0), (chPool cn qc cA cf cg)]) := by rw [hv5]; exact hD
    refine lv_goto (tgt := 51) hx hb dX1_passDay_29 (by decide) ?_
    exact J51 mf_4 mg0 hf _ _ hP hD hS _ (lv_sub hl [0, 2] rfl)
-- X1 passDays
noncomputable def k_X1_passDays_2 (a1 : Int32) (a2 : Int32) (mc : Option Nat) (cn : Nat) (cf : Nat → Nat → Int32) (cg : Nat → Nat → Nat → Int32) : Nat → Int32 → (Nat → Int32) → (Nat → Nat → Int32) → (Nat → Int32) → Option ((Nat → Int32) × (Nat → Nat → Int32) × (Nat → Int32))
  | 0, _, _, _, _ => none
  | n + 1, x3, mf, mg, mv => if a1 ≤ x3 then some (mf, mg, mv) else b2 (k_X1_sound mf mg mc mv cn cf cg) (fun r2 mv_3 => b2 (k_X1_passDay r2 a2 mf mg mc cn cf) (fun mf_5 mg_6 => k_X1_passDays_2 a1 a2 mc cn cf cg n (x3 + 1) mf_5 mg_6 mv_3))
noncomputable def k_X1_passDays (a1 : Int32) (a2 : Int32) (mf0 : Nat → Int32) (mg0 : Nat → Nat → Int32) (mc : Option Nat) (mv0 : Nat → Int32) (cn : Nat) (cf : Nat → Nat → Int32) (cg : Nat → Nat → Nat → Int32) : Option ((Nat → Int32) × (Nat → Nat → Int32) × (Nat → Int32)) := k_X1_passDays_2 a1 a2 mc cn cf cg 100000 0 mf0 mg0 mv0
set_option maxHeartbeats 4000000 in
set_option maxRecDepth 100000 in
theorem c_X1_passDays {l : Launch} {D : va_G} {cA : Nat → ClassId} (q : Nat → Nat) (qc : Nat → Nat → Nat) (mf0 : Nat → Int32) (mg0 : Nat → Nat → Int32) (mc : Option Nat) (mv0 : Nat → Int32) (cn : Nat) (cf : Nat → Nat → Int32) (cg : Nat → Nat → Nat → Int32) (a1 : Int32) (a2 : Int32) (o : (Nat → Int32) × (Nat → Nat → Int32) × (Nat → Int32)) (hf : k_X1_passDays a1 a2 mf0 mg0 mc mv0 cn cf cg = some o) : CV l D cA yX1_passDays cX1_passDays 4 none 4 96 [.ref (q 0), .int a1, .int a2] (List.flatten [(Cw q cA (chv qc mc) mf0 mg0), (Vw (q 15) cA mv0), (chPool cn qc cA cf cg)]) 0 0 (fun w => w = (List.flatten [(Cw q cA (chv qc mc) o.1 o.2.1), (Vw (q 15) cA o.2.2), (chPool cn qc cA cf cg)])) := by
  intro sz
  refine met_start (by decide) rfl ?_
  intro p e s m args below meth c ls hsz hargs C0 hname hP hD hS hl
  generalize hAe : va_A (List.flatten [(Cw q cA (chv qc mc) mf0 mg0), (Vw (q 15) cA mv0), (chPool cn qc cA cf cg)]) sz = A at C0 hD hS ⊢
  obtain ⟨hx, hb, hr, hml, hown, hts, hlk, hK, hA⟩ := id C0
  replace hl : lv_has ls 4 [(0, .ref (q 0)), (1, .int a1), (2, .int a2)] := hl
  obtain ⟨Q, hQ⟩ : ∃ Q : State → Prop, Q = QV below D A (fun w => w = (List.flatten [(Cw q cA (chv qc mc) o.1 o.2.1), (Vw (q 15) cA o.2.2), (chPool cn qc cA cf cg)])) args s 0 0 := ⟨_, rfl⟩
  refine cast (by rw [hQ]) (?_ : W p l e (RMx 4 96 0 0) s m args below meth c s.heap [] 0 0 Q (F0 m 0 ls []))
  have J2 : ∀ n : Nat, ∀ (x3 : Int32) (mf : Nat → Int32) (mg : Nat → Nat → Int32) (mv : Nat → Int32), k_X1_passDays_2 a1 a2 mc cn cf cg n x3 mf mg mv = some o → ∀ (H : Heap) (locs : List Loc), va_P D vwCl (List.flatten [(Cw q cA (chv qc mc) mf mg), (Vw (q 15) cA mv), (chPool cn qc cA cf cg)]) H → va_D A (List.flatten [(Cw q cA (chv qc mc) mf mg), (Vw (q 15) cA mv), (chPool cn qc cA cf cg)]) → va_S A s.heap H locs → ∀ ls : Array Slot, lv_has ls 4 [(0, .ref (q 0)), (1, .int a1), (2, .int a2), (3, .int x3)] → W p l e (RMx 4 96 0 0) s m args below meth c H locs 0 0 Q (F0 m 2 ls []) := by
    intro  n
    induction n with
    | zero =>
      intro x3 mf mg mv hf
      rw [k_X1_passDays_2] at hf
      cases hf
    | succ n ih =>
      intro x3 mf mg mv hf H locs hP hD hS ls hl
      rw [k_X1_passDays_2] at hf
      refine lv_iload_n hx hb dX1_passDays_2 rfl (lv_at hl 3 rfl) ?_
      refine lv_iload_n hx hb dX1_passDays_3 rfl (lv_at hl 1 rfl) ?_
      refine lv_icmp_ge (tgt := 22) hx hb dX1_passDays_4 (by decide) (fun c1 => ?_) (fun c1 => ?_)
      · replace hf := it_of c1 hf
        rw [hQ]
        exact ret_v C0 hP hD hS (by have e := Option.some.inj hf; first | (rw [← e]; done) | (rw [← e]; exact rfl)) dX1_passDays_22
      · replace hf := ie_of c1 hf
        refine lv_aload_n hx hb dX1_passDays_7 rfl (lv_at hl 0 rfl) ?_
        refine lv_aload_n hx hb dX1_passDays_8 rfl (lv_at hl 0 rfl) ?_
        obtain ⟨r2q, mv_3, hq4, hf⟩ := b2_of hf
        refine callVI (As := []) (rest := [.ref (q 0)]) (wr := []) C0 (c_X1_sound q qc mf mg mc mv cn cf cg _ hq4) lk_X1_96_X1_sound rfl hP hD hS perm_nil 0 1 rfl rfl rfl hl.1 rfl rfl (Nat.le_of_ble_eq_true rfl) dX1_passDays_9 ⟨Nat.zero_le _, Nat.zero_le _⟩ (fun r2 w H locs hw hP hD hS => ?_)
        obtain ⟨e1, e2⟩ := hw
        replace e1 : r2 = r2q := e1
        subst e1
        subst e2
        replace hP : va_P D vwCl (List.flatten [(Cw q cA (chv qc mc) mf mg), (Vw (q 15) cA mv_3), (chPool cn qc cA cf cg)]) H := hP.nil
        replace hD : va_D A (List.flatten [(Cw q cA (chv qc mc) mf mg), (Vw (q 15) cA mv_3), (chPool cn qc cA cf cg)]) := hD.nil
        refine lv_iload_n hx hb dX1_passDays_12 rfl (lv_at hl 2 rfl) ?_
        obtain ⟨mf_5, mg_6, hq7, hf⟩ := b2_of hf
        refine callVV (As := [.int r2, .int a2]) (rest := []) (wr := segpick [(Cw q cA (chv qc mc) mf mg), (Vw (q 15) cA mv_3), (chPool cn qc cA cf cg)] [1]) C0 (c_X1_passDay q qc mf mg mc cn cf cg r2 a2 _ hq7) lk_X1_100_X1_passDay rfl hP hD hS (seg_out [(Cw q cA (chv qc mc) mf mg), (Vw (q 15) cA mv_3), (chPool cn qc cA cf cg)] [0, 2] [1] (by decide)) 0 1 rfl rfl rfl hl.1 rfl rfl (Nat.le_of_ble_eq_true rfl) dX1_passDays_13 ⟨Nat.zero_le _, Nat.zero_le _⟩ (fun w H locs hw hP hD hS => ?_)
        have e2 := hw
        subst e2
        replace hP : va_P D vwCl (List.flatten [(Cw q cA (chv qc mc) mf_5 mg_6), (Vw (q 15) cA mv_3), (chPool cn qc cA cf cg)]) H := hP.perm (seg_out [(Cw q cA (chv qc mc) mf_5 mg_6), (Vw (q 15) cA mv_3), (chPool cn qc cA cf cg)] [0, 2] [1] (by decide)).symm
        replace hD : va_D A (List.flatten [(Cw q cA (chv qc mc) mf_5 mg_6), (Vw (q 15) cA mv_3), (chPool cn qc cA cf cg)]) := hD.perm (seg_out [(Cw q cA (chv qc mc) mf_5 mg_6), (Vw (q 15) cA mv_3), (chPool cn qc cA cf cg)] [0, 2] [1] (by decide)).symm
        refine lv_iinc (v := (x3 + 1)) (lv' := [(3, .int (x3 + 1)), (0, .ref (q 0)), (1, .int a1), (2, .int a2)]) hx hb dX1_passDays_16 hl (k := 3) rfl rfl (by decide) rfl (fun ls hl => ?_)
        refine lv_goto (tgt := 2) hx hb dX1_passDays_19 (by decide) ?_
        exact ih (x3 + 1) mf_5 mg_6 mv_3 hf _ _ hP hD hS _ (lv_sub hl [1, 2, 3, 0] rfl)
  unfold k_X1_passDays at hf
  refine lv_iconst (v := 0) hx hb dX1_passDays_0 (by decide) ?_
  refine lv_istore_n (lv' := [(3, .int 0), (0, .ref (q 0)), (1, .int a1), (2, .int a2)]) hx hb dX1_passDays_1 rfl hl (by decide) rfl (fun ls hl => ?_)
  exact J2 100000 0 mf0 mg0 mv0 hf _ _ hP hD hS _ (lv_sub hl [1, 2, 3, 0] rfl)
-- X1 copyDays
noncomputable def k_X1_copyDays (mf0 : Nat → Int32) (mg0 : Nat → Nat → Int32) (mc0 : Option Nat) (df : Nat → Int32) (dg : Nat → Nat → Int32) (dc : Option Nat) : Option ((Nat → Int32) × (Nat → Nat → Int32) × Option Nat) := nm (upd (upd (upd mf0 0 (df 0)) 1 (df 1)) 2 (df 2)) (fun mf_1 => nm (upd (upd (upd mf_1 3 (df 3)) 4 (df 4)) 5 (df 5)) (fun mf_3 => gcp 0 0 6 6 6 (gcp 0 0 6 6 6 (nm (va_up (va_up mg0 7 (va_cpy (dg 7) (mg0 7) (Int32.toNatClampNeg 0) (Int32.toNatClampNeg 0) (Int32.toNatClampNeg 6))) 8 (va_cpy (dg 8) ((va_up mg0 7 (va_cpy (dg 7) (mg0 7) (Int32.toNatClampNeg 0) (Int32.toNatClampNeg 0) (Int32.toNatClampNeg 6))) 8) (Int32.toNatClampNeg 0) (Int32.toNatClampNeg 0) (Int32.toNatClampNeg 6))) (fun mg_7 => gcp 0 0 6 6 6 (gcp 0 0 6 6 6 (nm (va_up (va_up mg_7 9 (va_cpy (dg 9) (mg_7 9) (Int32.toNatClampNeg 0) (Int32.toNatClampNeg 0) (Int32.toNatClampNeg 6))) 10 (va_cpy (dg 10) ((va_up mg_7 9 (va_cpy (dg 9) (mg_7 9) (Int32.toNatClampNeg 0) (Int32.toNatClampNeg 0) (Int32.toNatClampNeg 6))) 10) (Int32.toNatClampNeg 0) (Int32.toNatClampNeg 0) (Int32.toNatClampNeg 6))) (fun mg_11 => gcp 0 0 24 24 24 (some (mf_3, (va_up mg_11 11 (va_cpy (dg 11) (mg_11 11) (Int32.toNatClampNeg 0) (Int32.toNatClampNeg 0) (Int32.toNatClampNeg 24))), dc))))))))))
set_option maxHeartbeats 4000000 in
set_option maxRecDepth 100000 in
theorem c_X1_copyDays {l : Launch} {D : va_G} {cA : Nat → ClassId} (q : Nat → Nat) (q2 : Nat → Nat) (qc : Nat → Nat → Nat) (mf0 : Nat → Int32) (mg0 : Nat → Nat → Int32) (mc0 : Option Nat) (df : Nat → Int32) (dg : Nat → Nat → Int32) (dc : Option Nat)  (o : (Nat → Int32) × (Nat → Nat → Int32) × Option Nat) (hf : k_X1_copyDays mf0 mg0 mc0 df dg dc = some o) : CV l D cA yX1_copyDays cX1_copyDays 2 none 1 40 [.ref (q 0), .ref (q2 0)] (List.flatten [(Cw q cA (chv qc mc0) mf0 mg0), (Cw q2 cA (chv qc dc) df dg)]) 0 0 (fun w => w = (List.flatten [(Cw q cA (chv qc o.2.2) o.1 o.2.1), (Cw q2 cA (chv qc dc) df dg)])) := by
  intro sz
  refine met_start (by decide) rfl ?_
  intro p e s m args below meth c ls hsz hargs C0 hname hP hD hS hl
  generalize hAe : va_A (List.flatten [(Cw q cA (chv qc mc0) mf0 mg0), (Cw q2 cA (chv qc dc) df dg)]) sz = A at C0 hD hS ⊢
  obtain ⟨hx, hb, hr, hml, hown, hts, hlk, hK, hA⟩ := id C0
  replace hl : lv_has ls 2 [(0, .ref (q 0)), (1, .ref (q2 0))] := hl
  obtain ⟨Q, hQ⟩ : ∃ Q : State → Prop, Q = QV below D A (fun w => w = (List.flatten [(Cw q cA (chv qc o.2.2) o.1 o.2.1), (Cw q2 cA (chv qc dc) df dg)])) args s 0 0 := ⟨_, rfl⟩
  refine cast (by rw [hQ]) (?_ : W p l e (RMx 1 40 0 0) s m args below meth c s.heap [] 0 0 Q (F0 m 0 ls []))
  unfold k_X1_copyDays at hf
  refine lv_aload_n hx hb dX1_copyDays_0 rfl (lv_at hl 0 rfl) ?_
  refine lv_aload_n hx hb dX1_copyDays_1 rfl (lv_at hl 1 rfl) ?_
  refine va_get (D := D) (ci := 1) (v := .int (df 0)) (C := RX1) (T := TX1) (N := 16) hx hb hts fw_1 hown hK hP 6 rfl rfl 0 (by decide) (hts _ m_fieldLink_P_Cellar_45_P_Cellar_men_I) (fun _ h9 => h9) rfl dX1_copyDays_2 ?_
  refine va_put (D := D) (ci := 1) (v := .int (df 0)) (ty := .int) (C := RX1) (T := TX1) (N := 16) hx hb hts fw_1 tyX1 tyX1_ok nmX1 hown hK hP hD hS 0 rfl rfl 0 (by decide) (hts _ m_fieldLink_P_Cellar_45_P_Cellar_men_I) (fun _ h9 => h9) rfl (by decide +kernel) rfl rfl (Nat.le_of_ble_eq_true rfl) dX1_copyDays_5 (fun H locs hP hD hS => ?_)
  replace hP : va_P D vwCl (List.flatten [(Cw q cA (chv qc mc0) (upd mf0 0 (df 0)) mg0), (Cw q2 cA (chv qc dc) df dg)]) H := hP
  replace hD : va_D A (List.flatten [(Cw q cA (chv qc mc0) (upd mf0 0 (df 0)) mg0), (Cw q2 cA (chv qc dc) df dg)]) := hD
  refine lv_aload_n hx hb dX1_copyDays_8 rfl (lv_at hl 0 rfl) ?_
  refine lv_aload_n hx hb dX1_copyDays_9 rfl (lv_at hl 1 rfl) ?_
  refine va_get (D := D) (ci := 1) (v := .int (df 1)) (C := RX1) (T := TX1) (N := 16) hx hb hts fw_1 hown hK hP 6 rfl rfl 1 (by decide) (hts _ m_fieldLink_P_Cellar_49_P_Cellar_up_I) (fun _ h9 => h9) rfl dX1_copyDays_10 ?_
  refine va_put (D := D) (ci := 1) (v := .int (df 1)) (ty := .int) (C := RX1) (T := TX1) (N := 16) hx hb hts fw_1 tyX1 tyX1_ok nmX1 hown hK hP hD hS 0 rfl rfl 1 (by decide) (hts _ m_fieldLink_P_Cellar_49_P_Cellar_up_I) (fun _ h9 => h9) rfl (by decide +kernel) rfl rfl (Nat.le_of_ble_eq_true rfl) dX1_copyDays_13 (fun H locs hP hD hS => ?_)
  replace hP : va_P D vwCl (List.flatten [(Cw q cA (chv qc mc0) (upd (upd mf0 0 (df 0)) 1 (df 1)) mg0), (Cw q2 cA (chv qc dc) df dg)]) H := hP
  replace hD : va_D A (List.flatten [(Cw q cA (chv qc mc0) (upd (upd mf0 0 (df 0)) 1 (df 1)) mg0), (Cw q2 cA (chv qc dc) df dg)]) := hD
  refine lv_aload_n hx hb dX1_copyDays_16 rfl (lv_at hl 0 rfl) ?_
  refine lv_aload_n hx hb dX1_copyDays_17 rfl (lv_at hl 1 rfl) ?_
  refine va_get (D := D) (ci := 1) (v := .int (df 2)) (C := RX1) (T := TX1) (N := 16) hx hb hts fw_1 hown hK hP 6 rfl rfl 2 (by decide) (hts _ m_fieldLink_P_Cellar_107_P_Cellar_fear_I) (fun _ h9 => h9) rfl dX1_copyDays_18 ?_
  refine va_put (D := D) (ci := 1) (v := .int (df 2)) (ty := .int) (C := RX1) (T := TX1) (N := 16) hx hb hts fw_1 tyX1 tyX1_ok nmX1 hown hK hP hD hS 0 rfl rfl 2 (by decide) (hts _ m_fieldLink_P_Cellar_107_P_Cellar_fear_I) (fun _ h9 => h9) rfl (by decide +kernel) rfl rfl (Nat.le_of_ble_eq_true rfl) dX1_copyDays_21 (fun H locs hP hD hS => ?_)
  replace hP : va_P D vwCl (List.flatten [(Cw q cA (chv qc mc0) (upd (upd (upd mf0 0 (df 0)) 1 (df 1)) 2 (df 2)) mg0), (Cw q2 cA (chv qc dc) df dg)]) H := hP
  replace hD : va_D A (List.flatten [(Cw q cA (chv qc mc0) (upd (upd (upd mf0 0 (df 0)) 1 (df 1)) 2 (df 2)) mg0), (Cw q2 cA (chv qc dc) df dg)]) := hD
  obtain ⟨mf_1, hv2, hf⟩ := nm_of hf
  replace hP : va_P D vwCl (List.flatten [(Cw q cA (chv qc mc0) mf_1 mg0), (Cw q2 cA (chv qc dc) df dg)]) H := by rw [hv2]; exact hP
  replace hD : va_D A (List.flatten [(Cw q cA (chv qc mc0) mf_1 mg0), (Cw q2 cA (chv qc dc) df dg)]) := by rw [hv2]; exact hD
  refine lv_aload_n hx hb dX1_copyDays_24 rfl (lv_at hl 0 rfl) ?_
  refine lv_aload_n hx hb dX1_copyDays_25 rfl (lv_at hl 1 rfl) ?_
  refine va_get (D := D) (ci := 1) (v := .int (df 3)) (C := RX1) (T := TX1) (N := 16) hx hb hts fw_1 hown hK hP 6 rfl rfl 3 (by decide) (hts _ m_fieldLink_P_Cellar_112_P_Cellar_truths_I) (fun _ h9 => h9) rfl dX1_copyDays_26 ?_
  refine va_put (D := D) (ci := 1) (v := .int (df 3)) (ty := .int) (C := RX1) (T := TX1) (N := 16) hx hb hts fw_1 tyX1 tyX1_ok nmX1 hown hK hP hD hS 0 rfl rfl 3 (by decide) (hts _ m_fieldLink_P_Cellar_112_P_Cellar_truths_I) (fun _ h9 => h9) rfl (by decide +kernel) rfl rfl (Nat.le_of_ble_eq_true rfl) dX1_copyDays_29 (fun H locs hP hD hS => ?_)
  replace hP : va_P D vwCl (List.flatten [(Cw q cA (chv qc mc0) (upd mf_1 3 (df 3)) mg0), (Cw q2 cA (chv qc dc) df dg)]) H := hP
  replace hD : va_D A (List.flatten [(Cw q cA (chv qc mc0) (upd mf_1 3 (df 3)) mg0), (Cw q2 cA (chv qc dc) df dg)]) := hD
  refine lv_aload_n hx hb dX1_copyDays_32 rfl (lv_at hl 0 rfl) ?_
  refine lv_aload_n hx hb dX1_copyDays_33 rfl (lv_at hl 1 rfl) ?_
  refine va_get (D := D) (ci := 1) (v := .int (df 4)) (C := RX1) (T := TX1) (N := 16) hx hb hts fw_1 hown hK hP 6 rfl rfl 4 (by decide) (hts _ m_fieldLink_P_Cellar_104_P_Cellar_silences_I) (fun _ h9 => h9) rfl dX1_copyDays_34 ?_
  refine va_put (D := D) (ci := 1) (v := .int (df 4)) (ty := .int) (C := RX1) (T := TX1) (N := 16) hx hb hts fw_1 tyX1 tyX1_ok nmX1 hown hK hP hD hS 0 rfl rfl 4 (by decide) (hts _ m_fieldLink_P_Cellar_104_P_Cellar_silences_I) (fun _ h9 => h9) rfl (by decide +kernel) rfl rfl (Nat.le_of_ble_eq_true rfl) dX1_copyDays_37 (fun H locs hP hD hS => ?_)
  replace hP : va_P D vwCl (List.flatten [(Cw q cA (chv qc mc0) (upd (upd mf_1 3 (df 3)) 4 (df 4)) mg0), (Cw q2 cA (chv qc dc) df dg)]) H := hP
  replace hD : va_D A (List.flatten [(Cw q cA (chv qc mc0) (upd (upd mf_1 3 (df 3)) 4 (df 4)) mg0), (Cw q2 cA (chv qc dc) df dg)]) := hD
  refine lv_aload_n hx hb dX1_copyDays_40 rfl (lv_at hl 0 rfl) ?_
  refine lv_aload_n hx hb dX1_copyDays_41 rfl (lv_at hl 1 rfl) ?_
  refine va_get (D := D) (ci := 1) (v := .int (df 5)) (C := RX1) (T := TX1) (N := 16) hx hb hts fw_1 hown hK hP 6 rfl rfl 5 (by decide) (hts _ m_fieldLink_P_Cellar_73_P_Cellar_day_I) (fun _ h9 => h9) rfl dX1_copyDays_42 ?_
  refine va_put (D := D) (ci := 1) (v := .int (df 5)) (ty := .int) (C := RX1) (T := TX1) (N := 16) hx hb hts fw_1 tyX1 tyX1_ok nmX1 hown hK hP hD hS 0 rfl rfl 5 (by decide) (hts _ m_fieldLink_P_Cellar_73_P_Cellar_day_I) (fun _ h9 => h9) rfl (by decide +kernel) rfl rfl (Nat.le_of_ble_eq_true rfl) dX1_copyDays_45 (fun H locs hP hD hS => ?_)
  replace hP : va_P D vwCl (List.flatten [(Cw q cA (chv qc mc0) (upd (upd (upd mf_1 3 (df 3)) 4 (df 4)) 5 (df 5)) mg0), (Cw q2 cA (chv qc dc) df dg)]) H := hP
  replace hD : va_D A (List.flatten [(Cw q cA (chv qc mc0) (upd (upd (upd mf_1 3 (df 3)) 4 (df 4)) 5 (df 5)) mg0), (Cw q2 cA (chv qc dc) df dg)]) := hD
  obtain ⟨mf_3, hv4, hf⟩ := nm_of hf
  replace hP : va_P D vwCl (List.flatten [(Cw q cA (chv qc mc0) mf_3 mg0), (Cw q2 cA (chv qc dc) df dg)]) H := by rw [hv4]; exact hP
  replace hD : va_D A (List.flatten [(Cw q cA (chv qc mc0) mf_3 mg0), (Cw q2 cA (chv qc dc) df dg)]) := by rw [hv4]; exact hD
  refine lv_aload_n hx hb dX1_copyDays_48 rfl (lv_at hl 0 rfl) ?_
  refine lv_aload_n hx hb dX1_copyDays_49 rfl (lv_at hl 1 rfl) ?_
  refine va_get (D := D) (ci := 1) (v := chv qc dc) (C := RX1) (T := TX1) (N := 16) hx hb hts fw_1 hown hK hP 6 rfl rfl 6 (by decide) (hts _ m_fieldLink_P_Cellar_56_P_Cellar_charter_LP_Charter) (fun _ h9 => h9) rfl dX1_copyDays_50 ?_
  refine va_put (D := D) (ci := 1) (v := chv qc dc) (ty := (.object "CellarPlot$Charter")) (C := RX1) (T := TX1) (N := 16) hx hb hts fw_1 tyX1 tyX1_ok nmX1 hown hK hP hD hS 0 rfl rfl 6 (by decide) (hts _ m_fieldLink_P_Cellar_56_P_Cellar_charter_LP_Charter) (fun _ h9 => h9) rfl (by decide +kernel) (chv_nar) (chv_fit) (Nat.le_of_ble_eq_true rfl) dX1_copyDays_53 (fun H locs hP hD hS => ?_)
  replace hP : va_P D vwCl (List.flatten [(Cw q cA (chv qc dc) mf_3 mg0), (Cw q2 cA (chv qc dc) df dg)]) H := hP
  replace hD : va_D A (List.flatten [(Cw q cA (chv qc dc) mf_3 mg0), (Cw q2 cA (chv qc dc) df dg)]) := hD
  refine lv_aload_n hx hb dX1_copyDays_56 rfl (lv_at hl 1 rfl) ?_
  refine va_get (D := D) (ci := 1) (v := .ref (q2 7)) (C := RX1) (T := TX1) (N := 16) hx hb hts fw_1 hown hK hP 6 rfl rfl 7 (by decide) (hts _ m_fieldLink_P_Cellar_9_P_Cellar_kind_aI) (fun _ h9 => h9) rfl dX1_copyDays_57 ?_
  refine lv_iconst (v := 0) hx hb dX1_copyDays_60 (by decide) ?_
  refine lv_aload_n hx hb dX1_copyDays_61 rfl (lv_at hl 0 rfl) ?_
  refine va_get (D := D) (ci := 1) (v := .ref (q 7)) (C := RX1) (T := TX1) (N := 16) hx hb hts fw_1 hown hK hP 0 rfl rfl 7 (by decide) (hts _ m_fieldLink_P_Cellar_9_P_Cellar_kind_aI) (fun _ h9 => h9) rfl dX1_copyDays_62 ?_
  refine lv_iconst (v := 0) hx hb dX1_copyDays_65 (by decide) ?_
  refine lv_bipush (v := 6) hx hb dX1_copyDays_66 (by decide) ?_
  obtain ⟨⟨hc51, hc52, hc53, hc54, hc55⟩, hf⟩ := gcp_of hf
  refine va_copyi (ty := .int) hx hb (by rw [hml]; exact hl.1.symm) hown (hts _ m_methodLink_P_Cellar_115_java_lang_System_arraycopy_Ljava_lang_ObjectILjava_lang_ObjectII_V) (hts _ m_native_java_lang_System_arraycopy_Ljava_lang_ObjectILjava_lang_ObjectII_V) (hts _ m_static_java_lang_System_arraycopy_Ljava_lang_ObjectILjava_lang_ObjectII_V) (hts _ m_initialized_java_lang_System) hK hP hD hS 7 1 0 0 rfl rfl rfl rfl rfl hc51 hc52 hc53 hc54 hc55 (fun _ _ => rfl) (Nat.le_of_ble_eq_true rfl) (Nat.le_of_ble_eq_true rfl) dX1_copyDays_68 (fun H locs hP hD hS => ?_)
  replace hP : va_P D vwCl (List.flatten [(Cw q cA (chv qc dc) mf_3 (va_up mg0 7 (va_cpy (dg 7) (mg0 7) (Int32.toNatClampNeg 0) (Int32.toNatClampNeg 0) (Int32.toNatClampNeg 6)))), (Cw q2 cA (chv qc dc) df dg)]) H := hP
  replace hD : va_D A (List.flatten [(Cw q cA (chv qc dc) mf_3 (va_up mg0 7 (va_cpy (dg 7) (mg0 7) (Int32.toNatClampNeg 0) (Int32.toNatClampNeg 0) (Int32.toNatClampNeg 6)))), (Cw q2 cA (chv qc dc) df dg)]) := hD
  refine lv_aload_n hx hb dX1_copyDays_71 rfl (lv_at hl 1 rfl) ?_
  refine va_get (D := D) (ci := 1) (v := .ref (q2 8)) (C := RX1) (T := TX1) (N := 16) hx hb hts fw_1 hown hK hP 6 rfl rfl 8 (by decide) (hts _ m_fieldLink_P_Cellar_15_P_Cellar_v_aI) (fun _ h9 => h9) rfl dX1_copyDays_72 ?_
  refine lv_iconst (v := 0) hx hb dX1_copyDays_75 (by decide) ?_
  refine lv_aload_n hx hb dX1_copyDays_76 rfl (lv_at hl 0 rfl) ?_
  refine va_get (D := D) (ci := 1) (v := .ref (q 8)) (C := RX1) (T := TX1) (N := 16) hx hb hts fw_1 hown hK hP 0 rfl rfl 8 (by decide) (hts _ m_fieldLink_P_Cellar_15_P_Cellar_v_aI) (fun _ h9 => h9) rfl dX1_copyDays_77 ?_
  refine lv_iconst (v := 0) hx hb dX1_copyDays_80 (by decide) ?_
  refine lv_bipush (v := 6) hx hb dX1_copyDays_81 (by decide) ?_
  obtain ⟨⟨hc61, hc62, hc63, hc64, hc65⟩, hf⟩ := gcp_of hf
  refine va_copyi (ty := .int) hx hb (by rw [hml]; exact hl.1.symm) hown (hts _ m_methodLink_P_Cellar_115_java_lang_System_arraycopy_Ljava_lang_ObjectILjava_lang_ObjectII_V) (hts _ m_native_java_lang_System_arraycopy_Ljava_lang_ObjectILjava_lang_ObjectII_V) (hts _ m_static_java_lang_System_arraycopy_Ljava_lang_ObjectILjava_lang_ObjectII_V) (hts _ m_initialized_java_lang_System) hK hP hD hS 8 2 0 0 rfl rfl rfl rfl rfl hc61 hc62 hc63 hc64 hc65 (fun _ _ => rfl) (Nat.le_of_ble_eq_true rfl) (Nat.le_of_ble_eq_true rfl) dX1_copyDays_83 (fun H locs hP hD hS => ?_)
  replace hP : va_P D vwCl (List.flatten [(Cw q cA (chv qc dc) mf_3 (va_up (va_up mg0 7 (va_cpy (dg 7) (mg0 7) (Int32.toNatClampNeg 0) (Int32.toNatClampNeg 0) (Int32.toNatClampNeg 6))) 8 (va_cpy (dg 8) ((va_up mg0 7 (va_cpy (dg 7) (mg0 7) (Int32.toNatClampNeg 0) (Int32.toNatClampNeg 0) (Int32.toNatClampNeg 6))) 8) (Int32.toNatClampNeg 0) (Int32.toNatClampNeg 0) (Int32.toNatClampNeg 6)))), (Cw q2 cA (chv qc dc) df dg)]) H := hP
  replace hD : va_D A (List.flatten [(Cw q cA (chv qc dc) mf_3 (va_up (va_up mg0 7 (va_cpy (dg 7) (mg0 7) (Int32.toNatClampNeg 0) (Int32.toNatClampNeg 0) (Int32.toNatClampNeg 6))) 8 (va_cpy (dg 8) ((va_up mg0 7 (va_cpy (dg 7) (mg0 7) (Int32.toNatClampNeg 0) (Int32.toNatClampNeg 0) (Int32.toNatClampNeg 6))) 8) (Int32.toNatClampNeg 0) (Int32.toNatClampNeg 0) (Int32.toNatClampNeg 6)))), (Cw q2 cA (chv qc dc) df dg)]) := hD
  obtain ⟨mg_7, hv8, hf⟩ := nm_of hf
  replace hP : va_P D vwCl (List.flatten [(Cw q cA (chv qc dc) mf_3 mg_7), (Cw q2 cA (chv qc dc) df dg)]) H := by rw [hv8]; exact hP
  replace hD : va_D A (List.flatten [(Cw q cA (chv qc dc) mf_3 mg_7), (Cw q2 cA (chv qc dc) df dg)]) := by rw [hv8]; exact hD
  refine lv_aload_n hx hb dX1_copyDays_86 rfl (lv_at hl 1 rfl) ?_
  refine va_get (D := D) (ci := 1) (v := .ref (q2 9)) (C := RX1) (T := TX1) (N := 16) hx hb hts fw_1 hown hK hP 6 rfl rfl 9 (by decide) (hts _ m_fieldLink_P_Cellar_18_P_Cellar_nerve_aI) (fun _ h9 => h9) rfl dX1_copyDays_87 ?_
  refine lv_iconst (v := 0) hx hb dX1_copyDays_90 (by decide) ?_
  refine lv_aload_n hx hb dX1_copyDays_91 rfl (lv_at hl 0 rfl) ?_
  refine va_get (D := D) (ci := 1) (v := .ref (q 9)) (C := RX1) (T := TX1) (N := 16) hx hb hts fw_1 hown hK hP 0 rfl rfl 9 (by decide) (hts _ m_fieldLink_P_Cellar_18_P_Cellar_nerve_aI) (fun _ h9 => h9) rfl dX1_copyDays_92 ?_
  refine lv_iconst (v := 0) hx hb dX1_copyDays_95 (by decide) ?_
  refine lv_bipush (v := 6) hx hb dX1_copyDays_96 (by decide) ?_
  obtain ⟨⟨hc91, hc92, hc93, hc94, hc95⟩, hf⟩ := gcp_of hf
  refine va_copyi (ty := .int) hx hb (by rw [hml]; exact hl.1.symm) hown (hts _ m_methodLink_P_Cellar_115_java_lang_System_arraycopy_Ljava_lang_ObjectILjava_lang_ObjectII_V) (hts _ m_native_java_lang_System_arraycopy_Ljava_lang_ObjectILjava_lang_ObjectII_V) (hts _ m_static_java_lang_System_arraycopy_Ljava_lang_ObjectILjava_lang_ObjectII_V) (hts _ m_initialized_java_lang_System) hK hP hD hS 9 3 0 0 rfl rfl rfl rfl rfl hc91 hc92 hc93 hc94 hc95 (fun _ _ => rfl) (Nat.le_of_ble_eq_true rfl) (Nat.le_of_ble_eq_true rfl) dX1_copyDays_98 (fun H locs hP hD hS => ?_)
  replace hP : va_P D vwCl (List.flatten [(Cw q cA (chv qc dc) mf_3 (va_up mg_7 9 (va_cpy (dg 9) (mg_7 9) (Int32.toNatClampNeg 0) (Int32.toNatClampNeg 0) (Int32.toNatClampNeg 6)))), (Cw q2 cA (chv qc dc) df dg)]) H := hP
  replace hD : va_D A (List.flatten [(Cw q cA (chv qc dc) mf_3 (va_up mg_7 9 (va_cpy (dg 9) (mg_7 9) (Int32.toNatClampNeg 0) (Int32.toNatClampNeg 0) (Int32.toNatClampNeg 6)))), (Cw q2 cA (chv qc dc) df dg)]) := hD
  refine lv_aload_n hx hb dX1_copyDays_101 rfl (lv_at hl 1 rfl) ?_
  refine va_get (D := D) (ci := 1) (v := .ref (q2 10)) (C := RX1) (T := TX1) (N := 16) hx hb hts fw_1 hown hK hP 6 rfl rfl 10 (by decide) (hts _ m_fieldLink_P_Cellar_21_P_Cellar_spell_aI) (fun _ h9 => h9) rfl dX1_copyDays_102 ?_
  refine lv_iconst (v := 0) hx hb dX1_copyDays_105 (by decide) ?_
  refine lv_aload_n hx hb dX1_copyDays_106 rfl (lv_at hl 0 rfl) ?_
  refine va_get (D := D) (ci := 1) (v := .ref (q 10)) (C := RX1) (T := TX1) (N := 16) hx hb hts fw_1 hown hK hP 0 rfl rfl 10 (by decide) (hts _ m_fieldLink_P_Cellar_21_P_Cellar_spell_aI) (fun _ h9 => h9) rfl dX1_copyDays_107 ?_
  refine lv_iconst (v := 0) hx hb dX1_copyDays_110 (by decide) ?_
  refine lv_bipush (v := 6) hx hb dX1_copyDays_111 (by decide) ?_
  obtain ⟨⟨hc101, hc102, hc103, hc104, hc105⟩, hf⟩ := gcp_of hf
  refine va_copyi (ty := .int) hx hb (by rw [hml]; exact hl.1.symm) hown (hts _ m_methodLink_P_Cellar_115_java_lang_System_arraycopy_Ljava_lang_ObjectILjava_lang_ObjectII_V) (hts _ m_native_java_lang_System_arraycopy_Ljava_lang_ObjectILjava_lang_ObjectII_V) (hts _ m_static_java_lang_System_arraycopy_Ljava_lang_ObjectILjava_lang_ObjectII_V) (hts _ m_initialized_java_lang_System) hK hP hD hS 10 4 0 0 rfl rfl rfl rfl rfl hc101 hc102 hc103 hc104 hc105 (fun _ _ => rfl) (Nat.le_of_ble_eq_true rfl) (Nat.le_of_ble_eq_true rfl) dX1_copyDays_113 (fun H locs hP hD hS => ?_)
  replace hP : va_P D vwCl (List.flatten [(Cw q cA (chv qc dc) mf_3 (va_up (va_up mg_7 9 (va_cpy (dg 9) (mg_7 9) (Int32.toNatClampNeg 0) (Int32.toNatClampNeg 0) (Int32.toNatClampNeg 6))) 10 (va_cpy (dg 10) ((va_up mg_7 9 (va_cpy (dg 9) (mg_7 9) (Int32.toNatClampNeg 0) (Int32.toNatClampNeg 0) (Int32.toNatClampNeg 6))) 10) (Int32.toNatClampNeg 0) (Int32.toNatClampNeg 0) (Int32.toNatClampNeg 6)))), (Cw q2 cA (chv qc dc) df dg)]) H := hP
  replace hD : va_D A (List.flatten [(Cw q cA (chv qc dc) mf_3 (va_up (va_up mg_7 9 (va_cpy (dg 9) (mg_7 9) (Int32.toNatClampNeg 0) (Int32.toNatClampNeg 0) (Int32.toNatClampNeg 6))) 10 (va_cpy (dg 10) ((va_up mg_7 9 (va_cpy (dg 9) (mg_7 9) (Int32.toNatClampNeg 0) (Int32.toNatClampNeg 0) (Int32.toNatClampNeg 6))) 10) (Int32.toNatClampNeg 0) (Int32.toNatClampNeg 0) (Int32.toNatClampNeg 6)))), (Cw q2 cA (chv qc dc) df dg)]) := hD
  obtain ⟨mg_11, hv12, hf⟩ := nm_of hf
  replace hP : va_P D vwCl (List.flatten [(Cw q cA (chv qc dc) mf_3 mg_11), (Cw q2 cA (chv qc dc) df dg)]) H := by rw [hv12]; exact hP
  replace hD : va_D A (List.flatten [(Cw q cA (chv qc dc) mf_3 mg_11), (Cw q2 cA (chv qc dc) df dg)]) := by rw [hv12]; exact hD
  refine lv_aload_n hx hb dX1_copyDays_116 rfl (lv_at hl 1 rfl) ?_
  refine va_get (D := D) (ci := 1) (v := .ref (q2 11)) (C := RX1) (T := TX1) (N := 16) hx hb hts fw_1 hown hK hP 6 rfl rfl 11 (by decide) (hts _ m_fieldLink_P_Cellar_24_P_Cellar_rows_aI) (fun _ h9 => h9) rfl dX1_copyDays_117 ?_
  refine lv_iconst (v := 0) hx hb dX1_copyDays_120 (by decide) ?_
  refine lv_aload_n hx hb dX1_copyDays_121 rfl (lv_at hl 0 rfl) ?_
  refine va_get (D := D) (ci := 1) (v := .ref (q 11)) (C := RX1) (T := TX1) (N := 16) hx hb hts fw_1 hown hK hP 0 rfl rfl 11 (by decide) (hts _ m_fieldLink_P_Cellar_24_P_Cellar_rows_aI) (fun _ h9 => h9) rfl dX1_copyDays_122 ?_
  refine lv_iconst (v := 0) hx hb dX1_copyDays_125 (by decide) ?_
  refine lv_bipush (v := 24) hx hb dX1_copyDays_126 (by decide) ?_
  obtain ⟨⟨hc131, hc132, hc133, hc134, hc135⟩, hf⟩ := gcp_of hf
  refine va_copyi (ty := .int) hx hb (by rw [hml]; exact hl.1.symm) hown (hts _ m_methodLink_P_Cellar_115_java_lang_System_arraycopy_Ljava_lang_ObjectILjava_lang_ObjectII_V) (hts _ m_native_java_lang_System_arraycopy_Ljava_lang_ObjectILjava_lang_ObjectII_V) (hts _ m_static_java_lang_System_arraycopy_Ljava_lang_ObjectILjava_lang_ObjectII_V) (hts _ m_initialized_java_lang_System) hK hP hD hS 11 5 0 0 rfl rfl rfl rfl rfl hc131 hc132 hc133 hc134 hc135 (fun _ _ => rfl) (Nat.le_of_ble_eq_true rfl) (Nat.le_of_ble_eq_true rfl) dX1_copyDays_128 (fun H locs hP hD hS => ?_)
  replace hP : va_P D vwCl (List.flatten [(Cw q cA (chv qc dc) mf_3 (va_up mg_11 11 (va_cpy (dg 11) (mg_11 11) (Int32.toNatClampNeg 0) (Int32.toNatClampNeg 0) (Int32.toNatClampNeg 24)))), (Cw q2 cA (chv qc dc) df dg)]) H := hP
  replace hD : va_D A (List.flatten [(Cw q cA (chv qc dc) mf_3 (va_up mg_11 11 (va_cpy (dg 11) (mg_11 11) (Int32.toNatClampNeg 0) (Int32.toNatClampNeg 0) (Int32.toNatClampNeg 24)))), (Cw q2 cA (chv qc dc) df dg)]) := hD
  rw [hQ]
  exact ret_v C0 hP hD hS (by have e := Option.some.inj hf; first | (rw [← e]; done) | (rw [← e]; exact rfl)) dX1_copyDays_131
-- X1 copyAll
noncomputable def k_X1_copyAll (mf0 : Nat → Int32) (mg0 : Nat → Nat → Int32) (mc0 : Option Nat) (rhc0 : Int32) (rha0 : Nat → Int32) (rhb0 : Nat → Int32) (rpc0 : Int32) (rpa0 : Nat → Int32) (rpb0 : Nat → Int32) (rbc0 : Int32) (rba0 : Nat → Int32) (rbb0 : Nat → Int32) (df : Nat → Int32) (dg : Nat → Nat → Int32) (dc : Option Nat) (dhc : Int32) (dha : Nat → Int32) (dhb : Nat → Int32) (dpc : Int32) (dpa : Nat → Int32) (dpb : Nat → Int32) (dbc : Int32) (dba : Nat → Int32) (dbb : Nat → Int32) : Option ((Nat → Int32) × (Nat → Nat → Int32) × Option Nat × Int32 × (Nat → Int32) × (Nat → Int32) × Int32 × (Nat → Int32) × (Nat → Int32) × Int32 × (Nat → Int32) × (Nat → Int32)) := b3 (k_X1_copyDays mf0 mg0 mc0 df dg dc) (fun mf_1 mg_2 mc_3 => b3 (k_X3_copy rhc0 rha0 rhb0 dhc dha dhb) (fun rhc_5 rha_6 rhb_7 => b3 (k_X3_copy rpc0 rpa0 rpb0 dpc dpa dpb) (fun rpc_9 rpa_10 rpb_11 => b3 (k_X3_copy rbc0 rba0 rbb0 dbc dba dbb) (fun rbc_13 rba_14 rbb_15 => some (mf_1, mg_2, mc_3, rhc_5, rha_6, rhb_7, rpc_9, rpa_10, rpb_11, rbc_13, rba_14, rbb_15)))))
set_option maxHeartbeats 4000000 in
set_option maxRecDepth 100000 in
theorem c_X1_copyAll {l : Launch} {D : va_G} {cA : Nat → ClassId} (q : Nat → Nat) (q2 : Nat → Nat) (qc : Nat → Nat → Nat) (mf0 : Nat → Int32) (mg0 : Nat → Nat → Int32) (mc0 : Option Nat) (rhc0 : Int32) (rha0 : Nat → Int32) (rhb0 : Nat → Int32) (rpc0 : Int32) (rpa0 : Nat → Int32) (rpb0 : Nat → Int32) (rbc0 : Int32) (rba0 : Nat → Int32) (rbb0 : Nat → Int32) (df : Nat → Int32) (dg : Nat → Nat → Int32) (dc : Option Nat) (dhc : Int32) (dha : Nat → Int32) (dhb : Nat → Int32) (dpc : Int32) (dpa : Nat → Int32) (dpb : Nat → Int32) (dbc : Int32) (dba : Nat → Int32) (dbb : Nat → Int32)  (o : (Nat → Int32) × (Nat → Nat → Int32) × Option Nat × Int32 × (Nat → Int32) × (Nat → Int32) × Int32 × (Nat → Int32) × (Nat → Int32) × Int32 × (Nat → Int32) × (Nat → Int32)) (hf : k_X1_copyAll mf0 mg0 mc0 rhc0 rha0 rhb0 rpc0 rpa0 rpb0 rbc0 rba0 rbb0 df dg dc dhc dha dhb dpc dpa dpb dbc dba dbb = some o) : CV l D cA yX1_copyAll cX1_copyAll 2 none 2 61 [.ref (q 0), .ref (q2 0)] (List.flatten [(Cw q cA (chv qc mc0) mf0 mg0), (Rw (q 12) (q 20) (q 21) cA 5 rhc0 rha0 rhb0), (Rw (q 13) (q 22) (q 23) cA 10 rpc0 rpa0 rpb0), (Rw (q 14) (q 24) (q 25) cA 8 rbc0 rba0 rbb0), (Cw q2 cA (chv qc dc) df dg), (Rw (q2 12) (q2 20) (q2 21) cA 5 dhc dha dhb), (Rw (q2 13) (q2 22) (q2 23) cA 10 dpc dpa dpb), (Rw (q2 14) (q2 24) (q2 25) cA 8 dbc dba dbb)]) 0 0 (fun w => w = (List.flatten [(Cw q cA (chv qc o.2.2.1) o.1 o.2.1), (Rw (q 12) (q 20) (q 21) cA 5 o.2.2.2.1 o.2.2.2.2.1 o.2.2.2.2.2.1), (Rw (q 13) (q 22) (q 23) cA 10 o.2.2.2.2.2.2.1 o.2.2.2.2.2.2.2.1 o.2.2.2.2.2.2.2.2.1), (Rw (q 14) (q 24) (q 25) cA 8 o.2.2.2.2.2.2.2.2.2.1 o.2.2.2.2.2.2.2.2.2.2.1 o.2.2.2.2.2.2.2.2.2.2.2), (Cw q2 cA (chv qc dc) df dg), (Rw (q2 12) (q2 20) (q2 21) cA 5 dhc dha dhb), (Rw (q2 13) (q2 22) (q2 23) cA 10 dpc dpa dpb), (Rw (q2 14) (q2 24) (q2 25) cA 8 dbc dba dbb)])) := by
  intro sz
  refine met_start (by decide) rfl ?_
  intro p e s m args below meth c ls hsz hargs C0 hname hP hD hS hl
  generalize hAe : va_A (List.flatten [(Cw q cA (chv qc mc0) mf0 mg0), (Rw (q 12) (q 20) (q 21) cA 5 rhc0 rha0 rhb0), (Rw (q 13) (q 22) (q 23) cA 10 rpc0 rpa0 rpb0), (Rw (q 14) (q 24) (q 25) cA 8 rbc0 rba0 rbb0), (Cw q2 cA (chv qc dc) df dg), (Rw (q2 12) (q2 20) (q2 21) cA 5 dhc dha dhb), (Rw (q2 13) (q2 22) (q2 23) cA 10 dpc dpa dpb), (Rw (q2 14) (q2 24) (q2 25) cA 8 dbc dba dbb)]) sz = A at C0 hD hS ⊢
  obtain ⟨hx, hb, hr, hml, hown, hts, hlk, hK, hA⟩ := id C0
  replace hl : lv_has ls 2 [(0, .ref (q 0)), (1, .ref (q2 0))] := hl
  obtain ⟨Q, hQ⟩ : ∃ Q : State → Prop, Q = QV below D A (fun w => w = (List.flatten [(Cw q cA (chv qc o.2.2.1) o.1 o.2.1), (Rw (q 12) (q 20) (q 21) cA 5 o.2.2.2.1 o.2.2.2.2.1 o.2.2.2.2.2.1), (Rw (q 13) (q 22) (q 23) cA 10 o.2.2.2.2.2.2.1 o.2.2.2.2.2.2.2.1 o.2.2.2.2.2.2.2.2.1), (Rw (q 14) (q 24) (q 25) cA 8 o.2.2.2.2.2.2.2.2.2.1 o.2.2.2.2.2.2.2.2.2.2.1 o.2.2.2.2.2.2.2.2.2.2.2), (Cw q2 cA (chv qc dc) df dg), (Rw (q2 12) (q2 20) (q2 21) cA 5 dhc dha dhb), (Rw (q2 13) (q2 22) (q2 23) cA 10 dpc dpa dpb), (Rw (q2 14) (q2 24) (q2 25) cA 8 dbc dba dbb)])) args s 0 0 := ⟨_, rfl⟩
  refine cast (by rw [hQ]) (?_ : W p l e (RMx 2 61 0 0) s m args below meth c s.heap [] 0 0 Q (F0 m 0 ls []))
  unfold k_X1_copyAll at hf
  refine lv_aload_n hx hb dX1_copyAll_0 rfl (lv_at hl 0 rfl) ?_
  refine lv_aload_n hx hb dX1_copyAll_1 rfl (lv_at hl 1 rfl) ?_
  obtain ⟨mf_1, mg_2, mc_3, hq4, hf⟩ := b3_of hf
  refine callVV (As := [.ref (q2 0)]) (rest := []) (wr := segpick [(Cw q cA (chv qc mc0) mf0 mg0), (Rw (q 12) (q 20) (q 21) cA 5 rhc0 rha0 rhb0), (Rw (q 13) (q 22) (q 23) cA 10 rpc0 rpa0 rpb0), (Rw (q 14) (q 24) (q 25) cA 8 rbc0 rba0 rbb0), (Cw q2 cA (chv qc dc) df dg), (Rw (q2 12) (q2 20) (q2 21) cA 5 dhc dha dhb), (Rw (q2 13) (q2 22) (q2 23) cA 10 dpc dpa dpb), (Rw (q2 14) (q2 24) (q2 25) cA 8 dbc dba dbb)] [1, 2, 3, 5, 6, 7]) C0 (c_X1_copyDays q q2 qc mf0 mg0 mc0 df dg dc _ hq4) lk_X1_121_X1_copyDays rfl hP hD hS (seg_out [(Cw q cA (chv qc mc0) mf0 mg0), (Rw (q 12) (q 20) (q 21) cA 5 rhc0 rha0 rhb0), (Rw (q 13) (q 22) (q 23) cA 10 rpc0 rpa0 rpb0), (Rw (q 14) (q 24) (q 25) cA 8 rbc0 rba0 rbb0), (Cw q2 cA (chv qc dc) df dg), (Rw (q2 12) (q2 20) (q2 21) cA 5 dhc dha dhb), (Rw (q2 13) (q2 22) (q2 23) cA 10 dpc dpa dpb), (Rw (q2 14) (q2 24) (q2 25) cA 8 dbc dba dbb)] [0, 4] [1, 2, 3, 5, 6, 7] (by decide)) 0 1 rfl rfl rfl hl.1 rfl rfl (Nat.le_of_ble_eq_true rfl) dX1_copyAll_2 ⟨Nat.zero_le _, Nat.zero_le _⟩ (fun w H locs hw hP hD hS => ?_)
  have e2 := hw
  subst e2
  replace hP : va_P D vwCl (List.flatten [(Cw q cA (chv qc mc_3) mf_1 mg_2), (Rw (q 12) (q 20) (q 21) cA 5 rhc0 rha0 rhb0), (Rw (q 13) (q 22) (q 23) cA 10 rpc0 rpa0 rpb0), (Rw (q 14) (q 24) (q 25) cA 8 rbc0 rba0 rbb0), (Cw q2 cA (chv qc dc) df dg), (Rw (q2 12) (q2 20) (q2 21) cA 5 dhc dha dhb), (Rw (q2 13) (q2 22) (q2 23) cA 10 dpc dpa dpb), (Rw (q2 14) (q2 24) (q2 25) cA 8 dbc dba dbb)]) H := hP.perm (seg_out [(Cw q cA (chv qc mc_3) mf_1 mg_2), (Rw (q 12) (q 20) (q 21) cA 5 rhc0 rha0 rhb0), (Rw (q 13) (q 22) (q 23) cA 10 rpc0 rpa0 rpb0), (Rw (q 14) (q 24) (q 25) cA 8 rbc0 rba0 rbb0), (Cw q2 cA (chv qc dc) df dg), (Rw (q2 12) (q2 20) (q2 21) cA 5 dhc dha dhb), (Rw (q2 13) (q2 22) (q2 23) cA 10 dpc dpa dpb), (Rw (q2 14) (q2 24) (q2 25) cA 8 dbc dba dbb)] [0, 4] [1, 2, 3, 5, 6, 7] (by decide)).symm
  replace hD : va_D A (List.flatten [(Cw q cA (chv qc mc_3) mf_1 mg_2), (Rw (q 12) (q 20) (q 21) cA 5 rhc0 rha0 rhb0), (Rw (q 13) (q 22) (q 23) cA 10 rpc0 rpa0 rpb0), (Rw (q 14) (q 24) (q 25) cA 8 rbc0 rba0 rbb0), (Cw q2 cA (chv qc dc) df dg), (Rw (q2 12) (q2 20) (q2 21) cA 5 dhc dha dhb), (Rw (q2 13) (q2 22) (q2 23) cA 10 dpc dpa dpb), (Rw (q2 14) (q2 24) (q2 25) cA 8 dbc dba dbb)]) := hD.perm (seg_out [(Cw q cA (chv qc mc_3) mf_1 mg_2), (Rw (q 12) (q 20) (q 21) cA 5 rhc0 rha0 rhb0), (Rw (q 13) (q 22) (q 23) cA 10 rpc0 rpa0 rpb0), (Rw (q 14) (q 24) (q 25) cA 8 rbc0 rba0 rbb0), (Cw q2 cA (chv qc dc) df dg), (Rw (q2 12) (q2 20) (q2 21) cA 5 dhc dha dhb), (Rw (q2 13) (q2 22) (q2 23) cA 10 dpc dpa dpb), (Rw (q2 14) (q2 24) (q2 25) cA 8 dbc dba dbb)] [0, 4] [1, 2, 3, 5, 6, 7] (by decide)).symm
  refine lv_aload_n hx hb dX1_copyAll_5 rfl (lv_at hl 0 rfl) ?_
  refine va_get (D := D) (ci := 1) (v := .ref (q 12)) (C := RX1) (T := TX1) (N := 16) hx hb hts fw_1 hown hK hP 0 rfl rfl 12 (by decide) (hts _ m_fieldLink_P_Cellar_32_P_Cellar_heard_LP_Rows) (fun _ h9 => h9) rfl dX1_copyAll_6 ?_
  refine lv_aload_n hx hb dX1_copyAll_9 rfl (lv_at hl 1 rfl) ?_
  refine va_get (D := D) (ci := 1) (v := .ref (q2 12)) (C := RX1) (T := TX1) (N := 16) hx hb hts fw_1 hown hK hP 15 rfl rfl 12 (by decide) (hts _ m_fieldLink_P_Cellar_32_P_Cellar_heard_LP_Rows) (fun _ h9 => h9) rfl dX1_copyAll_10 ?_
  obtain ⟨rhc_5, rha_6, rhb_7, hq8, hf⟩ := b3_of hf
  refine callVV (As := [.ref (q2 12)]) (rest := []) (wr := segpick [(Cw q cA (chv qc mc_3) mf_1 mg_2), (Rw (q 12) (q 20) (q 21) cA 5 rhc0 rha0 rhb0), (Rw (q 13) (q 22) (q 23) cA 10 rpc0 rpa0 rpb0), (Rw (q 14) (q 24) (q 25) cA 8 rbc0 rba0 rbb0), (Cw q2 cA (chv qc dc) df dg), (Rw (q2 12) (q2 20) (q2 21) cA 5 dhc dha dhb), (Rw (q2 13) (q2 22) (q2 23) cA 10 dpc dpa dpb), (Rw (q2 14) (q2 24) (q2 25) cA 8 dbc dba dbb)] [0, 2, 3, 4, 6, 7]) C0 (c_X3_copy (q 12) (q 20) (q 21) (q2 12) (q2 20) (q2 21) 5 rhc0 rha0 rhb0 dhc dha dhb _ hq8) lk_X1_125_X3_copy rfl hP hD hS (seg_out [(Cw q cA (chv qc mc_3) mf_1 mg_2), (Rw (q 12) (q 20) (q 21) cA 5 rhc0 rha0 rhb0), (Rw (q 13) (q 22) (q 23) cA 10 rpc0 rpa0 rpb0), (Rw (q 14) (q 24) (q 25) cA 8 rbc0 rba0 rbb0), (Cw q2 cA (chv qc dc) df dg), (Rw (q2 12) (q2 20) (q2 21) cA 5 dhc dha dhb), (Rw (q2 13) (q2 22) (q2 23) cA 10 dpc dpa dpb), (Rw (q2 14) (q2 24) (q2 25) cA 8 dbc dba dbb)] [1, 5] [0, 2, 3, 4, 6, 7] (by decide)) 6 3 rfl rfl rfl hl.1 rfl rfl (Nat.le_of_ble_eq_true rfl) dX1_copyAll_13 ⟨Nat.zero_le _, Nat.zero_le _⟩ (fun w H locs hw hP hD hS => ?_)
  have e2 := hw
  subst e2
  replace hP : va_P D vwCl (List.flatten [(Cw q cA (chv qc mc_3) mf_1 mg_2), (Rw (q 12) (q 20) (q 21) cA 5 rhc_5 rha_6 rhb_7), (Rw (q 13) (q 22) (q 23) cA 10 rpc0 rpa0 rpb0), (Rw (q 14) (q 24) (q 25) cA 8 rbc0 rba0 rbb0), (Cw q2 cA (chv qc dc) df dg), (Rw (q2 12) (q2 20) (q2 21) cA 5 dhc dha dhb), (Rw (q2 13) (q2 22) (q2 23) cA 10 dpc dpa dpb), (Rw (q2 14) (q2 24) (q2 25) cA 8 dbc dba dbb)]) H := hP.perm (seg_out [(Cw q cA (chv qc mc_3) mf_1 mg_2), (Rw (q 12) (q 20) (q 21) cA 5 rhc_5 rha_6 rhb_7), (Rw (q 13) (q 22) (q 23) cA 10 rpc0 rpa0 rpb0), (Rw (q 14) (q 24) (q 25) cA 8 rbc0 rba0 rbb0), (Cw q2 cA (chv qc dc) df dg), (Rw (q2 12) (q2 20) (q2 21) cA 5 dhc dha dhb), (Rw (q2 13) (q2 22) (q2 23) cA 10 dpc dpa dpb), (Rw (q2 14) (q2 24) (q2 25) cA 8 dbc dba dbb)] [1, 5] [0, 2, 3, 4, 6, 7] (by decide)).symm
  replace hD : va_D A (List.flatten [(Cw q cA (chv qc mc_3) mf_1 mg_2), (Rw (q 12) (q 20) (q 21) cA 5 rhc_5 rha_6 rhb_7), (Rw (q 13) (q 22) (q 23) cA 10 rpc0 rpa0 rpb0), (Rw (q 14) (q 24) (q 25) cA 8 rbc0 rba0 rbb0), (Cw q2 cA (chv qc dc) df dg), (Rw (q2 12) (q2 20) (q2 21) cA 5 dhc dha dhb), (Rw (q2 13) (q2 22) (q2 23) cA 10 dpc dpa dpb), (Rw (q2 14) (q2 24) (q2 25) cA 8 dbc dba dbb)]) := hD.perm (seg_out [(Cw q cA (chv qc mc_3) mf_1 mg_2), (Rw (q 12) (q 20) (q 21) cA 5 rhc_5 rha_6 rhb_7), (Rw (q 13) (q 22) (q 23) cA 10 rpc0 rpa0 rpb0), (Rw (q 14) (q 24) (q 25) cA 8 rbc0 rba0 rbb0), (Cw q2 cA (chv qc dc) df dg), (Rw (q2 12) (q2 20) (q2 21) cA 5 dhc dha dhb), (Rw (q2 13) (q2 22) (q2 23) cA 10 dpc dpa dpb), (Rw (q2 14) (q2 24) (q2 25) cA 8 dbc dba dbb)] [1, 5] [0, 2, 3, 4, 6, 7] (by decide)).symm
  refine lv_aload_n hx hb dX1_copyAll_16 rfl (lv_at hl 0 rfl) ?_
  refine va_get (D := D) (ci := 1) (v := .ref (q 13)) (C := RX1) (T := TX1) (N := 16) hx hb hts fw_1 hown hK hP 0 rfl rfl 13 (by decide) (hts _ m_fieldLink_P_Cellar_36_P_Cellar_plan_LP_Rows) (fun _ h9 => h9) rfl dX1_copyAll_17 ?_
  refine lv_aload_n hx hb dX1_copyAll_20 rfl (lv_at hl 1 rfl) ?_
  refine va_get (D := D) (ci := 1) (v := .ref (q2 13)) (C := RX1) (T := TX1) (N := 16) hx hb hts fw_1 hown hK hP 15 rfl rfl 13 (by decide) (hts _ m_fieldLink_P_Cellar_36_P_Cellar_plan_LP_Rows) (fun _ h9 => h9) rfl dX1_copyAll_21 ?_
  obtain ⟨rpc_9, rpa_10, rpb_11, hq12, hf⟩ := b3_of hf
  refine callVV (As := [.ref (q2 13)]) (rest := []) (wr := segpick [(Cw q cA (chv qc mc_3) mf_1 mg_2), (Rw (q 12) (q 20) (q 21) cA 5 rhc_5 rha_6 rhb_7), (Rw (q 13) (q 22) (q 23) cA 10 rpc0 rpa0 rpb0), (Rw (q 14) (q 24) (q 25) cA 8 rbc0 rba0 rbb0), (Cw q2 cA (chv qc dc) df dg), (Rw (q2 12) (q2 20) (q2 21) cA 5 dhc dha dhb), (Rw (q2 13) (q2 22) (q2 23) cA 10 dpc dpa dpb), (Rw (q2 14) (q2 24) (q2 25) cA 8 dbc dba dbb)] [0, 1, 3, 4, 5, 7]) C0 (c_X3_copy (q 13) (q 22) (q 23) (q2 13) (q2 22) (q2 23) 10 rpc0 rpa0 rpb0 dpc dpa dpb _ hq12) lk_X1_125_X3_copy rfl hP hD hS (seg_out [(Cw q cA (chv qc mc_3) mf_1 mg_2), (Rw (q 12) (q 20) (q 21) cA 5 rhc_5 rha_6 rhb_7), (Rw (q 13) (q 22) (q 23) cA 10 rpc0 rpa0 rpb0), (Rw (q 14) (q 24) (q 25) cA 8 rbc0 rba0 rbb0), (Cw q2 cA (chv qc dc) df dg), (Rw (q2 12) (q2 20) (q2 21) cA 5 dhc dha dhb), (Rw (q2 13) (q2 22) (q2 23) cA 10 dpc dpa dpb), (Rw (q2 14) (q2 24) (q2 25) cA 8 dbc dba dbb)] [2, 6] [0, 1, 3, 4, 5, 7] (by decide)) 9 3 rfl rfl rfl hl.1 rfl rfl (Nat.le_of_ble_eq_true rfl) dX1_copyAll_24 ⟨Nat.zero_le _, Nat.zero_le _⟩ (fun w H locs hw hP hD hS => ?_)
  have e2 := hw
  subst e2
  replace hP : va_P D vwCl (List.flatten [(Cw q cA (chv qc mc_3) mf_1 mg_2), (Rw (q 12) (q 20) (q 21) cA 5 rhc_5 rha_6 rhb_7), (Rw (q 13) (q 22) (q 23) cA 10 rpc_9 rpa_10 rpb_11), (Rw (q 14) (q 24) (q 25) cA 8 rbc0 rba0 rbb0), (Cw q2 cA (chv qc dc) df dg), (Rw (q2 12) (q2 20) (q2 21) cA 5 dhc dha dhb), (Rw (q2 13) (q2 22) (q2 23) cA 10 dpc dpa dpb), (Rw (q2 14) (q2 24) (q2 25) cA 8 dbc dba dbb)]) H := hP.perm (seg_out [(Cw q cA (chv qc mc_3) mf_1 mg_2), (Rw (q 12) (q 20) (q 21) cA 5 rhc_5 rha_6 rhb_7), (Rw (q 13) (q 22) (q 23) cA 10 rpc_9 rpa_10 rpb_11), (Rw (q 14) (q 24) (q 25) cA 8 rbc0 rba0 rbb0), (Cw q2 cA (chv qc dc) df dg), (Rw (q2 12) (q2 20) (q2 21) cA 5 dhc dha dhb), (Rw (q2 13) (q2 22) (q2 23) cA 10 dpc dpa dpb), (Rw (q2 14) (q2 24) (q2 25) cA 8 dbc dba dbb)] [2, 6] [0, 1, 3, 4, 5, 7] (by decide)).symm
  replace hD : va_D A (List.flatten [(Cw q cA (chv qc mc_3) mf_1 mg_2), (Rw (q 12) (q 20) (q 21) cA 5 rhc_5 rha_6 rhb_7), (Rw (q 13) (q 22) (q 23) cA 10 rpc_9 rpa_10 rpb_11), (Rw (q 14) (q 24) (q 25) cA 8 rbc0 rba0 rbb0), (Cw q2 cA (chv qc dc) df dg), (Rw (q2 12) (q2 20) (q2 21) cA 5 dhc dha dhb), (Rw (q2 13) (q2 22) (q2 23) cA 10 dpc dpa dpb), (Rw (q2 14) (q2 24) (q2 25) cA 8 dbc dba dbb)]) := hD.perm (seg_out [(Cw q cA (chv qc mc_3) mf_1 mg_2), (Rw (q 12) (q 20) (q 21) cA 5 rhc_5 rha_6 rhb_7), (Rw (q 13) (q 22) (q 23) cA 10 rpc_9 rpa_10 rpb_11), (Rw (q 14) (q 24) (q 25) cA 8 rbc0 rba0 rbb0), (Cw q2 cA (chv qc dc) df dg), (Rw (q2 12) (q2 20) (q2 21) cA 5 dhc dha dhb), (Rw (q2 13) (q2 22) (q2 23) cA 10 dpc dpa dpb), (Rw (q2 14) (q2 24) (q2 25) cA 8 dbc dba dbb)] [2, 6] [0, 1, 3, 4, 5, 7] (by decide)).symm
  refine lv_aload_n hx hb dX1_copyAll_27 rfl (lv_at hl 0 rfl) ?_
  refine va_get (D := D) (ci := 1) (v := .ref (q 14)) (C := RX1) (T := TX1) (N := 16) hx hb hts fw_1 hown hK hP 0 rfl rfl 14 (by decide) (hts _ m_fieldLink_P_Cellar_39_P_Cellar_book_LP_Rows) (fun _ h9 => h9) rfl dX1_copyAll_28 ?_
  refine lv_aload_n hx hb dX1_copyAll_31 rfl (lv_at hl 1 rfl) ?_
  refine va_get (D := D) (ci := 1) (v := .ref (q2 14)) (C := RX1) (T := TX1) (N := 16) hx hb hts fw_1 hown hK hP 15 rfl rfl 14 (by decide) (hts _ m_fieldLink_P_Cellar_39_P_Cellar_book_LP_Rows) (fun _ h9 => h9) rfl dX1_copyAll_32 ?_
  obtain ⟨rbc_13, rba_14, rbb_15, hq16, hf⟩ := b3_of hf
  refine callVV (As := [.ref (q2 14)]) (rest := []) (wr := segpick [(Cw q cA (chv qc mc_3) mf_1 mg_2), (Rw (q 12) (q 20) (q 21) cA 5 rhc_5 rha_6 rhb_7), (Rw (q 13) (q 22) (q 23) cA 10 rpc_9 rpa_10 rpb_11), (Rw (q 14) (q 24) (q 25) cA 8 rbc0 rba0 rbb0), (Cw q2 cA (chv qc dc) df dg), (Rw (q2 12) (q2 20) (q2 21) cA 5 dhc dha dhb), (Rw (q2 13) (q2 22) (q2 23) cA 10 dpc dpa dpb), (Rw (q2 14) (q2 24) (q2 25) cA 8 dbc dba dbb)] [0, 1, 2, 4, 5, 6]) C0 (c_X3_copy (q 14) (q 24) (q 25) (q2 14) (q2 24) (q2 25) 8 rbc0 rba0 rbb0 dbc dba dbb _ hq16) lk_X1_125_X3_copy rfl hP hD hS (seg_out [(Cw q cA (chv qc mc_3) mf_1 mg_2), (Rw (q 12) (q 20) (q 21) cA 5 rhc_5 rha_6 rhb_7), (Rw (q 13) (q 22) (q 23) cA 10 rpc_9 rpa_10 rpb_11), (Rw (q 14) (q 24) (q 25) cA 8 rbc0 rba0 rbb0), (Cw q2 cA (chv qc dc) df dg), (Rw (q2 12) (q2 20) (q2 21) cA 5 dhc dha dhb), (Rw (q2 13) (q2 22) (q2 23) cA 10 dpc dpa dpb), (Rw (q2 14) (q2 24) (q2 25) cA 8 dbc dba dbb)] [3, 7] [0, 1, 2, 4, 5, 6] (by decide)) 12 3 rfl rfl rfl hl.1 rfl rfl (Nat.le_of_ble_eq_true rfl) dX1_copyAll_35 ⟨Nat.zero_le _, Nat.zero_le _⟩ (fun w H locs hw hP hD hS => ?_)
  have e2 := hw
  subst e2
  replace hP : va_P D vwCl (List.flatten [(Cw q cA (chv qc mc_3) mf_1 mg_2), (Rw (q 12) (q 20) (q 21) cA 5 rhc_5 rha_6 rhb_7), (Rw (q 13) (q 22) (q 23) cA 10 rpc_9 rpa_10 rpb_11), (Rw (q 14) (q 24) (q 25) cA 8 rbc_13 rba_14 rbb_15), (Cw q2 cA (chv qc dc) df dg), (Rw (q2 12) (q2 20) (q2 21) cA 5 dhc dha dhb), (Rw (q2 13) (q2 22) (q2 23) cA 10 dpc dpa dpb), (Rw (q2 14) (q2 24) (q2 25) cA 8 dbc dba dbb)]) H := hP.perm (seg_out [(Cw q cA (chv qc mc_3) mf_1 mg_2), (Rw (q 12) (q 20) (q 21) cA 5 rhc_5 rha_6 rhb_7), (Rw (q 13) (q 22) (q 23) cA 10 rpc_9 rpa_10 rpb_11), (Rw (q 14) (q 24) (q 25) cA 8 rbc_13 rba_14 rbb_15), (Cw q2 cA (chv qc dc) df dg), (Rw (q2 12) (q2 20) (q2 21) cA 5 dhc dha dhb), (Rw (q2 13) (q2 22) (q2 23) cA 10 dpc dpa dpb), (Rw (q2 14) (q2 24) (q2 25) cA 8 dbc dba dbb)] [3, 7] [0, 1, 2, 4, 5, 6] (by decide)).symm
  replace hD : va_D A (List.flatten [(Cw q cA (chv qc mc_3) mf_1 mg_2), (Rw (q 12) (q 20) (q 21) cA 5 rhc_5 rha_6 rhb_7), (Rw (q 13) (q 22) (q 23) cA 10 rpc_9 rpa_10 rpb_11), (Rw (q 14) (q 24) (q 25) cA 8 rbc_13 rba_14 rbb_15), (Cw q2 cA (chv qc dc) df dg), (Rw (q2 12) (q2 20) (q2 21) cA 5 dhc dha dhb), (Rw (q2 13) (q2 22) (q2 23) cA 10 dpc dpa dpb), (Rw (q2 14) (q2 24) (q2 25) cA 8 dbc dba dbb)]) := hD.perm (seg_out [(Cw q cA (chv qc mc_3) mf_1 mg_2), (Rw (q 12) (q 20) (q 21) cA 5 rhc_5 rha_6 rhb_7), (Rw (q 13) (q 22) (q 23) cA 10 rpc_9 rpa_10 rpb_11), (Rw (q 14) (q 24) (q 25) cA 8 rbc_13 rba_14 rbb_15), (Cw q2 cA (chv qc dc) df dg), (Rw (q2 12) (q2 20) (q2 21) cA 5 dhc dha dhb), (Rw (q2 13) (q2 22) (q2 23) cA 10 dpc dpa dpb), (Rw (q2 14) (q2 24) (q2 25) cA 8 dbc dba dbb)] [3, 7] [0, 1, 2, 4, 5, 6] (by decide)).symm
  rw [hQ]
  exact ret_v C0 hP hD hS (by have e := Option.some.inj hf; first | (rw [← e]; done) | (rw [← e]; exact rfl)) dX1_copyAll_38
-- X0 began
noncomputable def k_X0_began (a1 : Int32) (af0 : Nat → Int32) (ab0 : Nat → Int32) : Option ((Nat → Int32) × (Nat → Int32)) := if 20 ≤ (af0 0) then some ((upd af0 0 ((af0 0) + 1)), ab0) else gd (af0 0) 20 (some ((upd af0 0 ((af0 0) + 1)), (upd ab0 (Int32.toNatClampNeg (af0 0)) a1)))
set_option maxHeartbeats 4000000 in
set_option maxRecDepth 100000 in
theorem c_X0_began {l : Launch} {D : va_G} {cA : Nat → ClassId} (q : Nat → Nat) (af0 : Nat → Int32) (ab0 : Nat → Int32) (a1 : Int32) (o : (Nat → Int32) × (Nat → Int32)) (hf : k_X0_began a1 af0 ab0 = some o) : CV l D cA yX0_began cX0_began 2 none 0 0 [.ref (q 0), .int a1] (Aw q cA af0 ab0) 0 0 (fun w => w = (Aw q cA o.1 o.2)) := by
  intro sz
  refine met_start (by decide) rfl ?_
  intro p e s m args below meth c ls hsz hargs C0 hname hP hD hS hl
  generalize hAe : va_A (Aw q cA af0 ab0) sz = A at C0 hD hS ⊢
  obtain ⟨hx, hb, hr, hml, hown, hts, hlk, hK, hA⟩ := id C0
  replace hl : lv_has ls 2 [(0, .ref (q 0)), (1, .int a1)] := hl
  obtain ⟨Q, hQ⟩ : ∃ Q : State → Prop, Q = QV below D A (fun w => w = (Aw q cA o.1 o.2)) args s 0 0 := ⟨_, rfl⟩
  refine cast (by rw [hQ]) (?_ : W p l e (RMx 0 0 0 0) s m args below meth c s.heap [] 0 0 Q (F0 m 0 ls []))
  unfold k_X0_began at hf
  refine lv_aload_n hx hb dX0_began_0 rfl (lv_at hl 0 rfl) ?_
  refine va_get (D := D) (ci := 0) (v := .int (af0 0)) (C := RX0) (T := TX0) (N := 5) hx hb hts fw_0 hown hK hP 0 rfl rfl 0 (by decide) (hts _ m_fieldLink_P_Acts_35_P_Acts_ran_I) (fun _ h9 => h9) rfl dX0_began_1 ?_
  refine lv_bipush (v := 20) hx hb dX0_began_4 (by decide) ?_
  refine lv_icmp_ge (tgt := 19) hx hb dX0_began_6 (by decide) (fun c1 => ?_) (fun c1 => ?_)
  · replace hf := it_of c1 hf
    refine lv_aload_n hx hb dX0_began_19 rfl (lv_at hl 0 rfl) ?_
    refine lv_dup hx hb dX0_began_20 rfl ?_
    refine va_get (D := D) (ci := 0) (v := .int (af0 0)) (C := RX0) (T := TX0) (N := 5) hx hb hts fw_0 hown hK hP 0 rfl rfl 0 (by decide) (hts _ m_fieldLink_P_Acts_35_P_Acts_ran_I) (fun _ h9 => h9) rfl dX0_began_21 ?_
    refine lv_iconst (v := 1) hx hb dX0_began_24 (by decide) ?_
    refine lv_iadd hx hb dX0_began_25 ?_
    refine va_put (D := D) (ci := 0) (v := .int ((af0 0) + 1)) (ty := .int) (C := RX0) (T := TX0) (N := 5) hx hb hts fw_0 tyX0 tyX0_ok nmX0 hown hK hP hD hS 0 rfl rfl 0 (by decide) (hts _ m_fieldLink_P_Acts_35_P_Acts_ran_I) (fun _ h9 => h9) rfl (by decide +kernel) rfl rfl (Nat.le_of_ble_eq_true rfl) dX0_began_26 (fun H locs hP hD hS => ?_)
    replace hP : va_P D vwCl (Aw q cA (upd af0 0 ((af0 0) + 1)) ab0) H := hP
    replace hD : va_D A (Aw q cA (upd af0 0 ((af0 0) + 1)) ab0) := hD
    rw [hQ]
    exact ret_v C0 hP hD hS (by have e := Option.some.inj hf; first | (rw [← e]; done) | (rw [← e]; exact rfl)) dX0_began_29
  · replace hf := ie_of c1 hf
    refine lv_aload_n hx hb dX0_began_9 rfl (lv_at hl 0 rfl) ?_
    refine va_get (D := D) (ci := 0) (v := .ref (q 1)) (C := RX0) (T := TX0) (N := 5) hx hb hts fw_0 hown hK hP 0 rfl rfl 1 (by decide) (hts _ m_fieldLink_P_Acts_9_P_Acts_bodies_aI) (fun _ h9 => h9) rfl dX0_began_10 ?_
    refine lv_aload_n hx hb dX0_began_13 rfl (lv_at hl 0 rfl) ?_
    refine va_get (D := D) (ci := 0) (v := .int (af0 0)) (C := RX0) (T := TX0) (N := 5) hx hb hts fw_0 hown hK hP 0 rfl rfl 0 (by decide) (hts _ m_fieldLink_P_Acts_35_P_Acts_ran_I) (fun _ h9 => h9) rfl dX0_began_14 ?_
    refine lv_iload_n hx hb dX0_began_17 rfl (lv_at hl 1 rfl) ?_
    obtain ⟨hi2, hf⟩ := gd_of hf
    refine va_iast hx hb hK hP hD hS 1 0 rfl rfl hi2 dX0_began_18 (fun H locs hP hD hS => ?_)
    replace hP : va_P D vwCl (Aw q cA af0 (upd ab0 (Int32.toNatClampNeg (af0 0)) a1)) H := hP
    replace hD : va_D A (Aw q cA af0 (upd ab0 (Int32.toNatClampNeg (af0 0)) a1)) := hD
    refine lv_aload_n hx hb dX0_began_19 rfl (lv_at hl 0 rfl) ?_
    refine lv_dup hx hb dX0_began_20 rfl ?_
    refine va_get (D := D) (ci := 0) (v := .int (af0 0)) (C := RX0) (T := TX0) (N := 5) hx hb hts fw_0 hown hK hP 0 rfl rfl 0 (by decide) (hts _ m_fieldLink_P_Acts_35_P_Acts_ran_I) (fun _ h9 => h9) rfl dX0_began_21 ?_
    refine lv_iconst (v := 1) hx hb dX0_began_24 (by decide) ?_
    refine lv_iadd hx hb dX0_began_25 ?_
    refine va_put (D := D) (ci := 0) (v := .int ((af0 0) + 1)) (ty := .int) (C := RX0) (T := TX0) (N := 5) hx hb hts fw_0 tyX0 tyX0_ok nmX0 hown hK hP hD hS 0 rfl rfl 0 (by decide) (hts _ m_fieldLink_P_Acts_35_P_Acts_ran_I) (fun _ h9 => h9) rfl (by decide +kernel) rfl rfl (Nat.le_of_ble_eq_true rfl) dX0_began_26 (fun H locs hP hD hS => ?_)
    replace hP : va_P D vwCl (Aw q cA (upd af0 0 ((af0 0) + 1)) (upd ab0 (Int32.toNatClampNeg (af0 0)) a1)) H := hP
    replace hD : va_D A (Aw q cA (upd af0 0 ((af0 0) + 1)) (upd ab0 (Int32.toNatClampNeg (af0 0)) a1)) := hD
    rw [hQ]
    exact ret_v C0 hP hD hS (by have e := Option.some.inj hf; first | (rw [← e]; done) | (rw [← e]; exact rfl)) dX0_began_29
-- X4 become
noncomputable def k_X4_become_12  : Nat → Int32 → (Nat → Int32) → (Nat → Int64) → Option ((Nat → Int32) × (Nat → Int64))
  | 0, _, _, _ => none
  | n + 1, x3, tif, tii => if 60 ≤ x3 then some (tif, tii) else gd x3 60 (k_X4_become_12 n (x3 + 1) tif (vp_updL tii (Int32.toNatClampNeg x3) 0))
noncomputable def k_X4_become (a1 : Int32) (a2 : Int32) (tif0 : Nat → Int32) (tii0 : Nat → Int64) : Option ((Nat → Int32) × (Nat → Int64)) := k_X4_become_12 100000 0 (upd (upd tif0 0 a1) 1 a2) tii0
set_option maxHeartbeats 4000000 in
set_option maxRecDepth 100000 in
theorem c_X4_become {l : Launch} {D : va_G} {cA : Nat → ClassId} (q : Nat → Nat) (tif0 : Nat → Int32) (tii0 : Nat → Int64) (a1 : Int32) (a2 : Int32) (o : (Nat → Int32) × (Nat → Int64)) (hf : k_X4_become a1 a2 tif0 tii0 = some o) : CV l D cA yX4_become cX4_become 4 none 0 0 [.ref (q 0), .int a1, .int a2] (Tp q cA tif0 tii0) 0 0 (fun w => w = (Tp q cA o.1 o.2)) := by
  intro sz
  refine met_start (by decide) rfl ?_
  intro p e s m args below meth c ls hsz hargs C0 hname hP hD hS hl
  generalize hAe : va_A (Tp q cA tif0 tii0) sz = A at C0 hD hS ⊢
  obtain ⟨hx, hb, hr, hml, hown, hts, hlk, hK, hA⟩ := id C0
  replace hl : lv_has ls 4 [(0, .ref (q 0)), (1, .int a1), (2, .int a2)] := hl
  obtain ⟨Q, hQ⟩ : ∃ Q : State → Prop, Q = QV below D A (fun w => w = (Tp q cA o.1 o.2)) args s 0 0 := ⟨_, rfl⟩
  refine cast (by rw [hQ]) (?_ : W p l e (RMx 0 0 0 0) s m args below meth c s.heap [] 0 0 Q (F0 m 0 ls []))
  have J12 : ∀ n : Nat, ∀ (x3 : Int32) (tif : Nat → Int32) (tii : Nat → Int64), k_X4_become_12 n x3 tif tii = some o → ∀ (H : Heap) (locs : List Loc), va_P D vwCl (Tp q cA tif tii) H → va_D A (Tp q cA tif tii) → va_S A s.heap H locs → ∀ ls : Array Slot, lv_has ls 4 [(0, .ref (q 0)), (3, .int x3)] → W p l e (RMx 0 0 0 0) s m args below meth c H locs 0 0 Q (F0 m 12 ls []) := by
    intro  n
    induction n with
    | zero =>
      intro x3 tif tii hf
      rw [k_X4_become_12] at hf
      cases hf
    | succ n ih =>
      intro x3 tif tii hf H locs hP hD hS ls hl
      rw [k_X4_become_12] at hf
      refine lv_iload_n hx hb dX4_become_12 rfl (lv_at hl 1 rfl) ?_
      refine lv_bipush (v := 60) hx hb dX4_become_13 (by decide) ?_
      refine lv_icmp_ge (tgt := 31) hx hb dX4_become_15 (by decide) (fun c1 => ?_) (fun c1 => ?_)
      · replace hf := it_of c1 hf
        rw [hQ]
        exact ret_v C0 hP hD hS (by have e := Option.some.inj hf; first | (rw [← e]; done) | (rw [← e]; exact rfl)) dX4_become_31
      · replace hf := ie_of c1 hf
        refine lv_aload_n hx hb dX4_become_18 rfl (lv_at hl 0 rfl) ?_
        refine va_get (D := D) (ci := 4) (v := .ref (q 1)) (C := RX4) (T := TX4) (N := 3) hx hb hts fw_4 hown hK hP 0 rfl rfl 2 (by decide) (hts _ m_fieldLink_P_Tape_15_P_Tape_items_aJ) (fun _ h9 => h9) rfl dX4_become_19 ?_
        refine lv_iload_n hx hb dX4_become_22 rfl (lv_at hl 1 rfl) ?_
        refine lv_lconst (v := 0) hx hb dX4_become_23 (by decide) ?_
        obtain ⟨hi2, hf⟩ := gd_of hf
        refine va_last hx hb hK hP hD hS 1 2 rfl rfl hi2 dX4_become_24 (fun H locs hP hD hS => ?_)
        replace hP : va_P D vwCl (Tp q cA tif (vp_updL tii (Int32.toNatClampNeg x3) 0)) H := hP
        replace hD : va_D A (Tp q cA tif (vp_updL tii (Int32.toNatClampNeg x3) 0)) := hD
        refine lv_iinc (v := (x3 + 1)) (lv' := [(3, .int (x3 + 1)), (0, .ref (q 0))]) hx hb dX4_become_25 hl (k := 1) rfl rfl (by decide) rfl (fun ls hl => ?_)
        refine lv_goto (tgt := 12) hx hb dX4_become_28 (by decide) ?_
        exact ih (x3 + 1) tif (vp_updL tii (Int32.toNatClampNeg x3) 0) hf _ _ hP hD hS _ (lv_sub hl [1, 0] rfl)
  unfold k_X4_become at hf
  refine lv_aload_n hx hb dX4_become_0 rfl (lv_at hl 0 rfl) ?_
  refine lv_iload_n hx hb dX4_become_1 rfl (lv_at hl 1 rfl) ?_
  refine va_put (D := D) (ci := 4) (v := .int a1) (ty := .int) (C := RX4) (T := TX4) (N := 3) hx hb hts fw_4 tyX4 tyX4_ok nmX4 hown hK hP hD hS 0 rfl rfl 0 (by decide) (hts _ m_fieldLink_P_Tape_9_P_Tape_sort_I) (fun _ h9 => h9) rfl (by decide +kernel) rfl rfl (Nat.le_of_ble_eq_true rfl) dX4_become_2 (fun H locs hP hD hS => ?_)
  replace hP : va_P D vwCl (Tp q cA (upd tif0 0 a1) tii0) H := hP
  replace hD : va_D A (Tp q cA (upd tif0 0 a1) tii0) := hD
  refine lv_aload_n hx hb dX4_become_5 rfl (lv_at hl 0 rfl) ?_
  refine lv_iload_n hx hb dX4_become_6 rfl (lv_at hl 2 rfl) ?_
  refine va_put (D := D) (ci := 4) (v := .int a2) (ty := .int) (C := RX4) (T := TX4) (N := 3) hx hb hts fw_4 tyX4 tyX4_ok nmX4 hown hK hP hD hS 0 rfl rfl 1 (by decide) (hts _ m_fieldLink_P_Tape_19_P_Tape_size_I) (fun _ h9 => h9) rfl (by decide +kernel) rfl rfl (Nat.le_of_ble_eq_true rfl) dX4_become_7 (fun H locs hP hD hS => ?_)
  replace hP : va_P D vwCl (Tp q cA (upd (upd tif0 0 a1) 1 a2) tii0) H := hP
  replace hD : va_D A (Tp q cA (upd (upd tif0 0 a1) 1 a2) tii0) := hD
  refine lv_iconst (v := 0) hx hb dX4_become_10 (by decide) ?_
  refine lv_istore_n (lv' := [(3, .int 0), (0, .ref (q 0)), (1, .int a1), (2, .int a2)]) hx hb dX4_become_11 rfl hl (by decide) rfl (fun ls hl => ?_)
  exact J12 100000 0 (upd (upd tif0 0 a1) 1 a2) tii0 hf _ _ hP hD hS _ (lv_sub hl [1, 0] rfl)

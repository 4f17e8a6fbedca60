-- X1 calm
noncomputable def k_X1_calm (mc : Option Nat) (cn : Nat) (cf : Nat → Nat → Int32) : Option Int32 := oc mc (some 10) (fun i1 => gp i1 cn (some (cf i1 0)))
set_option maxHeartbeats 4000000 in
set_option maxRecDepth 100000 in
theorem c_X1_calm {l : Launch} {D : va_G} {cA : Nat → ClassId} (q : Nat → Nat) (qc : Nat → Nat → Nat) (mf : Nat → Int32) (mg : Nat → Nat → Int32) (mc : Option Nat) (cn : Nat) (cf : Nat → Nat → Int32) (cg : Nat → Nat → Nat → Int32)  (o : Int32) (hf : k_X1_calm mc cn cf = some o) : CI l D cA yX1_calm cX1_calm 1 (some .int) 0 0 [.ref (q 0)] (List.flatten [(Cw q cA (chv qc mc) mf mg), (chPool cn qc cA cf cg)]) 0 0 (fun r w => r = o ∧ w = (List.flatten [(Cw q cA (chv qc mc) mf mg), (chPool cn qc cA cf cg)])) := by
  intro sz
  refine met_start (by decide) rfl ?_
  intro p e s m args below meth c ls hsz hargs C0 hname hP hD hS hl
  generalize hAe : va_A (List.flatten [(Cw q cA (chv qc mc) mf mg), (chPool cn qc cA cf cg)]) sz = A at C0 hD hS ⊢
  obtain ⟨hx, hb, hr, hml, hown, hts, hlk, hK, hA⟩ := id C0
  replace hl : lv_has ls 1 [(0, .ref (q 0))] := hl
  obtain ⟨Q, hQ⟩ : ∃ Q : State → Prop, Q = QI below D A (fun r w => r = o ∧ w = (List.flatten [(Cw q cA (chv qc mc) mf mg), (chPool cn qc cA cf cg)])) args s 0 0 := ⟨_, rfl⟩
  refine cast (by rw [hQ]) (?_ : W p l e (RMx 0 0 0 0) s m args below meth c s.heap [] 0 0 Q (F0 m 0 ls []))
  unfold k_X1_calm at hf
  refine lv_aload_n hx hb dX1_calm_0 rfl (lv_at hl 0 rfl) ?_
  refine va_get (D := D) (ci := 1) (v := chv qc mc) (C := RX1) (T := TX1) (N := 16) hx hb hts fw_1 hown hK hP 0 rfl rfl 6 (by decide) (hts _ m_fieldLink_P_Cellar_56_P_Cellar_charter_LP_Charter) (fun _ h9 => h9) rfl dX1_calm_1 ?_
  rcases mc with _ | i1
  · replace hf := oc_n hf
    refine lv_ifnonnullN hx hb dX1_calm_4 ?_
    refine lv_bipush (v := 10) hx hb dX1_calm_7 (by decide) ?_
    refine lv_goto (tgt := 19) hx hb dX1_calm_9 (by decide) ?_
    rw [hQ]
    exact ret_i C0 hP hD hS (by have e := Option.some.inj hf; rw [← e]; exact ⟨rfl, rfl⟩) dX1_calm_19
  · replace hf := oc_s hf
    refine lv_ifnonnull (tgt := 12) hx hb dX1_calm_4 (by decide) ?_
    refine lv_aload_n hx hb dX1_calm_12 rfl (lv_at hl 0 rfl) ?_
    refine va_get (D := D) (ci := 1) (v := chv qc (some i1)) (C := RX1) (T := TX1) (N := 16) hx hb hts fw_1 hown hK hP 0 rfl rfl 6 (by decide) (hts _ m_fieldLink_P_Cellar_56_P_Cellar_charter_LP_Charter) (fun _ h9 => h9) rfl dX1_calm_13 ?_
    obtain ⟨hg2, hf⟩ := gp_of hf
    refine va_get (D := D) (ci := 2) (v := .int (cf i1 0)) (C := RX2) (T := TX2) (N := 9) hx hb hts fw_2 hown hK hP (6 + 7 * i1) ((pool_at hg2 (List.flatten [(Cw q cA (chv qc (some i1)) mf mg)]) [] rfl : _)) rfl 0 (by decide) (hts _ m_fieldLink_P_Cellar_60_P_Charter_calm_I) (fun _ h9 => h9) rfl dX1_calm_16 ?_
    rw [hQ]
    exact ret_i C0 hP hD hS (by have e := Option.some.inj hf; rw [← e]; exact ⟨rfl, rfl⟩) dX1_calm_19
-- X1 valuesOf
noncomputable def k_X1_valuesOf (a1 : Int32) (mf : Nat → Int32) (mg : Nat → Nat → Int32) (mv0 : Nat → Int32) : Option (Nat → Int32) := gd 0 6 (gd a1 6 (gd 1 6 (gd a1 6 (gd 2 6 (nm (upd (upd (upd mv0 (Int32.toNatClampNeg 0) a1) (Int32.toNatClampNeg 1) ((mg 7) (Int32.toNatClampNeg a1))) (Int32.toNatClampNeg 2) ((mg 8) (Int32.toNatClampNeg a1))) (fun mv_6 => gd a1 6 (gd 3 6 (gd a1 6 (gd 4 6 (gd 5 6 (nm (upd (upd (upd mv_6 (Int32.toNatClampNeg 3) ((mg 9) (Int32.toNatClampNeg a1))) (Int32.toNatClampNeg 4) (((mg 10) (Int32.toNatClampNeg a1)) - ((mg 10) (Int32.toNatClampNeg a1)) / 10 * 10)) (Int32.toNatClampNeg 5) ((mf 5) - (mf 5) / 7 * 7)) (fun mv_13 => some mv_13))))))))))))
set_option maxHeartbeats 4000000 in
set_option maxRecDepth 100000 in
theorem c_X1_valuesOf {l : Launch} {D : va_G} {cA : Nat → ClassId} (q : Nat → Nat) (qc : Nat → Nat → Nat) (mf : Nat → Int32) (mg : Nat → Nat → Int32) (mc : Option Nat) (mv0 : Nat → Int32) (a1 : Int32) (o : Nat → Int32) (hf : k_X1_valuesOf a1 mf mg mv0 = some o) : CR l D cA yX1_valuesOf cX1_valuesOf 2 (some (.array .int)) 0 0 [.ref (q 0), .int a1] (List.flatten [(Cw q cA (chv qc mc) mf mg), (Vw (q 15) cA mv0)]) 0 0 (fun r w => r = (q 15) ∧ w = (List.flatten [(Cw q cA (chv qc mc) mf mg), (Vw (q 15) cA o)])) := by
  intro sz
  refine met_start (by decide) rfl ?_
  intro p e s m args below meth c ls hsz hargs C0 hname hP hD hS hl
  generalize hAe : va_A (List.flatten [(Cw q cA (chv qc mc) mf mg), (Vw (q 15) cA mv0)]) sz = A at C0 hD hS ⊢
  obtain ⟨hx, hb, hr, hml, hown, hts, hlk, hK, hA⟩ := id C0
  replace hl : lv_has ls 2 [(0, .ref (q 0)), (1, .int a1)] := hl
  obtain ⟨Q, hQ⟩ : ∃ Q : State → Prop, Q = QR below D A (fun r w => r = (q 15) ∧ w = (List.flatten [(Cw q cA (chv qc mc) mf mg), (Vw (q 15) cA o)])) args s 0 0 := ⟨_, rfl⟩
  refine cast (by rw [hQ]) (?_ : W p l e (RMx 0 0 0 0) s m args below meth c s.heap [] 0 0 Q (F0 m 0 ls []))
  unfold k_X1_valuesOf at hf
  refine lv_aload_n hx hb dX1_valuesOf_0 rfl (lv_at hl 0 rfl) ?_
  refine va_get (D := D) (ci := 1) (v := .ref (q 15)) (C := RX1) (T := TX1) (N := 16) hx hb hts fw_1 hown hK hP 0 rfl rfl 15 (by decide) (hts _ m_fieldLink_P_Cellar_42_P_Cellar_values_aI) (fun _ h9 => h9) rfl dX1_valuesOf_1 ?_
  refine lv_iconst (v := 0) hx hb dX1_valuesOf_4 (by decide) ?_
  refine lv_iload_n hx hb dX1_valuesOf_5 rfl (lv_at hl 1 rfl) ?_
  obtain ⟨hi1, hf⟩ := gd_of hf
  refine va_iast hx hb hK hP hD hS 6 0 rfl rfl hi1 dX1_valuesOf_6 (fun H locs hP hD hS => ?_)
  replace hP : va_P D vwCl (List.flatten [(Cw q cA (chv qc mc) mf mg), (Vw (q 15) cA (upd mv0 (Int32.toNatClampNeg 0) a1))]) H := hP
  replace hD : va_D A (List.flatten [(Cw q cA (chv qc mc) mf mg), (Vw (q 15) cA (upd mv0 (Int32.toNatClampNeg 0) a1))]) := hD
  refine lv_aload_n hx hb dX1_valuesOf_7 rfl (lv_at hl 0 rfl) ?_
  refine va_get (D := D) (ci := 1) (v := .ref (q 15)) (C := RX1) (T := TX1) (N := 16) hx hb hts fw_1 hown hK hP 0 rfl rfl 15 (by decide) (hts _ m_fieldLink_P_Cellar_42_P_Cellar_values_aI) (fun _ h9 => h9) rfl dX1_valuesOf_8 ?_
  refine lv_iconst (v := 1) hx hb dX1_valuesOf_11 (by decide) ?_
  refine lv_aload_n hx hb dX1_valuesOf_12 rfl (lv_at hl 0 rfl) ?_
  refine va_get (D := D) (ci := 1) (v := .ref (q 7)) (C := RX1) (T := TX1) (N := 16) hx hb hts fw_1 hown hK hP 0 rfl rfl 7 (by decide) (hts _ m_fieldLink_P_Cellar_9_P_Cellar_kind_aI) (fun _ h9 => h9) rfl dX1_valuesOf_13 ?_
  refine lv_iload_n hx hb dX1_valuesOf_16 rfl (lv_at hl 1 rfl) ?_
  obtain ⟨hi2, hf⟩ := gd_of hf
  refine va_iald hx hb hK hP 1 0 rfl rfl hi2 dX1_valuesOf_17 ?_
  obtain ⟨hi3, hf⟩ := gd_of hf
  refine va_iast hx hb hK hP hD hS 6 0 rfl rfl hi3 dX1_valuesOf_18 (fun H locs hP hD hS => ?_)
  replace hP : va_P D vwCl (List.flatten [(Cw q cA (chv qc mc) mf mg), (Vw (q 15) cA (upd (upd mv0 (Int32.toNatClampNeg 0) a1) (Int32.toNatClampNeg 1) ((mg 7) (Int32.toNatClampNeg a1))))]) H := hP
  replace hD : va_D A (List.flatten [(Cw q cA (chv qc mc) mf mg), (Vw (q 15) cA (upd (upd mv0 (Int32.toNatClampNeg 0) a1) (Int32.toNatClampNeg 1) ((mg 7) (Int32.toNatClampNeg a1))))]) := hD
  refine lv_aload_n hx hb dX1_valuesOf_19 rfl (lv_at hl 0 rfl) ?_
  refine va_get (D := D) (ci := 1) (v := .ref (q 15)) (C := RX1) (T := TX1) (N := 16) hx hb hts fw_1 hown hK hP 0 rfl rfl 15 (by decide) (hts _ m_fieldLink_P_Cellar_42_P_Cellar_values_aI) (fun _ h9 => h9) rfl dX1_valuesOf_20 ?_
  refine lv_iconst (v := 2) hx hb dX1_valuesOf_23 (by decide) ?_
  refine lv_aload_n hx hb dX1_valuesOf_24 rfl (lv_at hl 0 rfl) ?_
  refine va_get (D := D) (ci := 1) (v := .ref (q 8)) (C := RX1) (T := TX1) (N := 16) hx hb hts fw_1 hown hK hP 0 rfl rfl 8 (by decide) (hts _ m_fieldLink_P_Cellar_15_P_Cellar_v_aI) (fun _ h9 => h9) rfl dX1_valuesOf_25 ?_
  refine lv_iload_n hx hb dX1_valuesOf_28 rfl (lv_at hl 1 rfl) ?_
  obtain ⟨hi4, hf⟩ := gd_of hf
  refine va_iald hx hb hK hP 2 0 rfl rfl hi4 dX1_valuesOf_29 ?_
  obtain ⟨hi5, hf⟩ := gd_of hf
  refine va_iast hx hb hK hP hD hS 6 0 rfl rfl hi5 dX1_valuesOf_30 (fun H locs hP hD hS => ?_)
  replace hP : va_P D vwCl (List.flatten [(Cw q cA (chv qc mc) mf mg), (Vw (q 15) cA (upd (upd (upd mv0 (Int32.toNatClampNeg 0) a1) (Int32.toNatClampNeg 1) ((mg 7) (Int32.toNatClampNeg a1))) (Int32.toNatClampNeg 2) ((mg 8) (Int32.toNatClampNeg a1))))]) H := hP
  replace hD : va_D A (List.flatten [(Cw q cA (chv qc mc) mf mg), (Vw (q 15) cA (upd (upd (upd mv0 (Int32.toNatClampNeg 0) a1) (Int32.toNatClampNeg 1) ((mg 7) (Int32.toNatClampNeg a1))) (Int32.toNatClampNeg 2) ((mg 8) (Int32.toNatClampNeg a1))))]) := hD
  obtain ⟨mv_6, hv7, hf⟩ := nm_of hf
  replace hP : va_P D vwCl (List.flatten [(Cw q cA (chv qc mc) mf mg), (Vw (q 15) cA mv_6)]) H := by rw [hv7]; exact hP
  replace hD : va_D A (List.flatten [(Cw q cA (chv qc mc) mf mg), (Vw (q 15) cA mv_6)]) := by rw [hv7]; exact hD
  refine lv_aload_n hx hb dX1_valuesOf_31 rfl (lv_at hl 0 rfl) ?_
  refine va_get (D := D) (ci := 1) (v := .ref (q 15)) (C := RX1) (T := TX1) (N := 16) hx hb hts fw_1 hown hK hP 0 rfl rfl 15 (by decide) (hts _ m_fieldLink_P_Cellar_42_P_Cellar_values_aI) (fun _ h9 => h9) rfl dX1_valuesOf_32 ?_
  refine lv_iconst (v := 3) hx hb dX1_valuesOf_35 (by decide) ?_
  refine lv_aload_n hx hb dX1_valuesOf_36 rfl (lv_at hl 0 rfl) ?_
  refine va_get (D := D) (ci := 1) (v := .ref (q 9)) (C := RX1) (T := TX1) (N := 16) hx hb hts fw_1 hown hK hP 0 rfl rfl 9 (by decide) (hts _ m_fieldLink_P_Cellar_18_P_Cellar_nerve_aI) (fun _ h9 => h9) rfl dX1_valuesOf_37 ?_
  refine lv_iload_n hx hb dX1_valuesOf_40 rfl (lv_at hl 1 rfl) ?_
  obtain ⟨hi8, hf⟩ := gd_of hf
  refine va_iald hx hb hK hP 3 0 rfl rfl hi8 dX1_valuesOf_41 ?_
  obtain ⟨hi9, hf⟩ := gd_of hf
  refine va_iast hx hb hK hP hD hS 6 0 rfl rfl hi9 dX1_valuesOf_42 (fun H locs hP hD hS => ?_)
  replace hP : va_P D vwCl (List.flatten [(Cw q cA (chv qc mc) mf mg), (Vw (q 15) cA (upd mv_6 (Int32.toNatClampNeg 3) ((mg 9) (Int32.toNatClampNeg a1))))]) H := hP
  replace hD : va_D A (List.flatten [(Cw q cA (chv qc mc) mf mg), (Vw (q 15) cA (upd mv_6 (Int32.toNatClampNeg 3) ((mg 9) (Int32.toNatClampNeg a1))))]) := hD
  refine lv_aload_n hx hb dX1_valuesOf_43 rfl (lv_at hl 0 rfl) ?_
  refine va_get (D := D) (ci := 1) (v := .ref (q 15)) (C := RX1) (T := TX1) (N := 16) hx hb hts fw_1 hown hK hP 0 rfl rfl 15 (by decide) (hts _ m_fieldLink_P_Cellar_42_P_Cellar_values_aI) (fun _ h9 => h9) rfl dX1_valuesOf_44 ?_
  refine lv_iconst (v := 4) hx hb dX1_valuesOf_47 (by decide) ?_
  refine lv_aload_n hx hb dX1_valuesOf_48 rfl (lv_at hl 0 rfl) ?_
  refine va_get (D := D) (ci := 1) (v := .ref (q 10)) (C := RX1) (T := TX1) (N := 16) hx hb hts fw_1 hown hK hP 0 rfl rfl 10 (by decide) (hts _ m_fieldLink_P_Cellar_21_P_Cellar_spell_aI) (fun _ h9 => h9) rfl dX1_valuesOf_49 ?_
  refine lv_iload_n hx hb dX1_valuesOf_52 rfl (lv_at hl 1 rfl) ?_
  obtain ⟨hi10, hf⟩ := gd_of hf
  refine va_iald hx hb hK hP 4 0 rfl rfl hi10 dX1_valuesOf_53 ?_
  refine lv_bipush (v := 10) hx hb dX1_valuesOf_54 (by decide) ?_
  refine lv_irem hx hb dX1_valuesOf_56 (by decide) ?_
  obtain ⟨hi11, hf⟩ := gd_of hf
  refine va_iast hx hb hK hP hD hS 6 0 rfl rfl hi11 dX1_valuesOf_57 (fun H locs hP hD hS => ?_)
  replace hP : va_P D vwCl (List.flatten [(Cw q cA (chv qc mc) mf mg), (Vw (q 15) cA (upd (upd mv_6 (Int32.toNatClampNeg 3) ((mg 9) (Int32.toNatClampNeg a1))) (Int32.toNatClampNeg 4) (((mg 10) (Int32.toNatClampNeg a1)) - ((mg 10) (Int32.toNatClampNeg a1)) / 10 * 10)))]) H := hP
  replace hD : va_D A (List.flatten [(Cw q cA (chv qc mc) mf mg), (Vw (q 15) cA (upd (upd mv_6 (Int32.toNatClampNeg 3) ((mg 9) (Int32.toNatClampNeg a1))) (Int32.toNatClampNeg 4) (((mg 10) (Int32.toNatClampNeg a1)) - ((mg 10) (Int32.toNatClampNeg a1)) / 10 * 10)))]) := hD
  refine lv_aload_n hx hb dX1_valuesOf_58 rfl (lv_at hl 0 rfl) ?_
  refine va_get (D := D) (ci := 1) (v := .ref (q 15)) (C := RX1) (T := TX1) (N := 16) hx hb hts fw_1 hown hK hP 0 rfl rfl 15 (by decide) (hts _ m_fieldLink_P_Cellar_42_P_Cellar_values_aI) (fun _ h9 => h9) rfl dX1_valuesOf_59 ?_
  refine lv_iconst (v := 5) hx hb dX1_valuesOf_62 (by decide) ?_
  refine lv_aload_n hx hb dX1_valuesOf_63 rfl (lv_at hl 0 rfl) ?_
  refine va_get (D := D) (ci := 1) (v := .int (mf 5)) (C := RX1) (T := TX1) (N := 16) hx hb hts fw_1 hown hK hP 0 rfl rfl 5 (by decide) (hts _ m_fieldLink_P_Cellar_73_P_Cellar_day_I) (fun _ h9 => h9) rfl dX1_valuesOf_64 ?_
  refine lv_bipush (v := 7) hx hb dX1_valuesOf_67 (by decide) ?_
  refine lv_irem hx hb dX1_valuesOf_69 (by decide) ?_
  obtain ⟨hi12, hf⟩ := gd_of hf
  refine va_iast hx hb hK hP hD hS 6 0 rfl rfl hi12 dX1_valuesOf_70 (fun H locs hP hD hS => ?_)
  replace hP : va_P D vwCl (List.flatten [(Cw q cA (chv qc mc) mf mg), (Vw (q 15) cA (upd (upd (upd mv_6 (Int32.toNatClampNeg 3) ((mg 9) (Int32.toNatClampNeg a1))) (Int32.toNatClampNeg 4) (((mg 10) (Int32.toNatClampNeg a1)) - ((mg 10) (Int32.toNatClampNeg a1)) / 10 * 10)) (Int32.toNatClampNeg 5) ((mf 5) - (mf 5) / 7 * 7)))]) H := hP
  replace hD : va_D A (List.flatten [(Cw q cA (chv qc mc) mf mg), (Vw (q 15) cA (upd (upd (upd mv_6 (Int32.toNatClampNeg 3) ((mg 9) (Int32.toNatClampNeg a1))) (Int32.toNatClampNeg 4) (((mg 10) (Int32.toNatClampNeg a1)) - ((mg 10) (Int32.toNatClampNeg a1)) / 10 * 10)) (Int32.toNatClampNeg 5) ((mf 5) - (mf 5) / 7 * 7)))]) := hD
  obtain ⟨mv_13, hv14, hf⟩ := nm_of hf
  replace hP : va_P D vwCl (List.flatten [(Cw q cA (chv qc mc) mf mg), (Vw (q 15) cA mv_13)]) H := by rw [hv14]; exact hP
  replace hD : va_D A (List.flatten [(Cw q cA (chv qc mc) mf mg), (Vw (q 15) cA mv_13)]) := by rw [hv14]; exact hD
  refine lv_aload_n hx hb dX1_valuesOf_71 rfl (lv_at hl 0 rfl) ?_
  refine va_get (D := D) (ci := 1) (v := .ref (q 15)) (C := RX1) (T := TX1) (N := 16) hx hb hts fw_1 hown hK hP 0 rfl rfl 15 (by decide) (hts _ m_fieldLink_P_Cellar_42_P_Cellar_values_aI) (fun _ h9 => h9) rfl dX1_valuesOf_72 ?_
  rw [hQ]
  exact ret_r C0 (Or.inr ⟨_, rfl⟩) hP hD hS (by have e := Option.some.inj hf; rw [← e]; exact ⟨rfl, rfl⟩) dX1_valuesOf_75
-- X1 isDancingWith
noncomputable def k_X1_isDancingWith_2 (a1 : Int32) (mf : Nat → Int32) (mg : Nat → Nat → Int32) : Nat → Int32 → Option Int32
  | 0, _ => none
  | n + 1, x2 => if (mf 0) ≤ x2 then some 0 else if x2 = a1 then k_X1_isDancingWith_2 a1 mf mg n (x2 + 1) else gd x2 6 (if ((mg 7) (Int32.toNatClampNeg x2)) = 5 then b1 (k_X1_isUp x2 mf) (fun r5 => if r5 = 0 then some 1 else k_X1_isDancingWith_2 a1 mf mg n (x2 + 1)) else k_X1_isDancingWith_2 a1 mf mg n (x2 + 1))
noncomputable def k_X1_isDancingWith (a1 : Int32) (mf : Nat → Int32) (mg : Nat → Nat → Int32) : Option Int32 := k_X1_isDancingWith_2 a1 mf mg 100000 0
set_option maxHeartbeats 4000000 in
set_option maxRecDepth 100000 in
theorem c_X1_isDancingWith {l : Launch} {D : va_G} {cA : Nat → ClassId} (q : Nat → Nat) (qc : Nat → Nat → Nat) (mf : Nat → Int32) (mg : Nat → Nat → Int32) (mc : Option Nat) (a1 : Int32) (o : Int32) (hf : k_X1_isDancingWith a1 mf mg = some o) : CI l D cA yX1_isDancingWith cX1_isDancingWith 3 (some .boolean) 1 21 [.ref (q 0), .int a1] (Cw q cA (chv qc mc) mf mg) 0 0 (fun r w => (r = o ∧ w = (Cw q cA (chv qc mc) mf mg)) ∧ narrow .boolean (.int r) = .int r) := by
  intro sz
  refine met_start (by decide) rfl ?_
  intro p e s m args below meth c ls hsz hargs C0 hname hP hD hS hl
  generalize hAe : va_A (Cw q cA (chv qc mc) mf mg) sz = A at C0 hD hS ⊢
  obtain ⟨hx, hb, hr, hml, hown, hts, hlk, hK, hA⟩ := id C0
  replace hl : lv_has ls 3 [(0, .ref (q 0)), (1, .int a1)] := hl
  obtain ⟨Q, hQ⟩ : ∃ Q : State → Prop, Q = QI below D A (fun r w => (r = o ∧ w = (Cw q cA (chv qc mc) mf mg)) ∧ narrow .boolean (.int r) = .int r) args s 0 0 := ⟨_, rfl⟩
  refine cast (by rw [hQ]) (?_ : W p l e (RMx 1 21 0 0) s m args below meth c s.heap [] 0 0 Q (F0 m 0 ls []))
  have J2 : ∀ n : Nat, ∀ (x2 : Int32), k_X1_isDancingWith_2 a1 mf mg n x2 = some o → ∀ (H : Heap) (locs : List Loc), va_P D vwCl (Cw q cA (chv qc mc) mf mg) H → va_D A (Cw q cA (chv qc mc) mf mg) → va_S A s.heap H locs → ∀ ls : Array Slot, lv_has ls 3 [(0, .ref (q 0)), (1, .int a1), (2, .int x2)] → W p l e (RMx 1 21 0 0) s m args below meth c H locs 0 0 Q (F0 m 2 ls []) := by
    intro  n
    induction n with
    | zero =>
      intro x2 hf
      rw [k_X1_isDancingWith_2] at hf
      cases hf
    | succ n ih =>
      intro x2 hf H locs hP hD hS ls hl
      rw [k_X1_isDancingWith_2] at hf
      refine lv_iload_n hx hb dX1_isDancingWith_2 rfl (lv_at hl 2 rfl) ?_
      refine lv_aload_n hx hb dX1_isDancingWith_3 rfl (lv_at hl 0 rfl) ?_
      refine va_get (D := D) (ci := 1) (v := .int (mf 0)) (C := RX1) (T := TX1) (N := 16) hx hb hts fw_1 hown hK hP 0 rfl rfl 0 (by decide) (hts _ m_fieldLink_P_Cellar_45_P_Cellar_men_I) (fun _ h9 => h9) rfl dX1_isDancingWith_4 ?_
      refine lv_icmp_ge (tgt := 41) hx hb dX1_isDancingWith_7 (by decide) (fun c1 => ?_) (fun c1 => ?_)
      · replace hf := it_of c1 hf
        refine lv_iconst (v := 0) hx hb dX1_isDancingWith_41 (by decide) ?_
        rw [hQ]
        exact ret_z C0 hP hD hS (by have e := Option.some.inj hf; rw [← e]; exact ⟨rfl, rfl⟩) rfl dX1_isDancingWith_42
      · replace hf := ie_of c1 hf
        refine lv_iload_n hx hb dX1_isDancingWith_10 rfl (lv_at hl 2 rfl) ?_
        refine lv_iload_n hx hb dX1_isDancingWith_11 rfl (lv_at hl 1 rfl) ?_
        refine lv_icmp_eq (tgt := 35) hx hb dX1_isDancingWith_12 (by decide) (fun c2 => ?_) (fun c2 => ?_)
        · replace hf := it_of c2 hf
          refine lv_iinc (v := (x2 + 1)) (lv' := [(2, .int (x2 + 1)), (0, .ref (q 0)), (1, .int a1)]) hx hb dX1_isDancingWith_35 hl (k := 2) rfl rfl (by decide) rfl (fun ls hl => ?_)
          refine lv_goto (tgt := 2) hx hb dX1_isDancingWith_38 (by decide) ?_
          exact ih (x2 + 1) hf _ _ hP hD hS _ (lv_sub hl [1, 2, 0] rfl)
        · replace hf := ie_of c2 hf
          refine lv_aload_n hx hb dX1_isDancingWith_15 rfl (lv_at hl 0 rfl) ?_
          refine va_get (D := D) (ci := 1) (v := .ref (q 7)) (C := RX1) (T := TX1) (N := 16) hx hb hts fw_1 hown hK hP 0 rfl rfl 7 (by decide) (hts _ m_fieldLink_P_Cellar_9_P_Cellar_kind_aI) (fun _ h9 => h9) rfl dX1_isDancingWith_16 ?_
          refine lv_iload_n hx hb dX1_isDancingWith_19 rfl (lv_at hl 2 rfl) ?_
          obtain ⟨hi3, hf⟩ := gd_of hf
          refine va_iald hx hb hK hP 1 0 rfl rfl hi3 dX1_isDancingWith_20 ?_
          refine lv_iconst (v := 5) hx hb dX1_isDancingWith_21 (by decide) ?_
          refine lv_icmp_ne (tgt := 35) hx hb dX1_isDancingWith_22 (by decide) (fun c4 => ?_) (fun c4 => ?_)
          · replace hf := ie_of c4 hf
            refine lv_iinc (v := (x2 + 1)) (lv' := [(2, .int (x2 + 1)), (0, .ref (q 0)), (1, .int a1)]) hx hb dX1_isDancingWith_35 hl (k := 2) rfl rfl (by decide) rfl (fun ls hl => ?_)
            refine lv_goto (tgt := 2) hx hb dX1_isDancingWith_38 (by decide) ?_
            exact ih (x2 + 1) hf _ _ hP hD hS _ (lv_sub hl [1, 2, 0] rfl)
          · replace hf := it_of c4 hf
            refine lv_aload_n hx hb dX1_isDancingWith_25 rfl (lv_at hl 0 rfl) ?_
            refine lv_iload_n hx hb dX1_isDancingWith_26 rfl (lv_at hl 2 rfl) ?_
            obtain ⟨r5q, hq6, hf⟩ := b1_of hf
            refine callVI (As := [.int x2]) (rest := []) (wr := []) C0 (c_X1_isUp q qc mf mg mc x2 _ hq6) lk_X1_86_X1_isUp rfl hP hD hS perm_nil 0 1 rfl rfl rfl hl.1 rfl rfl (Nat.le_of_ble_eq_true rfl) dX1_isDancingWith_27 ⟨Nat.zero_le _, Nat.zero_le _⟩ (fun r5 w H locs hw hP hD hS => ?_)
            obtain ⟨⟨e1, e2⟩, z7⟩ := hw
            replace e1 : r5 = r5q := e1
            subst e1
            subst e2
            replace hP : va_P D vwCl (Cw q cA (chv qc mc) mf mg) H := hP.nil
            replace hD : va_D A (Cw q cA (chv qc mc) mf mg) := hD.nil
            refine lv_if_ne (tgt := 35) hx hb dX1_isDancingWith_30 (by decide) (fun c8 => ?_) (fun c8 => ?_)
            · replace hf := ie_of c8 hf
              refine lv_iinc (v := (x2 + 1)) (lv' := [(2, .int (x2 + 1)), (0, .ref (q 0)), (1, .int a1)]) hx hb dX1_isDancingWith_35 hl (k := 2) rfl rfl (by decide) rfl (fun ls hl => ?_)
              refine lv_goto (tgt := 2) hx hb dX1_isDancingWith_38 (by decide) ?_
              exact ih (x2 + 1) hf _ _ hP hD hS _ (lv_sub hl [1, 2, 0] rfl)
            · replace hf := it_of c8 hf
              refine lv_iconst (v := 1) hx hb dX1_isDancingWith_33 (by decide) ?_
              rw [hQ]
              exact ret_z C0 hP hD hS (by have e := Option.some.inj hf; rw [← e]; exact ⟨rfl, rfl⟩) rfl dX1_isDancingWith_34
  unfold k_X1_isDancingWith at hf
  refine lv_iconst (v := 0) hx hb dX1_isDancingWith_0 (by decide) ?_
  refine lv_istore_n (lv' := [(2, .int 0), (0, .ref (q 0)), (1, .int a1)]) hx hb dX1_isDancingWith_1 rfl hl (by decide) rfl (fun ls hl => ?_)
  exact J2 100000 0 hf _ _ hP hD hS _ (lv_sub hl [1, 2, 0] rfl)
-- X1 noise
noncomputable def k_X1_noise_48 (a1 : Int32) (mf : Nat → Int32) (mg : Nat → Nat → Int32) (x2 : Int32) (t0 : Int32) (mv : Nat → Int32) : Option (Int32 × (Nat → Int32)) := gd a1 6 (if ((mg 7) (Int32.toNatClampNeg a1)) = 1 then gd a1 6 (some ((x2 + ((mg 8) (Int32.toNatClampNeg a1))), mv)) else if ((mg 7) (Int32.toNatClampNeg a1)) = 2 then some (((x2 / 2) + 3), mv) else if ((mg 7) (Int32.toNatClampNeg a1)) = 3 then some (t0, mv) else if ((mg 7) (Int32.toNatClampNeg a1)) = 4 then gd a1 6 (gd a1 6 (nm (if 9 < ((mg 10) (Int32.toNatClampNeg a1)) then 9 else ((mg 10) (Int32.toNatClampNeg a1))) (fun mm9 => some (((x2 + ((mg 8) (Int32.toNatClampNeg a1))) - mm9), mv)))) else if ((mg 7) (Int32.toNatClampNeg a1)) = 5 then b1 (k_X1_isDancingWith a1 mf mg) (fun r11 => if r11 = 0 then some (((x2 / 2) + 3), mv) else some ((((x2 / 2) + 3) * 2), mv)) else if ((mg 7) (Int32.toNatClampNeg a1)) = 6 then gd ((a1 * 4) + ((mf 5) - (mf 5) / 4 * 4)) 24 (some ((t0 + ((mg 11) (Int32.toNatClampNeg ((a1 * 4) + ((mf 5) - (mf 5) / 4 * 4))))), mv)) else some (x2, mv))
noncomputable def k_X1_noise_23 (a1 : Int32) (mf : Nat → Int32) (mg : Nat → Nat → Int32) (t0 : Int32) (mv : Nat → Int32) : Option (Int32 × (Nat → Int32)) := gd a1 6 (if ((mf 5) - (mf 5) / 7 * 7) = 0 then k_X1_noise_48 a1 mf mg (t0 - (((mg 9) (Int32.toNatClampNeg a1)) / 4)) 0 mv else k_X1_noise_48 a1 mf mg (t0 - (((mg 9) (Int32.toNatClampNeg a1)) / 4)) (t0 - (((mg 9) (Int32.toNatClampNeg a1)) / 4)) mv)
noncomputable def k_X1_noise (a1 : Int32) (mf : Nat → Int32) (mg : Nat → Nat → Int32) (mc : Option Nat) (mv0 : Nat → Int32) (cn : Nat) (cf : Nat → Nat → Int32) (cg : Nat → Nat → Nat → Int32) : Option (Int32 × (Nat → Int32)) := oc mc (k_X1_noise_23 a1 mf mg 0 mv0) (fun i1 => b1 (k_X1_valuesOf a1 mf mg mv0) (fun mv_2 => gp i1 cn (b1 (k_X2_sumBy (cf i1) (cg i1) mv_2) (fun r5 => k_X1_noise_23 a1 mf mg r5 mv_2))))
set_option maxHeartbeats 4000000 in
set_option maxRecDepth 100000 in
theorem c_X1_noise {l : Launch} {D : va_G} {cA : Nat → ClassId} (q : Nat → Nat) (qc : Nat → Nat → Nat) (mf : Nat → Int32) (mg : Nat → Nat → Int32) (mc : Option Nat) (mv0 : Nat → Int32) (cn : Nat) (cf : Nat → Nat → Int32) (cg : Nat → Nat → Nat → Int32) (a1 : Int32) (o : Int32 × (Nat → Int32)) (hf : k_X1_noise a1 mf mg mc mv0 cn cf cg = some o) : CI l D cA yX1_noise cX1_noise 5 (some .int) 2 50 [.ref (q 0), .int a1] (List.flatten [(Cw q cA (chv qc mc) mf mg), (Vw (q 15) cA mv0), (chPool cn qc cA cf cg)]) 0 0 (fun r w => r = o.1 ∧ w = (List.flatten [(Cw q cA (chv qc mc) mf mg), (Vw (q 15) cA o.2), (chPool cn qc cA cf cg)])) := by
  intro sz
  refine met_start (by decide) rfl ?_
  intro p e s m args below meth c ls hsz hargs C0 hname hP hD hS hl
  generalize hAe : va_A (List.flatten [(Cw q cA (chv qc mc) mf mg), (Vw (q 15) cA mv0), (chPool cn qc cA cf cg)]) sz = A at C0 hD hS ⊢
  obtain ⟨hx, hb, hr, hml, hown, hts, hlk, hK, hA⟩ := id C0
  replace hl : lv_has ls 5 [(0, .ref (q 0)), (1, .int a1)] := hl
  obtain ⟨Q, hQ⟩ : ∃ Q : State → Prop, Q = QI below D A (fun r w => r = o.1 ∧ w = (List.flatten [(Cw q cA (chv qc mc) mf mg), (Vw (q 15) cA o.2), (chPool cn qc cA cf cg)])) args s 0 0 := ⟨_, rfl⟩
  refine cast (by rw [hQ]) (?_ : W p l e (RMx 2 50 0 0) s m args below meth c s.heap [] 0 0 Q (F0 m 0 ls []))
  have J48 : ∀ (x2 : Int32) (t0 : Int32) (mv : Nat → Int32), k_X1_noise_48 a1 mf mg x2 t0 mv = some o → ∀ (H : Heap) (locs : List Loc), va_P D vwCl (List.flatten [(Cw q cA (chv qc mc) mf mg), (Vw (q 15) cA mv), (chPool cn qc cA cf cg)]) H → va_D A (List.flatten [(Cw q cA (chv qc mc) mf mg), (Vw (q 15) cA mv), (chPool cn qc cA cf cg)]) → va_S A s.heap H locs → ∀ ls : Array Slot, lv_has ls 5 [(0, .ref (q 0)), (1, .int a1), (2, .int x2)] → W p l e (RMx 2 50 0 0) s m args below meth c H locs 0 0 Q (F0 m 48 ls [.int t0]) := by
    intro  x2 t0 mv hf H locs hP hD hS ls hl
    unfold k_X1_noise_48 at hf
    refine lv_istore_n (lv' := [(3, .int t0), (0, .ref (q 0)), (1, .int a1), (2, .int x2)]) hx hb dX1_noise_48 rfl hl (by decide) rfl (fun ls hl => ?_)
    refine lv_iload_n hx hb dX1_noise_49 rfl (lv_at hl 3 rfl) ?_
    refine lv_iconst (v := 2) hx hb dX1_noise_50 (by decide) ?_
    refine lv_idiv hx hb dX1_noise_51 (by decide) ?_
    refine lv_iconst (v := 3) hx hb dX1_noise_52 (by decide) ?_
    refine lv_iadd hx hb dX1_noise_53 ?_
    refine lv_istore (lv' := [(4, .int ((x2 / 2) + 3)), (3, .int t0), (0, .ref (q 0)), (1, .int a1), (2, .int x2)]) hx hb dX1_noise_54 hl (by decide) rfl (fun ls hl => ?_)
    refine lv_aload_n hx hb dX1_noise_56 rfl (lv_at hl 2 rfl) ?_
    refine va_get (D := D) (ci := 1) (v := .ref (q 7)) (C := RX1) (T := TX1) (N := 16) hx hb hts fw_1 hown hK hP 0 rfl rfl 7 (by decide) (hts _ m_fieldLink_P_Cellar_9_P_Cellar_kind_aI) (fun _ h9 => h9) rfl dX1_noise_57 ?_
    refine lv_iload_n hx hb dX1_noise_60 rfl (lv_at hl 3 rfl) ?_
    obtain ⟨hi1, hf⟩ := gd_of hf
    refine va_iald hx hb hK hP 1 0 rfl rfl hi1 dX1_noise_61 ?_
    by_cases c2 : ((mg 7) (Int32.toNatClampNeg a1)) = 1
    · replace hf := it_of c2 hf
      refine lv_tableIn (off := 38) (tgt := 100) hx hb dX1_noise_62 (by rw [c2]; decide) (by rw [c2]; decide) (by rw [c2]; decide) (by decide) ?_
      refine lv_iload_n hx hb dX1_noise_100 rfl (lv_at hl 4 rfl) ?_
      refine lv_aload_n hx hb dX1_noise_101 rfl (lv_at hl 2 rfl) ?_
      refine va_get (D := D) (ci := 1) (v := .ref (q 8)) (C := RX1) (T := TX1) (N := 16) hx hb hts fw_1 hown hK hP 0 rfl rfl 8 (by decide) (hts _ m_fieldLink_P_Cellar_15_P_Cellar_v_aI) (fun _ h9 => h9) rfl dX1_noise_102 ?_
      refine lv_iload_n hx hb dX1_noise_105 rfl (lv_at hl 3 rfl) ?_
      obtain ⟨hi3, hf⟩ := gd_of hf
      refine va_iald hx hb hK hP 2 0 rfl rfl hi3 dX1_noise_106 ?_
      refine lv_iadd hx hb dX1_noise_107 ?_
      rw [hQ]
      exact ret_i C0 hP hD hS (by have e := Option.some.inj hf; rw [← e]; exact ⟨rfl, rfl⟩) dX1_noise_108
    · replace hf := ie_of c2 hf
      by_cases c4 : ((mg 7) (Int32.toNatClampNeg a1)) = 2
      · replace hf := it_of c4 hf
        refine lv_tableIn (off := 47) (tgt := 109) hx hb dX1_noise_62 (by rw [c4]; decide) (by rw [c4]; decide) (by rw [c4]; decide) (by decide) ?_
        refine lv_iload hx hb dX1_noise_109 (lv_at hl 0 rfl) ?_
        rw [hQ]
        exact ret_i C0 hP hD hS (by have e := Option.some.inj hf; rw [← e]; exact ⟨rfl, rfl⟩) dX1_noise_111
      · replace hf := ie_of c4 hf
        by_cases c5 : ((mg 7) (Int32.toNatClampNeg a1)) = 3
        · replace hf := it_of c5 hf
          refine lv_tableIn (off := 50) (tgt := 112) hx hb dX1_noise_62 (by rw [c5]; decide) (by rw [c5]; decide) (by rw [c5]; decide) (by decide) ?_
          refine lv_iload_n hx hb dX1_noise_112 rfl (lv_at hl 1 rfl) ?_
          rw [hQ]
          exact ret_i C0 hP hD hS (by have e := Option.some.inj hf; rw [← e]; exact ⟨rfl, rfl⟩) dX1_noise_113
        · replace hf := ie_of c5 hf
          by_cases c6 : ((mg 7) (Int32.toNatClampNeg a1)) = 4
          · replace hf := it_of c6 hf
            refine lv_tableIn (off := 52) (tgt := 114) hx hb dX1_noise_62 (by rw [c6]; decide) (by rw [c6]; decide) (by rw [c6]; decide) (by decide) ?_
            refine lv_iload_n hx hb dX1_noise_114 rfl (lv_at hl 4 rfl) ?_
            refine lv_aload_n hx hb dX1_noise_115 rfl (lv_at hl 2 rfl) ?_
            refine va_get (D := D) (ci := 1) (v := .ref (q 8)) (C := RX1) (T := TX1) (N := 16) hx hb hts fw_1 hown hK hP 0 rfl rfl 8 (by decide) (hts _ m_fieldLink_P_Cellar_15_P_Cellar_v_aI) (fun _ h9 => h9) rfl dX1_noise_116 ?_
            refine lv_iload_n hx hb dX1_noise_119 rfl (lv_at hl 3 rfl) ?_
            obtain ⟨hi7, hf⟩ := gd_of hf
            refine va_iald hx hb hK hP 2 0 rfl rfl hi7 dX1_noise_120 ?_
            refine lv_iadd hx hb dX1_noise_121 ?_
            refine lv_aload_n hx hb dX1_noise_122 rfl (lv_at hl 2 rfl) ?_
            refine va_get (D := D) (ci := 1) (v := .ref (q 10)) (C := RX1) (T := TX1) (N := 16) hx hb hts fw_1 hown hK hP 0 rfl rfl 10 (by decide) (hts _ m_fieldLink_P_Cellar_21_P_Cellar_spell_aI) (fun _ h9 => h9) rfl dX1_noise_123 ?_
            refine lv_iload_n hx hb dX1_noise_126 rfl (lv_at hl 3 rfl) ?_
            obtain ⟨hi8, hf⟩ := gd_of hf
            refine va_iald hx hb hK hP 4 0 rfl rfl hi8 dX1_noise_127 ?_
            refine lv_bipush (v := 9) hx hb dX1_noise_128 (by decide) ?_
            refine va_mmin hx hb (by rw [hml]; exact hl.1.symm) hown (hts _ m_methodLink_P_Cellar_76_java_lang_Math_min_II_I) (hts _ m_static_java_lang_Math_min_II_I) (hts _ m_initialized_java_lang_Math) (hts _ m_code_java_lang_Math_min_II_I) (Nat.le_of_ble_eq_true rfl) (Nat.le_of_ble_eq_true rfl) (Nat.zero_le _) (Nat.zero_le _) dX1_noise_130 ?_
            refine lv_topi (fun mm9 emm9 => ?_)
            replace hf := nm_i emm9 hf
            refine lv_isub hx hb dX1_noise_133 ?_
            rw [hQ]
            exact ret_i C0 hP hD hS (by have e := Option.some.inj hf; rw [← e]; exact ⟨rfl, rfl⟩) dX1_noise_134
          · replace hf := ie_of c6 hf
            by_cases c10 : ((mg 7) (Int32.toNatClampNeg a1)) = 5
            · replace hf := it_of c10 hf
              refine lv_tableIn (off := 73) (tgt := 135) hx hb dX1_noise_62 (by rw [c10]; decide) (by rw [c10]; decide) (by rw [c10]; decide) (by decide) ?_
              refine lv_aload_n hx hb dX1_noise_135 rfl (lv_at hl 2 rfl) ?_
              refine lv_iload_n hx hb dX1_noise_136 rfl (lv_at hl 3 rfl) ?_
              obtain ⟨r11q, hq12, hf⟩ := b1_of hf
              refine callVI (As := [.int a1]) (rest := []) (wr := segpick [(Cw q cA (chv qc mc) mf mg), (Vw (q 15) cA mv), (chPool cn qc cA cf cg)] [1, 2]) C0 (c_X1_isDancingWith q qc mf mg mc a1 _ hq12) lk_X1_82_X1_isDancingWith rfl hP hD hS (seg_out [(Cw q cA (chv qc mc) mf mg), (Vw (q 15) cA mv), (chPool cn qc cA cf cg)] [0] [1, 2] 3 rfl (by decide)) 0 1 rfl rfl rfl hl.1 rfl rfl (Nat.le_of_ble_eq_true rfl) dX1_noise_137 ⟨Nat.zero_le _, Nat.zero_le _⟩ (fun r11 w H locs hw hP hD hS => ?_)
              obtain ⟨⟨e1, e2⟩, z13⟩ := hw
              replace e1 : r11 = r11q := e1
              subst e1
              subst e2
              replace hP : va_P D vwCl (List.flatten [(Cw q cA (chv qc mc) mf mg), (Vw (q 15) cA mv), (chPool cn qc cA cf cg)]) H := hP.perm (seg_out [(Cw q cA (chv qc mc) mf mg), (Vw (q 15) cA mv), (chPool cn qc cA cf cg)] [0] [1, 2] 3 rfl (by decide)).symm
              replace hD : va_D A (List.flatten [(Cw q cA (chv qc mc) mf mg), (Vw (q 15) cA mv), (chPool cn qc cA cf cg)]) := hD.perm (seg_out [(Cw q cA (chv qc mc) mf mg), (Vw (q 15) cA mv), (chPool cn qc cA cf cg)] [0] [1, 2] 3 rfl (by decide)).symm
              refine lv_if_eq (tgt := 150) hx hb dX1_noise_140 (by decide) (fun c14 => ?_) (fun c14 => ?_)
              · replace hf := it_of c14 hf
                refine lv_iload hx hb dX1_noise_150 (lv_at hl 0 rfl) ?_
                rw [hQ]
                exact ret_i C0 hP hD hS (by have e := Option.some.inj hf; rw [← e]; exact ⟨rfl, rfl⟩) dX1_noise_152
              · replace hf := ie_of c14 hf
                refine lv_iload hx hb dX1_noise_143 (lv_at hl 0 rfl) ?_
                refine lv_iconst (v := 2) hx hb dX1_noise_145 (by decide) ?_
                refine lv_imul hx hb dX1_noise_146 ?_
                refine lv_goto (tgt := 152) hx hb dX1_noise_147 (by decide) ?_
                rw [hQ]
                exact ret_i C0 hP hD hS (by have e := Option.some.inj hf; rw [← e]; exact ⟨rfl, rfl⟩) dX1_noise_152
            · replace hf := ie_of c10 hf
              by_cases c15 : ((mg 7) (Int32.toNatClampNeg a1)) = 6
              · replace hf := it_of c15 hf
                refine lv_tableIn (off := 91) (tgt := 153) hx hb dX1_noise_62 (by rw [c15]; decide) (by rw [c15]; decide) (by rw [c15]; decide) (by decide) ?_
                refine lv_iload_n hx hb dX1_noise_153 rfl (lv_at hl 1 rfl) ?_
                refine lv_aload_n hx hb dX1_noise_154 rfl (lv_at hl 2 rfl) ?_
                refine va_get (D := D) (ci := 1) (v := .ref (q 11)) (C := RX1) (T := TX1) (N := 16) hx hb hts fw_1 hown hK hP 0 rfl rfl 11 (by decide) (hts _ m_fieldLink_P_Cellar_24_P_Cellar_rows_aI) (fun _ h9 => h9) rfl dX1_noise_155 ?_
                refine lv_iload_n hx hb dX1_noise_158 rfl (lv_at hl 3 rfl) ?_
                refine lv_iconst (v := 4) hx hb dX1_noise_159 (by decide) ?_
                refine lv_imul hx hb dX1_noise_160 ?_
                refine lv_aload_n hx hb dX1_noise_161 rfl (lv_at hl 2 rfl) ?_
                refine va_get (D := D) (ci := 1) (v := .int (mf 5)) (C := RX1) (T := TX1) (N := 16) hx hb hts fw_1 hown hK hP 0 rfl rfl 5 (by decide) (hts _ m_fieldLink_P_Cellar_73_P_Cellar_day_I) (fun _ h9 => h9) rfl dX1_noise_162 ?_
                refine lv_iconst (v := 4) hx hb dX1_noise_165 (by decide) ?_
                refine lv_irem hx hb dX1_noise_166 (by decide) ?_
                refine lv_iadd hx hb dX1_noise_167 ?_
                obtain ⟨hi16, hf⟩ := gd_of hf
                refine va_iald hx hb hK hP 5 0 rfl rfl hi16 dX1_noise_168 ?_
                refine lv_iadd hx hb dX1_noise_169 ?_
                rw [hQ]
                exact ret_i C0 hP hD hS (by have e := Option.some.inj hf; rw [← e]; exact ⟨rfl, rfl⟩) dX1_noise_170
              · replace hf := ie_of c15 hf
                refine lv_tableOut (tgt := 171) hx hb dX1_noise_62 (by have := lv_neT c2 (a := 1) (by decide); have := lv_neT c4 (a := 2) (by decide); have := lv_neT c5 (a := 3) (by decide); have := lv_neT c6 (a := 4) (by decide); have := lv_neT c10 (a := 5) (by decide); have := lv_neT c15 (a := 6) (by decide); omega) (by decide) ?_
                refine lv_iload_n hx hb dX1_noise_171 rfl (lv_at hl 4 rfl) ?_
                rw [hQ]
                exact ret_i C0 hP hD hS (by have e := Option.some.inj hf; rw [← e]; exact ⟨rfl, rfl⟩) dX1_noise_172
  have J23 : ∀ (t0 : Int32) (mv : Nat → Int32), k_X1_noise_23 a1 mf mg t0 mv = some o → ∀ (H : Heap) (locs : List Loc), va_P D vwCl (List.flatten [(Cw q cA (chv qc mc) mf mg), (Vw (q 15) cA mv), (chPool cn qc cA cf cg)]) H → va_D A (List.flatten [(Cw q cA (chv qc mc) mf mg), (Vw (q 15) cA mv), (chPool cn qc cA cf cg)]) → va_S A s.heap H locs → ∀ ls : Array Slot, lv_has ls 5 [(0, .ref (q 0)), (1, .int a1)] → W p l e (RMx 2 50 0 0) s m args below meth c H locs 0 0 Q (F0 m 23 ls [.int t0]) := by
    intro  t0 mv hf H locs hP hD hS ls hl
    unfold k_X1_noise_23 at hf
    refine lv_aload_n hx hb dX1_noise_23 rfl (lv_at hl 0 rfl) ?_
    refine va_get (D := D) (ci := 1) (v := .ref (q 9)) (C := RX1) (T := TX1) (N := 16) hx hb hts fw_1 hown hK hP 0 rfl rfl 9 (by decide) (hts _ m_fieldLink_P_Cellar_18_P_Cellar_nerve_aI) (fun _ h9 => h9) rfl dX1_noise_24 ?_
    refine lv_iload_n hx hb dX1_noise_27 rfl (lv_at hl 1 rfl) ?_
    obtain ⟨hi1, hf⟩ := gd_of hf
    refine va_iald hx hb hK hP 3 0 rfl rfl hi1 dX1_noise_28 ?_
    refine lv_iconst (v := 4) hx hb dX1_noise_29 (by decide) ?_
    refine lv_idiv hx hb dX1_noise_30 (by decide) ?_
    refine lv_isub hx hb dX1_noise_31 ?_
    refine lv_istore_n (lv' := [(2, .int (t0 - (((mg 9) (Int32.toNatClampNeg a1)) / 4))), (0, .ref (q 0)), (1, .int a1)]) hx hb dX1_noise_32 rfl hl (by decide) rfl (fun ls hl => ?_)
    refine lv_aload_n hx hb dX1_noise_33 rfl (lv_at hl 1 rfl) ?_
    refine va_get (D := D) (ci := 1) (v := .int (mf 5)) (C := RX1) (T := TX1) (N := 16) hx hb hts fw_1 hown hK hP 0 rfl rfl 5 (by decide) (hts _ m_fieldLink_P_Cellar_73_P_Cellar_day_I) (fun _ h9 => h9) rfl dX1_noise_34 ?_
    refine lv_bipush (v := 7) hx hb dX1_noise_37 (by decide) ?_
    refine lv_irem hx hb dX1_noise_39 (by decide) ?_
    refine lv_if_ne (tgt := 47) hx hb dX1_noise_40 (by decide) (fun c2 => ?_) (fun c2 => ?_)
    · replace hf := ie_of c2 hf
      refine lv_iload_n hx hb dX1_noise_47 rfl (lv_at hl 0 rfl) ?_
      exact J48 (t0 - (((mg 9) (Int32.toNatClampNeg a1)) / 4)) (t0 - (((mg 9) (Int32.toNatClampNeg a1)) / 4)) mv hf _ _ hP hD hS _ (lv_sub hl [1, 2, 0] rfl)
    · replace hf := it_of c2 hf
      refine lv_iconst (v := 0) hx hb dX1_noise_43 (by decide) ?_
      refine lv_goto (tgt := 48) hx hb dX1_noise_44 (by decide) ?_
      exact J48 (t0 - (((mg 9) (Int32.toNatClampNeg a1)) / 4)) 0 mv hf _ _ hP hD hS _ (lv_sub hl [1, 2, 0] rfl)
  unfold k_X1_noise at hf
  refine lv_aload_n hx hb dX1_noise_0 rfl (lv_at hl 0 rfl) ?_
  refine va_get (D := D) (ci := 1) (v := chv qc mc) (C := RX1) (T := TX1) (N := 16) hx hb hts fw_1 hown hK hP 0 rfl rfl 6 (by decide) (hts _ m_fieldLink_P_Cellar_56_P_Cellar_charter_LP_Charter) (fun _ h9 => h9) rfl dX1_noise_1 ?_
  rcases mc with _ | i1
  · replace hf := oc_n hf
    refine lv_ifnonnullN hx hb dX1_noise_4 ?_
    refine lv_iconst (v := 0) hx hb dX1_noise_7 (by decide) ?_
    refine lv_goto (tgt := 23) hx hb dX1_noise_8 (by decide) ?_
    exact J23 0 mv0 hf _ _ hP hD hS _ (lv_sub hl [0, 1] rfl)
  · replace hf := oc_s hf
    refine lv_ifnonnull (tgt := 11) hx hb dX1_noise_4 (by decide) ?_
    refine lv_aload_n hx hb dX1_noise_11 rfl (lv_at hl 0 rfl) ?_
    refine va_get (D := D) (ci := 1) (v := chv qc (some i1)) (C := RX1) (T := TX1) (N := 16) hx hb hts fw_1 hown hK hP 0 rfl rfl 6 (by decide) (hts _ m_fieldLink_P_Cellar_56_P_Cellar_charter_LP_Charter) (fun _ h9 => h9) rfl dX1_noise_12 ?_
    refine lv_aload_n hx hb dX1_noise_15 rfl (lv_at hl 0 rfl) ?_
    refine lv_iload_n hx hb dX1_noise_16 rfl (lv_at hl 1 rfl) ?_
    obtain ⟨mv_2, hq3, hf⟩ := b1_of hf
    refine callVR (As := [.int a1]) (rest := [.ref (qc i1 0)]) (wr := segpick [(Cw q cA (chv qc (some i1)) mf mg), (Vw (q 15) cA mv0), (chPool cn qc cA cf cg)] [2]) C0 (c_X1_valuesOf q qc mf mg (some i1) mv0 a1 _ hq3) lk_X1_65_X1_valuesOf rfl hP hD hS (seg_out [(Cw q cA (chv qc (some i1)) mf mg), (Vw (q 15) cA mv0), (chPool cn qc cA cf cg)] [0, 1] [2] 3 rfl (by decide)) 0 1 rfl rfl rfl hl.1 rfl rfl (Nat.le_of_ble_eq_true rfl) dX1_noise_17 ⟨Nat.zero_le _, Nat.zero_le _⟩ (fun rhq3_ w H locs hw hP hD hS => ?_)
    obtain ⟨e1, e2⟩ := hw
    subst e1
    subst e2
    replace hP : va_P D vwCl (List.flatten [(Cw q cA (chv qc (some i1)) mf mg), (Vw (q 15) cA mv_2), (chPool cn qc cA cf cg)]) H := hP.perm (seg_out [(Cw q cA (chv qc (some i1)) mf mg), (Vw (q 15) cA mv_2), (chPool cn qc cA cf cg)] [0, 1] [2] 3 rfl (by decide)).symm
    replace hD : va_D A (List.flatten [(Cw q cA (chv qc (some i1)) mf mg), (Vw (q 15) cA mv_2), (chPool cn qc cA cf cg)]) := hD.perm (seg_out [(Cw q cA (chv qc (some i1)) mf mg), (Vw (q 15) cA mv_2), (chPool cn qc cA cf cg)] [0, 1] [2] 3 rfl (by decide)).symm
    obtain ⟨hg4, hf⟩ := gp_of hf
    obtain ⟨r5q, hq6, hf⟩ := b1_of hf
    refine callVI (As := [.ref (q 15)]) (rest := []) (wr := segpick [(Cw q cA (chv qc (some i1)) mf mg), (Vw (q 15) cA mv_2), (Chw (qc i1) cA (cf i1) (cg i1)), (chPoolR cn qc cA cf cg i1)] [0, 3]) C0 (c_X2_sumBy (qc i1) (q 15) (cf i1) (cg i1) mv_2 _ hq6) lk_X1_69_X2_sumBy rfl hP hD hS ((seg_split [(Cw q cA (chv qc (some i1)) mf mg), (Vw (q 15) cA mv_2)] (chPool cn qc cA cf cg) (Chw (qc i1) cA (cf i1) (cg i1)) (chPoolR cn qc cA cf cg i1) [] (pool_out hg4)).trans (seg_out [(Cw q cA (chv qc (some i1)) mf mg), (Vw (q 15) cA mv_2), (Chw (qc i1) cA (cf i1) (cg i1)), (chPoolR cn qc cA cf cg i1)] [2, 1] [0, 3] 4 rfl (by decide))) (7 + 7 * i1) 2 ((pool_at hg4 (List.flatten [(Cw q cA (chv qc (some i1)) mf mg), (Vw (q 15) cA mv_2)]) [] rfl : _)) rfl rfl hl.1 rfl rfl (Nat.le_of_ble_eq_true rfl) dX1_noise_20 ⟨Nat.zero_le _, Nat.zero_le _⟩ (fun r5 w H locs hw hP hD hS => ?_)
    obtain ⟨e1, e2⟩ := hw
    replace e1 : r5 = r5q := e1
    subst e1
    subst e2
    replace hP : va_P D vwCl (List.flatten [(Cw q cA (chv qc (some i1)) mf mg), (Vw (q 15) cA mv_2), (chPool cn qc cA cf cg)]) H := hP.perm ((seg_out [(Cw q cA (chv qc (some i1)) mf mg), (Vw (q 15) cA mv_2), (Chw (qc i1) cA (cf i1) (cg i1)), (chPoolR cn qc cA cf cg i1)] [2, 1] [0, 3] 4 rfl (by decide)).symm.trans (seg_split [(Cw q cA (chv qc (some i1)) mf mg), (Vw (q 15) cA mv_2)] (chPool cn qc cA cf cg) (Chw (qc i1) cA (cf i1) (cg i1)) (chPoolR cn qc cA cf cg i1) [] (pool_out hg4)).symm)
    replace hD : va_D A (List.flatten [(Cw q cA (chv qc (some i1)) mf mg), (Vw (q 15) cA mv_2), (chPool cn qc cA cf cg)]) := hD.perm ((seg_out [(Cw q cA (chv qc (some i1)) mf mg), (Vw (q 15) cA mv_2), (Chw (qc i1) cA (cf i1) (cg i1)), (chPoolR cn qc cA cf cg i1)] [2, 1] [0, 3] 4 rfl (by decide)).symm.trans (seg_split [(Cw q cA (chv qc (some i1)) mf mg), (Vw (q 15) cA mv_2)] (chPool cn qc cA cf cg) (Chw (qc i1) cA (cf i1) (cg i1)) (chPoolR cn qc cA cf cg i1) [] (pool_out hg4)).symm)
    exact J23 r5 mv_2 hf _ _ hP hD hS _ (lv_sub hl [0, 1] rfl)
-- X1 sound
noncomputable def k_X1_sound_4 (mf : Nat → Int32) (mg : Nat → Nat → Int32) (mc : Option Nat) (cn : Nat) (cf : Nat → Nat → Int32) (cg : Nat → Nat → Nat → Int32) : Nat → Int32 → Int32 → (Nat → Int32) → Option (Int32 × (Nat → Int32))
  | 0, _, _, _ => none
  | n + 1, x1, x2, mv => if (mf 0) ≤ x2 then some (x1, mv) else b1 (k_X1_isUp x2 mf) (fun r2 => if r2 = 0 then b2 (k_X1_noise x2 mf mg mc mv cn cf cg) (fun r6 mv_7 => nm (if 0 < r6 then r6 else 0) (fun mm9 => k_X1_sound_4 mf mg mc cn cf cg n (x1 + mm9) (x2 + 1) mv_7)) else k_X1_sound_4 mf mg mc cn cf cg n x1 (x2 + 1) mv)
noncomputable def k_X1_sound (mf : Nat → Int32) (mg : Nat → Nat → Int32) (mc : Option Nat) (mv0 : Nat → Int32) (cn : Nat) (cf : Nat → Nat → Int32) (cg : Nat → Nat → Nat → Int32) : Option (Int32 × (Nat → Int32)) := k_X1_sound_4 mf mg mc cn cf cg 100000 0 0 mv0
set_option maxHeartbeats 4000000 in
set_option maxRecDepth 100000 in
theorem c_X1_sound {l : Launch} {D : va_G} {cA : Nat → ClassId} (q : Nat → Nat) (qc : Nat → Nat → Nat) (mf : Nat → Int32) (mg : Nat → Nat → Int32) (mc : Option Nat) (mv0 : Nat → Int32) (cn : Nat) (cf : Nat → Nat → Int32) (cg : Nat → Nat → Nat → Int32)  (o : Int32 × (Nat → Int32)) (hf : k_X1_sound mf mg mc mv0 cn cf cg = some o) : CI l D cA yX1_sound cX1_sound 3 (some .int) 3 74 [.ref (q 0)] (List.flatten [(Cw q cA (chv qc mc) mf mg), (Vw (q 15) cA mv0), (chPool cn qc cA cf cg)]) 0 0 (fun r w => r = o.1 ∧ w = (List.flatten [(Cw q cA (chv qc mc) mf mg), (Vw (q 15) cA o.2), (chPool cn qc cA cf cg)])) := by
  intro sz
  refine met_start (by decide) rfl ?_
  intro p e s m args below meth c ls hsz hargs C0 hname hP hD hS hl
  generalize hAe : va_A (List.flatten [(Cw q cA (chv qc mc) mf mg), (Vw (q 15) cA mv0), (chPool cn qc cA cf cg)]) sz = A at C0 hD hS ⊢
  obtain ⟨hx, hb, hr, hml, hown, hts, hlk, hK, hA⟩ := id C0
  replace hl : lv_has ls 3 [(0, .ref (q 0))] := hl
  obtain ⟨Q, hQ⟩ : ∃ Q : State → Prop, Q = QI below D A (fun r w => r = o.1 ∧ w = (List.flatten [(Cw q cA (chv qc mc) mf mg), (Vw (q 15) cA o.2), (chPool cn qc cA cf cg)])) args s 0 0 := ⟨_, rfl⟩
  refine cast (by rw [hQ]) (?_ : W p l e (RMx 3 74 0 0) s m args below meth c s.heap [] 0 0 Q (F0 m 0 ls []))
  have J4 : ∀ n : Nat, ∀ (x1 : Int32) (x2 : Int32) (mv : Nat → Int32), k_X1_sound_4 mf mg mc cn cf cg n x1 x2 mv = some o → ∀ (H : Heap) (locs : List Loc), va_P D vwCl (List.flatten [(Cw q cA (chv qc mc) mf mg), (Vw (q 15) cA mv), (chPool cn qc cA cf cg)]) H → va_D A (List.flatten [(Cw q cA (chv qc mc) mf mg), (Vw (q 15) cA mv), (chPool cn qc cA cf cg)]) → va_S A s.heap H locs → ∀ ls : Array Slot, lv_has ls 3 [(0, .ref (q 0)), (1, .int x1), (2, .int x2)] → W p l e (RMx 3 74 0 0) s m args below meth c H locs 0 0 Q (F0 m 4 ls []) := by
    intro  n
    induction n with
    | zero =>
      intro x1 x2 mv hf
      rw [k_X1_sound_4] at hf
      cases hf
    | succ n ih =>
      intro x1 x2 mv hf H locs hP hD hS ls hl
      rw [k_X1_sound_4] at hf
      refine lv_iload_n hx hb dX1_sound_4 rfl (lv_at hl 2 rfl) ?_
      refine lv_aload_n hx hb dX1_sound_5 rfl (lv_at hl 0 rfl) ?_
      refine va_get (D := D) (ci := 1) (v := .int (mf 0)) (C := RX1) (T := TX1) (N := 16) hx hb hts fw_1 hown hK hP 0 rfl rfl 0 (by decide) (hts _ m_fieldLink_P_Cellar_45_P_Cellar_men_I) (fun _ h9 => h9) rfl dX1_sound_6 ?_
      refine lv_icmp_ge (tgt := 38) hx hb dX1_sound_9 (by decide) (fun c1 => ?_) (fun c1 => ?_)
      · replace hf := it_of c1 hf
        refine lv_iload_n hx hb dX1_sound_38 rfl (lv_at hl 1 rfl) ?_
        rw [hQ]
        exact ret_i C0 hP hD hS (by have e := Option.some.inj hf; rw [← e]; exact ⟨rfl, rfl⟩) dX1_sound_39
      · replace hf := ie_of c1 hf
        refine lv_aload_n hx hb dX1_sound_12 rfl (lv_at hl 0 rfl) ?_
        refine lv_iload_n hx hb dX1_sound_13 rfl (lv_at hl 2 rfl) ?_
        obtain ⟨r2q, hq3, hf⟩ := b1_of hf
        refine callVI (As := [.int x2]) (rest := []) (wr := segpick [(Cw q cA (chv qc mc) mf mg), (Vw (q 15) cA mv), (chPool cn qc cA cf cg)] [1, 2]) C0 (c_X1_isUp q qc mf mg mc x2 _ hq3) lk_X1_86_X1_isUp rfl hP hD hS (seg_out [(Cw q cA (chv qc mc) mf mg), (Vw (q 15) cA mv), (chPool cn qc cA cf cg)] [0] [1, 2] 3 rfl (by decide)) 0 1 rfl rfl rfl hl.1 rfl rfl (Nat.le_of_ble_eq_true rfl) dX1_sound_14 ⟨Nat.zero_le _, Nat.zero_le _⟩ (fun r2 w H locs hw hP hD hS => ?_)
        obtain ⟨⟨e1, e2⟩, z4⟩ := hw
        replace e1 : r2 = r2q := e1
        subst e1
        subst e2
        replace hP : va_P D vwCl (List.flatten [(Cw q cA (chv qc mc) mf mg), (Vw (q 15) cA mv), (chPool cn qc cA cf cg)]) H := hP.perm (seg_out [(Cw q cA (chv qc mc) mf mg), (Vw (q 15) cA mv), (chPool cn qc cA cf cg)] [0] [1, 2] 3 rfl (by decide)).symm
        replace hD : va_D A (List.flatten [(Cw q cA (chv qc mc) mf mg), (Vw (q 15) cA mv), (chPool cn qc cA cf cg)]) := hD.perm (seg_out [(Cw q cA (chv qc mc) mf mg), (Vw (q 15) cA mv), (chPool cn qc cA cf cg)] [0] [1, 2] 3 rfl (by decide)).symm
        refine lv_if_ne (tgt := 32) hx hb dX1_sound_17 (by decide) (fun c5 => ?_) (fun c5 => ?_)
        · replace hf := ie_of c5 hf
          refine lv_iinc (v := (x2 + 1)) (lv' := [(2, .int (x2 + 1)), (0, .ref (q 0)), (1, .int x1)]) hx hb dX1_sound_32 hl (k := 2) rfl rfl (by decide) rfl (fun ls hl => ?_)
          refine lv_goto (tgt := 4) hx hb dX1_sound_35 (by decide) ?_
          exact ih x1 (x2 + 1) mv hf _ _ hP hD hS _ (lv_sub hl [1, 2, 0] rfl)
        · replace hf := it_of c5 hf
          refine lv_iload_n hx hb dX1_sound_20 rfl (lv_at hl 1 rfl) ?_
          refine lv_iconst (v := 0) hx hb dX1_sound_21 (by decide) ?_
          refine lv_aload_n hx hb dX1_sound_22 rfl (lv_at hl 0 rfl) ?_
          refine lv_iload_n hx hb dX1_sound_23 rfl (lv_at hl 2 rfl) ?_
          obtain ⟨r6q, mv_7, hq8, hf⟩ := b2_of hf
          refine callVI (As := [.int x2]) (rest := [.int 0, .int x1]) (wr := []) C0 (c_X1_noise q qc mf mg mc mv cn cf cg x2 _ hq8) lk_X1_89_X1_noise rfl hP hD hS perm_nil 0 1 rfl rfl rfl hl.1 rfl rfl (Nat.le_of_ble_eq_true rfl) dX1_sound_24 ⟨Nat.zero_le _, Nat.zero_le _⟩ (fun r6 w H locs hw hP hD hS => ?_)
          obtain ⟨e1, e2⟩ := hw
          replace e1 : r6 = r6q := e1
          subst e1
          subst e2
          replace hP : va_P D vwCl (List.flatten [(Cw q cA (chv qc mc) mf mg), (Vw (q 15) cA mv_7), (chPool cn qc cA cf cg)]) H := hP.nil
          replace hD : va_D A (List.flatten [(Cw q cA (chv qc mc) mf mg), (Vw (q 15) cA mv_7), (chPool cn qc cA cf cg)]) := hD.nil
          refine va_mmax hx hb (by rw [hml]; exact hl.1.symm) hown (hts _ m_methodLink_P_Cellar_93_java_lang_Math_max_II_I) (hts _ m_static_java_lang_Math_max_II_I) (hts _ m_initialized_java_lang_Math) (hts _ m_code_java_lang_Math_max_II_I) (Nat.le_of_ble_eq_true rfl) (Nat.le_of_ble_eq_true rfl) (Nat.zero_le _) (Nat.zero_le _) dX1_sound_27 ?_
          refine lv_topi (fun mm9 emm9 => ?_)
          replace hf := nm_i emm9 hf
          refine lv_iadd hx hb dX1_sound_30 ?_
          refine lv_istore_n (lv' := [(1, .int (x1 + mm9)), (0, .ref (q 0)), (2, .int x2)]) hx hb dX1_sound_31 rfl hl (by decide) rfl (fun ls hl => ?_)
          refine lv_iinc (v := (x2 + 1)) (lv' := [(2, .int (x2 + 1)), (1, .int (x1 + mm9)), (0, .ref (q 0))]) hx hb dX1_sound_32 hl (k := 2) rfl rfl (by decide) rfl (fun ls hl => ?_)
          refine lv_goto (tgt := 4) hx hb dX1_sound_35 (by decide) ?_
          exact ih (x1 + mm9) (x2 + 1) mv_7 hf _ _ hP hD hS _ (lv_sub hl [2, 1, 0] rfl)
  unfold k_X1_sound at hf
  refine lv_iconst (v := 0) hx hb dX1_sound_0 (by decide) ?_
  refine lv_istore_n (lv' := [(1, .int 0), (0, .ref (q 0))]) hx hb dX1_sound_1 rfl hl (by decide) rfl (fun ls hl => ?_)
  refine lv_iconst (v := 0) hx hb dX1_sound_2 (by decide) ?_
  refine lv_istore_n (lv' := [(2, .int 0), (1, .int 0), (0, .ref (q 0))]) hx hb dX1_sound_3 rfl hl (by decide) rfl (fun ls hl => ?_)
  exact J4 100000 0 0 mv0 hf _ _ hP hD hS _ (lv_sub hl [2, 1, 0] rfl)

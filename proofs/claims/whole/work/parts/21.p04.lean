-- X1 copyDays
noncomputable def k_X1_copyDays (mf0 : Nat → Int32) (mg0 : Nat → Nat → Int32) (mc0 : Option Nat) (df : Nat → Int32) (dg : Nat → Nat → Int32) (dc : Option Nat) : Option ((Nat → Int32) × (Nat → Nat → Int32) × Option Nat) := nm (upd (upd (upd mf0 0 (df 0)) 1 (df 1)) 2 (df 2)) (fun mf_1 => nm (upd (upd (upd mf_1 3 (df 3)) 4 (df 4)) 5 (df 5)) (fun mf_3 => gcp 0 0 6 6 6 (gcp 0 0 6 6 6 (gcp 0 0 6 6 6 (nm (va_up (va_up (va_up mg0 7 (va_cpy (dg 7) (mg0 7) (Int32.toNatClampNeg 0) (Int32.toNatClampNeg 0) (Int32.toNatClampNeg 6))) 8 (va_cpy (dg 8) (mg0 8) (Int32.toNatClampNeg 0) (Int32.toNatClampNeg 0) (Int32.toNatClampNeg 6))) 9 (va_cpy (dg 9) (mg0 9) (Int32.toNatClampNeg 0) (Int32.toNatClampNeg 0) (Int32.toNatClampNeg 6))) (fun mg_8 => gcp 0 0 6 6 6 (gcp 0 0 24 24 24 (some (mf_3, (va_up (va_up mg_8 10 (va_cpy (dg 10) (mg_8 10) (Int32.toNatClampNeg 0) (Int32.toNatClampNeg 0) (Int32.toNatClampNeg 6))) 11 (va_cpy (dg 11) (mg_8 11) (Int32.toNatClampNeg 0) (Int32.toNatClampNeg 0) (Int32.toNatClampNeg 24))), dc)))))))))
set_option maxHeartbeats 4000000 in
set_option maxRecDepth 100000 in
theorem c_X1_copyDays {l : Launch} {D : va_G} {cA : Nat → ClassId} (q : Nat → Nat) (q2 : Nat → Nat) (qc : Nat → Nat → Nat) (mf0 : Nat → Int32) (mg0 : Nat → Nat → Int32) (mc0 : Option Nat) (df : Nat → Int32) (dg : Nat → Nat → Int32) (dc : Option Nat)  (o : (Nat → Int32) × (Nat → Nat → Int32) × Option Nat) (hf : k_X1_copyDays mf0 mg0 mc0 df dg dc = some o) : CV l D cA yX1_copyDays cX1_copyDays 2 none 1 40 [.ref (q 0), .ref (q2 0)] (List.flatten [(Cw q cA (chv qc mc0) mf0 mg0), (Cw q2 cA (chv qc dc) df dg)]) 0 0 (fun w => w = (List.flatten [(Cw q cA (chv qc o.2.2) o.1 o.2.1), (Cw q2 cA (chv qc dc) df dg)])) := by
  intro sz
  refine met_start (by decide) rfl ?_
  intro p e s m args below meth c ls hsz hargs C0 hname hP hD hS hl
  generalize hAe : va_A (List.flatten [(Cw q cA (chv qc mc0) mf0 mg0), (Cw q2 cA (chv qc dc) df dg)]) sz = A at C0 hD hS ⊢
  obtain ⟨hx, hb, hr, hml, hown, hts, hlk, hK, hA⟩ := id C0
  replace hl : lv_has ls 2 [(0, .ref (q 0)), (1, .ref (q2 0))] := hl
  obtain ⟨Q, hQ⟩ : ∃ Q : State → Prop, Q = QV below D A (fun w => w = (List.flatten [(Cw q cA (chv qc o.2.2) o.1 o.2.1), (Cw q2 cA (chv qc dc) df dg)])) args s 0 0 := ⟨_, rfl⟩
  refine cast (by rw [hQ]) (?_ : W p l e (RMx 1 40 0 0) s m args below meth c s.heap [] 0 0 Q (F0 m 0 ls []))
  unfold k_X1_copyDays at hf
  refine lv_aload_n hx hb dX1_copyDays_0 rfl (lv_at hl 0 rfl) ?_
  refine lv_aload_n hx hb dX1_copyDays_1 rfl (lv_at hl 1 rfl) ?_
  refine va_get (D := D) (ci := 1) (v := .int (df 0)) (C := RX1) (T := TX1) (N := 16) hx hb hts fw_1 hown hK hP 6 rfl rfl 0 (by decide) (hts _ m_fieldLink_P_Cellar_45_P_Cellar_men_I) (fun _ h9 => h9) rfl dX1_copyDays_2 ?_
  refine va_put (D := D) (ci := 1) (v := .int (df 0)) (ty := .int) (C := RX1) (T := TX1) (N := 16) hx hb hts fw_1 tyX1 tyX1_ok nmX1 hown hK hP hD hS 0 rfl rfl 0 (by decide) (hts _ m_fieldLink_P_Cellar_45_P_Cellar_men_I) (fun _ h9 => h9) rfl (by decide +kernel) rfl rfl (Nat.le_of_ble_eq_true rfl) dX1_copyDays_5 (fun H locs hP hD hS => ?_)
  replace hP : va_P D vwCl (List.flatten [(Cw q cA (chv qc mc0) (upd mf0 0 (df 0)) mg0), (Cw q2 cA (chv qc dc) df dg)]) H := hP
  replace hD : va_D A (List.flatten [(Cw q cA (chv qc mc0) (upd mf0 0 (df 0)) mg0), (Cw q2 cA (chv qc dc) df dg)]) := hD
  refine lv_aload_n hx hb dX1_copyDays_8 rfl (lv_at hl 0 rfl) ?_
  refine lv_aload_n hx hb dX1_copyDays_9 rfl (lv_at hl 1 rfl) ?_
  refine va_get (D := D) (ci := 1) (v := .int (df 1)) (C := RX1) (T := TX1) (N := 16) hx hb hts fw_1 hown hK hP 6 rfl rfl 1 (by decide) (hts _ m_fieldLink_P_Cellar_49_P_Cellar_up_I) (fun _ h9 => h9) rfl dX1_copyDays_10 ?_
  refine va_put (D := D) (ci := 1) (v := .int (df 1)) (ty := .int) (C := RX1) (T := TX1) (N := 16) hx hb hts fw_1 tyX1 tyX1_ok nmX1 hown hK hP hD hS 0 rfl rfl 1 (by decide) (hts _ m_fieldLink_P_Cellar_49_P_Cellar_up_I) (fun _ h9 => h9) rfl (by decide +kernel) rfl rfl (Nat.le_of_ble_eq_true rfl) dX1_copyDays_13 (fun H locs hP hD hS => ?_)
  replace hP : va_P D vwCl (List.flatten [(Cw q cA (chv qc mc0) (upd (upd mf0 0 (df 0)) 1 (df 1)) mg0), (Cw q2 cA (chv qc dc) df dg)]) H := hP
  replace hD : va_D A (List.flatten [(Cw q cA (chv qc mc0) (upd (upd mf0 0 (df 0)) 1 (df 1)) mg0), (Cw q2 cA (chv qc dc) df dg)]) := hD
  refine lv_aload_n hx hb dX1_copyDays_16 rfl (lv_at hl 0 rfl) ?_
  refine lv_aload_n hx hb dX1_copyDays_17 rfl (lv_at hl 1 rfl) ?_
  refine va_get (D := D) (ci := 1) (v := .int (df 2)) (C := RX1) (T := TX1) (N := 16) hx hb hts fw_1 hown hK hP 6 rfl rfl 2 (by decide) (hts _ m_fieldLink_P_Cellar_107_P_Cellar_fear_I) (fun _ h9 => h9) rfl dX1_copyDays_18 ?_
  refine va_put (D := D) (ci := 1) (v := .int (df 2)) (ty := .int) (C := RX1) (T := TX1) (N := 16) hx hb hts fw_1 tyX1 tyX1_ok nmX1 hown hK hP hD hS 0 rfl rfl 2 (by decide) (hts _ m_fieldLink_P_Cellar_107_P_Cellar_fear_I) (fun _ h9 => h9) rfl (by decide +kernel) rfl rfl (Nat.le_of_ble_eq_true rfl) dX1_copyDays_21 (fun H locs hP hD hS => ?_)
  replace hP : va_P D vwCl (List.flatten [(Cw q cA (chv qc mc0) (upd (upd (upd mf0 0 (df 0)) 1 (df 1)) 2 (df 2)) mg0), (Cw q2 cA (chv qc dc) df dg)]) H := hP
  replace hD : va_D A (List.flatten [(Cw q cA (chv qc mc0) (upd (upd (upd mf0 0 (df 0)) 1 (df 1)) 2 (df 2)) mg0), (Cw q2 cA (chv qc dc) df dg)]) := hD
  obtain ⟨mf_1, hv2, hf⟩ := nm_of hf
  replace hP : va_P D vwCl (List.flatten [(Cw q cA (chv qc mc0) mf_1 mg0), (Cw q2 cA (chv qc dc) df dg)]) H := by rw [hv2]; exact hP
  replace hD : va_D A (List.flatten [(Cw q cA (chv qc mc0) mf_1 mg0), (Cw q2 cA (chv qc dc) df dg)]) := by rw [hv2]; exact hD
  refine lv_aload_n hx hb dX1_copyDays_24 rfl (lv_at hl 0 rfl) ?_
  refine lv_aload_n hx hb dX1_copyDays_25 rfl (lv_at hl 1 rfl) ?_
  refine va_get (D := D) (ci := 1) (v := .int (df 3)) (C := RX1) (T := TX1) (N := 16) hx hb hts fw_1 hown hK hP 6 rfl rfl 3 (by decide) (hts _ m_fieldLink_P_Cellar_112_P_Cellar_truths_I) (fun _ h9 => h9) rfl dX1_copyDays_26 ?_
  refine va_put (D := D) (ci := 1) (v := .int (df 3)) (ty := .int) (C := RX1) (T := TX1) (N := 16) hx hb hts fw_1 tyX1 tyX1_ok nmX1 hown hK hP hD hS 0 rfl rfl 3 (by decide) (hts _ m_fieldLink_P_Cellar_112_P_Cellar_truths_I) (fun _ h9 => h9) rfl (by decide +kernel) rfl rfl (Nat.le_of_ble_eq_true rfl) dX1_copyDays_29 (fun H locs hP hD hS => ?_)
  replace hP : va_P D vwCl (List.flatten [(Cw q cA (chv qc mc0) (upd mf_1 3 (df 3)) mg0), (Cw q2 cA (chv qc dc) df dg)]) H := hP
  replace hD : va_D A (List.flatten [(Cw q cA (chv qc mc0) (upd mf_1 3 (df 3)) mg0), (Cw q2 cA (chv qc dc) df dg)]) := hD
  refine lv_aload_n hx hb dX1_copyDays_32 rfl (lv_at hl 0 rfl) ?_
  refine lv_aload_n hx hb dX1_copyDays_33 rfl (lv_at hl 1 rfl) ?_
  refine va_get (D := D) (ci := 1) (v := .int (df 4)) (C := RX1) (T := TX1) (N := 16) hx hb hts fw_1 hown hK hP 6 rfl rfl 4 (by decide) (hts _ m_fieldLink_P_Cellar_104_P_Cellar_silences_I) (fun _ h9 => h9) rfl dX1_copyDays_34 ?_
  refine va_put (D := D) (ci := 1) (v := .int (df 4)) (ty := .int) (C := RX1) (T := TX1) (N := 16) hx hb hts fw_1 tyX1 tyX1_ok nmX1 hown hK hP hD hS 0 rfl rfl 4 (by decide) (hts _ m_fieldLink_P_Cellar_104_P_Cellar_silences_I) (fun _ h9 => h9) rfl (by decide +kernel) rfl rfl (Nat.le_of_ble_eq_true rfl) dX1_copyDays_37 (fun H locs hP hD hS => ?_)
  replace hP : va_P D vwCl (List.flatten [(Cw q cA (chv qc mc0) (upd (upd mf_1 3 (df 3)) 4 (df 4)) mg0), (Cw q2 cA (chv qc dc) df dg)]) H := hP
  replace hD : va_D A (List.flatten [(Cw q cA (chv qc mc0) (upd (upd mf_1 3 (df 3)) 4 (df 4)) mg0), (Cw q2 cA (chv qc dc) df dg)]) := hD
  refine lv_aload_n hx hb dX1_copyDays_40 rfl (lv_at hl 0 rfl) ?_
  refine lv_aload_n hx hb dX1_copyDays_41 rfl (lv_at hl 1 rfl) ?_
  refine va_get (D := D) (ci := 1) (v := .int (df 5)) (C := RX1) (T := TX1) (N := 16) hx hb hts fw_1 hown hK hP 6 rfl rfl 5 (by decide) (hts _ m_fieldLink_P_Cellar_73_P_Cellar_day_I) (fun _ h9 => h9) rfl dX1_copyDays_42 ?_
  refine va_put (D := D) (ci := 1) (v := .int (df 5)) (ty := .int) (C := RX1) (T := TX1) (N := 16) hx hb hts fw_1 tyX1 tyX1_ok nmX1 hown hK hP hD hS 0 rfl rfl 5 (by decide) (hts _ m_fieldLink_P_Cellar_73_P_Cellar_day_I) (fun _ h9 => h9) rfl (by decide +kernel) rfl rfl (Nat.le_of_ble_eq_true rfl) dX1_copyDays_45 (fun H locs hP hD hS => ?_)
  replace hP : va_P D vwCl (List.flatten [(Cw q cA (chv qc mc0) (upd (upd (upd mf_1 3 (df 3)) 4 (df 4)) 5 (df 5)) mg0), (Cw q2 cA (chv qc dc) df dg)]) H := hP
  replace hD : va_D A (List.flatten [(Cw q cA (chv qc mc0) (upd (upd (upd mf_1 3 (df 3)) 4 (df 4)) 5 (df 5)) mg0), (Cw q2 cA (chv qc dc) df dg)]) := hD
  obtain ⟨mf_3, hv4, hf⟩ := nm_of hf
  replace hP : va_P D vwCl (List.flatten [(Cw q cA (chv qc mc0) mf_3 mg0), (Cw q2 cA (chv qc dc) df dg)]) H := by rw [hv4]; exact hP
  replace hD : va_D A (List.flatten [(Cw q cA (chv qc mc0) mf_3 mg0), (Cw q2 cA (chv qc dc) df dg)]) := by rw [hv4]; exact hD
  refine lv_aload_n hx hb dX1_copyDays_48 rfl (lv_at hl 0 rfl) ?_
  refine lv_aload_n hx hb dX1_copyDays_49 rfl (lv_at hl 1 rfl) ?_
  refine va_get (D := D) (ci := 1) (v := chv qc dc) (C := RX1) (T := TX1) (N := 16) hx hb hts fw_1 hown hK hP 6 rfl rfl 6 (by decide) (hts _ m_fieldLink_P_Cellar_56_P_Cellar_charter_LP_Charter) (fun _ h9 => h9) rfl dX1_copyDays_50 ?_
  refine va_put (D := D) (ci := 1) (v := chv qc dc) (ty := (.object "CellarPlot$Charter")) (C := RX1) (T := TX1) (N := 16) hx hb hts fw_1 tyX1 tyX1_ok nmX1 hown hK hP hD hS 0 rfl rfl 6 (by decide) (hts _ m_fieldLink_P_Cellar_56_P_Cellar_charter_LP_Charter) (fun _ h9 => h9) rfl (by decide +kernel) (chv_nar) (chv_fit) (Nat.le_of_ble_eq_true rfl) dX1_copyDays_53 (fun H locs hP hD hS => ?_)
  replace hP : va_P D vwCl (List.flatten [(Cw q cA (chv qc dc) mf_3 mg0), (Cw q2 cA (chv qc dc) df dg)]) H := hP
  replace hD : va_D A (List.flatten [(Cw q cA (chv qc dc) mf_3 mg0), (Cw q2 cA (chv qc dc) df dg)]) := hD
  refine lv_aload_n hx hb dX1_copyDays_56 rfl (lv_at hl 1 rfl) ?_
  refine va_get (D := D) (ci := 1) (v := .ref (q2 7)) (C := RX1) (T := TX1) (N := 16) hx hb hts fw_1 hown hK hP 6 rfl rfl 7 (by decide) (hts _ m_fieldLink_P_Cellar_9_P_Cellar_kind_aI) (fun _ h9 => h9) rfl dX1_copyDays_57 ?_
  refine lv_iconst (v := 0) hx hb dX1_copyDays_60 (by decide) ?_
  refine lv_aload_n hx hb dX1_copyDays_61 rfl (lv_at hl 0 rfl) ?_
  refine va_get (D := D) (ci := 1) (v := .ref (q 7)) (C := RX1) (T := TX1) (N := 16) hx hb hts fw_1 hown hK hP 0 rfl rfl 7 (by decide) (hts _ m_fieldLink_P_Cellar_9_P_Cellar_kind_aI) (fun _ h9 => h9) rfl dX1_copyDays_62 ?_
  refine lv_iconst (v := 0) hx hb dX1_copyDays_65 (by decide) ?_
  refine lv_bipush (v := 6) hx hb dX1_copyDays_66 (by decide) ?_
  obtain ⟨⟨hc51, hc52, hc53, hc54, hc55⟩, hf⟩ := gcp_of hf
  refine va_copyi (ty := .int) hx hb (by rw [hml]; exact hl.1.symm) hown (hts _ m_methodLink_P_Cellar_115_java_lang_System_arraycopy_Ljava_lang_ObjectILjava_lang_ObjectII_V) (hts _ m_native_java_lang_System_arraycopy_Ljava_lang_ObjectILjava_lang_ObjectII_V) (hts _ m_static_java_lang_System_arraycopy_Ljava_lang_ObjectILjava_lang_ObjectII_V) (hts _ m_initialized_java_lang_System) hK hP hD hS 7 1 0 0 rfl rfl rfl rfl rfl hc51 hc52 hc53 hc54 hc55 (fun _ _ => rfl) (Nat.le_of_ble_eq_true rfl) (Nat.le_of_ble_eq_true rfl) dX1_copyDays_68 (fun H locs hP hD hS => ?_)
  replace hP : va_P D vwCl (List.flatten [(Cw q cA (chv qc dc) mf_3 (va_up mg0 7 (va_cpy (dg 7) (mg0 7) (Int32.toNatClampNeg 0) (Int32.toNatClampNeg 0) (Int32.toNatClampNeg 6)))), (Cw q2 cA (chv qc dc) df dg)]) H := hP
  replace hD : va_D A (List.flatten [(Cw q cA (chv qc dc) mf_3 (va_up mg0 7 (va_cpy (dg 7) (mg0 7) (Int32.toNatClampNeg 0) (Int32.toNatClampNeg 0) (Int32.toNatClampNeg 6)))), (Cw q2 cA (chv qc dc) df dg)]) := hD
  refine lv_aload_n hx hb dX1_copyDays_71 rfl (lv_at hl 1 rfl) ?_
  refine va_get (D := D) (ci := 1) (v := .ref (q2 8)) (C := RX1) (T := TX1) (N := 16) hx hb hts fw_1 hown hK hP 6 rfl rfl 8 (by decide) (hts _ m_fieldLink_P_Cellar_15_P_Cellar_v_aI) (fun _ h9 => h9) rfl dX1_copyDays_72 ?_
  refine lv_iconst (v := 0) hx hb dX1_copyDays_75 (by decide) ?_
  refine lv_aload_n hx hb dX1_copyDays_76 rfl (lv_at hl 0 rfl) ?_
  refine va_get (D := D) (ci := 1) (v := .ref (q 8)) (C := RX1) (T := TX1) (N := 16) hx hb hts fw_1 hown hK hP 0 rfl rfl 8 (by decide) (hts _ m_fieldLink_P_Cellar_15_P_Cellar_v_aI) (fun _ h9 => h9) rfl dX1_copyDays_77 ?_
  refine lv_iconst (v := 0) hx hb dX1_copyDays_80 (by decide) ?_
  refine lv_bipush (v := 6) hx hb dX1_copyDays_81 (by decide) ?_
  obtain ⟨⟨hc61, hc62, hc63, hc64, hc65⟩, hf⟩ := gcp_of hf
  refine va_copyi (ty := .int) hx hb (by rw [hml]; exact hl.1.symm) hown (hts _ m_methodLink_P_Cellar_115_java_lang_System_arraycopy_Ljava_lang_ObjectILjava_lang_ObjectII_V) (hts _ m_native_java_lang_System_arraycopy_Ljava_lang_ObjectILjava_lang_ObjectII_V) (hts _ m_static_java_lang_System_arraycopy_Ljava_lang_ObjectILjava_lang_ObjectII_V) (hts _ m_initialized_java_lang_System) hK hP hD hS 8 2 0 0 rfl rfl rfl rfl rfl hc61 hc62 hc63 hc64 hc65 (fun _ _ => rfl) (Nat.le_of_ble_eq_true rfl) (Nat.le_of_ble_eq_true rfl) dX1_copyDays_83 (fun H locs hP hD hS => ?_)
  replace hP : va_P D vwCl (List.flatten [(Cw q cA (chv qc dc) mf_3 (va_up (va_up mg0 7 (va_cpy (dg 7) (mg0 7) (Int32.toNatClampNeg 0) (Int32.toNatClampNeg 0) (Int32.toNatClampNeg 6))) 8 (va_cpy (dg 8) (mg0 8) (Int32.toNatClampNeg 0) (Int32.toNatClampNeg 0) (Int32.toNatClampNeg 6)))), (Cw q2 cA (chv qc dc) df dg)]) H := hP
  replace hD : va_D A (List.flatten [(Cw q cA (chv qc dc) mf_3 (va_up (va_up mg0 7 (va_cpy (dg 7) (mg0 7) (Int32.toNatClampNeg 0) (Int32.toNatClampNeg 0) (Int32.toNatClampNeg 6))) 8 (va_cpy (dg 8) (mg0 8) (Int32.toNatClampNeg 0) (Int32.toNatClampNeg 0) (Int32.toNatClampNeg 6)))), (Cw q2 cA (chv qc dc) df dg)]) := hD
  refine lv_aload_n hx hb dX1_copyDays_86 rfl (lv_at hl 1 rfl) ?_
  refine va_get (D := D) (ci := 1) (v := .ref (q2 9)) (C := RX1) (T := TX1) (N := 16) hx hb hts fw_1 hown hK hP 6 rfl rfl 9 (by decide) (hts _ m_fieldLink_P_Cellar_18_P_Cellar_nerve_aI) (fun _ h9 => h9) rfl dX1_copyDays_87 ?_
  refine lv_iconst (v := 0) hx hb dX1_copyDays_90 (by decide) ?_
  refine lv_aload_n hx hb dX1_copyDays_91 rfl (lv_at hl 0 rfl) ?_
  refine va_get (D := D) (ci := 1) (v := .ref (q 9)) (C := RX1) (T := TX1) (N := 16) hx hb hts fw_1 hown hK hP 0 rfl rfl 9 (by decide) (hts _ m_fieldLink_P_Cellar_18_P_Cellar_nerve_aI) (fun _ h9 => h9) rfl dX1_copyDays_92 ?_
  refine lv_iconst (v := 0) hx hb dX1_copyDays_95 (by decide) ?_
  refine lv_bipush (v := 6) hx hb dX1_copyDays_96 (by decide) ?_
  obtain ⟨⟨hc71, hc72, hc73, hc74, hc75⟩, hf⟩ := gcp_of hf
  refine va_copyi (ty := .int) hx hb (by rw [hml]; exact hl.1.symm) hown (hts _ m_methodLink_P_Cellar_115_java_lang_System_arraycopy_Ljava_lang_ObjectILjava_lang_ObjectII_V) (hts _ m_native_java_lang_System_arraycopy_Ljava_lang_ObjectILjava_lang_ObjectII_V) (hts _ m_static_java_lang_System_arraycopy_Ljava_lang_ObjectILjava_lang_ObjectII_V) (hts _ m_initialized_java_lang_System) hK hP hD hS 9 3 0 0 rfl rfl rfl rfl rfl hc71 hc72 hc73 hc74 hc75 (fun _ _ => rfl) (Nat.le_of_ble_eq_true rfl) (Nat.le_of_ble_eq_true rfl) dX1_copyDays_98 (fun H locs hP hD hS => ?_)
  replace hP : va_P D vwCl (List.flatten [(Cw q cA (chv qc dc) mf_3 (va_up (va_up (va_up mg0 7 (va_cpy (dg 7) (mg0 7) (Int32.toNatClampNeg 0) (Int32.toNatClampNeg 0) (Int32.toNatClampNeg 6))) 8 (va_cpy (dg 8) (mg0 8) (Int32.toNatClampNeg 0) (Int32.toNatClampNeg 0) (Int32.toNatClampNeg 6))) 9 (va_cpy (dg 9) (mg0 9) (Int32.toNatClampNeg 0) (Int32.toNatClampNeg 0) (Int32.toNatClampNeg 6)))), (Cw q2 cA (chv qc dc) df dg)]) H := hP
  replace hD : va_D A (List.flatten [(Cw q cA (chv qc dc) mf_3 (va_up (va_up (va_up mg0 7 (va_cpy (dg 7) (mg0 7) (Int32.toNatClampNeg 0) (Int32.toNatClampNeg 0) (Int32.toNatClampNeg 6))) 8 (va_cpy (dg 8) (mg0 8) (Int32.toNatClampNeg 0) (Int32.toNatClampNeg 0) (Int32.toNatClampNeg 6))) 9 (va_cpy (dg 9) (mg0 9) (Int32.toNatClampNeg 0) (Int32.toNatClampNeg 0) (Int32.toNatClampNeg 6)))), (Cw q2 cA (chv qc dc) df dg)]) := hD
  obtain ⟨mg_8, hv9, hf⟩ := nm_of hf
  replace hP : va_P D vwCl (List.flatten [(Cw q cA (chv qc dc) mf_3 mg_8), (Cw q2 cA (chv qc dc) df dg)]) H := by rw [hv9]; exact hP
  replace hD : va_D A (List.flatten [(Cw q cA (chv qc dc) mf_3 mg_8), (Cw q2 cA (chv qc dc) df dg)]) := by rw [hv9]; exact hD
  refine lv_aload_n hx hb dX1_copyDays_101 rfl (lv_at hl 1 rfl) ?_
  refine va_get (D := D) (ci := 1) (v := .ref (q2 10)) (C := RX1) (T := TX1) (N := 16) hx hb hts fw_1 hown hK hP 6 rfl rfl 10 (by decide) (hts _ m_fieldLink_P_Cellar_21_P_Cellar_spell_aI) (fun _ h9 => h9) rfl dX1_copyDays_102 ?_
  refine lv_iconst (v := 0) hx hb dX1_copyDays_105 (by decide) ?_
  refine lv_aload_n hx hb dX1_copyDays_106 rfl (lv_at hl 0 rfl) ?_
  refine va_get (D := D) (ci := 1) (v := .ref (q 10)) (C := RX1) (T := TX1) (N := 16) hx hb hts fw_1 hown hK hP 0 rfl rfl 10 (by decide) (hts _ m_fieldLink_P_Cellar_21_P_Cellar_spell_aI) (fun _ h9 => h9) rfl dX1_copyDays_107 ?_
  refine lv_iconst (v := 0) hx hb dX1_copyDays_110 (by decide) ?_
  refine lv_bipush (v := 6) hx hb dX1_copyDays_111 (by decide) ?_
  obtain ⟨⟨hc101, hc102, hc103, hc104, hc105⟩, hf⟩ := gcp_of hf
  refine va_copyi (ty := .int) hx hb (by rw [hml]; exact hl.1.symm) hown (hts _ m_methodLink_P_Cellar_115_java_lang_System_arraycopy_Ljava_lang_ObjectILjava_lang_ObjectII_V) (hts _ m_native_java_lang_System_arraycopy_Ljava_lang_ObjectILjava_lang_ObjectII_V) (hts _ m_static_java_lang_System_arraycopy_Ljava_lang_ObjectILjava_lang_ObjectII_V) (hts _ m_initialized_java_lang_System) hK hP hD hS 10 4 0 0 rfl rfl rfl rfl rfl hc101 hc102 hc103 hc104 hc105 (fun _ _ => rfl) (Nat.le_of_ble_eq_true rfl) (Nat.le_of_ble_eq_true rfl) dX1_copyDays_113 (fun H locs hP hD hS => ?_)
  replace hP : va_P D vwCl (List.flatten [(Cw q cA (chv qc dc) mf_3 (va_up mg_8 10 (va_cpy (dg 10) (mg_8 10) (Int32.toNatClampNeg 0) (Int32.toNatClampNeg 0) (Int32.toNatClampNeg 6)))), (Cw q2 cA (chv qc dc) df dg)]) H := hP
  replace hD : va_D A (List.flatten [(Cw q cA (chv qc dc) mf_3 (va_up mg_8 10 (va_cpy (dg 10) (mg_8 10) (Int32.toNatClampNeg 0) (Int32.toNatClampNeg 0) (Int32.toNatClampNeg 6)))), (Cw q2 cA (chv qc dc) df dg)]) := hD
  refine lv_aload_n hx hb dX1_copyDays_116 rfl (lv_at hl 1 rfl) ?_
  refine va_get (D := D) (ci := 1) (v := .ref (q2 11)) (C := RX1) (T := TX1) (N := 16) hx hb hts fw_1 hown hK hP 6 rfl rfl 11 (by decide) (hts _ m_fieldLink_P_Cellar_24_P_Cellar_rows_aI) (fun _ h9 => h9) rfl dX1_copyDays_117 ?_
  refine lv_iconst (v := 0) hx hb dX1_copyDays_120 (by decide) ?_
  refine lv_aload_n hx hb dX1_copyDays_121 rfl (lv_at hl 0 rfl) ?_
  refine va_get (D := D) (ci := 1) (v := .ref (q 11)) (C := RX1) (T := TX1) (N := 16) hx hb hts fw_1 hown hK hP 0 rfl rfl 11 (by decide) (hts _ m_fieldLink_P_Cellar_24_P_Cellar_rows_aI) (fun _ h9 => h9) rfl dX1_copyDays_122 ?_
  refine lv_iconst (v := 0) hx hb dX1_copyDays_125 (by decide) ?_
  refine lv_bipush (v := 24) hx hb dX1_copyDays_126 (by decide) ?_
  obtain ⟨⟨hc111, hc112, hc113, hc114, hc115⟩, hf⟩ := gcp_of hf
  refine va_copyi (ty := .int) hx hb (by rw [hml]; exact hl.1.symm) hown (hts _ m_methodLink_P_Cellar_115_java_lang_System_arraycopy_Ljava_lang_ObjectILjava_lang_ObjectII_V) (hts _ m_native_java_lang_System_arraycopy_Ljava_lang_ObjectILjava_lang_ObjectII_V) (hts _ m_static_java_lang_System_arraycopy_Ljava_lang_ObjectILjava_lang_ObjectII_V) (hts _ m_initialized_java_lang_System) hK hP hD hS 11 5 0 0 rfl rfl rfl rfl rfl hc111 hc112 hc113 hc114 hc115 (fun _ _ => rfl) (Nat.le_of_ble_eq_true rfl) (Nat.le_of_ble_eq_true rfl) dX1_copyDays_128 (fun H locs hP hD hS => ?_)
  replace hP : va_P D vwCl (List.flatten [(Cw q cA (chv qc dc) mf_3 (va_up (va_up mg_8 10 (va_cpy (dg 10) (mg_8 10) (Int32.toNatClampNeg 0) (Int32.toNatClampNeg 0) (Int32.toNatClampNeg 6))) 11 (va_cpy (dg 11) (mg_8 11) (Int32.toNatClampNeg 0) (Int32.toNatClampNeg 0) (Int32.toNatClampNeg 24)))), (Cw q2 cA (chv qc dc) df dg)]) H := hP
  replace hD : va_D A (List.flatten [(Cw q cA (chv qc dc) mf_3 (va_up (va_up mg_8 10 (va_cpy (dg 10) (mg_8 10) (Int32.toNatClampNeg 0) (Int32.toNatClampNeg 0) (Int32.toNatClampNeg 6))) 11 (va_cpy (dg 11) (mg_8 11) (Int32.toNatClampNeg 0) (Int32.toNatClampNeg 0) (Int32.toNatClampNeg 24)))), (Cw q2 cA (chv qc dc) df dg)]) := hD
  rw [hQ]
  exact ret_v C0 hP hD hS (by have e := Option.some.inj hf; first | (rw [← e]; done) | (rw [← e]; exact rfl)) dX1_copyDays_131
-- X1 copyAll
noncomputable def k_X1_copyAll (mf0 : Nat → Int32) (mg0 : Nat → Nat → Int32) (mc0 : Option Nat) (rhc0 : Int32) (rha0 : Nat → Int32) (rhb0 : Nat → Int32) (rpc0 : Int32) (rpa0 : Nat → Int32) (rpb0 : Nat → Int32) (rbc0 : Int32) (rba0 : Nat → Int32) (rbb0 : Nat → Int32) (df : Nat → Int32) (dg : Nat → Nat → Int32) (dc : Option Nat) (dhc : Int32) (dha : Nat → Int32) (dhb : Nat → Int32) (dpc : Int32) (dpa : Nat → Int32) (dpb : Nat → Int32) (dbc : Int32) (dba : Nat → Int32) (dbb : Nat → Int32) : Option ((Nat → Int32) × (Nat → Nat → Int32) × Option Nat × Int32 × (Nat → Int32) × (Nat → Int32) × Int32 × (Nat → Int32) × (Nat → Int32) × Int32 × (Nat → Int32) × (Nat → Int32)) := b3 (k_X1_copyDays mf0 mg0 mc0 df dg dc) (fun mf_1 mg_2 mc_3 => b3 (k_X3_copy 5 rhc0 rha0 rhb0 dhc dha dhb) (fun rhc_5 rha_6 rhb_7 => b3 (k_X3_copy 10 rpc0 rpa0 rpb0 dpc dpa dpb) (fun rpc_9 rpa_10 rpb_11 => b3 (k_X3_copy 8 rbc0 rba0 rbb0 dbc dba dbb) (fun rbc_13 rba_14 rbb_15 => some (mf_1, mg_2, mc_3, rhc_5, rha_6, rhb_7, rpc_9, rpa_10, rpb_11, rbc_13, rba_14, rbb_15)))))
set_option maxHeartbeats 4000000 in
set_option maxRecDepth 100000 in
theorem c_X1_copyAll {l : Launch} {D : va_G} {cA : Nat → ClassId} (q : Nat → Nat) (q2 : Nat → Nat) (qc : Nat → Nat → Nat) (mf0 : Nat → Int32) (mg0 : Nat → Nat → Int32) (mc0 : Option Nat) (rhc0 : Int32) (rha0 : Nat → Int32) (rhb0 : Nat → Int32) (rpc0 : Int32) (rpa0 : Nat → Int32) (rpb0 : Nat → Int32) (rbc0 : Int32) (rba0 : Nat → Int32) (rbb0 : Nat → Int32) (df : Nat → Int32) (dg : Nat → Nat → Int32) (dc : Option Nat) (dhc : Int32) (dha : Nat → Int32) (dhb : Nat → Int32) (dpc : Int32) (dpa : Nat → Int32) (dpb : Nat → Int32) (dbc : Int32) (dba : Nat → Int32) (dbb : Nat → Int32)  (o : (Nat → Int32) × (Nat → Nat → Int32) × Option Nat × Int32 × (Nat → Int32) × (Nat → Int32) × Int32 × (Nat → Int32) × (Nat → Int32) × Int32 × (Nat → Int32) × (Nat → Int32)) (hf : k_X1_copyAll mf0 mg0 mc0 rhc0 rha0 rhb0 rpc0 rpa0 rpb0 rbc0 rba0 rbb0 df dg dc dhc dha dhb dpc dpa dpb dbc dba dbb = some o) : CV l D cA yX1_copyAll cX1_copyAll 2 none 2 61 [.ref (q 0), .ref (q2 0)] (List.flatten [(Cw q cA (chv qc mc0) mf0 mg0), (Rw (q 12) (q 20) (q 21) cA 5 rhc0 rha0 rhb0), (Rw (q 13) (q 22) (q 23) cA 10 rpc0 rpa0 rpb0), (Rw (q 14) (q 24) (q 25) cA 8 rbc0 rba0 rbb0), (Cw q2 cA (chv qc dc) df dg), (Rw (q2 12) (q2 20) (q2 21) cA 5 dhc dha dhb), (Rw (q2 13) (q2 22) (q2 23) cA 10 dpc dpa dpb), (Rw (q2 14) (q2 24) (q2 25) cA 8 dbc dba dbb)]) 0 0 (fun w => w = (List.flatten [(Cw q cA (chv qc o.2.2.1) o.1 o.2.1), (Rw (q 12) (q 20) (q 21) cA 5 o.2.2.2.1 o.2.2.2.2.1 o.2.2.2.2.2.1), (Rw (q 13) (q 22) (q 23) cA 10 o.2.2.2.2.2.2.1 o.2.2.2.2.2.2.2.1 o.2.2.2.2.2.2.2.2.1), (Rw (q 14) (q 24) (q 25) cA 8 o.2.2.2.2.2.2.2.2.2.1 o.2.2.2.2.2.2.2.2.2.2.1 o.2.2.2.2.2.2.2.2.2.2.2), (Cw q2 cA (chv qc dc) df dg), (Rw (q2 12) (q2 20) (q2 21) cA 5 dhc dha dhb), (Rw (q2 13) (q2 22) (q2 23) cA 10 dpc dpa dpb), (Rw (q2 14) (q2 24) (q2 25) cA 8 dbc dba dbb)])) := by
  intro sz
  refine met_start (by decide) rfl ?_
  intro p e s m args below meth c ls hsz hargs C0 hname hP hD hS hl
  generalize hAe : va_A (List.flatten [(Cw q cA (chv qc mc0) mf0 mg0), (Rw (q 12) (q 20) (q 21) cA 5 rhc0 rha0 rhb0), (Rw (q 13) (q 22) (q 23) cA 10 rpc0 rpa0 rpb0), (Rw (q 14) (q 24) (q 25) cA 8 rbc0 rba0 rbb0), (Cw q2 cA (chv qc dc) df dg), (Rw (q2 12) (q2 20) (q2 21) cA 5 dhc dha dhb), (Rw (q2 13) (q2 22) (q2 23) cA 10 dpc dpa dpb), (Rw (q2 14) (q2 24) (q2 25) cA 8 dbc dba dbb)]) sz = A at C0 hD hS ⊢
  obtain ⟨hx, hb, hr, hml, hown, hts, hlk, hK, hA⟩ := id C0
  replace hl : lv_has ls 2 [(0, .ref (q 0)), (1, .ref (q2 0))] := hl
  obtain ⟨Q, hQ⟩ : ∃ Q : State → Prop, Q = QV below D A (fun w => w = (List.flatten [(Cw q cA (chv qc o.2.2.1) o.1 o.2.1), (Rw (q 12) (q 20) (q 21) cA 5 o.2.2.2.1 o.2.2.2.2.1 o.2.2.2.2.2.1), (Rw (q 13) (q 22) (q 23) cA 10 o.2.2.2.2.2.2.1 o.2.2.2.2.2.2.2.1 o.2.2.2.2.2.2.2.2.1), (Rw (q 14) (q 24) (q 25) cA 8 o.2.2.2.2.2.2.2.2.2.1 o.2.2.2.2.2.2.2.2.2.2.1 o.2.2.2.2.2.2.2.2.2.2.2), (Cw q2 cA (chv qc dc) df dg), (Rw (q2 12) (q2 20) (q2 21) cA 5 dhc dha dhb), (Rw (q2 13) (q2 22) (q2 23) cA 10 dpc dpa dpb), (Rw (q2 14) (q2 24) (q2 25) cA 8 dbc dba dbb)])) args s 0 0 := ⟨_, rfl⟩
  refine cast (by rw [hQ]) (?_ : W p l e (RMx 2 61 0 0) s m args below meth c s.heap [] 0 0 Q (F0 m 0 ls []))
  unfold k_X1_copyAll at hf
  refine lv_aload_n hx hb dX1_copyAll_0 rfl (lv_at hl 0 rfl) ?_
  refine lv_aload_n hx hb dX1_copyAll_1 rfl (lv_at hl 1 rfl) ?_
  obtain ⟨mf_1, mg_2, mc_3, hq4, hf⟩ := b3_of hf
  refine callVV (As := [.ref (q2 0)]) (rest := []) (wr := segpick [(Cw q cA (chv qc mc0) mf0 mg0), (Rw (q 12) (q 20) (q 21) cA 5 rhc0 rha0 rhb0), (Rw (q 13) (q 22) (q 23) cA 10 rpc0 rpa0 rpb0), (Rw (q 14) (q 24) (q 25) cA 8 rbc0 rba0 rbb0), (Cw q2 cA (chv qc dc) df dg), (Rw (q2 12) (q2 20) (q2 21) cA 5 dhc dha dhb), (Rw (q2 13) (q2 22) (q2 23) cA 10 dpc dpa dpb), (Rw (q2 14) (q2 24) (q2 25) cA 8 dbc dba dbb)] [1, 2, 3, 5, 6, 7]) C0 (c_X1_copyDays q q2 qc mf0 mg0 mc0 df dg dc _ hq4) lk_X1_121_X1_copyDays rfl hP hD hS (seg_out [(Cw q cA (chv qc mc0) mf0 mg0), (Rw (q 12) (q 20) (q 21) cA 5 rhc0 rha0 rhb0), (Rw (q 13) (q 22) (q 23) cA 10 rpc0 rpa0 rpb0), (Rw (q 14) (q 24) (q 25) cA 8 rbc0 rba0 rbb0), (Cw q2 cA (chv qc dc) df dg), (Rw (q2 12) (q2 20) (q2 21) cA 5 dhc dha dhb), (Rw (q2 13) (q2 22) (q2 23) cA 10 dpc dpa dpb), (Rw (q2 14) (q2 24) (q2 25) cA 8 dbc dba dbb)] [0, 4] [1, 2, 3, 5, 6, 7] 8 rfl (by decide)) 0 1 rfl rfl rfl hl.1 rfl rfl (Nat.le_of_ble_eq_true rfl) dX1_copyAll_2 ⟨Nat.zero_le _, Nat.zero_le _⟩ (fun w H locs hw hP hD hS => ?_)
  have e2 := hw
  subst e2
  replace hP : va_P D vwCl (List.flatten [(Cw q cA (chv qc mc_3) mf_1 mg_2), (Rw (q 12) (q 20) (q 21) cA 5 rhc0 rha0 rhb0), (Rw (q 13) (q 22) (q 23) cA 10 rpc0 rpa0 rpb0), (Rw (q 14) (q 24) (q 25) cA 8 rbc0 rba0 rbb0), (Cw q2 cA (chv qc dc) df dg), (Rw (q2 12) (q2 20) (q2 21) cA 5 dhc dha dhb), (Rw (q2 13) (q2 22) (q2 23) cA 10 dpc dpa dpb), (Rw (q2 14) (q2 24) (q2 25) cA 8 dbc dba dbb)]) H := hP.perm (seg_out [(Cw q cA (chv qc mc_3) mf_1 mg_2), (Rw (q 12) (q 20) (q 21) cA 5 rhc0 rha0 rhb0), (Rw (q 13) (q 22) (q 23) cA 10 rpc0 rpa0 rpb0), (Rw (q 14) (q 24) (q 25) cA 8 rbc0 rba0 rbb0), (Cw q2 cA (chv qc dc) df dg), (Rw (q2 12) (q2 20) (q2 21) cA 5 dhc dha dhb), (Rw (q2 13) (q2 22) (q2 23) cA 10 dpc dpa dpb), (Rw (q2 14) (q2 24) (q2 25) cA 8 dbc dba dbb)] [0, 4] [1, 2, 3, 5, 6, 7] 8 rfl (by decide)).symm
  replace hD : va_D A (List.flatten [(Cw q cA (chv qc mc_3) mf_1 mg_2), (Rw (q 12) (q 20) (q 21) cA 5 rhc0 rha0 rhb0), (Rw (q 13) (q 22) (q 23) cA 10 rpc0 rpa0 rpb0), (Rw (q 14) (q 24) (q 25) cA 8 rbc0 rba0 rbb0), (Cw q2 cA (chv qc dc) df dg), (Rw (q2 12) (q2 20) (q2 21) cA 5 dhc dha dhb), (Rw (q2 13) (q2 22) (q2 23) cA 10 dpc dpa dpb), (Rw (q2 14) (q2 24) (q2 25) cA 8 dbc dba dbb)]) := hD.perm (seg_out [(Cw q cA (chv qc mc_3) mf_1 mg_2), (Rw (q 12) (q 20) (q 21) cA 5 rhc0 rha0 rhb0), (Rw (q 13) (q 22) (q 23) cA 10 rpc0 rpa0 rpb0), (Rw (q 14) (q 24) (q 25) cA 8 rbc0 rba0 rbb0), (Cw q2 cA (chv qc dc) df dg), (Rw (q2 12) (q2 20) (q2 21) cA 5 dhc dha dhb), (Rw (q2 13) (q2 22) (q2 23) cA 10 dpc dpa dpb), (Rw (q2 14) (q2 24) (q2 25) cA 8 dbc dba dbb)] [0, 4] [1, 2, 3, 5, 6, 7] 8 rfl (by decide)).symm
  refine lv_aload_n hx hb dX1_copyAll_5 rfl (lv_at hl 0 rfl) ?_
  refine va_get (D := D) (ci := 1) (v := .ref (q 12)) (C := RX1) (T := TX1) (N := 16) hx hb hts fw_1 hown hK hP 0 rfl rfl 12 (by decide) (hts _ m_fieldLink_P_Cellar_32_P_Cellar_heard_LP_Rows) (fun _ h9 => h9) rfl dX1_copyAll_6 ?_
  refine lv_aload_n hx hb dX1_copyAll_9 rfl (lv_at hl 1 rfl) ?_
  refine va_get (D := D) (ci := 1) (v := .ref (q2 12)) (C := RX1) (T := TX1) (N := 16) hx hb hts fw_1 hown hK hP 15 rfl rfl 12 (by decide) (hts _ m_fieldLink_P_Cellar_32_P_Cellar_heard_LP_Rows) (fun _ h9 => h9) rfl dX1_copyAll_10 ?_
  obtain ⟨rhc_5, rha_6, rhb_7, hq8, hf⟩ := b3_of hf
  refine callVV (As := [.ref (q2 12)]) (rest := []) (wr := segpick [(Cw q cA (chv qc mc_3) mf_1 mg_2), (Rw (q 12) (q 20) (q 21) cA 5 rhc0 rha0 rhb0), (Rw (q 13) (q 22) (q 23) cA 10 rpc0 rpa0 rpb0), (Rw (q 14) (q 24) (q 25) cA 8 rbc0 rba0 rbb0), (Cw q2 cA (chv qc dc) df dg), (Rw (q2 12) (q2 20) (q2 21) cA 5 dhc dha dhb), (Rw (q2 13) (q2 22) (q2 23) cA 10 dpc dpa dpb), (Rw (q2 14) (q2 24) (q2 25) cA 8 dbc dba dbb)] [0, 2, 3, 4, 6, 7]) C0 (c_X3_copy (q 12) (q 20) (q 21) (q2 12) (q2 20) (q2 21) 5 rhc0 rha0 rhb0 dhc dha dhb _ hq8) lk_X1_125_X3_copy rfl hP hD hS (seg_out [(Cw q cA (chv qc mc_3) mf_1 mg_2), (Rw (q 12) (q 20) (q 21) cA 5 rhc0 rha0 rhb0), (Rw (q 13) (q 22) (q 23) cA 10 rpc0 rpa0 rpb0), (Rw (q 14) (q 24) (q 25) cA 8 rbc0 rba0 rbb0), (Cw q2 cA (chv qc dc) df dg), (Rw (q2 12) (q2 20) (q2 21) cA 5 dhc dha dhb), (Rw (q2 13) (q2 22) (q2 23) cA 10 dpc dpa dpb), (Rw (q2 14) (q2 24) (q2 25) cA 8 dbc dba dbb)] [1, 5] [0, 2, 3, 4, 6, 7] 8 rfl (by decide)) 6 3 rfl rfl rfl hl.1 rfl rfl (Nat.le_of_ble_eq_true rfl) dX1_copyAll_13 ⟨Nat.zero_le _, Nat.zero_le _⟩ (fun w H locs hw hP hD hS => ?_)
  have e2 := hw
  subst e2
  replace hP : va_P D vwCl (List.flatten [(Cw q cA (chv qc mc_3) mf_1 mg_2), (Rw (q 12) (q 20) (q 21) cA 5 rhc_5 rha_6 rhb_7), (Rw (q 13) (q 22) (q 23) cA 10 rpc0 rpa0 rpb0), (Rw (q 14) (q 24) (q 25) cA 8 rbc0 rba0 rbb0), (Cw q2 cA (chv qc dc) df dg), (Rw (q2 12) (q2 20) (q2 21) cA 5 dhc dha dhb), (Rw (q2 13) (q2 22) (q2 23) cA 10 dpc dpa dpb), (Rw (q2 14) (q2 24) (q2 25) cA 8 dbc dba dbb)]) H := hP.perm (seg_out [(Cw q cA (chv qc mc_3) mf_1 mg_2), (Rw (q 12) (q 20) (q 21) cA 5 rhc_5 rha_6 rhb_7), (Rw (q 13) (q 22) (q 23) cA 10 rpc0 rpa0 rpb0), (Rw (q 14) (q 24) (q 25) cA 8 rbc0 rba0 rbb0), (Cw q2 cA (chv qc dc) df dg), (Rw (q2 12) (q2 20) (q2 21) cA 5 dhc dha dhb), (Rw (q2 13) (q2 22) (q2 23) cA 10 dpc dpa dpb), (Rw (q2 14) (q2 24) (q2 25) cA 8 dbc dba dbb)] [1, 5] [0, 2, 3, 4, 6, 7] 8 rfl (by decide)).symm
  replace hD : va_D A (List.flatten [(Cw q cA (chv qc mc_3) mf_1 mg_2), (Rw (q 12) (q 20) (q 21) cA 5 rhc_5 rha_6 rhb_7), (Rw (q 13) (q 22) (q 23) cA 10 rpc0 rpa0 rpb0), (Rw (q 14) (q 24) (q 25) cA 8 rbc0 rba0 rbb0), (Cw q2 cA (chv qc dc) df dg), (Rw (q2 12) (q2 20) (q2 21) cA 5 dhc dha dhb), (Rw (q2 13) (q2 22) (q2 23) cA 10 dpc dpa dpb), (Rw (q2 14) (q2 24) (q2 25) cA 8 dbc dba dbb)]) := hD.perm (seg_out [(Cw q cA (chv qc mc_3) mf_1 mg_2), (Rw (q 12) (q 20) (q 21) cA 5 rhc_5 rha_6 rhb_7), (Rw (q 13) (q 22) (q 23) cA 10 rpc0 rpa0 rpb0), (Rw (q 14) (q 24) (q 25) cA 8 rbc0 rba0 rbb0), (Cw q2 cA (chv qc dc) df dg), (Rw (q2 12) (q2 20) (q2 21) cA 5 dhc dha dhb), (Rw (q2 13) (q2 22) (q2 23) cA 10 dpc dpa dpb), (Rw (q2 14) (q2 24) (q2 25) cA 8 dbc dba dbb)] [1, 5] [0, 2, 3, 4, 6, 7] 8 rfl (by decide)).symm
  refine lv_aload_n hx hb dX1_copyAll_16 rfl (lv_at hl 0 rfl) ?_
  refine va_get (D := D) (ci := 1) (v := .ref (q 13)) (C := RX1) (T := TX1) (N := 16) hx hb hts fw_1 hown hK hP 0 rfl rfl 13 (by decide) (hts _ m_fieldLink_P_Cellar_36_P_Cellar_plan_LP_Rows) (fun _ h9 => h9) rfl dX1_copyAll_17 ?_
  refine lv_aload_n hx hb dX1_copyAll_20 rfl (lv_at hl 1 rfl) ?_
  refine va_get (D := D) (ci := 1) (v := .ref (q2 13)) (C := RX1) (T := TX1) (N := 16) hx hb hts fw_1 hown hK hP 15 rfl rfl 13 (by decide) (hts _ m_fieldLink_P_Cellar_36_P_Cellar_plan_LP_Rows) (fun _ h9 => h9) rfl dX1_copyAll_21 ?_
  obtain ⟨rpc_9, rpa_10, rpb_11, hq12, hf⟩ := b3_of hf
  refine callVV (As := [.ref (q2 13)]) (rest := []) (wr := segpick [(Cw q cA (chv qc mc_3) mf_1 mg_2), (Rw (q 12) (q 20) (q 21) cA 5 rhc_5 rha_6 rhb_7), (Rw (q 13) (q 22) (q 23) cA 10 rpc0 rpa0 rpb0), (Rw (q 14) (q 24) (q 25) cA 8 rbc0 rba0 rbb0), (Cw q2 cA (chv qc dc) df dg), (Rw (q2 12) (q2 20) (q2 21) cA 5 dhc dha dhb), (Rw (q2 13) (q2 22) (q2 23) cA 10 dpc dpa dpb), (Rw (q2 14) (q2 24) (q2 25) cA 8 dbc dba dbb)] [0, 1, 3, 4, 5, 7]) C0 (c_X3_copy (q 13) (q 22) (q 23) (q2 13) (q2 22) (q2 23) 10 rpc0 rpa0 rpb0 dpc dpa dpb _ hq12) lk_X1_125_X3_copy rfl hP hD hS (seg_out [(Cw q cA (chv qc mc_3) mf_1 mg_2), (Rw (q 12) (q 20) (q 21) cA 5 rhc_5 rha_6 rhb_7), (Rw (q 13) (q 22) (q 23) cA 10 rpc0 rpa0 rpb0), (Rw (q 14) (q 24) (q 25) cA 8 rbc0 rba0 rbb0), (Cw q2 cA (chv qc dc) df dg), (Rw (q2 12) (q2 20) (q2 21) cA 5 dhc dha dhb), (Rw (q2 13) (q2 22) (q2 23) cA 10 dpc dpa dpb), (Rw (q2 14) (q2 24) (q2 25) cA 8 dbc dba dbb)] [2, 6] [0, 1, 3, 4, 5, 7] 8 rfl (by decide)) 9 3 rfl rfl rfl hl.1 rfl rfl (Nat.le_of_ble_eq_true rfl) dX1_copyAll_24 ⟨Nat.zero_le _, Nat.zero_le _⟩ (fun w H locs hw hP hD hS => ?_)
  have e2 := hw
  subst e2
  replace hP : va_P D vwCl (List.flatten [(Cw q cA (chv qc mc_3) mf_1 mg_2), (Rw (q 12) (q 20) (q 21) cA 5 rhc_5 rha_6 rhb_7), (Rw (q 13) (q 22) (q 23) cA 10 rpc_9 rpa_10 rpb_11), (Rw (q 14) (q 24) (q 25) cA 8 rbc0 rba0 rbb0), (Cw q2 cA (chv qc dc) df dg), (Rw (q2 12) (q2 20) (q2 21) cA 5 dhc dha dhb), (Rw (q2 13) (q2 22) (q2 23) cA 10 dpc dpa dpb), (Rw (q2 14) (q2 24) (q2 25) cA 8 dbc dba dbb)]) H := hP.perm (seg_out [(Cw q cA (chv qc mc_3) mf_1 mg_2), (Rw (q 12) (q 20) (q 21) cA 5 rhc_5 rha_6 rhb_7), (Rw (q 13) (q 22) (q 23) cA 10 rpc_9 rpa_10 rpb_11), (Rw (q 14) (q 24) (q 25) cA 8 rbc0 rba0 rbb0), (Cw q2 cA (chv qc dc) df dg), (Rw (q2 12) (q2 20) (q2 21) cA 5 dhc dha dhb), (Rw (q2 13) (q2 22) (q2 23) cA 10 dpc dpa dpb), (Rw (q2 14) (q2 24) (q2 25) cA 8 dbc dba dbb)] [2, 6] [0, 1, 3, 4, 5, 7] 8 rfl (by decide)).symm
  replace hD : va_D A (List.flatten [(Cw q cA (chv qc mc_3) mf_1 mg_2), (Rw (q 12) (q 20) (q 21) cA 5 rhc_5 rha_6 rhb_7), (Rw (q 13) (q 22) (q 23) cA 10 rpc_9 rpa_10 rpb_11), (Rw (q 14) (q 24) (q 25) cA 8 rbc0 rba0 rbb0), (Cw q2 cA (chv qc dc) df dg), (Rw (q2 12) (q2 20) (q2 21) cA 5 dhc dha dhb), (Rw (q2 13) (q2 22) (q2 23) cA 10 dpc dpa dpb), (Rw (q2 14) (q2 24) (q2 25) cA 8 dbc dba dbb)]) := hD.perm (seg_out [(Cw q cA (chv qc mc_3) mf_1 mg_2), (Rw (q 12) (q 20) (q 21) cA 5 rhc_5 rha_6 rhb_7), (Rw (q 13) (q 22) (q 23) cA 10 rpc_9 rpa_10 rpb_11), (Rw (q 14) (q 24) (q 25) cA 8 rbc0 rba0 rbb0), (Cw q2 cA (chv qc dc) df dg), (Rw (q2 12) (q2 20) (q2 21) cA 5 dhc dha dhb), (Rw (q2 13) (q2 22) (q2 23) cA 10 dpc dpa dpb), (Rw (q2 14) (q2 24) (q2 25) cA 8 dbc dba dbb)] [2, 6] [0, 1, 3, 4, 5, 7] 8 rfl (by decide)).symm
  refine lv_aload_n hx hb dX1_copyAll_27 rfl (lv_at hl 0 rfl) ?_
  refine va_get (D := D) (ci := 1) (v := .ref (q 14)) (C := RX1) (T := TX1) (N := 16) hx hb hts fw_1 hown hK hP 0 rfl rfl 14 (by decide) (hts _ m_fieldLink_P_Cellar_39_P_Cellar_book_LP_Rows) (fun _ h9 => h9) rfl dX1_copyAll_28 ?_
  refine lv_aload_n hx hb dX1_copyAll_31 rfl (lv_at hl 1 rfl) ?_
  refine va_get (D := D) (ci := 1) (v := .ref (q2 14)) (C := RX1) (T := TX1) (N := 16) hx hb hts fw_1 hown hK hP 15 rfl rfl 14 (by decide) (hts _ m_fieldLink_P_Cellar_39_P_Cellar_book_LP_Rows) (fun _ h9 => h9) rfl dX1_copyAll_32 ?_
  obtain ⟨rbc_13, rba_14, rbb_15, hq16, hf⟩ := b3_of hf
  refine callVV (As := [.ref (q2 14)]) (rest := []) (wr := segpick [(Cw q cA (chv qc mc_3) mf_1 mg_2), (Rw (q 12) (q 20) (q 21) cA 5 rhc_5 rha_6 rhb_7), (Rw (q 13) (q 22) (q 23) cA 10 rpc_9 rpa_10 rpb_11), (Rw (q 14) (q 24) (q 25) cA 8 rbc0 rba0 rbb0), (Cw q2 cA (chv qc dc) df dg), (Rw (q2 12) (q2 20) (q2 21) cA 5 dhc dha dhb), (Rw (q2 13) (q2 22) (q2 23) cA 10 dpc dpa dpb), (Rw (q2 14) (q2 24) (q2 25) cA 8 dbc dba dbb)] [0, 1, 2, 4, 5, 6]) C0 (c_X3_copy (q 14) (q 24) (q 25) (q2 14) (q2 24) (q2 25) 8 rbc0 rba0 rbb0 dbc dba dbb _ hq16) lk_X1_125_X3_copy rfl hP hD hS (seg_out [(Cw q cA (chv qc mc_3) mf_1 mg_2), (Rw (q 12) (q 20) (q 21) cA 5 rhc_5 rha_6 rhb_7), (Rw (q 13) (q 22) (q 23) cA 10 rpc_9 rpa_10 rpb_11), (Rw (q 14) (q 24) (q 25) cA 8 rbc0 rba0 rbb0), (Cw q2 cA (chv qc dc) df dg), (Rw (q2 12) (q2 20) (q2 21) cA 5 dhc dha dhb), (Rw (q2 13) (q2 22) (q2 23) cA 10 dpc dpa dpb), (Rw (q2 14) (q2 24) (q2 25) cA 8 dbc dba dbb)] [3, 7] [0, 1, 2, 4, 5, 6] 8 rfl (by decide)) 12 3 rfl rfl rfl hl.1 rfl rfl (Nat.le_of_ble_eq_true rfl) dX1_copyAll_35 ⟨Nat.zero_le _, Nat.zero_le _⟩ (fun w H locs hw hP hD hS => ?_)
  have e2 := hw
  subst e2
  replace hP : va_P D vwCl (List.flatten [(Cw q cA (chv qc mc_3) mf_1 mg_2), (Rw (q 12) (q 20) (q 21) cA 5 rhc_5 rha_6 rhb_7), (Rw (q 13) (q 22) (q 23) cA 10 rpc_9 rpa_10 rpb_11), (Rw (q 14) (q 24) (q 25) cA 8 rbc_13 rba_14 rbb_15), (Cw q2 cA (chv qc dc) df dg), (Rw (q2 12) (q2 20) (q2 21) cA 5 dhc dha dhb), (Rw (q2 13) (q2 22) (q2 23) cA 10 dpc dpa dpb), (Rw (q2 14) (q2 24) (q2 25) cA 8 dbc dba dbb)]) H := hP.perm (seg_out [(Cw q cA (chv qc mc_3) mf_1 mg_2), (Rw (q 12) (q 20) (q 21) cA 5 rhc_5 rha_6 rhb_7), (Rw (q 13) (q 22) (q 23) cA 10 rpc_9 rpa_10 rpb_11), (Rw (q 14) (q 24) (q 25) cA 8 rbc_13 rba_14 rbb_15), (Cw q2 cA (chv qc dc) df dg), (Rw (q2 12) (q2 20) (q2 21) cA 5 dhc dha dhb), (Rw (q2 13) (q2 22) (q2 23) cA 10 dpc dpa dpb), (Rw (q2 14) (q2 24) (q2 25) cA 8 dbc dba dbb)] [3, 7] [0, 1, 2, 4, 5, 6] 8 rfl (by decide)).symm
  replace hD : va_D A (List.flatten [(Cw q cA (chv qc mc_3) mf_1 mg_2), (Rw (q 12) (q 20) (q 21) cA 5 rhc_5 rha_6 rhb_7), (Rw (q 13) (q 22) (q 23) cA 10 rpc_9 rpa_10 rpb_11), (Rw (q 14) (q 24) (q 25) cA 8 rbc_13 rba_14 rbb_15), (Cw q2 cA (chv qc dc) df dg), (Rw (q2 12) (q2 20) (q2 21) cA 5 dhc dha dhb), (Rw (q2 13) (q2 22) (q2 23) cA 10 dpc dpa dpb), (Rw (q2 14) (q2 24) (q2 25) cA 8 dbc dba dbb)]) := hD.perm (seg_out [(Cw q cA (chv qc mc_3) mf_1 mg_2), (Rw (q 12) (q 20) (q 21) cA 5 rhc_5 rha_6 rhb_7), (Rw (q 13) (q 22) (q 23) cA 10 rpc_9 rpa_10 rpb_11), (Rw (q 14) (q 24) (q 25) cA 8 rbc_13 rba_14 rbb_15), (Cw q2 cA (chv qc dc) df dg), (Rw (q2 12) (q2 20) (q2 21) cA 5 dhc dha dhb), (Rw (q2 13) (q2 22) (q2 23) cA 10 dpc dpa dpb), (Rw (q2 14) (q2 24) (q2 25) cA 8 dbc dba dbb)] [3, 7] [0, 1, 2, 4, 5, 6] 8 rfl (by decide)).symm
  rw [hQ]
  exact ret_v C0 hP hD hS (by have e := Option.some.inj hf; first | (rw [← e]; done) | (rw [← e]; exact rfl)) dX1_copyAll_38
-- X0 began
noncomputable def k_X0_began (a1 : Int32) (af0 : Nat → Int32) (ab0 : Nat → Int32) : Option ((Nat → Int32) × (Nat → Int32)) := if 20 ≤ (af0 0) then some ((upd af0 0 ((af0 0) + 1)), ab0) else gd (af0 0) 20 (some ((upd af0 0 ((af0 0) + 1)), (upd ab0 (Int32.toNatClampNeg (af0 0)) a1)))
set_option maxHeartbeats 4000000 in
set_option maxRecDepth 100000 in
theorem c_X0_began {l : Launch} {D : va_G} {cA : Nat → ClassId} (q : Nat → Nat) (af0 : Nat → Int32) (ab0 : Nat → Int32) (a1 : Int32) (o : (Nat → Int32) × (Nat → Int32)) (hf : k_X0_began a1 af0 ab0 = some o) : CV l D cA yX0_began cX0_began 2 none 0 0 [.ref (q 0), .int a1] (Aw q cA af0 ab0) 0 0 (fun w => w = (Aw q cA o.1 o.2)) := by
  intro sz
  refine met_start (by decide) rfl ?_
  intro p e s m args below meth c ls hsz hargs C0 hname hP hD hS hl
  generalize hAe : va_A (Aw q cA af0 ab0) sz = A at C0 hD hS ⊢
  obtain ⟨hx, hb, hr, hml, hown, hts, hlk, hK, hA⟩ := id C0
  replace hl : lv_has ls 2 [(0, .ref (q 0)), (1, .int a1)] := hl
  obtain ⟨Q, hQ⟩ : ∃ Q : State → Prop, Q = QV below D A (fun w => w = (Aw q cA o.1 o.2)) args s 0 0 := ⟨_, rfl⟩
  refine cast (by rw [hQ]) (?_ : W p l e (RMx 0 0 0 0) s m args below meth c s.heap [] 0 0 Q (F0 m 0 ls []))
  unfold k_X0_began at hf
  refine lv_aload_n hx hb dX0_began_0 rfl (lv_at hl 0 rfl) ?_
  refine va_get (D := D) (ci := 0) (v := .int (af0 0)) (C := RX0) (T := TX0) (N := 5) hx hb hts fw_0 hown hK hP 0 rfl rfl 0 (by decide) (hts _ m_fieldLink_P_Acts_35_P_Acts_ran_I) (fun _ h9 => h9) rfl dX0_began_1 ?_
  refine lv_bipush (v := 20) hx hb dX0_began_4 (by decide) ?_
  refine lv_icmp_ge (tgt := 19) hx hb dX0_began_6 (by decide) (fun c1 => ?_) (fun c1 => ?_)
  · replace hf := it_of c1 hf
    refine lv_aload_n hx hb dX0_began_19 rfl (lv_at hl 0 rfl) ?_
    refine lv_dup hx hb dX0_began_20 rfl ?_
    refine va_get (D := D) (ci := 0) (v := .int (af0 0)) (C := RX0) (T := TX0) (N := 5) hx hb hts fw_0 hown hK hP 0 rfl rfl 0 (by decide) (hts _ m_fieldLink_P_Acts_35_P_Acts_ran_I) (fun _ h9 => h9) rfl dX0_began_21 ?_
    refine lv_iconst (v := 1) hx hb dX0_began_24 (by decide) ?_
    refine lv_iadd hx hb dX0_began_25 ?_
    refine va_put (D := D) (ci := 0) (v := .int ((af0 0) + 1)) (ty := .int) (C := RX0) (T := TX0) (N := 5) hx hb hts fw_0 tyX0 tyX0_ok nmX0 hown hK hP hD hS 0 rfl rfl 0 (by decide) (hts _ m_fieldLink_P_Acts_35_P_Acts_ran_I) (fun _ h9 => h9) rfl (by decide +kernel) rfl rfl (Nat.le_of_ble_eq_true rfl) dX0_began_26 (fun H locs hP hD hS => ?_)
    replace hP : va_P D vwCl (Aw q cA (upd af0 0 ((af0 0) + 1)) ab0) H := hP
    replace hD : va_D A (Aw q cA (upd af0 0 ((af0 0) + 1)) ab0) := hD
    rw [hQ]
    exact ret_v C0 hP hD hS (by have e := Option.some.inj hf; first | (rw [← e]; done) | (rw [← e]; exact rfl)) dX0_began_29
  · replace hf := ie_of c1 hf
    refine lv_aload_n hx hb dX0_began_9 rfl (lv_at hl 0 rfl) ?_
    refine va_get (D := D) (ci := 0) (v := .ref (q 1)) (C := RX0) (T := TX0) (N := 5) hx hb hts fw_0 hown hK hP 0 rfl rfl 1 (by decide) (hts _ m_fieldLink_P_Acts_9_P_Acts_bodies_aI) (fun _ h9 => h9) rfl dX0_began_10 ?_
    refine lv_aload_n hx hb dX0_began_13 rfl (lv_at hl 0 rfl) ?_
    refine va_get (D := D) (ci := 0) (v := .int (af0 0)) (C := RX0) (T := TX0) (N := 5) hx hb hts fw_0 hown hK hP 0 rfl rfl 0 (by decide) (hts _ m_fieldLink_P_Acts_35_P_Acts_ran_I) (fun _ h9 => h9) rfl dX0_began_14 ?_
    refine lv_iload_n hx hb dX0_began_17 rfl (lv_at hl 1 rfl) ?_
    obtain ⟨hi2, hf⟩ := gd_of hf
    refine va_iast hx hb hK hP hD hS 1 0 rfl rfl hi2 dX0_began_18 (fun H locs hP hD hS => ?_)
    replace hP : va_P D vwCl (Aw q cA af0 (upd ab0 (Int32.toNatClampNeg (af0 0)) a1)) H := hP
    replace hD : va_D A (Aw q cA af0 (upd ab0 (Int32.toNatClampNeg (af0 0)) a1)) := hD
    refine lv_aload_n hx hb dX0_began_19 rfl (lv_at hl 0 rfl) ?_
    refine lv_dup hx hb dX0_began_20 rfl ?_
    refine va_get (D := D) (ci := 0) (v := .int (af0 0)) (C := RX0) (T := TX0) (N := 5) hx hb hts fw_0 hown hK hP 0 rfl rfl 0 (by decide) (hts _ m_fieldLink_P_Acts_35_P_Acts_ran_I) (fun _ h9 => h9) rfl dX0_began_21 ?_
    refine lv_iconst (v := 1) hx hb dX0_began_24 (by decide) ?_
    refine lv_iadd hx hb dX0_began_25 ?_
    refine va_put (D := D) (ci := 0) (v := .int ((af0 0) + 1)) (ty := .int) (C := RX0) (T := TX0) (N := 5) hx hb hts fw_0 tyX0 tyX0_ok nmX0 hown hK hP hD hS 0 rfl rfl 0 (by decide) (hts _ m_fieldLink_P_Acts_35_P_Acts_ran_I) (fun _ h9 => h9) rfl (by decide +kernel) rfl rfl (Nat.le_of_ble_eq_true rfl) dX0_began_26 (fun H locs hP hD hS => ?_)
    replace hP : va_P D vwCl (Aw q cA (upd af0 0 ((af0 0) + 1)) (upd ab0 (Int32.toNatClampNeg (af0 0)) a1)) H := hP
    replace hD : va_D A (Aw q cA (upd af0 0 ((af0 0) + 1)) (upd ab0 (Int32.toNatClampNeg (af0 0)) a1)) := hD
    rw [hQ]
    exact ret_v C0 hP hD hS (by have e := Option.some.inj hf; first | (rw [← e]; done) | (rw [← e]; exact rfl)) dX0_began_29
-- X4 become
noncomputable def k_X4_become_12  : Nat → Int32 → (Nat → Int32) → (Nat → Int64) → Option ((Nat → Int32) × (Nat → Int64))
  | 0, _, _, _ => none
  | n + 1, x3, tif, tii => if 60 ≤ x3 then some (tif, tii) else gd x3 60 (k_X4_become_12 n (x3 + 1) tif (vp_updL tii (Int32.toNatClampNeg x3) 0))
noncomputable def k_X4_become (a1 : Int32) (a2 : Int32) (tif0 : Nat → Int32) (tii0 : Nat → Int64) : Option ((Nat → Int32) × (Nat → Int64)) := k_X4_become_12 100000 0 (upd (upd tif0 0 a1) 1 a2) tii0
set_option maxHeartbeats 4000000 in
set_option maxRecDepth 100000 in
theorem c_X4_become {l : Launch} {D : va_G} {cA : Nat → ClassId} (q : Nat → Nat) (tif0 : Nat → Int32) (tii0 : Nat → Int64) (a1 : Int32) (a2 : Int32) (o : (Nat → Int32) × (Nat → Int64)) (hf : k_X4_become a1 a2 tif0 tii0 = some o) : CV l D cA yX4_become cX4_become 4 none 0 0 [.ref (q 0), .int a1, .int a2] (Tp q cA tif0 tii0) 0 0 (fun w => w = (Tp q cA o.1 o.2)) := by
  intro sz
  refine met_start (by decide) rfl ?_
  intro p e s m args below meth c ls hsz hargs C0 hname hP hD hS hl
  generalize hAe : va_A (Tp q cA tif0 tii0) sz = A at C0 hD hS ⊢
  obtain ⟨hx, hb, hr, hml, hown, hts, hlk, hK, hA⟩ := id C0
  replace hl : lv_has ls 4 [(0, .ref (q 0)), (1, .int a1), (2, .int a2)] := hl
  obtain ⟨Q, hQ⟩ : ∃ Q : State → Prop, Q = QV below D A (fun w => w = (Tp q cA o.1 o.2)) args s 0 0 := ⟨_, rfl⟩
  refine cast (by rw [hQ]) (?_ : W p l e (RMx 0 0 0 0) s m args below meth c s.heap [] 0 0 Q (F0 m 0 ls []))
  have J12 : ∀ n : Nat, ∀ (x3 : Int32) (tif : Nat → Int32) (tii : Nat → Int64), k_X4_become_12 n x3 tif tii = some o → ∀ (H : Heap) (locs : List Loc), va_P D vwCl (Tp q cA tif tii) H → va_D A (Tp q cA tif tii) → va_S A s.heap H locs → ∀ ls : Array Slot, lv_has ls 4 [(0, .ref (q 0)), (3, .int x3)] → W p l e (RMx 0 0 0 0) s m args below meth c H locs 0 0 Q (F0 m 12 ls []) := by
    intro  n
    induction n with
    | zero =>
      intro x3 tif tii hf
      rw [k_X4_become_12] at hf
      cases hf
    | succ n ih =>
      intro x3 tif tii hf H locs hP hD hS ls hl
      rw [k_X4_become_12] at hf
      refine lv_iload_n hx hb dX4_become_12 rfl (lv_at hl 1 rfl) ?_
      refine lv_bipush (v := 60) hx hb dX4_become_13 (by decide) ?_
      refine lv_icmp_ge (tgt := 31) hx hb dX4_become_15 (by decide) (fun c1 => ?_) (fun c1 => ?_)
      · replace hf := it_of c1 hf
        rw [hQ]
        exact ret_v C0 hP hD hS (by have e := Option.some.inj hf; first | (rw [← e]; done) | (rw [← e]; exact rfl)) dX4_become_31
      · replace hf := ie_of c1 hf
        refine lv_aload_n hx hb dX4_become_18 rfl (lv_at hl 0 rfl) ?_
        refine va_get (D := D) (ci := 4) (v := .ref (q 1)) (C := RX4) (T := TX4) (N := 3) hx hb hts fw_4 hown hK hP 0 rfl rfl 2 (by decide) (hts _ m_fieldLink_P_Tape_15_P_Tape_items_aJ) (fun _ h9 => h9) rfl dX4_become_19 ?_
        refine lv_iload_n hx hb dX4_become_22 rfl (lv_at hl 1 rfl) ?_
        refine lv_lconst (v := 0) hx hb dX4_become_23 (by decide) ?_
        obtain ⟨hi2, hf⟩ := gd_of hf
        refine va_last hx hb hK hP hD hS 1 2 rfl rfl hi2 dX4_become_24 (fun H locs hP hD hS => ?_)
        replace hP : va_P D vwCl (Tp q cA tif (vp_updL tii (Int32.toNatClampNeg x3) 0)) H := hP
        replace hD : va_D A (Tp q cA tif (vp_updL tii (Int32.toNatClampNeg x3) 0)) := hD
        refine lv_iinc (v := (x3 + 1)) (lv' := [(3, .int (x3 + 1)), (0, .ref (q 0))]) hx hb dX4_become_25 hl (k := 1) rfl rfl (by decide) rfl (fun ls hl => ?_)
        refine lv_goto (tgt := 12) hx hb dX4_become_28 (by decide) ?_
        exact ih (x3 + 1) tif (vp_updL tii (Int32.toNatClampNeg x3) 0) hf _ _ hP hD hS _ (lv_sub hl [1, 0] rfl)
  unfold k_X4_become at hf
  refine lv_aload_n hx hb dX4_become_0 rfl (lv_at hl 0 rfl) ?_
  refine lv_iload_n hx hb dX4_become_1 rfl (lv_at hl 1 rfl) ?_
  refine va_put (D := D) (ci := 4) (v := .int a1) (ty := .int) (C := RX4) (T := TX4) (N := 3) hx hb hts fw_4 tyX4 tyX4_ok nmX4 hown hK hP hD hS 0 rfl rfl 0 (by decide) (hts _ m_fieldLink_P_Tape_9_P_Tape_sort_I) (fun _ h9 => h9) rfl (by decide +kernel) rfl rfl (Nat.le_of_ble_eq_true rfl) dX4_become_2 (fun H locs hP hD hS => ?_)
  replace hP : va_P D vwCl (Tp q cA (upd tif0 0 a1) tii0) H := hP
  replace hD : va_D A (Tp q cA (upd tif0 0 a1) tii0) := hD
  refine lv_aload_n hx hb dX4_become_5 rfl (lv_at hl 0 rfl) ?_
  refine lv_iload_n hx hb dX4_become_6 rfl (lv_at hl 2 rfl) ?_
  refine va_put (D := D) (ci := 4) (v := .int a2) (ty := .int) (C := RX4) (T := TX4) (N := 3) hx hb hts fw_4 tyX4 tyX4_ok nmX4 hown hK hP hD hS 0 rfl rfl 1 (by decide) (hts _ m_fieldLink_P_Tape_19_P_Tape_size_I) (fun _ h9 => h9) rfl (by decide +kernel) rfl rfl (Nat.le_of_ble_eq_true rfl) dX4_become_7 (fun H locs hP hD hS => ?_)
  replace hP : va_P D vwCl (Tp q cA (upd (upd tif0 0 a1) 1 a2) tii0) H := hP
  replace hD : va_D A (Tp q cA (upd (upd tif0 0 a1) 1 a2) tii0) := hD
  refine lv_iconst (v := 0) hx hb dX4_become_10 (by decide) ?_
  refine lv_istore_n (lv' := [(3, .int 0), (0, .ref (q 0)), (1, .int a1), (2, .int a2)]) hx hb dX4_become_11 rfl hl (by decide) rfl (fun ls hl => ?_)
  exact J12 100000 0 (upd (upd tif0 0 a1) 1 a2) tii0 hf _ _ hP hD hS _ (lv_sub hl [1, 0] rfl)
-- X4 hasRun
noncomputable def k_X4_hasRun (a1 : Int32) (a2 : Int32) (tif : Nat → Int32) : Option Int32 := if a1 < 0 then some 0 else if a2 < 0 then some 0 else if (tif 1) < a2 then some 0 else if ((tif 1) - a2) < a1 then some 0 else some 1
set_option maxHeartbeats 4000000 in
set_option maxRecDepth 100000 in
theorem c_X4_hasRun {l : Launch} {D : va_G} {cA : Nat → ClassId} (q : Nat → Nat) (tif : Nat → Int32) (tii : Nat → Int64) (a1 : Int32) (a2 : Int32) (o : Int32) (hf : k_X4_hasRun a1 a2 tif = some o) : CI l D cA yX4_hasRun cX4_hasRun 3 (some .boolean) 0 0 [.ref (q 0), .int a1, .int a2] (Tp q cA tif tii) 0 0 (fun r w => (r = o ∧ w = (Tp q cA tif tii)) ∧ narrow .boolean (.int r) = .int r) := by
  intro sz
  refine met_start (by decide) rfl ?_
  intro p e s m args below meth c ls hsz hargs C0 hname hP hD hS hl
  generalize hAe : va_A (Tp q cA tif tii) sz = A at C0 hD hS ⊢
  obtain ⟨hx, hb, hr, hml, hown, hts, hlk, hK, hA⟩ := id C0
  replace hl : lv_has ls 3 [(0, .ref (q 0)), (1, .int a1), (2, .int a2)] := hl
  obtain ⟨Q, hQ⟩ : ∃ Q : State → Prop, Q = QI below D A (fun r w => (r = o ∧ w = (Tp q cA tif tii)) ∧ narrow .boolean (.int r) = .int r) args s 0 0 := ⟨_, rfl⟩
  refine cast (by rw [hQ]) (?_ : W p l e (RMx 0 0 0 0) s m args below meth c s.heap [] 0 0 Q (F0 m 0 ls []))
  unfold k_X4_hasRun at hf
  refine lv_iload_n hx hb dX4_hasRun_0 rfl (lv_at hl 1 rfl) ?_
  refine lv_if_lt (tgt := 30) hx hb dX4_hasRun_1 (by decide) (fun c1 => ?_) (fun c1 => ?_)
  · replace hf := it_of c1 hf
    refine lv_iconst (v := 0) hx hb dX4_hasRun_30 (by decide) ?_
    rw [hQ]
    exact ret_z C0 hP hD hS (by have e := Option.some.inj hf; rw [← e]; exact ⟨rfl, rfl⟩) rfl dX4_hasRun_31
  · replace hf := ie_of c1 hf
    refine lv_iload_n hx hb dX4_hasRun_4 rfl (lv_at hl 2 rfl) ?_
    refine lv_if_lt (tgt := 30) hx hb dX4_hasRun_5 (by decide) (fun c2 => ?_) (fun c2 => ?_)
    · replace hf := it_of c2 hf
      refine lv_iconst (v := 0) hx hb dX4_hasRun_30 (by decide) ?_
      rw [hQ]
      exact ret_z C0 hP hD hS (by have e := Option.some.inj hf; rw [← e]; exact ⟨rfl, rfl⟩) rfl dX4_hasRun_31
    · replace hf := ie_of c2 hf
      refine lv_iload_n hx hb dX4_hasRun_8 rfl (lv_at hl 2 rfl) ?_
      refine lv_aload_n hx hb dX4_hasRun_9 rfl (lv_at hl 0 rfl) ?_
      refine va_get (D := D) (ci := 4) (v := .int (tif 1)) (C := RX4) (T := TX4) (N := 3) hx hb hts fw_4 hown hK hP 0 rfl rfl 1 (by decide) (hts _ m_fieldLink_P_Tape_19_P_Tape_size_I) (fun _ h9 => h9) rfl dX4_hasRun_10 ?_
      refine lv_icmp_gt (tgt := 30) hx hb dX4_hasRun_13 (by decide) (fun c3 => ?_) (fun c3 => ?_)
      · replace hf := it_of c3 hf
        refine lv_iconst (v := 0) hx hb dX4_hasRun_30 (by decide) ?_
        rw [hQ]
        exact ret_z C0 hP hD hS (by have e := Option.some.inj hf; rw [← e]; exact ⟨rfl, rfl⟩) rfl dX4_hasRun_31
      · replace hf := ie_of c3 hf
        refine lv_iload_n hx hb dX4_hasRun_16 rfl (lv_at hl 1 rfl) ?_
        refine lv_aload_n hx hb dX4_hasRun_17 rfl (lv_at hl 0 rfl) ?_
        refine va_get (D := D) (ci := 4) (v := .int (tif 1)) (C := RX4) (T := TX4) (N := 3) hx hb hts fw_4 hown hK hP 0 rfl rfl 1 (by decide) (hts _ m_fieldLink_P_Tape_19_P_Tape_size_I) (fun _ h9 => h9) rfl dX4_hasRun_18 ?_
        refine lv_iload_n hx hb dX4_hasRun_21 rfl (lv_at hl 2 rfl) ?_
        refine lv_isub hx hb dX4_hasRun_22 ?_
        refine lv_icmp_gt (tgt := 30) hx hb dX4_hasRun_23 (by decide) (fun c4 => ?_) (fun c4 => ?_)
        · replace hf := it_of c4 hf
          refine lv_iconst (v := 0) hx hb dX4_hasRun_30 (by decide) ?_
          rw [hQ]
          exact ret_z C0 hP hD hS (by have e := Option.some.inj hf; rw [← e]; exact ⟨rfl, rfl⟩) rfl dX4_hasRun_31
        · replace hf := ie_of c4 hf
          refine lv_iconst (v := 1) hx hb dX4_hasRun_26 (by decide) ?_
          refine lv_goto (tgt := 31) hx hb dX4_hasRun_27 (by decide) ?_
          rw [hQ]
          exact ret_z C0 hP hD hS (by have e := Option.some.inj hf; rw [← e]; exact ⟨rfl, rfl⟩) rfl dX4_hasRun_31
-- X5 add
noncomputable def k_X5_add (a1 : Int32) (xf0 : Nat → Int32) (xs0 : Nat → Int32) : Option (Int32 × (Nat → Int32) × (Nat → Int32)) := gd (xf0 0) 100 (some (((xf0 0) + 1), (upd xf0 0 ((xf0 0) + 1)), (upd xs0 (Int32.toNatClampNeg (xf0 0)) (vp_nar .byte (Int8.toInt32 (Int32.toInt8 a1))))))
set_option maxHeartbeats 4000000 in
set_option maxRecDepth 100000 in
theorem c_X5_add {l : Launch} {D : va_G} {cA : Nat → ClassId} (q : Nat → Nat) (xv : Value) (xf0 : Nat → Int32) (xs0 : Nat → Int32) (a1 : Int32) (o : Int32 × (Nat → Int32) × (Nat → Int32)) (hf : k_X5_add a1 xf0 xs0 = some o) : CI l D cA yX5_add cX5_add 2 (some .int) 0 0 [.ref (q 0), .int a1] (Tw q cA xf0 xs0 xv) 0 0 (fun r w => r = o.1 ∧ w = (Tw q cA o.2.1 o.2.2 xv)) := by
  intro sz
  refine met_start (by decide) rfl ?_
  intro p e s m args below meth c ls hsz hargs C0 hname hP hD hS hl
  generalize hAe : va_A (Tw q cA xf0 xs0 xv) sz = A at C0 hD hS ⊢
  obtain ⟨hx, hb, hr, hml, hown, hts, hlk, hK, hA⟩ := id C0
  replace hl : lv_has ls 2 [(0, .ref (q 0)), (1, .int a1)] := hl
  obtain ⟨Q, hQ⟩ : ∃ Q : State → Prop, Q = QI below D A (fun r w => r = o.1 ∧ w = (Tw q cA o.2.1 o.2.2 xv)) args s 0 0 := ⟨_, rfl⟩
  refine cast (by rw [hQ]) (?_ : W p l e (RMx 0 0 0 0) s m args below meth c s.heap [] 0 0 Q (F0 m 0 ls []))
  unfold k_X5_add at hf
  refine lv_aload_n hx hb dX5_add_0 rfl (lv_at hl 0 rfl) ?_
  refine va_get (D := D) (ci := 5) (v := .ref (q 1)) (C := RX5) (T := TX5) (N := 4) hx hb hts fw_5 hown hK hP 0 rfl rfl 1 (by decide) (hts _ m_fieldLink_P_Text_9_P_Text_signs_aB) (fun _ h9 => h9) rfl dX5_add_1 ?_
  refine lv_aload_n hx hb dX5_add_4 rfl (lv_at hl 0 rfl) ?_
  refine va_get (D := D) (ci := 5) (v := .int (xf0 0)) (C := RX5) (T := TX5) (N := 4) hx hb hts fw_5 hown hK hP 0 rfl rfl 0 (by decide) (hts _ m_fieldLink_P_Text_15_P_Text_length_I) (fun _ h9 => h9) rfl dX5_add_5 ?_
  refine lv_iload_n hx hb dX5_add_8 rfl (lv_at hl 1 rfl) ?_
  refine lv_i2b (v := (Int8.toInt32 (Int32.toInt8 a1))) hx hb dX5_add_9 rfl ?_
  obtain ⟨hi1, hf⟩ := gd_of hf
  refine va_bast hx hb hK hP hD hS 1 1 rfl rfl hi1 dX5_add_10 (fun H locs hP hD hS => ?_)
  replace hP : va_P D vwCl (Tw q cA xf0 (upd xs0 (Int32.toNatClampNeg (xf0 0)) (vp_nar .byte (Int8.toInt32 (Int32.toInt8 a1)))) xv) H := hP
  replace hD : va_D A (Tw q cA xf0 (upd xs0 (Int32.toNatClampNeg (xf0 0)) (vp_nar .byte (Int8.toInt32 (Int32.toInt8 a1)))) xv) := hD
  refine lv_aload_n hx hb dX5_add_11 rfl (lv_at hl 0 rfl) ?_
  refine lv_dup hx hb dX5_add_12 rfl ?_
  refine va_get (D := D) (ci := 5) (v := .int (xf0 0)) (C := RX5) (T := TX5) (N := 4) hx hb hts fw_5 hown hK hP 0 rfl rfl 0 (by decide) (hts _ m_fieldLink_P_Text_15_P_Text_length_I) (fun _ h9 => h9) rfl dX5_add_13 ?_
  refine lv_iconst (v := 1) hx hb dX5_add_16 (by decide) ?_
  refine lv_iadd hx hb dX5_add_17 ?_
  refine va_put (D := D) (ci := 5) (v := .int ((xf0 0) + 1)) (ty := .int) (C := RX5) (T := TX5) (N := 4) hx hb hts fw_5 tyX5 tyX5_ok nmX5 hown hK hP hD hS 0 rfl rfl 0 (by decide) (hts _ m_fieldLink_P_Text_15_P_Text_length_I) (fun _ h9 => h9) rfl (by decide +kernel) rfl rfl (Nat.le_of_ble_eq_true rfl) dX5_add_18 (fun H locs hP hD hS => ?_)
  replace hP : va_P D vwCl (Tw q cA (upd xf0 0 ((xf0 0) + 1)) (upd xs0 (Int32.toNatClampNeg (xf0 0)) (vp_nar .byte (Int8.toInt32 (Int32.toInt8 a1)))) xv) H := hP
  replace hD : va_D A (Tw q cA (upd xf0 0 ((xf0 0) + 1)) (upd xs0 (Int32.toNatClampNeg (xf0 0)) (vp_nar .byte (Int8.toInt32 (Int32.toInt8 a1)))) xv) := hD
  refine lv_aload_n hx hb dX5_add_21 rfl (lv_at hl 0 rfl) ?_
  refine va_get (D := D) (ci := 5) (v := .int ((xf0 0) + 1)) (C := RX5) (T := TX5) (N := 4) hx hb hts fw_5 hown hK hP 0 rfl rfl 0 (by decide) (hts _ m_fieldLink_P_Text_15_P_Text_length_I) (fun _ h9 => h9) rfl dX5_add_22 ?_
  rw [hQ]
  exact ret_i C0 hP hD hS (by have e := Option.some.inj hf; rw [← e]; exact ⟨rfl, rfl⟩) dX5_add_25
-- X5 ahead
noncomputable def k_X5_ahead (xf : Nat → Int32) (xs : Nat → Int32) : Option Int32 := if (xf 0) ≤ (xf 2) then some (-1) else gd (xf 2) 100 (some (xs (Int32.toNatClampNeg (xf 2))))
set_option maxHeartbeats 4000000 in
set_option maxRecDepth 100000 in
theorem c_X5_ahead {l : Launch} {D : va_G} {cA : Nat → ClassId} (q : Nat → Nat) (xv : Value) (xf : Nat → Int32) (xs : Nat → Int32)  (o : Int32) (hf : k_X5_ahead xf xs = some o) : CI l D cA yX5_ahead cX5_ahead 1 (some .int) 0 0 [.ref (q 0)] (Tw q cA xf xs xv) 0 0 (fun r w => r = o ∧ w = (Tw q cA xf xs xv)) := by
  intro sz
  refine met_start (by decide) rfl ?_
  intro p e s m args below meth c ls hsz hargs C0 hname hP hD hS hl
  generalize hAe : va_A (Tw q cA xf xs xv) sz = A at C0 hD hS ⊢
  obtain ⟨hx, hb, hr, hml, hown, hts, hlk, hK, hA⟩ := id C0
  replace hl : lv_has ls 1 [(0, .ref (q 0))] := hl
  obtain ⟨Q, hQ⟩ : ∃ Q : State → Prop, Q = QI below D A (fun r w => r = o ∧ w = (Tw q cA xf xs xv)) args s 0 0 := ⟨_, rfl⟩
  refine cast (by rw [hQ]) (?_ : W p l e (RMx 0 0 0 0) s m args below meth c s.heap [] 0 0 Q (F0 m 0 ls []))
  unfold k_X5_ahead at hf
  refine lv_aload_n hx hb dX5_ahead_0 rfl (lv_at hl 0 rfl) ?_
  refine va_get (D := D) (ci := 5) (v := .int (xf 2)) (C := RX5) (T := TX5) (N := 4) hx hb hts fw_5 hown hK hP 0 rfl rfl 2 (by decide) (hts _ m_fieldLink_P_Text_28_P_Text_at_I) (fun _ h9 => h9) rfl dX5_ahead_1 ?_
  refine lv_aload_n hx hb dX5_ahead_4 rfl (lv_at hl 0 rfl) ?_
  refine va_get (D := D) (ci := 5) (v := .int (xf 0)) (C := RX5) (T := TX5) (N := 4) hx hb hts fw_5 hown hK hP 0 rfl rfl 0 (by decide) (hts _ m_fieldLink_P_Text_15_P_Text_length_I) (fun _ h9 => h9) rfl dX5_ahead_5 ?_
  refine lv_icmp_ge (tgt := 23) hx hb dX5_ahead_8 (by decide) (fun c1 => ?_) (fun c1 => ?_)
  · replace hf := it_of c1 hf
    refine lv_iconst (v := (-1)) hx hb dX5_ahead_23 (by decide) ?_
    rw [hQ]
    exact ret_i C0 hP hD hS (by have e := Option.some.inj hf; rw [← e]; exact ⟨rfl, rfl⟩) dX5_ahead_24
  · replace hf := ie_of c1 hf
    refine lv_aload_n hx hb dX5_ahead_11 rfl (lv_at hl 0 rfl) ?_
    refine va_get (D := D) (ci := 5) (v := .ref (q 1)) (C := RX5) (T := TX5) (N := 4) hx hb hts fw_5 hown hK hP 0 rfl rfl 1 (by decide) (hts _ m_fieldLink_P_Text_9_P_Text_signs_aB) (fun _ h9 => h9) rfl dX5_ahead_12 ?_
    refine lv_aload_n hx hb dX5_ahead_15 rfl (lv_at hl 0 rfl) ?_
    refine va_get (D := D) (ci := 5) (v := .int (xf 2)) (C := RX5) (T := TX5) (N := 4) hx hb hts fw_5 hown hK hP 0 rfl rfl 2 (by decide) (hts _ m_fieldLink_P_Text_28_P_Text_at_I) (fun _ h9 => h9) rfl dX5_ahead_16 ?_
    obtain ⟨hi2, hf⟩ := gd_of hf
    refine va_bald hx hb hK hP 1 1 rfl rfl hi2 dX5_ahead_19 ?_
    refine lv_goto (tgt := 24) hx hb dX5_ahead_20 (by decide) ?_
    rw [hQ]
    exact ret_i C0 hP hD hS (by have e := Option.some.inj hf; rw [← e]; exact ⟨rfl, rfl⟩) dX5_ahead_24
-- X5 sortAhead
noncomputable def k_X5_sortAhead (xf : Nat → Int32) (xs : Nat → Int32) : Option Int32 := b1 (k_X5_ahead xf xs) (fun r1 => if r1 = 99 then some 2 else if r1 = 104 then some 1 else if r1 = 108 then some 0 else some (-1))
set_option maxHeartbeats 4000000 in
set_option maxRecDepth 100000 in
theorem c_X5_sortAhead {l : Launch} {D : va_G} {cA : Nat → ClassId} (q : Nat → Nat) (xv : Value) (xf : Nat → Int32) (xs : Nat → Int32)  (o : Int32) (hf : k_X5_sortAhead xf xs = some o) : CI l D cA yX5_sortAhead cX5_sortAhead 1 (some .int) 1 20 [.ref (q 0)] (Tw q cA xf xs xv) 0 0 (fun r w => r = o ∧ w = (Tw q cA xf xs xv)) := by
  intro sz
  refine met_start (by decide) rfl ?_
  intro p e s m args below meth c ls hsz hargs C0 hname hP hD hS hl
  generalize hAe : va_A (Tw q cA xf xs xv) sz = A at C0 hD hS ⊢
  obtain ⟨hx, hb, hr, hml, hown, hts, hlk, hK, hA⟩ := id C0
  replace hl : lv_has ls 1 [(0, .ref (q 0))] := hl
  obtain ⟨Q, hQ⟩ : ∃ Q : State → Prop, Q = QI below D A (fun r w => r = o ∧ w = (Tw q cA xf xs xv)) args s 0 0 := ⟨_, rfl⟩
  refine cast (by rw [hQ]) (?_ : W p l e (RMx 1 20 0 0) s m args below meth c s.heap [] 0 0 Q (F0 m 0 ls []))
  unfold k_X5_sortAhead at hf
  refine lv_aload_n hx hb dX5_sortAhead_0 rfl (lv_at hl 0 rfl) ?_
  obtain ⟨r1q, hq2, hf⟩ := b1_of hf
  refine callVI (As := []) (rest := []) (wr := []) C0 (c_X5_ahead q xv xf xs _ hq2) lk_X5_57_X5_ahead rfl hP hD hS perm_nil 0 5 rfl rfl rfl hl.1 rfl rfl (Nat.le_of_ble_eq_true rfl) dX5_sortAhead_1 ⟨Nat.zero_le _, Nat.zero_le _⟩ (fun r1 w H locs hw hP hD hS => ?_)
  obtain ⟨e1, e2⟩ := hw
  replace e1 : r1 = r1q := e1
  subst e1
  subst e2
  replace hP : va_P D vwCl (Tw q cA xf xs xv) H := hP.nil
  replace hD : va_D A (Tw q cA xf xs xv) := hD.nil
  by_cases c3 : r1 = 99
  · replace hf := it_of c3 hf
    refine lv_lookup (off := 40) (tgt := 44) hx hb dX5_sortAhead_4 (by decide) (by rw [c3]; decide) (by decide) ?_
    refine lv_iconst (v := 2) hx hb dX5_sortAhead_44 (by decide) ?_
    rw [hQ]
    exact ret_i C0 hP hD hS (by have e := Option.some.inj hf; rw [← e]; exact ⟨rfl, rfl⟩) dX5_sortAhead_45
  · replace hf := ie_of c3 hf
    by_cases c4 : r1 = 104
    · replace hf := it_of c4 hf
      refine lv_lookup (off := 38) (tgt := 42) hx hb dX5_sortAhead_4 (by decide) (by rw [c4]; decide) (by decide) ?_
      refine lv_iconst (v := 1) hx hb dX5_sortAhead_42 (by decide) ?_
      rw [hQ]
      exact ret_i C0 hP hD hS (by have e := Option.some.inj hf; rw [← e]; exact ⟨rfl, rfl⟩) dX5_sortAhead_43
    · replace hf := ie_of c4 hf
      by_cases c5 : r1 = 108
      · replace hf := it_of c5 hf
        refine lv_lookup (off := 36) (tgt := 40) hx hb dX5_sortAhead_4 (by decide) (by rw [c5]; decide) (by decide) ?_
        refine lv_iconst (v := 0) hx hb dX5_sortAhead_40 (by decide) ?_
        rw [hQ]
        exact ret_i C0 hP hD hS (by have e := Option.some.inj hf; rw [← e]; exact ⟨rfl, rfl⟩) dX5_sortAhead_41
      · replace hf := ie_of c5 hf
        refine lv_lookup (off := 42) (tgt := 46) hx hb dX5_sortAhead_4 (by decide) (by rw [lv_osw c3 (by decide), lv_osw c4 (by decide), lv_osw c5 (by decide)]; rfl) (by decide) ?_
        refine lv_iconst (v := (-1)) hx hb dX5_sortAhead_46 (by decide) ?_
        rw [hQ]
        exact ret_i C0 hP hD hS (by have e := Option.some.inj hf; rw [← e]; exact ⟨rfl, rfl⟩) dX5_sortAhead_47
-- X5 readNumber
noncomputable def k_X5_readNumber_4 (xs : Nat → Int32) : Nat → Int32 → Int32 → (Nat → Int32) → Option (Int32 × (Nat → Int32))
  | 0, _, _, _ => none
  | n + 1, x1, x2, xf => if 2 ≤ x2 then some (x1, xf) else b1 (k_X5_ahead xf xs) (fun r2 => if r2 < 48 then some (x1, xf) else if r2 ≤ 57 then nm (if x1 < 0 then 0 else x1) (fun mm6 => k_X5_readNumber_4 xs n (((mm6 * 10) + r2) - 48) (x2 + 1) (upd xf 2 ((xf 2) + 1))) else some (x1, xf))
noncomputable def k_X5_readNumber (xf0 : Nat → Int32) (xs : Nat → Int32) : Option (Int32 × (Nat → Int32)) := k_X5_readNumber_4 xs 100000 (-1) 0 xf0
set_option maxHeartbeats 4000000 in
set_option maxRecDepth 100000 in
theorem c_X5_readNumber {l : Launch} {D : va_G} {cA : Nat → ClassId} (q : Nat → Nat) (xv : Value) (xf0 : Nat → Int32) (xs : Nat → Int32)  (o : Int32 × (Nat → Int32)) (hf : k_X5_readNumber xf0 xs = some o) : CI l D cA yX5_readNumber cX5_readNumber 4 (some .int) 1 21 [.ref (q 0)] (Tw q cA xf0 xs xv) 0 0 (fun r w => r = o.1 ∧ w = (Tw q cA o.2 xs xv)) := by
  intro sz
  refine met_start (by decide) rfl ?_
  intro p e s m args below meth c ls hsz hargs C0 hname hP hD hS hl
  generalize hAe : va_A (Tw q cA xf0 xs xv) sz = A at C0 hD hS ⊢
  obtain ⟨hx, hb, hr, hml, hown, hts, hlk, hK, hA⟩ := id C0
  replace hl : lv_has ls 4 [(0, .ref (q 0))] := hl
  obtain ⟨Q, hQ⟩ : ∃ Q : State → Prop, Q = QI below D A (fun r w => r = o.1 ∧ w = (Tw q cA o.2 xs xv)) args s 0 0 := ⟨_, rfl⟩
  refine cast (by rw [hQ]) (?_ : W p l e (RMx 1 21 0 0) s m args below meth c s.heap [] 0 0 Q (F0 m 0 ls []))
  have J4 : ∀ n : Nat, ∀ (x1 : Int32) (x2 : Int32) (xf : Nat → Int32), k_X5_readNumber_4 xs n x1 x2 xf = some o → ∀ (H : Heap) (locs : List Loc), va_P D vwCl (Tw q cA xf xs xv) H → va_D A (Tw q cA xf xs xv) → va_S A s.heap H locs → ∀ ls : Array Slot, lv_has ls 4 [(0, .ref (q 0)), (1, .int x1), (2, .int x2)] → W p l e (RMx 1 21 0 0) s m args below meth c H locs 0 0 Q (F0 m 4 ls []) := by
    intro  n
    induction n with
    | zero =>
      intro x1 x2 xf hf
      rw [k_X5_readNumber_4] at hf
      cases hf
    | succ n ih =>
      intro x1 x2 xf hf H locs hP hD hS ls hl
      rw [k_X5_readNumber_4] at hf
      refine lv_iload_n hx hb dX5_readNumber_4 rfl (lv_at hl 2 rfl) ?_
      refine lv_iconst (v := 2) hx hb dX5_readNumber_5 (by decide) ?_
      refine lv_icmp_ge (tgt := 58) hx hb dX5_readNumber_6 (by decide) (fun c1 => ?_) (fun c1 => ?_)
      · replace hf := it_of c1 hf
        refine lv_iload_n hx hb dX5_readNumber_58 rfl (lv_at hl 1 rfl) ?_
        rw [hQ]
        exact ret_i C0 hP hD hS (by have e := Option.some.inj hf; rw [← e]; exact ⟨rfl, rfl⟩) dX5_readNumber_59
      · replace hf := ie_of c1 hf
        refine lv_aload_n hx hb dX5_readNumber_9 rfl (lv_at hl 0 rfl) ?_
        obtain ⟨r2q, hq3, hf⟩ := b1_of hf
        refine callVI (As := []) (rest := []) (wr := []) C0 (c_X5_ahead q xv xf xs _ hq3) lk_X5_57_X5_ahead rfl hP hD hS perm_nil 0 5 rfl rfl rfl hl.1 rfl rfl (Nat.le_of_ble_eq_true rfl) dX5_readNumber_10 ⟨Nat.zero_le _, Nat.zero_le _⟩ (fun r2 w H locs hw hP hD hS => ?_)
        obtain ⟨e1, e2⟩ := hw
        replace e1 : r2 = r2q := e1
        subst e1
        subst e2
        replace hP : va_P D vwCl (Tw q cA xf xs xv) H := hP.nil
        replace hD : va_D A (Tw q cA xf xs xv) := hD.nil
        refine lv_istore_n (lv' := [(3, .int r2), (0, .ref (q 0)), (1, .int x1), (2, .int x2)]) hx hb dX5_readNumber_13 rfl hl (by decide) rfl (fun ls hl => ?_)
        refine lv_iload_n hx hb dX5_readNumber_14 rfl (lv_at hl 0 rfl) ?_
        refine lv_bipush (v := 48) hx hb dX5_readNumber_15 (by decide) ?_
        refine lv_icmp_lt (tgt := 26) hx hb dX5_readNumber_17 (by decide) (fun c4 => ?_) (fun c4 => ?_)
        · replace hf := it_of c4 hf
          refine lv_iload_n hx hb dX5_readNumber_26 rfl (lv_at hl 2 rfl) ?_
          rw [hQ]
          exact ret_i C0 hP hD hS (by have e := Option.some.inj hf; rw [← e]; exact ⟨rfl, rfl⟩) dX5_readNumber_27
        · replace hf := ie_of c4 hf
          refine lv_iload_n hx hb dX5_readNumber_20 rfl (lv_at hl 0 rfl) ?_
          refine lv_bipush (v := 57) hx hb dX5_readNumber_21 (by decide) ?_
          refine lv_icmp_le (tgt := 28) hx hb dX5_readNumber_23 (by decide) (fun c5 => ?_) (fun c5 => ?_)
          · replace hf := it_of c5 hf
            refine lv_iload_n hx hb dX5_readNumber_28 rfl (lv_at hl 2 rfl) ?_
            refine lv_iconst (v := 0) hx hb dX5_readNumber_29 (by decide) ?_
            refine va_mmax hx hb (by rw [hml]; exact hl.1.symm) hown (hts _ m_methodLink_P_Text_93_java_lang_Math_max_II_I) (hts _ m_static_java_lang_Math_max_II_I) (hts _ m_initialized_java_lang_Math) (hts _ m_code_java_lang_Math_max_II_I) (Nat.le_of_ble_eq_true rfl) (Nat.le_of_ble_eq_true rfl) (Nat.zero_le _) (Nat.zero_le _) dX5_readNumber_30 ?_
            refine lv_topi (fun mm6 emm6 => ?_)
            replace hf := nm_i emm6 hf
            refine lv_bipush (v := 10) hx hb dX5_readNumber_33 (by decide) ?_
            refine lv_imul hx hb dX5_readNumber_35 ?_
            refine lv_iload_n hx hb dX5_readNumber_36 rfl (lv_at hl 0 rfl) ?_
            refine lv_iadd hx hb dX5_readNumber_37 ?_
            refine lv_bipush (v := 48) hx hb dX5_readNumber_38 (by decide) ?_
            refine lv_isub hx hb dX5_readNumber_40 ?_
            refine lv_istore_n (lv' := [(1, .int (((mm6 * 10) + r2) - 48)), (3, .int r2), (0, .ref (q 0)), (2, .int x2)]) hx hb dX5_readNumber_41 rfl hl (by decide) rfl (fun ls hl => ?_)
            refine lv_aload_n hx hb dX5_readNumber_42 rfl (lv_at hl 2 rfl) ?_
            refine lv_dup hx hb dX5_readNumber_43 rfl ?_
            refine va_get (D := D) (ci := 5) (v := .int (xf 2)) (C := RX5) (T := TX5) (N := 4) hx hb hts fw_5 hown hK hP 0 rfl rfl 2 (by decide) (hts _ m_fieldLink_P_Text_28_P_Text_at_I) (fun _ h9 => h9) rfl dX5_readNumber_44 ?_
            refine lv_iconst (v := 1) hx hb dX5_readNumber_47 (by decide) ?_
            refine lv_iadd hx hb dX5_readNumber_48 ?_
            refine va_put (D := D) (ci := 5) (v := .int ((xf 2) + 1)) (ty := .int) (C := RX5) (T := TX5) (N := 4) hx hb hts fw_5 tyX5 tyX5_ok nmX5 hown hK hP hD hS 0 rfl rfl 2 (by decide) (hts _ m_fieldLink_P_Text_28_P_Text_at_I) (fun _ h9 => h9) rfl (by decide +kernel) rfl rfl (Nat.le_of_ble_eq_true rfl) dX5_readNumber_49 (fun H locs hP hD hS => ?_)
            replace hP : va_P D vwCl (Tw q cA (upd xf 2 ((xf 2) + 1)) xs xv) H := hP
            replace hD : va_D A (Tw q cA (upd xf 2 ((xf 2) + 1)) xs xv) := hD
            refine lv_iinc (v := (x2 + 1)) (lv' := [(2, .int (x2 + 1)), (1, .int (((mm6 * 10) + r2) - 48)), (3, .int r2), (0, .ref (q 0))]) hx hb dX5_readNumber_52 hl (k := 3) rfl rfl (by decide) rfl (fun ls hl => ?_)
            refine lv_goto (tgt := 4) hx hb dX5_readNumber_55 (by decide) ?_
            exact ih (((mm6 * 10) + r2) - 48) (x2 + 1) (upd xf 2 ((xf 2) + 1)) hf _ _ hP hD hS _ (lv_sub hl [3, 1, 0] rfl)
          · replace hf := ie_of c5 hf
            refine lv_iload_n hx hb dX5_readNumber_26 rfl (lv_at hl 2 rfl) ?_
            rw [hQ]
            exact ret_i C0 hP hD hS (by have e := Option.some.inj hf; rw [← e]; exact ⟨rfl, rfl⟩) dX5_readNumber_27
  unfold k_X5_readNumber at hf
  refine lv_iconst (v := (-1)) hx hb dX5_readNumber_0 (by decide) ?_
  refine lv_istore_n (lv' := [(1, .int (-1)), (0, .ref (q 0))]) hx hb dX5_readNumber_1 rfl hl (by decide) rfl (fun ls hl => ?_)
  refine lv_iconst (v := 0) hx hb dX5_readNumber_2 (by decide) ?_
  refine lv_istore_n (lv' := [(2, .int 0), (1, .int (-1)), (0, .ref (q 0))]) hx hb dX5_readNumber_3 rfl hl (by decide) rfl (fun ls hl => ?_)
  exact J4 100000 (-1) 0 xf0 hf _ _ hP hD hS _ (lv_sub hl [2, 1, 0] rfl)
-- X5 take
noncomputable def k_X5_take (a1 : Int32) (xf0 : Nat → Int32) (xs : Nat → Int32) : Option (Int32 × (Nat → Int32)) := b1 (k_X5_ahead xf0 xs) (fun r1 => if r1 = a1 then some (1, (upd xf0 2 ((xf0 2) + 1))) else some (0, xf0))
set_option maxHeartbeats 4000000 in
set_option maxRecDepth 100000 in
theorem c_X5_take {l : Launch} {D : va_G} {cA : Nat → ClassId} (q : Nat → Nat) (xv : Value) (xf0 : Nat → Int32) (xs : Nat → Int32) (a1 : Int32) (o : Int32 × (Nat → Int32)) (hf : k_X5_take a1 xf0 xs = some o) : CI l D cA yX5_take cX5_take 2 (some .boolean) 1 20 [.ref (q 0), .int a1] (Tw q cA xf0 xs xv) 0 0 (fun r w => (r = o.1 ∧ w = (Tw q cA o.2 xs xv)) ∧ narrow .boolean (.int r) = .int r) := by
  intro sz
  refine met_start (by decide) rfl ?_
  intro p e s m args below meth c ls hsz hargs C0 hname hP hD hS hl
  generalize hAe : va_A (Tw q cA xf0 xs xv) sz = A at C0 hD hS ⊢
  obtain ⟨hx, hb, hr, hml, hown, hts, hlk, hK, hA⟩ := id C0
  replace hl : lv_has ls 2 [(0, .ref (q 0)), (1, .int a1)] := hl
  obtain ⟨Q, hQ⟩ : ∃ Q : State → Prop, Q = QI below D A (fun r w => (r = o.1 ∧ w = (Tw q cA o.2 xs xv)) ∧ narrow .boolean (.int r) = .int r) args s 0 0 := ⟨_, rfl⟩
  refine cast (by rw [hQ]) (?_ : W p l e (RMx 1 20 0 0) s m args below meth c s.heap [] 0 0 Q (F0 m 0 ls []))
  unfold k_X5_take at hf
  refine lv_aload_n hx hb dX5_take_0 rfl (lv_at hl 0 rfl) ?_
  obtain ⟨r1q, hq2, hf⟩ := b1_of hf
  refine callVI (As := []) (rest := []) (wr := []) C0 (c_X5_ahead q xv xf0 xs _ hq2) lk_X5_57_X5_ahead rfl hP hD hS perm_nil 0 5 rfl rfl rfl hl.1 rfl rfl (Nat.le_of_ble_eq_true rfl) dX5_take_1 ⟨Nat.zero_le _, Nat.zero_le _⟩ (fun r1 w H locs hw hP hD hS => ?_)
  obtain ⟨e1, e2⟩ := hw
  replace e1 : r1 = r1q := e1
  subst e1
  subst e2
  replace hP : va_P D vwCl (Tw q cA xf0 xs xv) H := hP.nil
  replace hD : va_D A (Tw q cA xf0 xs xv) := hD.nil
  refine lv_iload_n hx hb dX5_take_4 rfl (lv_at hl 1 rfl) ?_
  refine lv_icmp_eq (tgt := 10) hx hb dX5_take_5 (by decide) (fun c3 => ?_) (fun c3 => ?_)
  · replace hf := it_of c3 hf
    refine lv_aload_n hx hb dX5_take_10 rfl (lv_at hl 0 rfl) ?_
    refine lv_dup hx hb dX5_take_11 rfl ?_
    refine va_get (D := D) (ci := 5) (v := .int (xf0 2)) (C := RX5) (T := TX5) (N := 4) hx hb hts fw_5 hown hK hP 0 rfl rfl 2 (by decide) (hts _ m_fieldLink_P_Text_28_P_Text_at_I) (fun _ h9 => h9) rfl dX5_take_12 ?_
    refine lv_iconst (v := 1) hx hb dX5_take_15 (by decide) ?_
    refine lv_iadd hx hb dX5_take_16 ?_
    refine va_put (D := D) (ci := 5) (v := .int ((xf0 2) + 1)) (ty := .int) (C := RX5) (T := TX5) (N := 4) hx hb hts fw_5 tyX5 tyX5_ok nmX5 hown hK hP hD hS 0 rfl rfl 2 (by decide) (hts _ m_fieldLink_P_Text_28_P_Text_at_I) (fun _ h9 => h9) rfl (by decide +kernel) rfl rfl (Nat.le_of_ble_eq_true rfl) dX5_take_17 (fun H locs hP hD hS => ?_)
    replace hP : va_P D vwCl (Tw q cA (upd xf0 2 ((xf0 2) + 1)) xs xv) H := hP
    replace hD : va_D A (Tw q cA (upd xf0 2 ((xf0 2) + 1)) xs xv) := hD
    refine lv_iconst (v := 1) hx hb dX5_take_20 (by decide) ?_
    rw [hQ]
    exact ret_z C0 hP hD hS (by have e := Option.some.inj hf; rw [← e]; exact ⟨rfl, rfl⟩) rfl dX5_take_21
  · replace hf := ie_of c3 hf
    refine lv_iconst (v := 0) hx hb dX5_take_8 (by decide) ?_
    rw [hQ]
    exact ret_z C0 hP hD hS (by have e := Option.some.inj hf; rw [← e]; exact ⟨rfl, rfl⟩) rfl dX5_take_9
-- X6 isWithin
noncomputable def k_X6_isWithin (a0 : Int32) (a1 : Int32) : Option Int32 := if a0 < 0 then some 0 else if a1 < a0 then some 0 else some 1
set_option maxHeartbeats 4000000 in
set_option maxRecDepth 100000 in
theorem c_X6_isWithin {l : Launch} {D : va_G} {cA : Nat → ClassId}   (a0 : Int32) (a1 : Int32) (o : Int32) (hf : k_X6_isWithin a0 a1 = some o) : CI l D cA yX6_isWithin cX6_isWithin 2 (some .boolean) 0 0 [.int a0, .int a1] ([] : va_W) 0 0 (fun r w => (r = o ∧ w = ([] : va_W)) ∧ narrow .boolean (.int r) = .int r) := by
  intro sz
  refine met_start (by decide) rfl ?_
  intro p e s m args below meth c ls hsz hargs C0 hname hP hD hS hl
  generalize hAe : va_A ([] : va_W) sz = A at C0 hD hS ⊢
  obtain ⟨hx, hb, hr, hml, hown, hts, hlk, hK, hA⟩ := id C0
  replace hl : lv_has ls 2 [(0, .int a0), (1, .int a1)] := hl
  obtain ⟨Q, hQ⟩ : ∃ Q : State → Prop, Q = QI below D A (fun r w => (r = o ∧ w = ([] : va_W)) ∧ narrow .boolean (.int r) = .int r) args s 0 0 := ⟨_, rfl⟩
  refine cast (by rw [hQ]) (?_ : W p l e (RMx 0 0 0 0) s m args below meth c s.heap [] 0 0 Q (F0 m 0 ls []))
  unfold k_X6_isWithin at hf
  refine lv_iload_n hx hb dX6_isWithin_0 rfl (lv_at hl 0 rfl) ?_
  refine lv_if_lt (tgt := 13) hx hb dX6_isWithin_1 (by decide) (fun c1 => ?_) (fun c1 => ?_)
  · replace hf := it_of c1 hf
    refine lv_iconst (v := 0) hx hb dX6_isWithin_13 (by decide) ?_
    rw [hQ]
    exact ret_z C0 hP hD hS (by have e := Option.some.inj hf; rw [← e]; exact ⟨rfl, rfl⟩) rfl dX6_isWithin_14
  · replace hf := ie_of c1 hf
    refine lv_iload_n hx hb dX6_isWithin_4 rfl (lv_at hl 0 rfl) ?_
    refine lv_iload_n hx hb dX6_isWithin_5 rfl (lv_at hl 1 rfl) ?_
    refine lv_icmp_gt (tgt := 13) hx hb dX6_isWithin_6 (by decide) (fun c2 => ?_) (fun c2 => ?_)
    · replace hf := it_of c2 hf
      refine lv_iconst (v := 0) hx hb dX6_isWithin_13 (by decide) ?_
      rw [hQ]
      exact ret_z C0 hP hD hS (by have e := Option.some.inj hf; rw [← e]; exact ⟨rfl, rfl⟩) rfl dX6_isWithin_14
    · replace hf := ie_of c2 hf
      refine lv_iconst (v := 1) hx hb dX6_isWithin_9 (by decide) ?_
      refine lv_goto (tgt := 14) hx hb dX6_isWithin_10 (by decide) ?_
      rw [hQ]
      exact ret_z C0 hP hD hS (by have e := Option.some.inj hf; rw [← e]; exact ⟨rfl, rfl⟩) rfl dX6_isWithin_14
-- X6 man
noncomputable def k_X6_man (a1 : Int32) (a2 : Int32) (a3 : Int32) (nf0 : Nat → Int32) (ng0 : Nat → Nat → Int32) : Option (Int32 × (Nat → Int32) × (Nat → Nat → Int32)) := b1 (k_X6_isWithin a1 6) (fun r1 => if r1 = 0 then some ((-1), nf0, ng0) else b1 (k_X6_isWithin a2 9) (fun r5 => if r5 = 0 then some ((-2), nf0, ng0) else b1 (k_X6_isWithin a3 20) (fun r9 => if r9 = 0 then some ((-2), nf0, ng0) else if (nf0 0) < 6 then b3 (k_X1_add a1 a2 a3 nf0 ng0) (fun r14 nf_15 ng_16 => some (r14, nf_15, ng_16)) else some ((-4), nf0, ng0))))
set_option maxHeartbeats 4000000 in
set_option maxRecDepth 100000 in
theorem c_X6_man {l : Launch} {D : va_G} {cA : Nat → ClassId} (oo : Nat) (qn : Nat → Nat) (qk : Nat → Nat) (qt : Nat → Nat) (qx : Nat → Nat) (qa : Nat → Nat) (ts : Nat) (wa : Nat) (qc : Nat → Nat → Nat) (pf : Nat → Int32) (sp : Option Nat) (nf0 : Nat → Int32) (ng0 : Nat → Nat → Int32) (nc : Option Nat) (a1 : Int32) (a2 : Int32) (a3 : Int32) (o : Int32 × (Nat → Int32) × (Nat → Nat → Int32)) (hf : k_X6_man a1 a2 a3 nf0 ng0 = some o) : CI l D cA yX6_man cX6_man 4 (some .int) 2 47 [.ref oo, .int a1, .int a2, .int a3] (List.flatten [(Po oo qn qk qt qx qa ts wa pf (chv qc sp)), (Cw qn cA (chv qc nc) nf0 ng0)]) 0 0 (fun r w => r = o.1 ∧ w = (List.flatten [(Po oo qn qk qt qx qa ts wa pf (chv qc sp)), (Cw qn cA (chv qc nc) o.2.1 o.2.2)])) := by
  intro sz
  refine met_start (by decide) rfl ?_
  intro p e s m args below meth c ls hsz hargs C0 hname hP hD hS hl
  generalize hAe : va_A (List.flatten [(Po oo qn qk qt qx qa ts wa pf (chv qc sp)), (Cw qn cA (chv qc nc) nf0 ng0)]) sz = A at C0 hD hS ⊢
  obtain ⟨hx, hb, hr, hml, hown, hts, hlk, hK, hA⟩ := id C0
  replace hl : lv_has ls 4 [(0, .ref oo), (1, .int a1), (2, .int a2), (3, .int a3)] := hl
  obtain ⟨Q, hQ⟩ : ∃ Q : State → Prop, Q = QI below D A (fun r w => r = o.1 ∧ w = (List.flatten [(Po oo qn qk qt qx qa ts wa pf (chv qc sp)), (Cw qn cA (chv qc nc) o.2.1 o.2.2)])) args s 0 0 := ⟨_, rfl⟩
  refine cast (by rw [hQ]) (?_ : W p l e (RMx 2 47 0 0) s m args below meth c s.heap [] 0 0 Q (F0 m 0 ls []))
  unfold k_X6_man at hf
  refine lv_iload_n hx hb dX6_man_0 rfl (lv_at hl 1 rfl) ?_
  refine lv_bipush (v := 6) hx hb dX6_man_1 (by decide) ?_
  obtain ⟨r1q, hq2, hf⟩ := b1_of hf
  refine callSI (As := [.int a1, .int 6]) (rest := []) (wr := (List.flatten [(Po oo qn qk qt qx qa ts wa pf (chv qc sp)), (Cw qn cA (chv qc nc) nf0 ng0)])) C0 (c_X6_isWithin a1 6 _ hq2) lk_X6_49_X6_isWithin rfl hP hD hS (List.Perm.refl _) hl.1 rfl rfl (Nat.le_of_ble_eq_true rfl) dX6_man_3 ⟨Nat.zero_le _, Nat.zero_le _⟩ (fun r1 w H locs hw hP hD hS => ?_)
  obtain ⟨⟨e1, e2⟩, z3⟩ := hw
  replace e1 : r1 = r1q := e1
  subst e1
  subst e2
  replace hP : va_P D vwCl (List.flatten [(Po oo qn qk qt qx qa ts wa pf (chv qc sp)), (Cw qn cA (chv qc nc) nf0 ng0)]) H := hP
  replace hD : va_D A (List.flatten [(Po oo qn qk qt qx qa ts wa pf (chv qc sp)), (Cw qn cA (chv qc nc) nf0 ng0)]) := hD
  refine lv_if_ne (tgt := 11) hx hb dX6_man_6 (by decide) (fun c4 => ?_) (fun c4 => ?_)
  · replace hf := ie_of c4 hf
    refine lv_iload_n hx hb dX6_man_11 rfl (lv_at hl 2 rfl) ?_
    refine lv_bipush (v := 9) hx hb dX6_man_12 (by decide) ?_
    obtain ⟨r5q, hq6, hf⟩ := b1_of hf
    refine callSI (As := [.int a2, .int 9]) (rest := []) (wr := (List.flatten [(Po oo qn qk qt qx qa ts wa pf (chv qc sp)), (Cw qn cA (chv qc nc) nf0 ng0)])) C0 (c_X6_isWithin a2 9 _ hq6) lk_X6_49_X6_isWithin rfl hP hD hS (List.Perm.refl _) hl.1 rfl rfl (Nat.le_of_ble_eq_true rfl) dX6_man_14 ⟨Nat.zero_le _, Nat.zero_le _⟩ (fun r5 w H locs hw hP hD hS => ?_)
    obtain ⟨⟨e1, e2⟩, z7⟩ := hw
    replace e1 : r5 = r5q := e1
    subst e1
    subst e2
    replace hP : va_P D vwCl (List.flatten [(Po oo qn qk qt qx qa ts wa pf (chv qc sp)), (Cw qn cA (chv qc nc) nf0 ng0)]) H := hP
    replace hD : va_D A (List.flatten [(Po oo qn qk qt qx qa ts wa pf (chv qc sp)), (Cw qn cA (chv qc nc) nf0 ng0)]) := hD
    refine lv_if_eq (tgt := 29) hx hb dX6_man_17 (by decide) (fun c8 => ?_) (fun c8 => ?_)
    · replace hf := it_of c8 hf
      refine lv_bipush (v := (-2)) hx hb dX6_man_29 (by decide) ?_
      rw [hQ]
      exact ret_i C0 hP hD hS (by have e := Option.some.inj hf; rw [← e]; exact ⟨rfl, rfl⟩) dX6_man_31
    · replace hf := ie_of c8 hf
      refine lv_iload_n hx hb dX6_man_20 rfl (lv_at hl 3 rfl) ?_
      refine lv_bipush (v := 20) hx hb dX6_man_21 (by decide) ?_
      obtain ⟨r9q, hq10, hf⟩ := b1_of hf
      refine callSI (As := [.int a3, .int 20]) (rest := []) (wr := (List.flatten [(Po oo qn qk qt qx qa ts wa pf (chv qc sp)), (Cw qn cA (chv qc nc) nf0 ng0)])) C0 (c_X6_isWithin a3 20 _ hq10) lk_X6_49_X6_isWithin rfl hP hD hS (List.Perm.refl _) hl.1 rfl rfl (Nat.le_of_ble_eq_true rfl) dX6_man_23 ⟨Nat.zero_le _, Nat.zero_le _⟩ (fun r9 w H locs hw hP hD hS => ?_)
      obtain ⟨⟨e1, e2⟩, z11⟩ := hw
      replace e1 : r9 = r9q := e1
      subst e1
      subst e2
      replace hP : va_P D vwCl (List.flatten [(Po oo qn qk qt qx qa ts wa pf (chv qc sp)), (Cw qn cA (chv qc nc) nf0 ng0)]) H := hP
      replace hD : va_D A (List.flatten [(Po oo qn qk qt qx qa ts wa pf (chv qc sp)), (Cw qn cA (chv qc nc) nf0 ng0)]) := hD
      refine lv_if_ne (tgt := 32) hx hb dX6_man_26 (by decide) (fun c12 => ?_) (fun c12 => ?_)
      · replace hf := ie_of c12 hf
        refine lv_aload_n hx hb dX6_man_32 rfl (lv_at hl 0 rfl) ?_
        refine va_get (D := D) (ci := 6) (v := .ref (qn 0)) (C := RX6) (T := TX6) (N := 10) hx hb hts fw_6 hown hK hP 0 rfl rfl 0 (by decide) (hts _ m_fieldLink_P_12_P_now_LP_Cellar) (fun _ h9 => h9) rfl dX6_man_33 ?_
        refine va_get (D := D) (ci := 1) (v := .int (nf0 0)) (C := RX1) (T := TX1) (N := 16) hx hb hts fw_1 hown hK hP 1 rfl rfl 0 (by decide) (hts _ m_fieldLink_P_53_P_Cellar_men_I) (fun _ h9 => h9) rfl dX6_man_36 ?_
        refine lv_bipush (v := 6) hx hb dX6_man_39 (by decide) ?_
        refine lv_icmp_lt (tgt := 49) hx hb dX6_man_41 (by decide) (fun c13 => ?_) (fun c13 => ?_)
        · replace hf := it_of c13 hf
          refine lv_aload_n hx hb dX6_man_49 rfl (lv_at hl 0 rfl) ?_
          refine va_get (D := D) (ci := 6) (v := .ref (qn 0)) (C := RX6) (T := TX6) (N := 10) hx hb hts fw_6 hown hK hP 0 rfl rfl 0 (by decide) (hts _ m_fieldLink_P_12_P_now_LP_Cellar) (fun _ h9 => h9) rfl dX6_man_50 ?_
          refine lv_iload_n hx hb dX6_man_53 rfl (lv_at hl 1 rfl) ?_
          refine lv_iload_n hx hb dX6_man_54 rfl (lv_at hl 2 rfl) ?_
          refine lv_iload_n hx hb dX6_man_55 rfl (lv_at hl 3 rfl) ?_
          obtain ⟨r14q, nf_15, ng_16, hq17, hf⟩ := b3_of hf
          refine callVI (As := [.int a1, .int a2, .int a3]) (rest := []) (wr := segpick [(Po oo qn qk qt qx qa ts wa pf (chv qc sp)), (Cw qn cA (chv qc nc) nf0 ng0)] [0]) C0 (c_X1_add qn qc nf0 ng0 nc a1 a2 a3 _ hq17) lk_X6_57_X1_add rfl hP hD hS (seg_out [(Po oo qn qk qt qx qa ts wa pf (chv qc sp)), (Cw qn cA (chv qc nc) nf0 ng0)] [1] [0] 2 rfl (by decide)) 1 1 rfl rfl rfl hl.1 rfl rfl (Nat.le_of_ble_eq_true rfl) dX6_man_56 ⟨Nat.zero_le _, Nat.zero_le _⟩ (fun r14 w H locs hw hP hD hS => ?_)
          obtain ⟨e1, e2⟩ := hw
          replace e1 : r14 = r14q := e1
          subst e1
          subst e2
          replace hP : va_P D vwCl (List.flatten [(Po oo qn qk qt qx qa ts wa pf (chv qc sp)), (Cw qn cA (chv qc nc) nf_15 ng_16)]) H := hP.perm (seg_out [(Po oo qn qk qt qx qa ts wa pf (chv qc sp)), (Cw qn cA (chv qc nc) nf_15 ng_16)] [1] [0] 2 rfl (by decide)).symm
          replace hD : va_D A (List.flatten [(Po oo qn qk qt qx qa ts wa pf (chv qc sp)), (Cw qn cA (chv qc nc) nf_15 ng_16)]) := hD.perm (seg_out [(Po oo qn qk qt qx qa ts wa pf (chv qc sp)), (Cw qn cA (chv qc nc) nf_15 ng_16)] [1] [0] 2 rfl (by decide)).symm
          rw [hQ]
          exact ret_i C0 hP hD hS (by have e := Option.some.inj hf; rw [← e]; exact ⟨rfl, rfl⟩) dX6_man_59
        · replace hf := ie_of c13 hf
          refine lv_bipush (v := (-4)) hx hb dX6_man_44 (by decide) ?_
          refine lv_goto (tgt := 59) hx hb dX6_man_46 (by decide) ?_
          rw [hQ]
          exact ret_i C0 hP hD hS (by have e := Option.some.inj hf; rw [← e]; exact ⟨rfl, rfl⟩) dX6_man_59
      · replace hf := it_of c12 hf
        refine lv_bipush (v := (-2)) hx hb dX6_man_29 (by decide) ?_
        rw [hQ]
        exact ret_i C0 hP hD hS (by have e := Option.some.inj hf; rw [← e]; exact ⟨rfl, rfl⟩) dX6_man_31
  · replace hf := it_of c4 hf
    refine lv_iconst (v := (-1)) hx hb dX6_man_9 (by decide) ?_
    rw [hQ]
    exact ret_i C0 hP hD hS (by have e := Option.some.inj hf; rw [← e]; exact ⟨rfl, rfl⟩) dX6_man_10
-- X6 begin
noncomputable def k_X6_begin (nf : Nat → Int32) (ng : Nat → Nat → Int32) (nc : Option Nat) (tf0 : Nat → Int32) (tg0 : Nat → Nat → Int32) (tc0 : Option Nat) : Option ((Nat → Int32) × (Nat → Nat → Int32) × Option Nat) := b3 (k_X1_copyDays tf0 tg0 tc0 nf ng nc) (fun tf_1 tg_2 tc_3 => some (tf_1, tg_2, tc_3))
set_option maxHeartbeats 4000000 in
set_option maxRecDepth 100000 in
theorem c_X6_begin {l : Launch} {D : va_G} {cA : Nat → ClassId} (oo : Nat) (qn : Nat → Nat) (qk : Nat → Nat) (qt : Nat → Nat) (qx : Nat → Nat) (qa : Nat → Nat) (ts : Nat) (wa : Nat) (qc : Nat → Nat → Nat) (pf : Nat → Int32) (sp : Option Nat) (nf : Nat → Int32) (ng : Nat → Nat → Int32) (nc : Option Nat) (tf0 : Nat → Int32) (tg0 : Nat → Nat → Int32) (tc0 : Option Nat)  (o : (Nat → Int32) × (Nat → Nat → Int32) × Option Nat) (hf : k_X6_begin nf ng nc tf0 tg0 tc0 = some o) : CR l D cA yX6_begin cX6_begin 1 (some (.object "CellarPlot$Cellar")) 2 61 [.ref oo] (List.flatten [(Po oo qn qk qt qx qa ts wa pf (chv qc sp)), (Cw qn cA (chv qc nc) nf ng), (Cw qt cA (chv qc tc0) tf0 tg0)]) 0 0 (fun r w => r = (qt 0) ∧ w = (List.flatten [(Po oo qn qk qt qx qa ts wa pf (chv qc sp)), (Cw qn cA (chv qc nc) nf ng), (Cw qt cA (chv qc o.2.2) o.1 o.2.1)])) := by
  intro sz
  refine met_start (by decide) rfl ?_
  intro p e s m args below meth c ls hsz hargs C0 hname hP hD hS hl
  generalize hAe : va_A (List.flatten [(Po oo qn qk qt qx qa ts wa pf (chv qc sp)), (Cw qn cA (chv qc nc) nf ng), (Cw qt cA (chv qc tc0) tf0 tg0)]) sz = A at C0 hD hS ⊢
  obtain ⟨hx, hb, hr, hml, hown, hts, hlk, hK, hA⟩ := id C0
  replace hl : lv_has ls 1 [(0, .ref oo)] := hl
  obtain ⟨Q, hQ⟩ : ∃ Q : State → Prop, Q = QR below D A (fun r w => r = (qt 0) ∧ w = (List.flatten [(Po oo qn qk qt qx qa ts wa pf (chv qc sp)), (Cw qn cA (chv qc nc) nf ng), (Cw qt cA (chv qc o.2.2) o.1 o.2.1)])) args s 0 0 := ⟨_, rfl⟩
  refine cast (by rw [hQ]) (?_ : W p l e (RMx 2 61 0 0) s m args below meth c s.heap [] 0 0 Q (F0 m 0 ls []))
  unfold k_X6_begin at hf
  refine lv_aload_n hx hb dX6_begin_0 rfl (lv_at hl 0 rfl) ?_
  refine va_get (D := D) (ci := 6) (v := .ref (qt 0)) (C := RX6) (T := TX6) (N := 10) hx hb hts fw_6 hown hK hP 0 rfl rfl 2 (by decide) (hts _ m_fieldLink_P_21_P_trial_LP_Cellar) (fun _ h9 => h9) rfl dX6_begin_1 ?_
  refine lv_aload_n hx hb dX6_begin_4 rfl (lv_at hl 0 rfl) ?_
  refine va_get (D := D) (ci := 6) (v := .ref (qn 0)) (C := RX6) (T := TX6) (N := 10) hx hb hts fw_6 hown hK hP 0 rfl rfl 0 (by decide) (hts _ m_fieldLink_P_12_P_now_LP_Cellar) (fun _ h9 => h9) rfl dX6_begin_5 ?_
  obtain ⟨tf_1, tg_2, tc_3, hq4, hf⟩ := b3_of hf
  refine callVV (As := [.ref (qn 0)]) (rest := []) (wr := segpick [(Po oo qn qk qt qx qa ts wa pf (chv qc sp)), (Cw qn cA (chv qc nc) nf ng), (Cw qt cA (chv qc tc0) tf0 tg0)] [0]) C0 (c_X1_copyDays qt qn qc tf0 tg0 tc0 nf ng nc _ hq4) lk_X6_269_X1_copyDays rfl hP hD hS (seg_out [(Po oo qn qk qt qx qa ts wa pf (chv qc sp)), (Cw qn cA (chv qc nc) nf ng), (Cw qt cA (chv qc tc0) tf0 tg0)] [2, 1] [0] 3 rfl (by decide)) 7 1 rfl rfl rfl hl.1 rfl rfl (Nat.le_of_ble_eq_true rfl) dX6_begin_8 ⟨Nat.zero_le _, Nat.zero_le _⟩ (fun w H locs hw hP hD hS => ?_)
  have e2 := hw
  subst e2
  replace hP : va_P D vwCl (List.flatten [(Po oo qn qk qt qx qa ts wa pf (chv qc sp)), (Cw qn cA (chv qc nc) nf ng), (Cw qt cA (chv qc tc_3) tf_1 tg_2)]) H := hP.perm (seg_out [(Po oo qn qk qt qx qa ts wa pf (chv qc sp)), (Cw qn cA (chv qc nc) nf ng), (Cw qt cA (chv qc tc_3) tf_1 tg_2)] [2, 1] [0] 3 rfl (by decide)).symm
  replace hD : va_D A (List.flatten [(Po oo qn qk qt qx qa ts wa pf (chv qc sp)), (Cw qn cA (chv qc nc) nf ng), (Cw qt cA (chv qc tc_3) tf_1 tg_2)]) := hD.perm (seg_out [(Po oo qn qk qt qx qa ts wa pf (chv qc sp)), (Cw qn cA (chv qc nc) nf ng), (Cw qt cA (chv qc tc_3) tf_1 tg_2)] [2, 1] [0] 3 rfl (by decide)).symm
  refine lv_aload_n hx hb dX6_begin_11 rfl (lv_at hl 0 rfl) ?_
  refine va_get (D := D) (ci := 6) (v := .ref (qt 0)) (C := RX6) (T := TX6) (N := 10) hx hb hts fw_6 hown hK hP 0 rfl rfl 2 (by decide) (hts _ m_fieldLink_P_21_P_trial_LP_Cellar) (fun _ h9 => h9) rfl dX6_begin_12 ?_
  rw [hQ]
  exact ret_r C0 (Or.inl ⟨_, rfl⟩) hP hD hS (by have e := Option.some.inj hf; rw [← e]; exact ⟨rfl, rfl⟩) dX6_begin_15
-- X6 isAsHeard
noncomputable def k_X6_isAsHeard_27 (nhc : Int32) (nha : Nat → Int32) (nhb : Nat → Int32) (tc : Option Nat) (cn : Nat) (cf : Nat → Nat → Int32) (kc13 : Int32 → Int32 → (Nat → Int32) → (Nat → Nat → Int32) → (Nat → Int32) → Option (Int32 × (Nat → Int32) × (Nat → Nat → Int32) × (Nat → Int32))) : Nat → Int32 → Int32 → Int32 → Int32 → (Nat → Int32) → (Nat → Nat → Int32) → (Nat → Int32) → Option (Int32 × (Nat → Int32) × (Nat → Nat → Int32) × (Nat → Int32))
  | 0, _, _, _, _, _, _, _ => none
  | n + 1, x2, x3, x4, x5, tf, tg, tv => if nhc ≤ x5 then b2 (k_X1_passDay x4 1000000 tf tg tc cn cf) (fun tf_2 tg_3 => kc13 x2 (x3 + 1) tf_2 tg_3 tv) else gd x5 5 (if (nha (Int32.toNatClampNeg x5)) = x3 then gd x5 5 (if (nhb (Int32.toNatClampNeg x5)) = x4 then k_X6_isAsHeard_27 nhc nha nhb tc cn cf kc13 n x2 x3 x4 (x5 + 1) tf tg tv else some (0, tf, tg, tv)) else k_X6_isAsHeard_27 nhc nha nhb tc cn cf kc13 n x2 x3 x4 (x5 + 1) tf tg tv)
noncomputable def k_X6_isAsHeard_13 (nhc : Int32) (nha : Nat → Int32) (nhb : Nat → Int32) (tc : Option Nat) (cn : Nat) (cf : Nat → Nat → Int32) (cg : Nat → Nat → Nat → Int32) : Nat → Int32 → Int32 → (Nat → Int32) → (Nat → Nat → Int32) → (Nat → Int32) → Option (Int32 × (Nat → Int32) × (Nat → Nat → Int32) × (Nat → Int32))
  | 0, _, _, _, _, _ => none
  | n + 1, x2, x3, tf, tg, tv => if x2 < x3 then some (1, tf, tg, tv) else b2 (k_X1_sound tf tg tc tv cn cf cg) (fun r2 tv_3 => k_X6_isAsHeard_27 nhc nha nhb tc cn cf (k_X6_isAsHeard_13 nhc nha nhb tc cn cf cg n) 100000 x2 x3 r2 0 tf tg tv_3)
noncomputable def k_X6_isAsHeard (nhc : Int32) (nha : Nat → Int32) (nhb : Nat → Int32) (tf0 : Nat → Int32) (tg0 : Nat → Nat → Int32) (tc : Option Nat) (tv0 : Nat → Int32) (cn : Nat) (cf : Nat → Nat → Int32) (cg : Nat → Nat → Nat → Int32) : Option (Int32 × (Nat → Int32) × (Nat → Nat → Int32) × (Nat → Int32)) := b1 (k_X3_greatestFirst 5 nhc nha) (fun r1 => k_X6_isAsHeard_13 nhc nha nhb tc cn cf cg 100000 r1 0 tf0 tg0 tv0)
set_option maxHeartbeats 4000000 in
set_option maxRecDepth 100000 in
theorem c_X6_isAsHeard {l : Launch} {D : va_G} {cA : Nat → ClassId} (oo : Nat) (qn : Nat → Nat) (qk : Nat → Nat) (qt : Nat → Nat) (qx : Nat → Nat) (qa : Nat → Nat) (ts : Nat) (wa : Nat) (qc : Nat → Nat → Nat) (pf : Nat → Int32) (sp : Option Nat) (nf : Nat → Int32) (ng : Nat → Nat → Int32) (nc : Option Nat) (nhc : Int32) (nha : Nat → Int32) (nhb : Nat → Int32) (tf0 : Nat → Int32) (tg0 : Nat → Nat → Int32) (tc : Option Nat) (tv0 : Nat → Int32) (cn : Nat) (cf : Nat → Nat → Int32) (cg : Nat → Nat → Nat → Int32)  (o : Int32 × (Nat → Int32) × (Nat → Nat → Int32) × (Nat → Int32)) (hf : k_X6_isAsHeard nhc nha nhb tf0 tg0 tc tv0 cn cf cg = some o) : CI l D cA yX6_isAsHeard cX6_isAsHeard 6 (some .boolean) 4 96 [.ref oo, .ref (qt 0)] (List.flatten [(Po oo qn qk qt qx qa ts wa pf (chv qc sp)), (Cw qn cA (chv qc nc) nf ng), (Rw (qn 12) (qn 20) (qn 21) cA 5 nhc nha nhb), (Cw qt cA (chv qc tc) tf0 tg0), (Vw (qt 15) cA tv0), (chPool cn qc cA cf cg)]) 0 0 (fun r w => (r = o.1 ∧ w = (List.flatten [(Po oo qn qk qt qx qa ts wa pf (chv qc sp)), (Cw qn cA (chv qc nc) nf ng), (Rw (qn 12) (qn 20) (qn 21) cA 5 nhc nha nhb), (Cw qt cA (chv qc tc) o.2.1 o.2.2.1), (Vw (qt 15) cA o.2.2.2), (chPool cn qc cA cf cg)])) ∧ narrow .boolean (.int r) = .int r) := by
  intro sz
  refine met_start (by decide) rfl ?_
  intro p e s m args below meth c ls hsz hargs C0 hname hP hD hS hl
  generalize hAe : va_A (List.flatten [(Po oo qn qk qt qx qa ts wa pf (chv qc sp)), (Cw qn cA (chv qc nc) nf ng), (Rw (qn 12) (qn 20) (qn 21) cA 5 nhc nha nhb), (Cw qt cA (chv qc tc) tf0 tg0), (Vw (qt 15) cA tv0), (chPool cn qc cA cf cg)]) sz = A at C0 hD hS ⊢
  obtain ⟨hx, hb, hr, hml, hown, hts, hlk, hK, hA⟩ := id C0
  replace hl : lv_has ls 6 [(0, .ref oo), (1, .ref (qt 0))] := hl
  obtain ⟨Q, hQ⟩ : ∃ Q : State → Prop, Q = QI below D A (fun r w => (r = o.1 ∧ w = (List.flatten [(Po oo qn qk qt qx qa ts wa pf (chv qc sp)), (Cw qn cA (chv qc nc) nf ng), (Rw (qn 12) (qn 20) (qn 21) cA 5 nhc nha nhb), (Cw qt cA (chv qc tc) o.2.1 o.2.2.1), (Vw (qt 15) cA o.2.2.2), (chPool cn qc cA cf cg)])) ∧ narrow .boolean (.int r) = .int r) args s 0 0 := ⟨_, rfl⟩
  refine cast (by rw [hQ]) (?_ : W p l e (RMx 4 96 0 0) s m args below meth c s.heap [] 0 0 Q (F0 m 0 ls []))
  have J27 : ∀ (kc13 : Int32 → Int32 → (Nat → Int32) → (Nat → Nat → Int32) → (Nat → Int32) → Option (Int32 × (Nat → Int32) × (Nat → Nat → Int32) × (Nat → Int32))) (hkc13 : ∀ (x2 : Int32) (x3 : Int32) (tf : Nat → Int32) (tg : Nat → Nat → Int32) (tv : Nat → Int32), kc13 x2 x3 tf tg tv = some o → ∀ (H : Heap) (locs : List Loc), va_P D vwCl (List.flatten [(Po oo qn qk qt qx qa ts wa pf (chv qc sp)), (Cw qn cA (chv qc nc) nf ng), (Rw (qn 12) (qn 20) (qn 21) cA 5 nhc nha nhb), (Cw qt cA (chv qc tc) tf tg), (Vw (qt 15) cA tv), (chPool cn qc cA cf cg)]) H → va_D A (List.flatten [(Po oo qn qk qt qx qa ts wa pf (chv qc sp)), (Cw qn cA (chv qc nc) nf ng), (Rw (qn 12) (qn 20) (qn 21) cA 5 nhc nha nhb), (Cw qt cA (chv qc tc) tf tg), (Vw (qt 15) cA tv), (chPool cn qc cA cf cg)]) → va_S A s.heap H locs → ∀ ls : Array Slot, lv_has ls 6 [(0, .ref oo), (1, .ref (qt 0)), (2, .int x2), (3, .int x3)] → W p l e (RMx 4 96 0 0) s m args below meth c H locs 0 0 Q (F0 m 13 ls [])), ∀ n : Nat, ∀ (x2 : Int32) (x3 : Int32) (x4 : Int32) (x5 : Int32) (tf : Nat → Int32) (tg : Nat → Nat → Int32) (tv : Nat → Int32), k_X6_isAsHeard_27 nhc nha nhb tc cn cf kc13 n x2 x3 x4 x5 tf tg tv = some o → ∀ (H : Heap) (locs : List Loc), va_P D vwCl (List.flatten [(Po oo qn qk qt qx qa ts wa pf (chv qc sp)), (Cw qn cA (chv qc nc) nf ng), (Rw (qn 12) (qn 20) (qn 21) cA 5 nhc nha nhb), (Cw qt cA (chv qc tc) tf tg), (Vw (qt 15) cA tv), (chPool cn qc cA cf cg)]) H → va_D A (List.flatten [(Po oo qn qk qt qx qa ts wa pf (chv qc sp)), (Cw qn cA (chv qc nc) nf ng), (Rw (qn 12) (qn 20) (qn 21) cA 5 nhc nha nhb), (Cw qt cA (chv qc tc) tf tg), (Vw (qt 15) cA tv), (chPool cn qc cA cf cg)]) → va_S A s.heap H locs → ∀ ls : Array Slot, lv_has ls 6 [(0, .ref oo), (1, .ref (qt 0)), (2, .int x2), (3, .int x3), (4, .int x4), (5, .int x5)] → W p l e (RMx 4 96 0 0) s m args below meth c H locs 0 0 Q (F0 m 27 ls []) := by
    intro kc13 hkc13 n
    induction n with
    | zero =>
      intro x2 x3 x4 x5 tf tg tv hf
      rw [k_X6_isAsHeard_27] at hf
      cases hf
    | succ n ih =>
      intro x2 x3 x4 x5 tf tg tv hf H locs hP hD hS ls hl
      rw [k_X6_isAsHeard_27] at hf
      refine lv_iload hx hb dX6_isAsHeard_27 (lv_at hl 5 rfl) ?_
      refine lv_aload_n hx hb dX6_isAsHeard_29 rfl (lv_at hl 0 rfl) ?_
      refine va_get (D := D) (ci := 6) (v := .ref (qn 0)) (C := RX6) (T := TX6) (N := 10) hx hb hts fw_6 hown hK hP 0 rfl rfl 0 (by decide) (hts _ m_fieldLink_P_12_P_now_LP_Cellar) (fun _ h9 => h9) rfl dX6_isAsHeard_30 ?_
      refine va_get (D := D) (ci := 1) (v := .ref (qn 12)) (C := RX1) (T := TX1) (N := 16) hx hb hts fw_1 hown hK hP 1 rfl rfl 12 (by decide) (hts _ m_fieldLink_P_166_P_Cellar_heard_LP_Rows) (fun _ h9 => h9) rfl dX6_isAsHeard_33 ?_
      refine va_get (D := D) (ci := 3) (v := .int nhc) (C := RX3) (T := TX3) (N := 3) hx hb hts fw_3 hown hK hP 7 rfl rfl 0 (by decide) (hts _ m_fieldLink_P_201_P_Rows_count_I) (fun _ h9 => h9) rfl dX6_isAsHeard_36 ?_
      refine lv_icmp_ge (tgt := 85) hx hb dX6_isAsHeard_39 (by decide) (fun c1 => ?_) (fun c1 => ?_)
      · replace hf := it_of c1 hf
        refine lv_aload_n hx hb dX6_isAsHeard_85 rfl (lv_at hl 1 rfl) ?_
        refine lv_iload hx hb dX6_isAsHeard_86 (lv_at hl 4 rfl) ?_
        refine lv_ldc (v := 1000000) hx hb hown (hts _ m_constant_P_155_1000000) dX6_isAsHeard_88 ?_
        obtain ⟨tf_2, tg_3, hq4, hf⟩ := b2_of hf
        refine callVV (As := [.int x4, .int 1000000]) (rest := []) (wr := segpick [(Po oo qn qk qt qx qa ts wa pf (chv qc sp)), (Cw qn cA (chv qc nc) nf ng), (Rw (qn 12) (qn 20) (qn 21) cA 5 nhc nha nhb), (Cw qt cA (chv qc tc) tf tg), (Vw (qt 15) cA tv), (chPool cn qc cA cf cg)] [0, 1, 2, 4]) C0 (c_X1_passDay qt qc tf tg tc cn cf cg x4 1000000 _ hq4) lk_X6_272_X1_passDay rfl hP hD hS (seg_out [(Po oo qn qk qt qx qa ts wa pf (chv qc sp)), (Cw qn cA (chv qc nc) nf ng), (Rw (qn 12) (qn 20) (qn 21) cA 5 nhc nha nhb), (Cw qt cA (chv qc tc) tf tg), (Vw (qt 15) cA tv), (chPool cn qc cA cf cg)] [3, 5] [0, 1, 2, 4] 6 rfl (by decide)) 10 1 rfl rfl rfl hl.1 rfl rfl (Nat.le_of_ble_eq_true rfl) dX6_isAsHeard_90 ⟨Nat.zero_le _, Nat.zero_le _⟩ (fun w H locs hw hP hD hS => ?_)
        have e2 := hw
        subst e2
        replace hP : va_P D vwCl (List.flatten [(Po oo qn qk qt qx qa ts wa pf (chv qc sp)), (Cw qn cA (chv qc nc) nf ng), (Rw (qn 12) (qn 20) (qn 21) cA 5 nhc nha nhb), (Cw qt cA (chv qc tc) tf_2 tg_3), (Vw (qt 15) cA tv), (chPool cn qc cA cf cg)]) H := hP.perm (seg_out [(Po oo qn qk qt qx qa ts wa pf (chv qc sp)), (Cw qn cA (chv qc nc) nf ng), (Rw (qn 12) (qn 20) (qn 21) cA 5 nhc nha nhb), (Cw qt cA (chv qc tc) tf_2 tg_3), (Vw (qt 15) cA tv), (chPool cn qc cA cf cg)] [3, 5] [0, 1, 2, 4] 6 rfl (by decide)).symm
        replace hD : va_D A (List.flatten [(Po oo qn qk qt qx qa ts wa pf (chv qc sp)), (Cw qn cA (chv qc nc) nf ng), (Rw (qn 12) (qn 20) (qn 21) cA 5 nhc nha nhb), (Cw qt cA (chv qc tc) tf_2 tg_3), (Vw (qt 15) cA tv), (chPool cn qc cA cf cg)]) := hD.perm (seg_out [(Po oo qn qk qt qx qa ts wa pf (chv qc sp)), (Cw qn cA (chv qc nc) nf ng), (Rw (qn 12) (qn 20) (qn 21) cA 5 nhc nha nhb), (Cw qt cA (chv qc tc) tf_2 tg_3), (Vw (qt 15) cA tv), (chPool cn qc cA cf cg)] [3, 5] [0, 1, 2, 4] 6 rfl (by decide)).symm
        refine lv_iinc (v := (x3 + 1)) (lv' := [(3, .int (x3 + 1)), (0, .ref oo), (1, .ref (qt 0)), (2, .int x2), (4, .int x4), (5, .int x5)]) hx hb dX6_isAsHeard_93 hl (k := 3) rfl rfl (by decide) rfl (fun ls hl => ?_)
        refine lv_goto (tgt := 13) hx hb dX6_isAsHeard_96 (by decide) ?_
        exact hkc13 x2 (x3 + 1) tf_2 tg_3 tv hf _ _ hP hD hS _ (lv_sub hl [1, 2, 3, 0] rfl)
      · replace hf := ie_of c1 hf
        refine lv_aload_n hx hb dX6_isAsHeard_42 rfl (lv_at hl 0 rfl) ?_
        refine va_get (D := D) (ci := 6) (v := .ref (qn 0)) (C := RX6) (T := TX6) (N := 10) hx hb hts fw_6 hown hK hP 0 rfl rfl 0 (by decide) (hts _ m_fieldLink_P_12_P_now_LP_Cellar) (fun _ h9 => h9) rfl dX6_isAsHeard_43 ?_
        refine va_get (D := D) (ci := 1) (v := .ref (qn 12)) (C := RX1) (T := TX1) (N := 16) hx hb hts fw_1 hown hK hP 1 rfl rfl 12 (by decide) (hts _ m_fieldLink_P_166_P_Cellar_heard_LP_Rows) (fun _ h9 => h9) rfl dX6_isAsHeard_46 ?_
        refine va_get (D := D) (ci := 3) (v := .ref (qn 20)) (C := RX3) (T := TX3) (N := 3) hx hb hts fw_3 hown hK hP 7 rfl rfl 1 (by decide) (hts _ m_fieldLink_P_204_P_Rows_first_aI) (fun _ h9 => h9) rfl dX6_isAsHeard_49 ?_
        refine lv_iload hx hb dX6_isAsHeard_52 (lv_at hl 5 rfl) ?_
        obtain ⟨hi5, hf⟩ := gd_of hf
        refine va_iald hx hb hK hP 8 0 rfl rfl hi5 dX6_isAsHeard_54 ?_
        refine lv_iload_n hx hb dX6_isAsHeard_55 rfl (lv_at hl 3 rfl) ?_
        refine lv_icmp_ne (tgt := 79) hx hb dX6_isAsHeard_56 (by decide) (fun c6 => ?_) (fun c6 => ?_)
        · replace hf := ie_of c6 hf
          refine lv_iinc (v := (x5 + 1)) (lv' := [(5, .int (x5 + 1)), (0, .ref oo), (1, .ref (qt 0)), (2, .int x2), (3, .int x3), (4, .int x4)]) hx hb dX6_isAsHeard_79 hl (k := 5) rfl rfl (by decide) rfl (fun ls hl => ?_)
          refine lv_goto (tgt := 27) hx hb dX6_isAsHeard_82 (by decide) ?_
          exact ih x2 x3 x4 (x5 + 1) tf tg tv hf _ _ hP hD hS _ (lv_sub hl [1, 2, 3, 4, 5, 0] rfl)
        · replace hf := it_of c6 hf
          refine lv_aload_n hx hb dX6_isAsHeard_59 rfl (lv_at hl 0 rfl) ?_
          refine va_get (D := D) (ci := 6) (v := .ref (qn 0)) (C := RX6) (T := TX6) (N := 10) hx hb hts fw_6 hown hK hP 0 rfl rfl 0 (by decide) (hts _ m_fieldLink_P_12_P_now_LP_Cellar) (fun _ h9 => h9) rfl dX6_isAsHeard_60 ?_
          refine va_get (D := D) (ci := 1) (v := .ref (qn 12)) (C := RX1) (T := TX1) (N := 16) hx hb hts fw_1 hown hK hP 1 rfl rfl 12 (by decide) (hts _ m_fieldLink_P_166_P_Cellar_heard_LP_Rows) (fun _ h9 => h9) rfl dX6_isAsHeard_63 ?_
          refine va_get (D := D) (ci := 3) (v := .ref (qn 21)) (C := RX3) (T := TX3) (N := 3) hx hb hts fw_3 hown hK hP 7 rfl rfl 2 (by decide) (hts _ m_fieldLink_P_207_P_Rows_second_aI) (fun _ h9 => h9) rfl dX6_isAsHeard_66 ?_
          refine lv_iload hx hb dX6_isAsHeard_69 (lv_at hl 5 rfl) ?_
          obtain ⟨hi7, hf⟩ := gd_of hf
          refine va_iald hx hb hK hP 9 0 rfl rfl hi7 dX6_isAsHeard_71 ?_
          refine lv_iload hx hb dX6_isAsHeard_72 (lv_at hl 4 rfl) ?_
          refine lv_icmp_eq (tgt := 79) hx hb dX6_isAsHeard_74 (by decide) (fun c8 => ?_) (fun c8 => ?_)
          · replace hf := it_of c8 hf
            refine lv_iinc (v := (x5 + 1)) (lv' := [(5, .int (x5 + 1)), (0, .ref oo), (1, .ref (qt 0)), (2, .int x2), (3, .int x3), (4, .int x4)]) hx hb dX6_isAsHeard_79 hl (k := 5) rfl rfl (by decide) rfl (fun ls hl => ?_)
            refine lv_goto (tgt := 27) hx hb dX6_isAsHeard_82 (by decide) ?_
            exact ih x2 x3 x4 (x5 + 1) tf tg tv hf _ _ hP hD hS _ (lv_sub hl [1, 2, 3, 4, 5, 0] rfl)
          · replace hf := ie_of c8 hf
            refine lv_iconst (v := 0) hx hb dX6_isAsHeard_77 (by decide) ?_
            rw [hQ]
            exact ret_z C0 hP hD hS (by have e := Option.some.inj hf; rw [← e]; exact ⟨rfl, rfl⟩) rfl dX6_isAsHeard_78
  have J13 : ∀ n : Nat, ∀ (x2 : Int32) (x3 : Int32) (tf : Nat → Int32) (tg : Nat → Nat → Int32) (tv : Nat → Int32), k_X6_isAsHeard_13 nhc nha nhb tc cn cf cg n x2 x3 tf tg tv = some o → ∀ (H : Heap) (locs : List Loc), va_P D vwCl (List.flatten [(Po oo qn qk qt qx qa ts wa pf (chv qc sp)), (Cw qn cA (chv qc nc) nf ng), (Rw (qn 12) (qn 20) (qn 21) cA 5 nhc nha nhb), (Cw qt cA (chv qc tc) tf tg), (Vw (qt 15) cA tv), (chPool cn qc cA cf cg)]) H → va_D A (List.flatten [(Po oo qn qk qt qx qa ts wa pf (chv qc sp)), (Cw qn cA (chv qc nc) nf ng), (Rw (qn 12) (qn 20) (qn 21) cA 5 nhc nha nhb), (Cw qt cA (chv qc tc) tf tg), (Vw (qt 15) cA tv), (chPool cn qc cA cf cg)]) → va_S A s.heap H locs → ∀ ls : Array Slot, lv_has ls 6 [(0, .ref oo), (1, .ref (qt 0)), (2, .int x2), (3, .int x3)] → W p l e (RMx 4 96 0 0) s m args below meth c H locs 0 0 Q (F0 m 13 ls []) := by
    intro  n
    induction n with
    | zero =>
      intro x2 x3 tf tg tv hf
      rw [k_X6_isAsHeard_13] at hf
      cases hf
    | succ n ih =>
      intro x2 x3 tf tg tv hf H locs hP hD hS ls hl
      rw [k_X6_isAsHeard_13] at hf
      refine lv_iload_n hx hb dX6_isAsHeard_13 rfl (lv_at hl 3 rfl) ?_
      refine lv_iload_n hx hb dX6_isAsHeard_14 rfl (lv_at hl 2 rfl) ?_
      refine lv_icmp_gt (tgt := 99) hx hb dX6_isAsHeard_15 (by decide) (fun c1 => ?_) (fun c1 => ?_)
      · replace hf := it_of c1 hf
        refine lv_iconst (v := 1) hx hb dX6_isAsHeard_99 (by decide) ?_
        rw [hQ]
        exact ret_z C0 hP hD hS (by have e := Option.some.inj hf; rw [← e]; exact ⟨rfl, rfl⟩) rfl dX6_isAsHeard_100
      · replace hf := ie_of c1 hf
        refine lv_aload_n hx hb dX6_isAsHeard_18 rfl (lv_at hl 1 rfl) ?_
        obtain ⟨r2q, tv_3, hq4, hf⟩ := b2_of hf
        refine callVI (As := []) (rest := []) (wr := segpick [(Po oo qn qk qt qx qa ts wa pf (chv qc sp)), (Cw qn cA (chv qc nc) nf ng), (Rw (qn 12) (qn 20) (qn 21) cA 5 nhc nha nhb), (Cw qt cA (chv qc tc) tf tg), (Vw (qt 15) cA tv), (chPool cn qc cA cf cg)] [0, 1, 2]) C0 (c_X1_sound qt qc tf tg tc tv cn cf cg _ hq4) lk_X6_132_X1_sound rfl hP hD hS (seg_out [(Po oo qn qk qt qx qa ts wa pf (chv qc sp)), (Cw qn cA (chv qc nc) nf ng), (Rw (qn 12) (qn 20) (qn 21) cA 5 nhc nha nhb), (Cw qt cA (chv qc tc) tf tg), (Vw (qt 15) cA tv), (chPool cn qc cA cf cg)] [3, 4, 5] [0, 1, 2] 6 rfl (by decide)) 10 1 rfl rfl rfl hl.1 rfl rfl (Nat.le_of_ble_eq_true rfl) dX6_isAsHeard_19 ⟨Nat.zero_le _, Nat.zero_le _⟩ (fun r2 w H locs hw hP hD hS => ?_)
        obtain ⟨e1, e2⟩ := hw
        replace e1 : r2 = r2q := e1
        subst e1
        subst e2
        replace hP : va_P D vwCl (List.flatten [(Po oo qn qk qt qx qa ts wa pf (chv qc sp)), (Cw qn cA (chv qc nc) nf ng), (Rw (qn 12) (qn 20) (qn 21) cA 5 nhc nha nhb), (Cw qt cA (chv qc tc) tf tg), (Vw (qt 15) cA tv_3), (chPool cn qc cA cf cg)]) H := hP.perm (seg_out [(Po oo qn qk qt qx qa ts wa pf (chv qc sp)), (Cw qn cA (chv qc nc) nf ng), (Rw (qn 12) (qn 20) (qn 21) cA 5 nhc nha nhb), (Cw qt cA (chv qc tc) tf tg), (Vw (qt 15) cA tv_3), (chPool cn qc cA cf cg)] [3, 4, 5] [0, 1, 2] 6 rfl (by decide)).symm
        replace hD : va_D A (List.flatten [(Po oo qn qk qt qx qa ts wa pf (chv qc sp)), (Cw qn cA (chv qc nc) nf ng), (Rw (qn 12) (qn 20) (qn 21) cA 5 nhc nha nhb), (Cw qt cA (chv qc tc) tf tg), (Vw (qt 15) cA tv_3), (chPool cn qc cA cf cg)]) := hD.perm (seg_out [(Po oo qn qk qt qx qa ts wa pf (chv qc sp)), (Cw qn cA (chv qc nc) nf ng), (Rw (qn 12) (qn 20) (qn 21) cA 5 nhc nha nhb), (Cw qt cA (chv qc tc) tf tg), (Vw (qt 15) cA tv_3), (chPool cn qc cA cf cg)] [3, 4, 5] [0, 1, 2] 6 rfl (by decide)).symm
        refine lv_istore (lv' := [(4, .int r2), (0, .ref oo), (1, .ref (qt 0)), (2, .int x2), (3, .int x3)]) hx hb dX6_isAsHeard_22 hl (by decide) rfl (fun ls hl => ?_)
        refine lv_iconst (v := 0) hx hb dX6_isAsHeard_24 (by decide) ?_
        refine lv_istore (lv' := [(5, .int 0), (4, .int r2), (0, .ref oo), (1, .ref (qt 0)), (2, .int x2), (3, .int x3)]) hx hb dX6_isAsHeard_25 hl (by decide) rfl (fun ls hl => ?_)
        exact J27 _ ih 100000 x2 x3 r2 0 tf tg tv_3 hf _ _ hP hD hS _ (lv_sub hl [2, 3, 4, 5, 1, 0] rfl)
  unfold k_X6_isAsHeard at hf
  refine lv_aload_n hx hb dX6_isAsHeard_0 rfl (lv_at hl 0 rfl) ?_
  refine va_get (D := D) (ci := 6) (v := .ref (qn 0)) (C := RX6) (T := TX6) (N := 10) hx hb hts fw_6 hown hK hP 0 rfl rfl 0 (by decide) (hts _ m_fieldLink_P_12_P_now_LP_Cellar) (fun _ h9 => h9) rfl dX6_isAsHeard_1 ?_
  refine va_get (D := D) (ci := 1) (v := .ref (qn 12)) (C := RX1) (T := TX1) (N := 16) hx hb hts fw_1 hown hK hP 1 rfl rfl 12 (by decide) (hts _ m_fieldLink_P_166_P_Cellar_heard_LP_Rows) (fun _ h9 => h9) rfl dX6_isAsHeard_4 ?_
  obtain ⟨r1q, hq2, hf⟩ := b1_of hf
  refine callVI (As := []) (rest := []) (wr := segpick [(Po oo qn qk qt qx qa ts wa pf (chv qc sp)), (Cw qn cA (chv qc nc) nf ng), (Rw (qn 12) (qn 20) (qn 21) cA 5 nhc nha nhb), (Cw qt cA (chv qc tc) tf0 tg0), (Vw (qt 15) cA tv0), (chPool cn qc cA cf cg)] [0, 1, 3, 4, 5]) C0 (c_X3_greatestFirst (qn 12) (qn 20) (qn 21) 5 nhc nha nhb _ hq2) lk_X6_288_X3_greatestFirst rfl hP hD hS (seg_out [(Po oo qn qk qt qx qa ts wa pf (chv qc sp)), (Cw qn cA (chv qc nc) nf ng), (Rw (qn 12) (qn 20) (qn 21) cA 5 nhc nha nhb), (Cw qt cA (chv qc tc) tf0 tg0), (Vw (qt 15) cA tv0), (chPool cn qc cA cf cg)] [2] [0, 1, 3, 4, 5] 6 rfl (by decide)) 7 3 rfl rfl rfl hl.1 rfl rfl (Nat.le_of_ble_eq_true rfl) dX6_isAsHeard_7 ⟨Nat.zero_le _, Nat.zero_le _⟩ (fun r1 w H locs hw hP hD hS => ?_)
  obtain ⟨e1, e2⟩ := hw
  replace e1 : r1 = r1q := e1
  subst e1
  subst e2
  replace hP : va_P D vwCl (List.flatten [(Po oo qn qk qt qx qa ts wa pf (chv qc sp)), (Cw qn cA (chv qc nc) nf ng), (Rw (qn 12) (qn 20) (qn 21) cA 5 nhc nha nhb), (Cw qt cA (chv qc tc) tf0 tg0), (Vw (qt 15) cA tv0), (chPool cn qc cA cf cg)]) H := hP.perm (seg_out [(Po oo qn qk qt qx qa ts wa pf (chv qc sp)), (Cw qn cA (chv qc nc) nf ng), (Rw (qn 12) (qn 20) (qn 21) cA 5 nhc nha nhb), (Cw qt cA (chv qc tc) tf0 tg0), (Vw (qt 15) cA tv0), (chPool cn qc cA cf cg)] [2] [0, 1, 3, 4, 5] 6 rfl (by decide)).symm
  replace hD : va_D A (List.flatten [(Po oo qn qk qt qx qa ts wa pf (chv qc sp)), (Cw qn cA (chv qc nc) nf ng), (Rw (qn 12) (qn 20) (qn 21) cA 5 nhc nha nhb), (Cw qt cA (chv qc tc) tf0 tg0), (Vw (qt 15) cA tv0), (chPool cn qc cA cf cg)]) := hD.perm (seg_out [(Po oo qn qk qt qx qa ts wa pf (chv qc sp)), (Cw qn cA (chv qc nc) nf ng), (Rw (qn 12) (qn 20) (qn 21) cA 5 nhc nha nhb), (Cw qt cA (chv qc tc) tf0 tg0), (Vw (qt 15) cA tv0), (chPool cn qc cA cf cg)] [2] [0, 1, 3, 4, 5] 6 rfl (by decide)).symm
  refine lv_istore_n (lv' := [(2, .int r1), (0, .ref oo), (1, .ref (qt 0))]) hx hb dX6_isAsHeard_10 rfl hl (by decide) rfl (fun ls hl => ?_)
  refine lv_iconst (v := 0) hx hb dX6_isAsHeard_11 (by decide) ?_
  refine lv_istore_n (lv' := [(3, .int 0), (2, .int r1), (0, .ref oo), (1, .ref (qt 0))]) hx hb dX6_isAsHeard_12 rfl hl (by decide) rfl (fun ls hl => ?_)
  exact J13 100000 r1 0 tf0 tg0 tv0 hf _ _ hP hD hS _ (lv_sub hl [2, 3, 1, 0] rfl)
-- X6 likelyNerves
noncomputable def k_X6_likelyNerves_4 (a1 : Int32) (nf : Nat → Int32) (ng : Nat → Nat → Int32) (nc : Option Nat) (nhc : Int32) (nha : Nat → Int32) (nhb : Nat → Int32) (cn : Nat) (cf : Nat → Nat → Int32) (cg : Nat → Nat → Nat → Int32) : Nat → Int32 → Int32 → (Nat → Int32) → (Nat → Nat → Int32) → Option Nat → (Nat → Int32) → Option (Int32 × (Nat → Int32) × (Nat → Nat → Int32) × Option Nat × (Nat → Int32))
  | 0, _, _, _, _, _, _ => none
  | n + 1, x2, x3, tf, tg, tc, tv => if 20 < x3 then some (x2, tf, tg, tc, tv) else b3 (k_X6_begin nf ng nc tf tg tc) (fun tf_2 tg_3 tc_4 => gd a1 6 (b4 (k_X6_isAsHeard nhc nha nhb tf_2 (va_up tg_3 9 (upd (tg_3 9) (Int32.toNatClampNeg a1) x3)) tc_4 tv cn cf cg) (fun r7 tf_8 tg_9 tv_10 => if r7 = 0 then k_X6_likelyNerves_4 a1 nf ng nc nhc nha nhb cn cf cg n x2 (x3 + 1) tf_8 tg_9 tc_4 tv_10 else k_X6_likelyNerves_4 a1 nf ng nc nhc nha nhb cn cf cg n (x2 ||| (1 <<< (x3 &&& 31))) (x3 + 1) tf_8 tg_9 tc_4 tv_10)))
noncomputable def k_X6_likelyNerves (a1 : Int32) (nf : Nat → Int32) (ng : Nat → Nat → Int32) (nc : Option Nat) (nhc : Int32) (nha : Nat → Int32) (nhb : Nat → Int32) (tf0 : Nat → Int32) (tg0 : Nat → Nat → Int32) (tc0 : Option Nat) (tv0 : Nat → Int32) (cn : Nat) (cf : Nat → Nat → Int32) (cg : Nat → Nat → Nat → Int32) : Option (Int32 × (Nat → Int32) × (Nat → Nat → Int32) × Option Nat × (Nat → Int32)) := k_X6_likelyNerves_4 a1 nf ng nc nhc nha nhb cn cf cg 100000 0 0 tf0 tg0 tc0 tv0
set_option maxHeartbeats 4000000 in
set_option maxRecDepth 100000 in
theorem c_X6_likelyNerves {l : Launch} {D : va_G} {cA : Nat → ClassId} (oo : Nat) (qn : Nat → Nat) (qk : Nat → Nat) (qt : Nat → Nat) (qx : Nat → Nat) (qa : Nat → Nat) (ts : Nat) (wa : Nat) (qc : Nat → Nat → Nat) (pf : Nat → Int32) (sp : Option Nat) (nf : Nat → Int32) (ng : Nat → Nat → Int32) (nc : Option Nat) (nhc : Int32) (nha : Nat → Int32) (nhb : Nat → Int32) (tf0 : Nat → Int32) (tg0 : Nat → Nat → Int32) (tc0 : Option Nat) (tv0 : Nat → Int32) (cn : Nat) (cf : Nat → Nat → Int32) (cg : Nat → Nat → Nat → Int32) (a1 : Int32) (o : Int32 × (Nat → Int32) × (Nat → Nat → Int32) × Option Nat × (Nat → Int32)) (hf : k_X6_likelyNerves a1 nf ng nc nhc nha nhb tf0 tg0 tc0 tv0 cn cf cg = some o) : CI l D cA yX6_likelyNerves cX6_likelyNerves 5 (some .int) 5 121 [.ref oo, .int a1] (List.flatten [(Po oo qn qk qt qx qa ts wa pf (chv qc sp)), (Cw qn cA (chv qc nc) nf ng), (Rw (qn 12) (qn 20) (qn 21) cA 5 nhc nha nhb), (Cw qt cA (chv qc tc0) tf0 tg0), (Vw (qt 15) cA tv0), (chPool cn qc cA cf cg)]) 0 0 (fun r w => r = o.1 ∧ w = (List.flatten [(Po oo qn qk qt qx qa ts wa pf (chv qc sp)), (Cw qn cA (chv qc nc) nf ng), (Rw (qn 12) (qn 20) (qn 21) cA 5 nhc nha nhb), (Cw qt cA (chv qc o.2.2.2.1) o.2.1 o.2.2.1), (Vw (qt 15) cA o.2.2.2.2), (chPool cn qc cA cf cg)])) := by
  intro sz
  refine met_start (by decide) rfl ?_
  intro p e s m args below meth c ls hsz hargs C0 hname hP hD hS hl
  generalize hAe : va_A (List.flatten [(Po oo qn qk qt qx qa ts wa pf (chv qc sp)), (Cw qn cA (chv qc nc) nf ng), (Rw (qn 12) (qn 20) (qn 21) cA 5 nhc nha nhb), (Cw qt cA (chv qc tc0) tf0 tg0), (Vw (qt 15) cA tv0), (chPool cn qc cA cf cg)]) sz = A at C0 hD hS ⊢
  obtain ⟨hx, hb, hr, hml, hown, hts, hlk, hK, hA⟩ := id C0
  replace hl : lv_has ls 5 [(0, .ref oo), (1, .int a1)] := hl
  obtain ⟨Q, hQ⟩ : ∃ Q : State → Prop, Q = QI below D A (fun r w => r = o.1 ∧ w = (List.flatten [(Po oo qn qk qt qx qa ts wa pf (chv qc sp)), (Cw qn cA (chv qc nc) nf ng), (Rw (qn 12) (qn 20) (qn 21) cA 5 nhc nha nhb), (Cw qt cA (chv qc o.2.2.2.1) o.2.1 o.2.2.1), (Vw (qt 15) cA o.2.2.2.2), (chPool cn qc cA cf cg)])) args s 0 0 := ⟨_, rfl⟩
  refine cast (by rw [hQ]) (?_ : W p l e (RMx 5 121 0 0) s m args below meth c s.heap [] 0 0 Q (F0 m 0 ls []))
  have J4 : ∀ n : Nat, ∀ (x2 : Int32) (x3 : Int32) (tf : Nat → Int32) (tg : Nat → Nat → Int32) (tc : Option Nat) (tv : Nat → Int32), k_X6_likelyNerves_4 a1 nf ng nc nhc nha nhb cn cf cg n x2 x3 tf tg tc tv = some o → ∀ (H : Heap) (locs : List Loc), va_P D vwCl (List.flatten [(Po oo qn qk qt qx qa ts wa pf (chv qc sp)), (Cw qn cA (chv qc nc) nf ng), (Rw (qn 12) (qn 20) (qn 21) cA 5 nhc nha nhb), (Cw qt cA (chv qc tc) tf tg), (Vw (qt 15) cA tv), (chPool cn qc cA cf cg)]) H → va_D A (List.flatten [(Po oo qn qk qt qx qa ts wa pf (chv qc sp)), (Cw qn cA (chv qc nc) nf ng), (Rw (qn 12) (qn 20) (qn 21) cA 5 nhc nha nhb), (Cw qt cA (chv qc tc) tf tg), (Vw (qt 15) cA tv), (chPool cn qc cA cf cg)]) → va_S A s.heap H locs → ∀ ls : Array Slot, lv_has ls 5 [(0, .ref oo), (1, .int a1), (2, .int x2), (3, .int x3)] → W p l e (RMx 5 121 0 0) s m args below meth c H locs 0 0 Q (F0 m 4 ls []) := by
    intro  n
    induction n with
    | zero =>
      intro x2 x3 tf tg tc tv hf
      rw [k_X6_likelyNerves_4] at hf
      cases hf
    | succ n ih =>
      intro x2 x3 tf tg tc tv hf H locs hP hD hS ls hl
      rw [k_X6_likelyNerves_4] at hf
      refine lv_iload_n hx hb dX6_likelyNerves_4 rfl (lv_at hl 3 rfl) ?_
      refine lv_bipush (v := 20) hx hb dX6_likelyNerves_5 (by decide) ?_
      refine lv_icmp_gt (tgt := 45) hx hb dX6_likelyNerves_7 (by decide) (fun c1 => ?_) (fun c1 => ?_)
      · replace hf := it_of c1 hf
        refine lv_iload_n hx hb dX6_likelyNerves_45 rfl (lv_at hl 2 rfl) ?_
        rw [hQ]
        exact ret_i C0 hP hD hS (by have e := Option.some.inj hf; rw [← e]; exact ⟨rfl, rfl⟩) dX6_likelyNerves_46
      · replace hf := ie_of c1 hf
        refine lv_aload_n hx hb dX6_likelyNerves_10 rfl (lv_at hl 0 rfl) ?_
        obtain ⟨tf_2, tg_3, tc_4, hq5, hf⟩ := b3_of hf
        refine callVR (As := []) (rest := []) (wr := segpick [(Po oo qn qk qt qx qa ts wa pf (chv qc sp)), (Cw qn cA (chv qc nc) nf ng), (Rw (qn 12) (qn 20) (qn 21) cA 5 nhc nha nhb), (Cw qt cA (chv qc tc) tf tg), (Vw (qt 15) cA tv), (chPool cn qc cA cf cg)] [2, 4, 5]) C0 (c_X6_begin oo qn qk qt qx qa ts wa qc pf sp nf ng nc tf tg tc _ hq5) lk_X6_151_X6_begin rfl hP hD hS (seg_out [(Po oo qn qk qt qx qa ts wa pf (chv qc sp)), (Cw qn cA (chv qc nc) nf ng), (Rw (qn 12) (qn 20) (qn 21) cA 5 nhc nha nhb), (Cw qt cA (chv qc tc) tf tg), (Vw (qt 15) cA tv), (chPool cn qc cA cf cg)] [0, 1, 3] [2, 4, 5] 6 rfl (by decide)) 0 6 rfl rfl rfl hl.1 rfl rfl (Nat.le_of_ble_eq_true rfl) dX6_likelyNerves_11 ⟨Nat.zero_le _, Nat.zero_le _⟩ (fun rhq5_ w H locs hw hP hD hS => ?_)
        obtain ⟨e1, e2⟩ := hw
        subst e1
        subst e2
        replace hP : va_P D vwCl (List.flatten [(Po oo qn qk qt qx qa ts wa pf (chv qc sp)), (Cw qn cA (chv qc nc) nf ng), (Rw (qn 12) (qn 20) (qn 21) cA 5 nhc nha nhb), (Cw qt cA (chv qc tc_4) tf_2 tg_3), (Vw (qt 15) cA tv), (chPool cn qc cA cf cg)]) H := hP.perm (seg_out [(Po oo qn qk qt qx qa ts wa pf (chv qc sp)), (Cw qn cA (chv qc nc) nf ng), (Rw (qn 12) (qn 20) (qn 21) cA 5 nhc nha nhb), (Cw qt cA (chv qc tc_4) tf_2 tg_3), (Vw (qt 15) cA tv), (chPool cn qc cA cf cg)] [0, 1, 3] [2, 4, 5] 6 rfl (by decide)).symm
        replace hD : va_D A (List.flatten [(Po oo qn qk qt qx qa ts wa pf (chv qc sp)), (Cw qn cA (chv qc nc) nf ng), (Rw (qn 12) (qn 20) (qn 21) cA 5 nhc nha nhb), (Cw qt cA (chv qc tc_4) tf_2 tg_3), (Vw (qt 15) cA tv), (chPool cn qc cA cf cg)]) := hD.perm (seg_out [(Po oo qn qk qt qx qa ts wa pf (chv qc sp)), (Cw qn cA (chv qc nc) nf ng), (Rw (qn 12) (qn 20) (qn 21) cA 5 nhc nha nhb), (Cw qt cA (chv qc tc_4) tf_2 tg_3), (Vw (qt 15) cA tv), (chPool cn qc cA cf cg)] [0, 1, 3] [2, 4, 5] 6 rfl (by decide)).symm
        refine lv_astore (lv' := [(4, .ref (qt 0)), (0, .ref oo), (1, .int a1), (2, .int x2), (3, .int x3)]) hx hb dX6_likelyNerves_14 hl (by decide) rfl (fun ls hl => ?_)
        refine lv_aload hx hb dX6_likelyNerves_16 (lv_at hl 0 rfl) ?_
        refine va_get (D := D) (ci := 1) (v := .ref (qt 9)) (C := RX1) (T := TX1) (N := 16) hx hb hts fw_1 hown hK hP 10 rfl rfl 9 (by decide) (hts _ m_fieldLink_P_71_P_Cellar_nerve_aI) (fun _ h9 => h9) rfl dX6_likelyNerves_18 ?_
        refine lv_iload_n hx hb dX6_likelyNerves_21 rfl (lv_at hl 2 rfl) ?_
        refine lv_iload_n hx hb dX6_likelyNerves_22 rfl (lv_at hl 4 rfl) ?_
        obtain ⟨hi6, hf⟩ := gd_of hf
        refine va_iast hx hb hK hP hD hS 13 0 rfl rfl hi6 dX6_likelyNerves_23 (fun H locs hP hD hS => ?_)
        replace hP : va_P D vwCl (List.flatten [(Po oo qn qk qt qx qa ts wa pf (chv qc sp)), (Cw qn cA (chv qc nc) nf ng), (Rw (qn 12) (qn 20) (qn 21) cA 5 nhc nha nhb), (Cw qt cA (chv qc tc_4) tf_2 (va_up tg_3 9 (upd (tg_3 9) (Int32.toNatClampNeg a1) x3))), (Vw (qt 15) cA tv), (chPool cn qc cA cf cg)]) H := hP
        replace hD : va_D A (List.flatten [(Po oo qn qk qt qx qa ts wa pf (chv qc sp)), (Cw qn cA (chv qc nc) nf ng), (Rw (qn 12) (qn 20) (qn 21) cA 5 nhc nha nhb), (Cw qt cA (chv qc tc_4) tf_2 (va_up tg_3 9 (upd (tg_3 9) (Int32.toNatClampNeg a1) x3))), (Vw (qt 15) cA tv), (chPool cn qc cA cf cg)]) := hD
        refine lv_aload_n hx hb dX6_likelyNerves_24 rfl (lv_at hl 1 rfl) ?_
        refine lv_aload hx hb dX6_likelyNerves_25 (lv_at hl 0 rfl) ?_
        obtain ⟨r7q, tf_8, tg_9, tv_10, hq11, hf⟩ := b4_of hf
        refine callVI (As := [.ref (qt 0)]) (rest := []) (wr := []) C0 (c_X6_isAsHeard oo qn qk qt qx qa ts wa qc pf sp nf ng nc nhc nha nhb tf_2 (va_up tg_3 9 (upd (tg_3 9) (Int32.toNatClampNeg a1) x3)) tc_4 tv cn cf cg _ hq11) lk_X6_284_X6_isAsHeard rfl hP hD hS perm_nil 0 6 rfl rfl rfl hl.1 rfl rfl (Nat.le_of_ble_eq_true rfl) dX6_likelyNerves_27 ⟨Nat.zero_le _, Nat.zero_le _⟩ (fun r7 w H locs hw hP hD hS => ?_)
        obtain ⟨⟨e1, e2⟩, z12⟩ := hw
        replace e1 : r7 = r7q := e1
        subst e1
        subst e2
        replace hP : va_P D vwCl (List.flatten [(Po oo qn qk qt qx qa ts wa pf (chv qc sp)), (Cw qn cA (chv qc nc) nf ng), (Rw (qn 12) (qn 20) (qn 21) cA 5 nhc nha nhb), (Cw qt cA (chv qc tc_4) tf_8 tg_9), (Vw (qt 15) cA tv_10), (chPool cn qc cA cf cg)]) H := hP.nil
        replace hD : va_D A (List.flatten [(Po oo qn qk qt qx qa ts wa pf (chv qc sp)), (Cw qn cA (chv qc nc) nf ng), (Rw (qn 12) (qn 20) (qn 21) cA 5 nhc nha nhb), (Cw qt cA (chv qc tc_4) tf_8 tg_9), (Vw (qt 15) cA tv_10), (chPool cn qc cA cf cg)]) := hD.nil
        refine lv_if_eq (tgt := 39) hx hb dX6_likelyNerves_30 (by decide) (fun c13 => ?_) (fun c13 => ?_)
        · replace hf := it_of c13 hf
          refine lv_iinc (v := (x3 + 1)) (lv' := [(3, .int (x3 + 1)), (4, .ref (qt 0)), (0, .ref oo), (1, .int a1), (2, .int x2)]) hx hb dX6_likelyNerves_39 hl (k := 4) rfl rfl (by decide) rfl (fun ls hl => ?_)
          refine lv_goto (tgt := 4) hx hb dX6_likelyNerves_42 (by decide) ?_
          exact ih x2 (x3 + 1) tf_8 tg_9 tc_4 tv_10 hf _ _ hP hD hS _ (lv_sub hl [2, 3, 4, 0] rfl)
        · replace hf := ie_of c13 hf
          refine lv_iload_n hx hb dX6_likelyNerves_33 rfl (lv_at hl 3 rfl) ?_
          refine lv_iconst (v := 1) hx hb dX6_likelyNerves_34 (by decide) ?_
          refine lv_iload_n hx hb dX6_likelyNerves_35 rfl (lv_at hl 4 rfl) ?_
          refine lv_ishl hx hb dX6_likelyNerves_36 ?_
          refine lv_ior hx hb dX6_likelyNerves_37 ?_
          refine lv_istore_n (lv' := [(2, .int (x2 ||| (1 <<< (x3 &&& 31)))), (4, .ref (qt 0)), (0, .ref oo), (1, .int a1), (3, .int x3)]) hx hb dX6_likelyNerves_38 rfl hl (by decide) rfl (fun ls hl => ?_)
          refine lv_iinc (v := (x3 + 1)) (lv' := [(3, .int (x3 + 1)), (2, .int (x2 ||| (1 <<< (x3 &&& 31)))), (4, .ref (qt 0)), (0, .ref oo), (1, .int a1)]) hx hb dX6_likelyNerves_39 hl (k := 4) rfl rfl (by decide) rfl (fun ls hl => ?_)
          refine lv_goto (tgt := 4) hx hb dX6_likelyNerves_42 (by decide) ?_
          exact ih (x2 ||| (1 <<< (x3 &&& 31))) (x3 + 1) tf_8 tg_9 tc_4 tv_10 hf _ _ hP hD hS _ (lv_sub hl [3, 4, 1, 0] rfl)
  unfold k_X6_likelyNerves at hf
  refine lv_iconst (v := 0) hx hb dX6_likelyNerves_0 (by decide) ?_
  refine lv_istore_n (lv' := [(2, .int 0), (0, .ref oo), (1, .int a1)]) hx hb dX6_likelyNerves_1 rfl hl (by decide) rfl (fun ls hl => ?_)
  refine lv_iconst (v := 0) hx hb dX6_likelyNerves_2 (by decide) ?_
  refine lv_istore_n (lv' := [(3, .int 0), (2, .int 0), (0, .ref oo), (1, .int a1)]) hx hb dX6_likelyNerves_3 rfl hl (by decide) rfl (fun ls hl => ?_)
  exact J4 100000 0 0 tf0 tg0 tc0 tv0 hf _ _ hP hD hS _ (lv_sub hl [2, 3, 1, 0] rfl)
-- X6 of
noncomputable def k_X6_of (a1 : Int32) (a2 : Int32) (nf : Nat → Int32) (ng : Nat → Nat → Int32) (nc : Option Nat) (nv0 : Nat → Int32) (nhc : Int32) (nha : Nat → Int32) (nhb : Nat → Int32) (tf0 : Nat → Int32) (tg0 : Nat → Nat → Int32) (tc0 : Option Nat) (tv0 : Nat → Int32) (cn : Nat) (cf : Nat → Nat → Int32) (cg : Nat → Nat → Nat → Int32) : Option (Int32 × (Nat → Int32) × (Nat → Int32) × (Nat → Nat → Int32) × Option Nat × (Nat → Int32)) := b1 (k_X1_has a1 nf) (fun r1 => if r1 = 0 then some ((-10001), nv0, tf0, tg0, tc0, tv0) else if a2 = 0 then gd a1 6 (some (((ng 7) (Int32.toNatClampNeg a1)), nv0, tf0, tg0, tc0, tv0)) else if a2 = 1 then gd a1 6 (some (((ng 8) (Int32.toNatClampNeg a1)), nv0, tf0, tg0, tc0, tv0)) else if a2 = 2 then gd a1 6 (some (((ng 9) (Int32.toNatClampNeg a1)), nv0, tf0, tg0, tc0, tv0)) else if a2 = 3 then b1 (k_X1_isUp a1 nf) (fun r12 => if r12 = 0 then some (0, nv0, tf0, tg0, tc0, tv0) else some (1, nv0, tf0, tg0, tc0, tv0)) else if a2 = 4 then gd a1 6 (some (((ng 10) (Int32.toNatClampNeg a1)), nv0, tf0, tg0, tc0, tv0)) else if a2 = 5 then b2 (k_X1_noise a1 nf ng nc nv0 cn cf cg) (fun r19 nv_20 => some (r19, nv_20, tf0, tg0, tc0, tv0)) else if a2 = 6 then b5 (k_X6_likelyNerves a1 nf ng nc nhc nha nhb tf0 tg0 tc0 tv0 cn cf cg) (fun r23 tf_24 tg_25 tc_26 tv_27 => some (r23, nv0, tf_24, tg_25, tc_26, tv_27)) else some ((-10001), nv0, tf0, tg0, tc0, tv0))
set_option maxHeartbeats 4000000 in
set_option maxRecDepth 100000 in
theorem c_X6_of {l : Launch} {D : va_G} {cA : Nat → ClassId} (oo : Nat) (qn : Nat → Nat) (qk : Nat → Nat) (qt : Nat → Nat) (qx : Nat → Nat) (qa : Nat → Nat) (ts : Nat) (wa : Nat) (qc : Nat → Nat → Nat) (pf : Nat → Int32) (sp : Option Nat) (nf : Nat → Int32) (ng : Nat → Nat → Int32) (nc : Option Nat) (nv0 : Nat → Int32) (nhc : Int32) (nha : Nat → Int32) (nhb : Nat → Int32) (tf0 : Nat → Int32) (tg0 : Nat → Nat → Int32) (tc0 : Option Nat) (tv0 : Nat → Int32) (cn : Nat) (cf : Nat → Nat → Int32) (cg : Nat → Nat → Nat → Int32) (a1 : Int32) (a2 : Int32) (o : Int32 × (Nat → Int32) × (Nat → Int32) × (Nat → Nat → Int32) × Option Nat × (Nat → Int32)) (hf : k_X6_of a1 a2 nf ng nc nv0 nhc nha nhb tf0 tg0 tc0 tv0 cn cf cg = some o) : CI l D cA yX6_of cX6_of 3 (some .int) 6 145 [.ref oo, .int a1, .int a2] (List.flatten [(Po oo qn qk qt qx qa ts wa pf (chv qc sp)), (Cw qn cA (chv qc nc) nf ng), (Vw (qn 15) cA nv0), (Rw (qn 12) (qn 20) (qn 21) cA 5 nhc nha nhb), (Cw qt cA (chv qc tc0) tf0 tg0), (Vw (qt 15) cA tv0), (chPool cn qc cA cf cg)]) 0 0 (fun r w => r = o.1 ∧ w = (List.flatten [(Po oo qn qk qt qx qa ts wa pf (chv qc sp)), (Cw qn cA (chv qc nc) nf ng), (Vw (qn 15) cA o.2.1), (Rw (qn 12) (qn 20) (qn 21) cA 5 nhc nha nhb), (Cw qt cA (chv qc o.2.2.2.2.1) o.2.2.1 o.2.2.2.1), (Vw (qt 15) cA o.2.2.2.2.2), (chPool cn qc cA cf cg)])) := by
  intro sz
  refine met_start (by decide) rfl ?_
  intro p e s m args below meth c ls hsz hargs C0 hname hP hD hS hl
  generalize hAe : va_A (List.flatten [(Po oo qn qk qt qx qa ts wa pf (chv qc sp)), (Cw qn cA (chv qc nc) nf ng), (Vw (qn 15) cA nv0), (Rw (qn 12) (qn 20) (qn 21) cA 5 nhc nha nhb), (Cw qt cA (chv qc tc0) tf0 tg0), (Vw (qt 15) cA tv0), (chPool cn qc cA cf cg)]) sz = A at C0 hD hS ⊢
  obtain ⟨hx, hb, hr, hml, hown, hts, hlk, hK, hA⟩ := id C0
  replace hl : lv_has ls 3 [(0, .ref oo), (1, .int a1), (2, .int a2)] := hl
  obtain ⟨Q, hQ⟩ : ∃ Q : State → Prop, Q = QI below D A (fun r w => r = o.1 ∧ w = (List.flatten [(Po oo qn qk qt qx qa ts wa pf (chv qc sp)), (Cw qn cA (chv qc nc) nf ng), (Vw (qn 15) cA o.2.1), (Rw (qn 12) (qn 20) (qn 21) cA 5 nhc nha nhb), (Cw qt cA (chv qc o.2.2.2.2.1) o.2.2.1 o.2.2.2.1), (Vw (qt 15) cA o.2.2.2.2.2), (chPool cn qc cA cf cg)])) args s 0 0 := ⟨_, rfl⟩
  refine cast (by rw [hQ]) (?_ : W p l e (RMx 6 145 0 0) s m args below meth c s.heap [] 0 0 Q (F0 m 0 ls []))
  unfold k_X6_of at hf
  refine lv_aload_n hx hb dX6_of_0 rfl (lv_at hl 0 rfl) ?_
  refine va_get (D := D) (ci := 6) (v := .ref (qn 0)) (C := RX6) (T := TX6) (N := 10) hx hb hts fw_6 hown hK hP 0 rfl rfl 0 (by decide) (hts _ m_fieldLink_P_12_P_now_LP_Cellar) (fun _ h9 => h9) rfl dX6_of_1 ?_
  refine lv_iload_n hx hb dX6_of_4 rfl (lv_at hl 1 rfl) ?_
  obtain ⟨r1q, hq2, hf⟩ := b1_of hf
  refine callVI (As := [.int a1]) (rest := []) (wr := segpick [(Po oo qn qk qt qx qa ts wa pf (chv qc sp)), (Cw qn cA (chv qc nc) nf ng), (Vw (qn 15) cA nv0), (Rw (qn 12) (qn 20) (qn 21) cA 5 nhc nha nhb), (Cw qt cA (chv qc tc0) tf0 tg0), (Vw (qt 15) cA tv0), (chPool cn qc cA cf cg)] [0, 2, 3, 4, 5, 6]) C0 (c_X1_has qn qc nf ng nc a1 _ hq2) lk_X6_61_X1_has rfl hP hD hS (seg_out [(Po oo qn qk qt qx qa ts wa pf (chv qc sp)), (Cw qn cA (chv qc nc) nf ng), (Vw (qn 15) cA nv0), (Rw (qn 12) (qn 20) (qn 21) cA 5 nhc nha nhb), (Cw qt cA (chv qc tc0) tf0 tg0), (Vw (qt 15) cA tv0), (chPool cn qc cA cf cg)] [1] [0, 2, 3, 4, 5, 6] 7 rfl (by decide)) 1 1 rfl rfl rfl hl.1 rfl rfl (Nat.le_of_ble_eq_true rfl) dX6_of_5 ⟨Nat.zero_le _, Nat.zero_le _⟩ (fun r1 w H locs hw hP hD hS => ?_)
  obtain ⟨⟨e1, e2⟩, z3⟩ := hw
  replace e1 : r1 = r1q := e1
  subst e1
  subst e2
  replace hP : va_P D vwCl (List.flatten [(Po oo qn qk qt qx qa ts wa pf (chv qc sp)), (Cw qn cA (chv qc nc) nf ng), (Vw (qn 15) cA nv0), (Rw (qn 12) (qn 20) (qn 21) cA 5 nhc nha nhb), (Cw qt cA (chv qc tc0) tf0 tg0), (Vw (qt 15) cA tv0), (chPool cn qc cA cf cg)]) H := hP.perm (seg_out [(Po oo qn qk qt qx qa ts wa pf (chv qc sp)), (Cw qn cA (chv qc nc) nf ng), (Vw (qn 15) cA nv0), (Rw (qn 12) (qn 20) (qn 21) cA 5 nhc nha nhb), (Cw qt cA (chv qc tc0) tf0 tg0), (Vw (qt 15) cA tv0), (chPool cn qc cA cf cg)] [1] [0, 2, 3, 4, 5, 6] 7 rfl (by decide)).symm
  replace hD : va_D A (List.flatten [(Po oo qn qk qt qx qa ts wa pf (chv qc sp)), (Cw qn cA (chv qc nc) nf ng), (Vw (qn 15) cA nv0), (Rw (qn 12) (qn 20) (qn 21) cA 5 nhc nha nhb), (Cw qt cA (chv qc tc0) tf0 tg0), (Vw (qt 15) cA tv0), (chPool cn qc cA cf cg)]) := hD.perm (seg_out [(Po oo qn qk qt qx qa ts wa pf (chv qc sp)), (Cw qn cA (chv qc nc) nf ng), (Vw (qn 15) cA nv0), (Rw (qn 12) (qn 20) (qn 21) cA 5 nhc nha nhb), (Cw qt cA (chv qc tc0) tf0 tg0), (Vw (qt 15) cA tv0), (chPool cn qc cA cf cg)] [1] [0, 2, 3, 4, 5, 6] 7 rfl (by decide)).symm
  refine lv_if_ne (tgt := 15) hx hb dX6_of_8 (by decide) (fun c4 => ?_) (fun c4 => ?_)
  · replace hf := ie_of c4 hf
    refine lv_iload_n hx hb dX6_of_15 rfl (lv_at hl 2 rfl) ?_
    by_cases c5 : a2 = 0
    · replace hf := it_of c5 hf
      refine lv_tableIn (off := 44) (tgt := 60) hx hb dX6_of_16 (by rw [c5]; decide) (by rw [c5]; decide) (by rw [c5]; decide) (by decide) ?_
      refine lv_aload_n hx hb dX6_of_60 rfl (lv_at hl 0 rfl) ?_
      refine va_get (D := D) (ci := 6) (v := .ref (qn 0)) (C := RX6) (T := TX6) (N := 10) hx hb hts fw_6 hown hK hP 0 rfl rfl 0 (by decide) (hts _ m_fieldLink_P_12_P_now_LP_Cellar) (fun _ h9 => h9) rfl dX6_of_61 ?_
      refine va_get (D := D) (ci := 1) (v := .ref (qn 7)) (C := RX1) (T := TX1) (N := 16) hx hb hts fw_1 hown hK hP 1 rfl rfl 7 (by decide) (hts _ m_fieldLink_P_65_P_Cellar_kind_aI) (fun _ h9 => h9) rfl dX6_of_64 ?_
      refine lv_iload_n hx hb dX6_of_67 rfl (lv_at hl 1 rfl) ?_
      obtain ⟨hi6, hf⟩ := gd_of hf
      refine va_iald hx hb hK hP 2 0 rfl rfl hi6 dX6_of_68 ?_
      rw [hQ]
      exact ret_i C0 hP hD hS (by have e := Option.some.inj hf; rw [← e]; exact ⟨rfl, rfl⟩) dX6_of_69
    · replace hf := ie_of c5 hf
      by_cases c7 : a2 = 1
      · replace hf := it_of c7 hf
        refine lv_tableIn (off := 54) (tgt := 70) hx hb dX6_of_16 (by rw [c7]; decide) (by rw [c7]; decide) (by rw [c7]; decide) (by decide) ?_
        refine lv_aload_n hx hb dX6_of_70 rfl (lv_at hl 0 rfl) ?_
        refine va_get (D := D) (ci := 6) (v := .ref (qn 0)) (C := RX6) (T := TX6) (N := 10) hx hb hts fw_6 hown hK hP 0 rfl rfl 0 (by decide) (hts _ m_fieldLink_P_12_P_now_LP_Cellar) (fun _ h9 => h9) rfl dX6_of_71 ?_
        refine va_get (D := D) (ci := 1) (v := .ref (qn 8)) (C := RX1) (T := TX1) (N := 16) hx hb hts fw_1 hown hK hP 1 rfl rfl 8 (by decide) (hts _ m_fieldLink_P_68_P_Cellar_v_aI) (fun _ h9 => h9) rfl dX6_of_74 ?_
        refine lv_iload_n hx hb dX6_of_77 rfl (lv_at hl 1 rfl) ?_
        obtain ⟨hi8, hf⟩ := gd_of hf
        refine va_iald hx hb hK hP 3 0 rfl rfl hi8 dX6_of_78 ?_
        rw [hQ]
        exact ret_i C0 hP hD hS (by have e := Option.some.inj hf; rw [← e]; exact ⟨rfl, rfl⟩) dX6_of_79
      · replace hf := ie_of c7 hf
        by_cases c9 : a2 = 2
        · replace hf := it_of c9 hf
          refine lv_tableIn (off := 64) (tgt := 80) hx hb dX6_of_16 (by rw [c9]; decide) (by rw [c9]; decide) (by rw [c9]; decide) (by decide) ?_
          refine lv_aload_n hx hb dX6_of_80 rfl (lv_at hl 0 rfl) ?_
          refine va_get (D := D) (ci := 6) (v := .ref (qn 0)) (C := RX6) (T := TX6) (N := 10) hx hb hts fw_6 hown hK hP 0 rfl rfl 0 (by decide) (hts _ m_fieldLink_P_12_P_now_LP_Cellar) (fun _ h9 => h9) rfl dX6_of_81 ?_
          refine va_get (D := D) (ci := 1) (v := .ref (qn 9)) (C := RX1) (T := TX1) (N := 16) hx hb hts fw_1 hown hK hP 1 rfl rfl 9 (by decide) (hts _ m_fieldLink_P_71_P_Cellar_nerve_aI) (fun _ h9 => h9) rfl dX6_of_84 ?_
          refine lv_iload_n hx hb dX6_of_87 rfl (lv_at hl 1 rfl) ?_
          obtain ⟨hi10, hf⟩ := gd_of hf
          refine va_iald hx hb hK hP 4 0 rfl rfl hi10 dX6_of_88 ?_
          rw [hQ]
          exact ret_i C0 hP hD hS (by have e := Option.some.inj hf; rw [← e]; exact ⟨rfl, rfl⟩) dX6_of_89
        · replace hf := ie_of c9 hf
          by_cases c11 : a2 = 3
          · replace hf := it_of c11 hf
            refine lv_tableIn (off := 74) (tgt := 90) hx hb dX6_of_16 (by rw [c11]; decide) (by rw [c11]; decide) (by rw [c11]; decide) (by decide) ?_
            refine lv_aload_n hx hb dX6_of_90 rfl (lv_at hl 0 rfl) ?_
            refine va_get (D := D) (ci := 6) (v := .ref (qn 0)) (C := RX6) (T := TX6) (N := 10) hx hb hts fw_6 hown hK hP 0 rfl rfl 0 (by decide) (hts _ m_fieldLink_P_12_P_now_LP_Cellar) (fun _ h9 => h9) rfl dX6_of_91 ?_
            refine lv_iload_n hx hb dX6_of_94 rfl (lv_at hl 1 rfl) ?_
            obtain ⟨r12q, hq13, hf⟩ := b1_of hf
            refine callVI (As := [.int a1]) (rest := []) (wr := segpick [(Po oo qn qk qt qx qa ts wa pf (chv qc sp)), (Cw qn cA (chv qc nc) nf ng), (Vw (qn 15) cA nv0), (Rw (qn 12) (qn 20) (qn 21) cA 5 nhc nha nhb), (Cw qt cA (chv qc tc0) tf0 tg0), (Vw (qt 15) cA tv0), (chPool cn qc cA cf cg)] [0, 2, 3, 4, 5, 6]) C0 (c_X1_isUp qn qc nf ng nc a1 _ hq13) lk_X6_74_X1_isUp rfl hP hD hS (seg_out [(Po oo qn qk qt qx qa ts wa pf (chv qc sp)), (Cw qn cA (chv qc nc) nf ng), (Vw (qn 15) cA nv0), (Rw (qn 12) (qn 20) (qn 21) cA 5 nhc nha nhb), (Cw qt cA (chv qc tc0) tf0 tg0), (Vw (qt 15) cA tv0), (chPool cn qc cA cf cg)] [1] [0, 2, 3, 4, 5, 6] 7 rfl (by decide)) 1 1 rfl rfl rfl hl.1 rfl rfl (Nat.le_of_ble_eq_true rfl) dX6_of_95 ⟨Nat.zero_le _, Nat.zero_le _⟩ (fun r12 w H locs hw hP hD hS => ?_)
            obtain ⟨⟨e1, e2⟩, z14⟩ := hw
            replace e1 : r12 = r12q := e1
            subst e1
            subst e2
            replace hP : va_P D vwCl (List.flatten [(Po oo qn qk qt qx qa ts wa pf (chv qc sp)), (Cw qn cA (chv qc nc) nf ng), (Vw (qn 15) cA nv0), (Rw (qn 12) (qn 20) (qn 21) cA 5 nhc nha nhb), (Cw qt cA (chv qc tc0) tf0 tg0), (Vw (qt 15) cA tv0), (chPool cn qc cA cf cg)]) H := hP.perm (seg_out [(Po oo qn qk qt qx qa ts wa pf (chv qc sp)), (Cw qn cA (chv qc nc) nf ng), (Vw (qn 15) cA nv0), (Rw (qn 12) (qn 20) (qn 21) cA 5 nhc nha nhb), (Cw qt cA (chv qc tc0) tf0 tg0), (Vw (qt 15) cA tv0), (chPool cn qc cA cf cg)] [1] [0, 2, 3, 4, 5, 6] 7 rfl (by decide)).symm
            replace hD : va_D A (List.flatten [(Po oo qn qk qt qx qa ts wa pf (chv qc sp)), (Cw qn cA (chv qc nc) nf ng), (Vw (qn 15) cA nv0), (Rw (qn 12) (qn 20) (qn 21) cA 5 nhc nha nhb), (Cw qt cA (chv qc tc0) tf0 tg0), (Vw (qt 15) cA tv0), (chPool cn qc cA cf cg)]) := hD.perm (seg_out [(Po oo qn qk qt qx qa ts wa pf (chv qc sp)), (Cw qn cA (chv qc nc) nf ng), (Vw (qn 15) cA nv0), (Rw (qn 12) (qn 20) (qn 21) cA 5 nhc nha nhb), (Cw qt cA (chv qc tc0) tf0 tg0), (Vw (qt 15) cA tv0), (chPool cn qc cA cf cg)] [1] [0, 2, 3, 4, 5, 6] 7 rfl (by decide)).symm
            refine lv_if_eq (tgt := 105) hx hb dX6_of_98 (by decide) (fun c15 => ?_) (fun c15 => ?_)
            · replace hf := it_of c15 hf
              refine lv_iconst (v := 0) hx hb dX6_of_105 (by decide) ?_
              rw [hQ]
              exact ret_i C0 hP hD hS (by have e := Option.some.inj hf; rw [← e]; exact ⟨rfl, rfl⟩) dX6_of_106
            · replace hf := ie_of c15 hf
              refine lv_iconst (v := 1) hx hb dX6_of_101 (by decide) ?_
              refine lv_goto (tgt := 106) hx hb dX6_of_102 (by decide) ?_
              rw [hQ]
              exact ret_i C0 hP hD hS (by have e := Option.some.inj hf; rw [← e]; exact ⟨rfl, rfl⟩) dX6_of_106
          · replace hf := ie_of c11 hf
            by_cases c16 : a2 = 4
            · replace hf := it_of c16 hf
              refine lv_tableIn (off := 91) (tgt := 107) hx hb dX6_of_16 (by rw [c16]; decide) (by rw [c16]; decide) (by rw [c16]; decide) (by decide) ?_
              refine lv_aload_n hx hb dX6_of_107 rfl (lv_at hl 0 rfl) ?_
              refine va_get (D := D) (ci := 6) (v := .ref (qn 0)) (C := RX6) (T := TX6) (N := 10) hx hb hts fw_6 hown hK hP 0 rfl rfl 0 (by decide) (hts _ m_fieldLink_P_12_P_now_LP_Cellar) (fun _ h9 => h9) rfl dX6_of_108 ?_
              refine va_get (D := D) (ci := 1) (v := .ref (qn 10)) (C := RX1) (T := TX1) (N := 16) hx hb hts fw_1 hown hK hP 1 rfl rfl 10 (by decide) (hts _ m_fieldLink_P_77_P_Cellar_spell_aI) (fun _ h9 => h9) rfl dX6_of_111 ?_
              refine lv_iload_n hx hb dX6_of_114 rfl (lv_at hl 1 rfl) ?_
              obtain ⟨hi17, hf⟩ := gd_of hf
              refine va_iald hx hb hK hP 5 0 rfl rfl hi17 dX6_of_115 ?_
              rw [hQ]
              exact ret_i C0 hP hD hS (by have e := Option.some.inj hf; rw [← e]; exact ⟨rfl, rfl⟩) dX6_of_116
            · replace hf := ie_of c16 hf
              by_cases c18 : a2 = 5
              · replace hf := it_of c18 hf
                refine lv_tableIn (off := 101) (tgt := 117) hx hb dX6_of_16 (by rw [c18]; decide) (by rw [c18]; decide) (by rw [c18]; decide) (by decide) ?_
                refine lv_aload_n hx hb dX6_of_117 rfl (lv_at hl 0 rfl) ?_
                refine va_get (D := D) (ci := 6) (v := .ref (qn 0)) (C := RX6) (T := TX6) (N := 10) hx hb hts fw_6 hown hK hP 0 rfl rfl 0 (by decide) (hts _ m_fieldLink_P_12_P_now_LP_Cellar) (fun _ h9 => h9) rfl dX6_of_118 ?_
                refine lv_iload_n hx hb dX6_of_121 rfl (lv_at hl 1 rfl) ?_
                obtain ⟨r19q, nv_20, hq21, hf⟩ := b2_of hf
                refine callVI (As := [.int a1]) (rest := []) (wr := segpick [(Po oo qn qk qt qx qa ts wa pf (chv qc sp)), (Cw qn cA (chv qc nc) nf ng), (Vw (qn 15) cA nv0), (Rw (qn 12) (qn 20) (qn 21) cA 5 nhc nha nhb), (Cw qt cA (chv qc tc0) tf0 tg0), (Vw (qt 15) cA tv0), (chPool cn qc cA cf cg)] [0, 3, 4, 5]) C0 (c_X1_noise qn qc nf ng nc nv0 cn cf cg a1 _ hq21) lk_X6_80_X1_noise rfl hP hD hS (seg_out [(Po oo qn qk qt qx qa ts wa pf (chv qc sp)), (Cw qn cA (chv qc nc) nf ng), (Vw (qn 15) cA nv0), (Rw (qn 12) (qn 20) (qn 21) cA 5 nhc nha nhb), (Cw qt cA (chv qc tc0) tf0 tg0), (Vw (qt 15) cA tv0), (chPool cn qc cA cf cg)] [1, 2, 6] [0, 3, 4, 5] 7 rfl (by decide)) 1 1 rfl rfl rfl hl.1 rfl rfl (Nat.le_of_ble_eq_true rfl) dX6_of_122 ⟨Nat.zero_le _, Nat.zero_le _⟩ (fun r19 w H locs hw hP hD hS => ?_)
                obtain ⟨e1, e2⟩ := hw
                replace e1 : r19 = r19q := e1
                subst e1
                subst e2
                replace hP : va_P D vwCl (List.flatten [(Po oo qn qk qt qx qa ts wa pf (chv qc sp)), (Cw qn cA (chv qc nc) nf ng), (Vw (qn 15) cA nv_20), (Rw (qn 12) (qn 20) (qn 21) cA 5 nhc nha nhb), (Cw qt cA (chv qc tc0) tf0 tg0), (Vw (qt 15) cA tv0), (chPool cn qc cA cf cg)]) H := hP.perm (seg_out [(Po oo qn qk qt qx qa ts wa pf (chv qc sp)), (Cw qn cA (chv qc nc) nf ng), (Vw (qn 15) cA nv_20), (Rw (qn 12) (qn 20) (qn 21) cA 5 nhc nha nhb), (Cw qt cA (chv qc tc0) tf0 tg0), (Vw (qt 15) cA tv0), (chPool cn qc cA cf cg)] [1, 2, 6] [0, 3, 4, 5] 7 rfl (by decide)).symm
                replace hD : va_D A (List.flatten [(Po oo qn qk qt qx qa ts wa pf (chv qc sp)), (Cw qn cA (chv qc nc) nf ng), (Vw (qn 15) cA nv_20), (Rw (qn 12) (qn 20) (qn 21) cA 5 nhc nha nhb), (Cw qt cA (chv qc tc0) tf0 tg0), (Vw (qt 15) cA tv0), (chPool cn qc cA cf cg)]) := hD.perm (seg_out [(Po oo qn qk qt qx qa ts wa pf (chv qc sp)), (Cw qn cA (chv qc nc) nf ng), (Vw (qn 15) cA nv_20), (Rw (qn 12) (qn 20) (qn 21) cA 5 nhc nha nhb), (Cw qt cA (chv qc tc0) tf0 tg0), (Vw (qt 15) cA tv0), (chPool cn qc cA cf cg)] [1, 2, 6] [0, 3, 4, 5] 7 rfl (by decide)).symm
                rw [hQ]
                exact ret_i C0 hP hD hS (by have e := Option.some.inj hf; rw [← e]; exact ⟨rfl, rfl⟩) dX6_of_125
              · replace hf := ie_of c18 hf
                by_cases c22 : a2 = 6
                · replace hf := it_of c22 hf
                  refine lv_tableIn (off := 110) (tgt := 126) hx hb dX6_of_16 (by rw [c22]; decide) (by rw [c22]; decide) (by rw [c22]; decide) (by decide) ?_
                  refine lv_aload_n hx hb dX6_of_126 rfl (lv_at hl 0 rfl) ?_
                  refine lv_iload_n hx hb dX6_of_127 rfl (lv_at hl 1 rfl) ?_
                  obtain ⟨r23q, tf_24, tg_25, tc_26, tv_27, hq28, hf⟩ := b5_of hf
                  refine callVI (As := [.int a1]) (rest := []) (wr := segpick [(Po oo qn qk qt qx qa ts wa pf (chv qc sp)), (Cw qn cA (chv qc nc) nf ng), (Vw (qn 15) cA nv0), (Rw (qn 12) (qn 20) (qn 21) cA 5 nhc nha nhb), (Cw qt cA (chv qc tc0) tf0 tg0), (Vw (qt 15) cA tv0), (chPool cn qc cA cf cg)] [2]) C0 (c_X6_likelyNerves oo qn qk qt qx qa ts wa qc pf sp nf ng nc nhc nha nhb tf0 tg0 tc0 tv0 cn cf cg a1 _ hq28) lk_X6_84_X6_likelyNerves rfl hP hD hS (seg_out [(Po oo qn qk qt qx qa ts wa pf (chv qc sp)), (Cw qn cA (chv qc nc) nf ng), (Vw (qn 15) cA nv0), (Rw (qn 12) (qn 20) (qn 21) cA 5 nhc nha nhb), (Cw qt cA (chv qc tc0) tf0 tg0), (Vw (qt 15) cA tv0), (chPool cn qc cA cf cg)] [0, 1, 3, 4, 5, 6] [2] 7 rfl (by decide)) 0 6 rfl rfl rfl hl.1 rfl rfl (Nat.le_of_ble_eq_true rfl) dX6_of_128 ⟨Nat.zero_le _, Nat.zero_le _⟩ (fun r23 w H locs hw hP hD hS => ?_)
                  obtain ⟨e1, e2⟩ := hw
                  replace e1 : r23 = r23q := e1
                  subst e1
                  subst e2
                  replace hP : va_P D vwCl (List.flatten [(Po oo qn qk qt qx qa ts wa pf (chv qc sp)), (Cw qn cA (chv qc nc) nf ng), (Vw (qn 15) cA nv0), (Rw (qn 12) (qn 20) (qn 21) cA 5 nhc nha nhb), (Cw qt cA (chv qc tc_26) tf_24 tg_25), (Vw (qt 15) cA tv_27), (chPool cn qc cA cf cg)]) H := hP.perm (seg_out [(Po oo qn qk qt qx qa ts wa pf (chv qc sp)), (Cw qn cA (chv qc nc) nf ng), (Vw (qn 15) cA nv0), (Rw (qn 12) (qn 20) (qn 21) cA 5 nhc nha nhb), (Cw qt cA (chv qc tc_26) tf_24 tg_25), (Vw (qt 15) cA tv_27), (chPool cn qc cA cf cg)] [0, 1, 3, 4, 5, 6] [2] 7 rfl (by decide)).symm
                  replace hD : va_D A (List.flatten [(Po oo qn qk qt qx qa ts wa pf (chv qc sp)), (Cw qn cA (chv qc nc) nf ng), (Vw (qn 15) cA nv0), (Rw (qn 12) (qn 20) (qn 21) cA 5 nhc nha nhb), (Cw qt cA (chv qc tc_26) tf_24 tg_25), (Vw (qt 15) cA tv_27), (chPool cn qc cA cf cg)]) := hD.perm (seg_out [(Po oo qn qk qt qx qa ts wa pf (chv qc sp)), (Cw qn cA (chv qc nc) nf ng), (Vw (qn 15) cA nv0), (Rw (qn 12) (qn 20) (qn 21) cA 5 nhc nha nhb), (Cw qt cA (chv qc tc_26) tf_24 tg_25), (Vw (qt 15) cA tv_27), (chPool cn qc cA cf cg)] [0, 1, 3, 4, 5, 6] [2] 7 rfl (by decide)).symm
                  rw [hQ]
                  exact ret_i C0 hP hD hS (by have e := Option.some.inj hf; rw [← e]; exact ⟨rfl, rfl⟩) dX6_of_131
                · replace hf := ie_of c22 hf
                  refine lv_tableOut (tgt := 132) hx hb dX6_of_16 (by have := lv_neT c5 (a := 0) (by decide); have := lv_neT c7 (a := 1) (by decide); have := lv_neT c9 (a := 2) (by decide); have := lv_neT c11 (a := 3) (by decide); have := lv_neT c16 (a := 4) (by decide); have := lv_neT c18 (a := 5) (by decide); have := lv_neT c22 (a := 6) (by decide); omega) (by decide) ?_
                  refine lv_sipush (v := (-10001)) hx hb dX6_of_132 (by decide) ?_
                  rw [hQ]
                  exact ret_i C0 hP hD hS (by have e := Option.some.inj hf; rw [← e]; exact ⟨rfl, rfl⟩) dX6_of_135
  · replace hf := it_of c4 hf
    refine lv_sipush (v := (-10001)) hx hb dX6_of_11 (by decide) ?_
    rw [hQ]
    exact ret_i C0 hP hD hS (by have e := Option.some.inj hf; rw [← e]; exact ⟨rfl, rfl⟩) dX6_of_14

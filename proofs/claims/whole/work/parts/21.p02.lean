-- X1 passDay
noncomputable def k_X1_passDay_137  (kc100 : Int32 → (Nat → Int32) → (Nat → Nat → Int32) → Option ((Nat → Int32) × (Nat → Nat → Int32))) (x3 : Int32) (t1 : Int32) (t2 : Int32) (mf : Nat → Int32) (mg : Nat → Nat → Int32) : Option ((Nat → Int32) × (Nat → Nat → Int32)) := gd t1 6 (kc100 (x3 + 1) mf (va_up mg 10 (upd (mg 10) (Int32.toNatClampNeg t1) t2)))
noncomputable def k_X1_passDay_100 (a2 : Int32) : Nat → Int32 → (Nat → Int32) → (Nat → Nat → Int32) → Option ((Nat → Int32) × (Nat → Nat → Int32))
  | 0, _, _, _ => none
  | n + 1, x3, mf, mg => if (mf 0) ≤ x3 then some ((upd mf 5 ((mf 5) + 1)), mg) else b1 (k_X1_isUp x3 mf) (fun r2 => if r2 = 0 then gd x3 6 (nm (if a2 < (((mg 10) (Int32.toNatClampNeg x3)) + 1) then a2 else (((mg 10) (Int32.toNatClampNeg x3)) + 1)) (fun mm7 => k_X1_passDay_137 (k_X1_passDay_100 a2 n) x3 x3 mm7 mf mg)) else k_X1_passDay_137 (k_X1_passDay_100 a2 n) x3 x3 0 mf mg)
noncomputable def k_X1_passDay_51 (a2 : Int32) (mf : Nat → Int32) (mg : Nat → Nat → Int32) : Option ((Nat → Int32) × (Nat → Nat → Int32)) := nm (if 9999 < (mf 2) then 9999 else (mf 2)) (fun mm1 => if mm1 < 100 then k_X1_passDay_100 a2 100000 0 (upd mf 2 mm1) mg else nm (if a2 < ((mf 3) + 1) then a2 else ((mf 3) + 1)) (fun mm3 => nm (upd (upd (upd mf 2 mm1) 3 mm3) 2 (mm1 / 2)) (fun mf_4 => k_X1_passDay_100 a2 100000 0 mf_4 mg)))
noncomputable def k_X1_passDay (a1 : Int32) (a2 : Int32) (mf0 : Nat → Int32) (mg0 : Nat → Nat → Int32) (mc : Option Nat) (cn : Nat) (cf : Nat → Nat → Int32) : Option ((Nat → Int32) × (Nat → Nat → Int32)) := if a1 = 0 then nm (if a2 < ((mf0 4) + 1) then a2 else ((mf0 4) + 1)) (fun mm5 => k_X1_passDay_51 a2 (upd (upd mf0 4 mm5) 2 ((mf0 2) + 50)) mg0) else b1 (k_X1_calm mc cn cf) (fun r2 => nm (if 0 < (((mf0 2) + a1) - r2) then (((mf0 2) + a1) - r2) else 0) (fun mm4 => k_X1_passDay_51 a2 (upd mf0 2 mm4) mg0))
set_option maxHeartbeats 4000000 in
set_option maxRecDepth 100000 in
theorem c_X1_passDay {l : Launch} {D : va_G} {cA : Nat → ClassId} (q : Nat → Nat) (qc : Nat → Nat → Nat) (mf0 : Nat → Int32) (mg0 : Nat → Nat → Int32) (mc : Option Nat) (cn : Nat) (cf : Nat → Nat → Int32) (cg : Nat → Nat → Nat → Int32) (a1 : Int32) (a2 : Int32) (o : (Nat → Int32) × (Nat → Nat → Int32)) (hf : k_X1_passDay a1 a2 mf0 mg0 mc cn cf = some o) : CV l D cA yX1_passDay cX1_passDay 4 none 1 23 [.ref (q 0), .int a1, .int a2] (List.flatten [(Cw q cA (chv qc mc) mf0 mg0), (chPool cn qc cA cf cg)]) 0 0 (fun w => w = (List.flatten [(Cw q cA (chv qc mc) o.1 o.2), (chPool cn qc cA cf cg)])) := by
  intro sz
  refine met_start (by decide) rfl ?_
  intro p e s m args below meth c ls hsz hargs C0 hname hP hD hS hl
  generalize hAe : va_A (List.flatten [(Cw q cA (chv qc mc) mf0 mg0), (chPool cn qc cA cf cg)]) sz = A at C0 hD hS ⊢
  obtain ⟨hx, hb, hr, hml, hown, hts, hlk, hK, hA⟩ := id C0
  replace hl : lv_has ls 4 [(0, .ref (q 0)), (1, .int a1), (2, .int a2)] := hl
  obtain ⟨Q, hQ⟩ : ∃ Q : State → Prop, Q = QV below D A (fun w => w = (List.flatten [(Cw q cA (chv qc mc) o.1 o.2), (chPool cn qc cA cf cg)])) args s 0 0 := ⟨_, rfl⟩
  refine cast (by rw [hQ]) (?_ : W p l e (RMx 1 23 0 0) s m args below meth c s.heap [] 0 0 Q (F0 m 0 ls []))
  have J137 : ∀ (kc100 : Int32 → (Nat → Int32) → (Nat → Nat → Int32) → Option ((Nat → Int32) × (Nat → Nat → Int32))) (hkc100 : ∀ (x3 : Int32) (mf : Nat → Int32) (mg : Nat → Nat → Int32), kc100 x3 mf mg = some o → ∀ (H : Heap) (locs : List Loc), va_P D vwCl (List.flatten [(Cw q cA (chv qc mc) mf mg), (chPool cn qc cA cf cg)]) H → va_D A (List.flatten [(Cw q cA (chv qc mc) mf mg), (chPool cn qc cA cf cg)]) → va_S A s.heap H locs → ∀ ls : Array Slot, lv_has ls 4 [(0, .ref (q 0)), (2, .int a2), (3, .int x3)] → W p l e (RMx 1 23 0 0) s m args below meth c H locs 0 0 Q (F0 m 100 ls [])), ∀ (x3 : Int32) (t1 : Int32) (t2 : Int32) (mf : Nat → Int32) (mg : Nat → Nat → Int32), k_X1_passDay_137 kc100 x3 t1 t2 mf mg = some o → ∀ (H : Heap) (locs : List Loc), va_P D vwCl (List.flatten [(Cw q cA (chv qc mc) mf mg), (chPool cn qc cA cf cg)]) H → va_D A (List.flatten [(Cw q cA (chv qc mc) mf mg), (chPool cn qc cA cf cg)]) → va_S A s.heap H locs → ∀ ls : Array Slot, lv_has ls 4 [(0, .ref (q 0)), (2, .int a2), (3, .int x3)] → W p l e (RMx 1 23 0 0) s m args below meth c H locs 0 0 Q (F0 m 137 ls [.int t2, .int t1, .ref (q 10)]) := by
    intro kc100 hkc100 x3 t1 t2 mf mg hf H locs hP hD hS ls hl
    unfold k_X1_passDay_137 at hf
    obtain ⟨hi1, hf⟩ := gd_of hf
    refine va_iast hx hb hK hP hD hS 4 0 rfl rfl hi1 dX1_passDay_137 (fun H locs hP hD hS => ?_)
    replace hP : va_P D vwCl (List.flatten [(Cw q cA (chv qc mc) mf (va_up mg 10 (upd (mg 10) (Int32.toNatClampNeg t1) t2))), (chPool cn qc cA cf cg)]) H := hP
    replace hD : va_D A (List.flatten [(Cw q cA (chv qc mc) mf (va_up mg 10 (upd (mg 10) (Int32.toNatClampNeg t1) t2))), (chPool cn qc cA cf cg)]) := hD
    refine lv_iinc (v := (x3 + 1)) (lv' := [(3, .int (x3 + 1)), (0, .ref (q 0)), (2, .int a2)]) hx hb dX1_passDay_138 hl (k := 2) rfl rfl (by decide) rfl (fun ls hl => ?_)
    refine lv_goto (tgt := 100) hx hb dX1_passDay_141 (by decide) ?_
    exact hkc100 (x3 + 1) mf (va_up mg 10 (upd (mg 10) (Int32.toNatClampNeg t1) t2)) hf _ _ hP hD hS _ (lv_sub hl [1, 2, 0] rfl)
  have J100 : ∀ n : Nat, ∀ (x3 : Int32) (mf : Nat → Int32) (mg : Nat → Nat → Int32), k_X1_passDay_100 a2 n x3 mf mg = some o → ∀ (H : Heap) (locs : List Loc), va_P D vwCl (List.flatten [(Cw q cA (chv qc mc) mf mg), (chPool cn qc cA cf cg)]) H → va_D A (List.flatten [(Cw q cA (chv qc mc) mf mg), (chPool cn qc cA cf cg)]) → va_S A s.heap H locs → ∀ ls : Array Slot, lv_has ls 4 [(0, .ref (q 0)), (2, .int a2), (3, .int x3)] → W p l e (RMx 1 23 0 0) s m args below meth c H locs 0 0 Q (F0 m 100 ls []) := by
    intro  n
    induction n with
    | zero =>
      intro x3 mf mg hf
      rw [k_X1_passDay_100] at hf
      cases hf
    | succ n ih =>
      intro x3 mf mg hf H locs hP hD hS ls hl
      rw [k_X1_passDay_100] at hf
      refine lv_iload_n hx hb dX1_passDay_100 rfl (lv_at hl 2 rfl) ?_
      refine lv_aload_n hx hb dX1_passDay_101 rfl (lv_at hl 0 rfl) ?_
      refine va_get (D := D) (ci := 1) (v := .int (mf 0)) (C := RX1) (T := TX1) (N := 16) hx hb hts fw_1 hown hK hP 0 rfl rfl 0 (by decide) (hts _ m_fieldLink_P_Cellar_45_P_Cellar_men_I) (fun _ h9 => h9) rfl dX1_passDay_102 ?_
      refine lv_icmp_ge (tgt := 144) hx hb dX1_passDay_105 (by decide) (fun c1 => ?_) (fun c1 => ?_)
      · replace hf := it_of c1 hf
        refine lv_aload_n hx hb dX1_passDay_144 rfl (lv_at hl 0 rfl) ?_
        refine lv_dup hx hb dX1_passDay_145 rfl ?_
        refine va_get (D := D) (ci := 1) (v := .int (mf 5)) (C := RX1) (T := TX1) (N := 16) hx hb hts fw_1 hown hK hP 0 rfl rfl 5 (by decide) (hts _ m_fieldLink_P_Cellar_73_P_Cellar_day_I) (fun _ h9 => h9) rfl dX1_passDay_146 ?_
        refine lv_iconst (v := 1) hx hb dX1_passDay_149 (by decide) ?_
        refine lv_iadd hx hb dX1_passDay_150 ?_
        refine va_put (D := D) (ci := 1) (v := .int ((mf 5) + 1)) (ty := .int) (C := RX1) (T := TX1) (N := 16) hx hb hts fw_1 tyX1 tyX1_ok nmX1 hown hK hP hD hS 0 rfl rfl 5 (by decide) (hts _ m_fieldLink_P_Cellar_73_P_Cellar_day_I) (fun _ h9 => h9) rfl (by decide +kernel) rfl rfl (Nat.le_of_ble_eq_true rfl) dX1_passDay_151 (fun H locs hP hD hS => ?_)
        replace hP : va_P D vwCl (List.flatten [(Cw q cA (chv qc mc) (upd mf 5 ((mf 5) + 1)) mg), (chPool cn qc cA cf cg)]) H := hP
        replace hD : va_D A (List.flatten [(Cw q cA (chv qc mc) (upd mf 5 ((mf 5) + 1)) mg), (chPool cn qc cA cf cg)]) := hD
        rw [hQ]
        exact ret_v C0 hP hD hS (by have e := Option.some.inj hf; first | (rw [← e]; done) | (rw [← e]; exact rfl)) dX1_passDay_154
      · replace hf := ie_of c1 hf
        refine lv_aload_n hx hb dX1_passDay_108 rfl (lv_at hl 0 rfl) ?_
        refine va_get (D := D) (ci := 1) (v := .ref (q 10)) (C := RX1) (T := TX1) (N := 16) hx hb hts fw_1 hown hK hP 0 rfl rfl 10 (by decide) (hts _ m_fieldLink_P_Cellar_21_P_Cellar_spell_aI) (fun _ h9 => h9) rfl dX1_passDay_109 ?_
        refine lv_iload_n hx hb dX1_passDay_112 rfl (lv_at hl 2 rfl) ?_
        refine lv_aload_n hx hb dX1_passDay_113 rfl (lv_at hl 0 rfl) ?_
        refine lv_iload_n hx hb dX1_passDay_114 rfl (lv_at hl 2 rfl) ?_
        obtain ⟨r2q, hq3, hf⟩ := b1_of hf
        refine callVI (As := [.int x3]) (rest := [.int x3, .ref (q 10)]) (wr := segpick [(Cw q cA (chv qc mc) mf mg), (chPool cn qc cA cf cg)] [1]) C0 (c_X1_isUp q qc mf mg mc x3 _ hq3) lk_X1_86_X1_isUp rfl hP hD hS (seg_out [(Cw q cA (chv qc mc) mf mg), (chPool cn qc cA cf cg)] [0] [1] 2 rfl (by decide)) 0 1 rfl rfl rfl hl.1 rfl rfl (Nat.le_of_ble_eq_true rfl) dX1_passDay_115 ⟨Nat.zero_le _, Nat.zero_le _⟩ (fun r2 w H locs hw hP hD hS => ?_)
        obtain ⟨⟨e1, e2⟩, z4⟩ := hw
        replace e1 : r2 = r2q := e1
        subst e1
        subst e2
        replace hP : va_P D vwCl (List.flatten [(Cw q cA (chv qc mc) mf mg), (chPool cn qc cA cf cg)]) H := hP.perm (seg_out [(Cw q cA (chv qc mc) mf mg), (chPool cn qc cA cf cg)] [0] [1] 2 rfl (by decide)).symm
        replace hD : va_D A (List.flatten [(Cw q cA (chv qc mc) mf mg), (chPool cn qc cA cf cg)]) := hD.perm (seg_out [(Cw q cA (chv qc mc) mf mg), (chPool cn qc cA cf cg)] [0] [1] 2 rfl (by decide)).symm
        refine lv_if_eq (tgt := 125) hx hb dX1_passDay_118 (by decide) (fun c5 => ?_) (fun c5 => ?_)
        · replace hf := it_of c5 hf
          refine lv_aload_n hx hb dX1_passDay_125 rfl (lv_at hl 0 rfl) ?_
          refine va_get (D := D) (ci := 1) (v := .ref (q 10)) (C := RX1) (T := TX1) (N := 16) hx hb hts fw_1 hown hK hP 0 rfl rfl 10 (by decide) (hts _ m_fieldLink_P_Cellar_21_P_Cellar_spell_aI) (fun _ h9 => h9) rfl dX1_passDay_126 ?_
          refine lv_iload_n hx hb dX1_passDay_129 rfl (lv_at hl 2 rfl) ?_
          obtain ⟨hi6, hf⟩ := gd_of hf
          refine va_iald hx hb hK hP 4 0 rfl rfl hi6 dX1_passDay_130 ?_
          refine lv_iconst (v := 1) hx hb dX1_passDay_131 (by decide) ?_
          refine lv_iadd hx hb dX1_passDay_132 ?_
          refine lv_iload_n hx hb dX1_passDay_133 rfl (lv_at hl 1 rfl) ?_
          refine va_mmin hx hb (by rw [hml]; exact hl.1.symm) hown (hts _ m_methodLink_P_Cellar_76_java_lang_Math_min_II_I) (hts _ m_static_java_lang_Math_min_II_I) (hts _ m_initialized_java_lang_Math) (hts _ m_code_java_lang_Math_min_II_I) (Nat.le_of_ble_eq_true rfl) (Nat.le_of_ble_eq_true rfl) (Nat.zero_le _) (Nat.zero_le _) dX1_passDay_134 ?_
          refine lv_topi (fun mm7 emm7 => ?_)
          replace hf := nm_i emm7 hf
          exact J137 _ ih x3 x3 mm7 mf mg hf _ _ hP hD hS _ (lv_sub hl [0, 1, 2] rfl)
        · replace hf := ie_of c5 hf
          refine lv_iconst (v := 0) hx hb dX1_passDay_121 (by decide) ?_
          refine lv_goto (tgt := 137) hx hb dX1_passDay_122 (by decide) ?_
          exact J137 _ ih x3 x3 0 mf mg hf _ _ hP hD hS _ (lv_sub hl [0, 1, 2] rfl)
  have J51 : ∀ (mf : Nat → Int32) (mg : Nat → Nat → Int32), k_X1_passDay_51 a2 mf mg = some o → ∀ (H : Heap) (locs : List Loc), va_P D vwCl (List.flatten [(Cw q cA (chv qc mc) mf mg), (chPool cn qc cA cf cg)]) H → va_D A (List.flatten [(Cw q cA (chv qc mc) mf mg), (chPool cn qc cA cf cg)]) → va_S A s.heap H locs → ∀ ls : Array Slot, lv_has ls 4 [(0, .ref (q 0)), (2, .int a2)] → W p l e (RMx 1 23 0 0) s m args below meth c H locs 0 0 Q (F0 m 51 ls []) := by
    intro  mf mg hf H locs hP hD hS ls hl
    unfold k_X1_passDay_51 at hf
    refine lv_aload_n hx hb dX1_passDay_51 rfl (lv_at hl 0 rfl) ?_
    refine lv_aload_n hx hb dX1_passDay_52 rfl (lv_at hl 0 rfl) ?_
    refine va_get (D := D) (ci := 1) (v := .int (mf 2)) (C := RX1) (T := TX1) (N := 16) hx hb hts fw_1 hown hK hP 0 rfl rfl 2 (by decide) (hts _ m_fieldLink_P_Cellar_107_P_Cellar_fear_I) (fun _ h9 => h9) rfl dX1_passDay_53 ?_
    refine lv_sipush (v := 9999) hx hb dX1_passDay_56 (by decide) ?_
    refine va_mmin hx hb (by rw [hml]; exact hl.1.symm) hown (hts _ m_methodLink_P_Cellar_76_java_lang_Math_min_II_I) (hts _ m_static_java_lang_Math_min_II_I) (hts _ m_initialized_java_lang_Math) (hts _ m_code_java_lang_Math_min_II_I) (Nat.le_of_ble_eq_true rfl) (Nat.le_of_ble_eq_true rfl) (Nat.zero_le _) (Nat.zero_le _) dX1_passDay_59 ?_
    refine lv_topi (fun mm1 emm1 => ?_)
    replace hf := nm_i emm1 hf
    refine va_put (D := D) (ci := 1) (v := .int mm1) (ty := .int) (C := RX1) (T := TX1) (N := 16) hx hb hts fw_1 tyX1 tyX1_ok nmX1 hown hK hP hD hS 0 rfl rfl 2 (by decide) (hts _ m_fieldLink_P_Cellar_107_P_Cellar_fear_I) (fun _ h9 => h9) rfl (by decide +kernel) rfl rfl (Nat.le_of_ble_eq_true rfl) dX1_passDay_62 (fun H locs hP hD hS => ?_)
    replace hP : va_P D vwCl (List.flatten [(Cw q cA (chv qc mc) (upd mf 2 mm1) mg), (chPool cn qc cA cf cg)]) H := hP
    replace hD : va_D A (List.flatten [(Cw q cA (chv qc mc) (upd mf 2 mm1) mg), (chPool cn qc cA cf cg)]) := hD
    refine lv_aload_n hx hb dX1_passDay_65 rfl (lv_at hl 0 rfl) ?_
    refine va_get (D := D) (ci := 1) (v := .int mm1) (C := RX1) (T := TX1) (N := 16) hx hb hts fw_1 hown hK hP 0 rfl rfl 2 (by decide) (hts _ m_fieldLink_P_Cellar_107_P_Cellar_fear_I) (fun _ h9 => h9) rfl dX1_passDay_66 ?_
    refine lv_bipush (v := 100) hx hb dX1_passDay_69 (by decide) ?_
    refine lv_icmp_lt (tgt := 98) hx hb dX1_passDay_71 (by decide) (fun c2 => ?_) (fun c2 => ?_)
    · replace hf := it_of c2 hf
      refine lv_iconst (v := 0) hx hb dX1_passDay_98 (by decide) ?_
      refine lv_istore_n (lv' := [(3, .int 0), (0, .ref (q 0)), (2, .int a2)]) hx hb dX1_passDay_99 rfl hl (by decide) rfl (fun ls hl => ?_)
      exact J100 100000 0 (upd mf 2 mm1) mg hf _ _ hP hD hS _ (lv_sub hl [1, 2, 0] rfl)
    · replace hf := ie_of c2 hf
      refine lv_aload_n hx hb dX1_passDay_74 rfl (lv_at hl 0 rfl) ?_
      refine lv_aload_n hx hb dX1_passDay_75 rfl (lv_at hl 0 rfl) ?_
      refine va_get (D := D) (ci := 1) (v := .int (mf 3)) (C := RX1) (T := TX1) (N := 16) hx hb hts fw_1 hown hK hP 0 rfl rfl 3 (by decide) (hts _ m_fieldLink_P_Cellar_112_P_Cellar_truths_I) (fun _ h9 => h9) rfl dX1_passDay_76 ?_
      refine lv_iconst (v := 1) hx hb dX1_passDay_79 (by decide) ?_
      refine lv_iadd hx hb dX1_passDay_80 ?_
      refine lv_iload_n hx hb dX1_passDay_81 rfl (lv_at hl 1 rfl) ?_
      refine va_mmin hx hb (by rw [hml]; exact hl.1.symm) hown (hts _ m_methodLink_P_Cellar_76_java_lang_Math_min_II_I) (hts _ m_static_java_lang_Math_min_II_I) (hts _ m_initialized_java_lang_Math) (hts _ m_code_java_lang_Math_min_II_I) (Nat.le_of_ble_eq_true rfl) (Nat.le_of_ble_eq_true rfl) (Nat.zero_le _) (Nat.zero_le _) dX1_passDay_82 ?_
      refine lv_topi (fun mm3 emm3 => ?_)
      replace hf := nm_i emm3 hf
      refine va_put (D := D) (ci := 1) (v := .int mm3) (ty := .int) (C := RX1) (T := TX1) (N := 16) hx hb hts fw_1 tyX1 tyX1_ok nmX1 hown hK hP hD hS 0 rfl rfl 3 (by decide) (hts _ m_fieldLink_P_Cellar_112_P_Cellar_truths_I) (fun _ h9 => h9) rfl (by decide +kernel) rfl rfl (Nat.le_of_ble_eq_true rfl) dX1_passDay_85 (fun H locs hP hD hS => ?_)
      replace hP : va_P D vwCl (List.flatten [(Cw q cA (chv qc mc) (upd (upd mf 2 mm1) 3 mm3) mg), (chPool cn qc cA cf cg)]) H := hP
      replace hD : va_D A (List.flatten [(Cw q cA (chv qc mc) (upd (upd mf 2 mm1) 3 mm3) mg), (chPool cn qc cA cf cg)]) := hD
      refine lv_aload_n hx hb dX1_passDay_88 rfl (lv_at hl 0 rfl) ?_
      refine lv_dup hx hb dX1_passDay_89 rfl ?_
      refine va_get (D := D) (ci := 1) (v := .int mm1) (C := RX1) (T := TX1) (N := 16) hx hb hts fw_1 hown hK hP 0 rfl rfl 2 (by decide) (hts _ m_fieldLink_P_Cellar_107_P_Cellar_fear_I) (fun _ h9 => h9) rfl dX1_passDay_90 ?_
      refine lv_iconst (v := 2) hx hb dX1_passDay_93 (by decide) ?_
      refine lv_idiv hx hb dX1_passDay_94 (by decide) ?_
      refine va_put (D := D) (ci := 1) (v := .int (mm1 / 2)) (ty := .int) (C := RX1) (T := TX1) (N := 16) hx hb hts fw_1 tyX1 tyX1_ok nmX1 hown hK hP hD hS 0 rfl rfl 2 (by decide) (hts _ m_fieldLink_P_Cellar_107_P_Cellar_fear_I) (fun _ h9 => h9) rfl (by decide +kernel) rfl rfl (Nat.le_of_ble_eq_true rfl) dX1_passDay_95 (fun H locs hP hD hS => ?_)
      replace hP : va_P D vwCl (List.flatten [(Cw q cA (chv qc mc) (upd (upd (upd mf 2 mm1) 3 mm3) 2 (mm1 / 2)) mg), (chPool cn qc cA cf cg)]) H := hP
      replace hD : va_D A (List.flatten [(Cw q cA (chv qc mc) (upd (upd (upd mf 2 mm1) 3 mm3) 2 (mm1 / 2)) mg), (chPool cn qc cA cf cg)]) := hD
      obtain ⟨mf_4, hv5, hf⟩ := nm_of hf
      replace hP : va_P D vwCl (List.flatten [(Cw q cA (chv qc mc) mf_4 mg), (chPool cn qc cA cf cg)]) H := by rw [hv5]; exact hP
      replace hD : va_D A (List.flatten [(Cw q cA (chv qc mc) mf_4 mg), (chPool cn qc cA cf cg)]) := by rw [hv5]; exact hD
      refine lv_iconst (v := 0) hx hb dX1_passDay_98 (by decide) ?_
      refine lv_istore_n (lv' := [(3, .int 0), (0, .ref (q 0)), (2, .int a2)]) hx hb dX1_passDay_99 rfl hl (by decide) rfl (fun ls hl => ?_)
      exact J100 100000 0 mf_4 mg hf _ _ hP hD hS _ (lv_sub hl [1, 2, 0] rfl)
  unfold k_X1_passDay at hf
  refine lv_iload_n hx hb dX1_passDay_0 rfl (lv_at hl 1 rfl) ?_
  refine lv_if_ne (tgt := 32) hx hb dX1_passDay_1 (by decide) (fun c1 => ?_) (fun c1 => ?_)
  · replace hf := ie_of c1 hf
    refine lv_aload_n hx hb dX1_passDay_32 rfl (lv_at hl 0 rfl) ?_
    refine lv_iconst (v := 0) hx hb dX1_passDay_33 (by decide) ?_
    refine lv_aload_n hx hb dX1_passDay_34 rfl (lv_at hl 0 rfl) ?_
    refine va_get (D := D) (ci := 1) (v := .int (mf0 2)) (C := RX1) (T := TX1) (N := 16) hx hb hts fw_1 hown hK hP 0 rfl rfl 2 (by decide) (hts _ m_fieldLink_P_Cellar_107_P_Cellar_fear_I) (fun _ h9 => h9) rfl dX1_passDay_35 ?_
    refine lv_iload_n hx hb dX1_passDay_38 rfl (lv_at hl 1 rfl) ?_
    refine lv_iadd hx hb dX1_passDay_39 ?_
    refine lv_aload_n hx hb dX1_passDay_40 rfl (lv_at hl 0 rfl) ?_
    obtain ⟨r2q, hq3, hf⟩ := b1_of hf
    refine callVI (As := []) (rest := [.int ((mf0 2) + a1), .int 0, .ref (q 0)]) (wr := []) C0 (c_X1_calm q qc mf0 mg0 mc cn cf cg _ hq3) lk_X1_110_X1_calm rfl hP hD hS perm_nil 0 1 rfl rfl rfl hl.1 rfl rfl (Nat.le_of_ble_eq_true rfl) dX1_passDay_41 ⟨Nat.zero_le _, Nat.zero_le _⟩ (fun r2 w H locs hw hP hD hS => ?_)
    obtain ⟨e1, e2⟩ := hw
    replace e1 : r2 = r2q := e1
    subst e1
    subst e2
    replace hP : va_P D vwCl (List.flatten [(Cw q cA (chv qc mc) mf0 mg0), (chPool cn qc cA cf cg)]) H := hP.nil
    replace hD : va_D A (List.flatten [(Cw q cA (chv qc mc) mf0 mg0), (chPool cn qc cA cf cg)]) := hD.nil
    refine lv_isub hx hb dX1_passDay_44 ?_
    refine va_mmax hx hb (by rw [hml]; exact hl.1.symm) hown (hts _ m_methodLink_P_Cellar_93_java_lang_Math_max_II_I) (hts _ m_static_java_lang_Math_max_II_I) (hts _ m_initialized_java_lang_Math) (hts _ m_code_java_lang_Math_max_II_I) (Nat.le_of_ble_eq_true rfl) (Nat.le_of_ble_eq_true rfl) (Nat.zero_le _) (Nat.zero_le _) dX1_passDay_45 ?_
    refine lv_topi (fun mm4 emm4 => ?_)
    replace hf := nm_i emm4 hf
    refine va_put (D := D) (ci := 1) (v := .int mm4) (ty := .int) (C := RX1) (T := TX1) (N := 16) hx hb hts fw_1 tyX1 tyX1_ok nmX1 hown hK hP hD hS 0 rfl rfl 2 (by decide) (hts _ m_fieldLink_P_Cellar_107_P_Cellar_fear_I) (fun _ h9 => h9) rfl (by decide +kernel) rfl rfl (Nat.le_of_ble_eq_true rfl) dX1_passDay_48 (fun H locs hP hD hS => ?_)
    replace hP : va_P D vwCl (List.flatten [(Cw q cA (chv qc mc) (upd mf0 2 mm4) mg0), (chPool cn qc cA cf cg)]) H := hP
    replace hD : va_D A (List.flatten [(Cw q cA (chv qc mc) (upd mf0 2 mm4) mg0), (chPool cn qc cA cf cg)]) := hD
    exact J51 (upd mf0 2 mm4) mg0 hf _ _ hP hD hS _ (lv_sub hl [0, 2] rfl)
  · replace hf := it_of c1 hf
    refine lv_aload_n hx hb dX1_passDay_4 rfl (lv_at hl 0 rfl) ?_
    refine lv_aload_n hx hb dX1_passDay_5 rfl (lv_at hl 0 rfl) ?_
    refine va_get (D := D) (ci := 1) (v := .int (mf0 4)) (C := RX1) (T := TX1) (N := 16) hx hb hts fw_1 hown hK hP 0 rfl rfl 4 (by decide) (hts _ m_fieldLink_P_Cellar_104_P_Cellar_silences_I) (fun _ h9 => h9) rfl dX1_passDay_6 ?_
    refine lv_iconst (v := 1) hx hb dX1_passDay_9 (by decide) ?_
    refine lv_iadd hx hb dX1_passDay_10 ?_
    refine lv_iload_n hx hb dX1_passDay_11 rfl (lv_at hl 2 rfl) ?_
    refine va_mmin hx hb (by rw [hml]; exact hl.1.symm) hown (hts _ m_methodLink_P_Cellar_76_java_lang_Math_min_II_I) (hts _ m_static_java_lang_Math_min_II_I) (hts _ m_initialized_java_lang_Math) (hts _ m_code_java_lang_Math_min_II_I) (Nat.le_of_ble_eq_true rfl) (Nat.le_of_ble_eq_true rfl) (Nat.zero_le _) (Nat.zero_le _) dX1_passDay_12 ?_
    refine lv_topi (fun mm5 emm5 => ?_)
    replace hf := nm_i emm5 hf
    refine va_put (D := D) (ci := 1) (v := .int mm5) (ty := .int) (C := RX1) (T := TX1) (N := 16) hx hb hts fw_1 tyX1 tyX1_ok nmX1 hown hK hP hD hS 0 rfl rfl 4 (by decide) (hts _ m_fieldLink_P_Cellar_104_P_Cellar_silences_I) (fun _ h9 => h9) rfl (by decide +kernel) rfl rfl (Nat.le_of_ble_eq_true rfl) dX1_passDay_15 (fun H locs hP hD hS => ?_)
    replace hP : va_P D vwCl (List.flatten [(Cw q cA (chv qc mc) (upd mf0 4 mm5) mg0), (chPool cn qc cA cf cg)]) H := hP
    replace hD : va_D A (List.flatten [(Cw q cA (chv qc mc) (upd mf0 4 mm5) mg0), (chPool cn qc cA cf cg)]) := hD
    refine lv_aload_n hx hb dX1_passDay_18 rfl (lv_at hl 0 rfl) ?_
    refine lv_dup hx hb dX1_passDay_19 rfl ?_
    refine va_get (D := D) (ci := 1) (v := .int (mf0 2)) (C := RX1) (T := TX1) (N := 16) hx hb hts fw_1 hown hK hP 0 rfl rfl 2 (by decide) (hts _ m_fieldLink_P_Cellar_107_P_Cellar_fear_I) (fun _ h9 => h9) rfl dX1_passDay_20 ?_
    refine lv_bipush (v := 50) hx hb dX1_passDay_23 (by decide) ?_
    refine lv_iadd hx hb dX1_passDay_25 ?_
    refine va_put (D := D) (ci := 1) (v := .int ((mf0 2) + 50)) (ty := .int) (C := RX1) (T := TX1) (N := 16) hx hb hts fw_1 tyX1 tyX1_ok nmX1 hown hK hP hD hS 0 rfl rfl 2 (by decide) (hts _ m_fieldLink_P_Cellar_107_P_Cellar_fear_I) (fun _ h9 => h9) rfl (by decide +kernel) rfl rfl (Nat.le_of_ble_eq_true rfl) dX1_passDay_26 (fun H locs hP hD hS => ?_)
    replace hP : va_P D vwCl (List.flatten [(Cw q cA (chv qc mc) (upd (upd mf0 4 mm5) 2 ((mf0 2) + 50)) mg0), (chPool cn qc cA cf cg)]) H := hP
    replace hD : va_D A (List.flatten [(Cw q cA (chv qc mc) (upd (upd mf0 4 mm5) 2 ((mf0 2) + 50)) mg0), (chPool cn qc cA cf cg)]) := hD
    refine lv_goto (tgt := 51) hx hb dX1_passDay_29 (by decide) ?_
    exact J51 (upd (upd mf0 4 mm5) 2 ((mf0 2) + 50)) mg0 hf _ _ hP hD hS _ (lv_sub hl [0, 2] rfl)

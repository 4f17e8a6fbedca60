-- goesText
noncomputable def k_X7_goesText_15 (a1 : Int32) (fi : Nat → Int32) : Nat → Int32 → (Nat → Int32) → (Nat → Nat → Int32) → (Nat → Nat → Int32) → Option (Int32 × (Nat → Int32) × (Nat → Nat → Int32) × (Nat → Nat → Int32))
  | 0, _, _, _, _ => none
  | n + 1, x2, fs, ga, gs => b4 (k_X7_takesClause ((10 * a1) + x2) fi fs ga gs) (fun r1 fs_2 ga_3 gs_4 => if r1 = 0 then some (0, fs_2, ga_3, gs_4) else gd a1 6 (if (fs_2 14) = (fi 13) then some (1, fs_2, (va_up ga_3 17 (upd (ga_3 17) (Int32.toNatClampNeg a1) (x2 + 1))), gs_4) else if (x2 + 1) = 10 then some (0, fs_2, (va_up ga_3 17 (upd (ga_3 17) (Int32.toNatClampNeg a1) (x2 + 1))), gs_4) else b2 (k_X7_takes 59 fi fs_2 (va_up ga_3 17 (upd (ga_3 17) (Int32.toNatClampNeg a1) (x2 + 1)))) (fun r11 fs_12 => if r11 = 0 then some (0, fs_12, (va_up ga_3 17 (upd (ga_3 17) (Int32.toNatClampNeg a1) (x2 + 1))), gs_4) else k_X7_goesText_15 a1 fi n (x2 + 1) fs_12 (va_up ga_3 17 (upd (ga_3 17) (Int32.toNatClampNeg a1) (x2 + 1))) gs_4)))
noncomputable def k_X7_goesText (a1 : Int32) (fi : Nat → Int32) (fs0 : Nat → Int32) (ga0 : Nat → Nat → Int32) (gs0 : Nat → Nat → Int32) : Option (Int32 × (Nat → Int32) × (Nat → Nat → Int32) × (Nat → Nat → Int32)) := k_X7_goesText_15 a1 fi 100000 0 (upd (upd fs0 14 0) 24 (100 * a1)) ga0 gs0
set_option maxHeartbeats 4000000 in
set_option maxRecDepth 100000 in
theorem c_X7_goesText {l : Launch} {D : va_G} {cA : Nat → ClassId} (h : Nat) (q : Nat → Nat) (fi : Nat → Int32) (fs0 : Nat → Int32) (ga0 : Nat → Nat → Int32) (gs0 : Nat → Nat → Int32) (pl : Nat → Int32) (it : Nat → Int64) (asd : Nat → Int64) (a1 : Int32) (o : Int32 × (Nat → Int32) × (Nat → Nat → Int32) × (Nat → Nat → Int32)) (hf : k_X7_goesText a1 fi fs0 ga0 gs0 = some o) : CI l D cA yX7_goesText cX7_goesText 3 (some .boolean) 6 130 [.ref h, .int a1] (Mw h q cA fi fs0 ga0 gs0 pl it asd) 0 0 (fun r w => (r = o.1 ∧ w = (Mw h q cA fi o.2.1 o.2.2.1 o.2.2.2 pl it asd)) ∧ narrow .boolean (.int r) = .int r) := by
  intro sz
  refine met_start (by decide) rfl ?_
  intro p e s m args below meth c ls hsz hargs C0 hname hP hD hS hl
  generalize hAe : va_A (Mw h q cA fi fs0 ga0 gs0 pl it asd) sz = A at C0 hD hS ⊢
  obtain ⟨hx, hb, hr, hml, hown, hts, hlk, hK, hA⟩ := id C0
  replace hl : lv_has ls 3 [(0, .ref h), (1, .int a1)] := hl
  obtain ⟨Q, hQ⟩ : ∃ Q : State → Prop, Q = QI below D A (fun r w => (r = o.1 ∧ w = (Mw h q cA fi o.2.1 o.2.2.1 o.2.2.2 pl it asd)) ∧ narrow .boolean (.int r) = .int r) args s 0 0 := ⟨_, rfl⟩
  refine cast (by rw [hQ]) (?_ : W p l e (RMx 6 130 0 0) s m args below meth c s.heap [] 0 0 Q (F0 m 0 ls []))
  have J15 : ∀ n : Nat, ∀ (x2 : Int32) (fs : Nat → Int32) (ga : Nat → Nat → Int32) (gs : Nat → Nat → Int32), k_X7_goesText_15 a1 fi n x2 fs ga gs = some o → ∀ (H : Heap) (locs : List Loc), va_P D vwCl (Mw h q cA fi fs ga gs pl it asd) H → va_D A (Mw h q cA fi fs ga gs pl it asd) → va_S A s.heap H locs → ∀ ls : Array Slot, lv_has ls 3 [(0, .ref h), (1, .int a1), (2, .int x2)] → W p l e (RMx 6 130 0 0) s m args below meth c H locs 0 0 Q (F0 m 15 ls []) := by
    intro  n
    induction n with
    | zero =>
      intro x2 fs ga gs hf
      rw [k_X7_goesText_15] at hf
      cases hf
    | succ n ih =>
      intro x2 fs ga gs hf H locs hP hD hS ls hl
      rw [k_X7_goesText_15] at hf
      refine lv_aload_n hx hb dX7_goesText_15 rfl (lv_at hl 0 rfl) ?_
      refine lv_bipush (v := 10) hx hb dX7_goesText_16 (by decide) ?_
      refine lv_iload_n hx hb dX7_goesText_18 rfl (lv_at hl 1 rfl) ?_
      refine lv_imul hx hb dX7_goesText_19 ?_
      refine lv_iload_n hx hb dX7_goesText_20 rfl (lv_at hl 2 rfl) ?_
      refine lv_iadd hx hb dX7_goesText_21 ?_
      obtain ⟨r1q, fs_2, ga_3, gs_4, hq5, hf⟩ := b4_of hf
      refine callVI (As := [.int ((10 * a1) + x2)]) (rest := []) (wr := []) C0 (c_X7_takesClause h q fi fs ga gs pl it asd ((10 * a1) + x2) _ hq5) lk_X7_292_X7_takesClause rfl hP hD hS perm_nil 0 7 rfl rfl rfl hl.1 rfl rfl (Nat.le_of_ble_eq_true rfl) dX7_goesText_22 ⟨Nat.zero_le _, Nat.zero_le _⟩ (fun r1 w H locs hw hP hD hS => ?_)
      obtain ⟨⟨e1, e2⟩, z6⟩ := hw
      replace e1 : r1 = r1q := e1
      subst e1
      subst e2
      replace hP : va_P D vwCl (Mw h q cA fi fs_2 ga_3 gs_4 pl it asd) H := hP.nil
      replace hD : va_D A (Mw h q cA fi fs_2 ga_3 gs_4 pl it asd) := hD.nil
      refine lv_if_ne (tgt := 30) hx hb dX7_goesText_25 (by decide) (fun c7 => ?_) (fun c7 => ?_)
      · replace hf := ie_of c7 hf
        refine lv_iinc (v := (x2 + 1)) (lv' := [(2, .int (x2 + 1)), (0, .ref h), (1, .int a1)]) hx hb dX7_goesText_30 hl (k := 2) rfl rfl (by decide) rfl (fun ls hl => ?_)
        refine lv_aload_n hx hb dX7_goesText_33 rfl (lv_at hl 1 rfl) ?_
        refine va_get (D := D) (ci := 7) (v := .ref (q 17)) (C := RX7) (T := TX7) (N := 73) hx hb hts fw_7 hown hK hP 0 rfl rfl 17 (by decide) (hts _ m_fieldLink_M_62_M_clauses_aI) (fun _ h9 => h9) rfl dX7_goesText_34 ?_
        refine lv_iload_n hx hb dX7_goesText_37 rfl (lv_at hl 2 rfl) ?_
        refine lv_iload_n hx hb dX7_goesText_38 rfl (lv_at hl 0 rfl) ?_
        obtain ⟨hi8, hf⟩ := gd_of hf
        refine va_iast hx hb hK hP hD hS 7 0 rfl rfl hi8 dX7_goesText_39 (fun H locs hP hD hS => ?_)
        replace hP : va_P D vwCl (Mw h q cA fi fs_2 (va_up ga_3 17 (upd (ga_3 17) (Int32.toNatClampNeg a1) (x2 + 1))) gs_4 pl it asd) H := hP
        replace hD : va_D A (Mw h q cA fi fs_2 (va_up ga_3 17 (upd (ga_3 17) (Int32.toNatClampNeg a1) (x2 + 1))) gs_4 pl it asd) := hD
        refine lv_aload_n hx hb dX7_goesText_40 rfl (lv_at hl 1 rfl) ?_
        refine va_get (D := D) (ci := 7) (v := .int (fs_2 14)) (C := RX7) (T := TX7) (N := 73) hx hb hts fw_7 hown hK hP 0 rfl rfl 14 (by decide) (hts _ m_fieldLink_M_53_M_at_I) (fun _ h9 => h9) rfl dX7_goesText_41 ?_
        refine lv_aload_n hx hb dX7_goesText_44 rfl (lv_at hl 1 rfl) ?_
        refine va_get (D := D) (ci := 7) (v := .int (fi 13)) (C := RX7) (T := TX7) (N := 73) hx hb hts fw_7 hown hK hP 0 rfl rfl 13 (by decide) (hts _ m_fieldLink_M_50_M_fed_I) (fun _ h9 => h9) rfl dX7_goesText_45 ?_
        refine lv_icmp_ne (tgt := 53) hx hb dX7_goesText_48 (by decide) (fun c9 => ?_) (fun c9 => ?_)
        · replace hf := ie_of c9 hf
          refine lv_iload_n hx hb dX7_goesText_53 rfl (lv_at hl 0 rfl) ?_
          refine lv_bipush (v := 10) hx hb dX7_goesText_54 (by decide) ?_
          refine lv_icmp_eq (tgt := 68) hx hb dX7_goesText_56 (by decide) (fun c10 => ?_) (fun c10 => ?_)
          · replace hf := it_of c10 hf
            refine lv_iconst (v := 0) hx hb dX7_goesText_68 (by decide) ?_
            rw [hQ]
            exact ret_z C0 hP hD hS (by have e := Option.some.inj hf; rw [← e]; exact ⟨rfl, rfl⟩) rfl dX7_goesText_69
          · replace hf := ie_of c10 hf
            refine lv_aload_n hx hb dX7_goesText_59 rfl (lv_at hl 1 rfl) ?_
            refine lv_bipush (v := 59) hx hb dX7_goesText_60 (by decide) ?_
            obtain ⟨r11q, fs_12, hq13, hf⟩ := b2_of hf
            refine callVI (As := [.int 59]) (rest := []) (wr := []) C0 (c_X7_takes h q fi fs_2 (va_up ga_3 17 (upd (ga_3 17) (Int32.toNatClampNeg a1) (x2 + 1))) gs_4 pl it asd 59 _ hq13) lk_X7_256_X7_takes rfl hP hD hS perm_nil 0 7 rfl rfl rfl hl.1 rfl rfl (Nat.le_of_ble_eq_true rfl) dX7_goesText_62 ⟨Nat.zero_le _, Nat.zero_le _⟩ (fun r11 w H locs hw hP hD hS => ?_)
            obtain ⟨⟨e1, e2⟩, z14⟩ := hw
            replace e1 : r11 = r11q := e1
            subst e1
            subst e2
            replace hP : va_P D vwCl (Mw h q cA fi fs_12 (va_up ga_3 17 (upd (ga_3 17) (Int32.toNatClampNeg a1) (x2 + 1))) gs_4 pl it asd) H := hP.nil
            replace hD : va_D A (Mw h q cA fi fs_12 (va_up ga_3 17 (upd (ga_3 17) (Int32.toNatClampNeg a1) (x2 + 1))) gs_4 pl it asd) := hD.nil
            refine lv_if_ne (tgt := 15) hx hb dX7_goesText_65 (by decide) (fun c15 => ?_) (fun c15 => ?_)
            · replace hf := ie_of c15 hf
              exact ih (x2 + 1) fs_12 (va_up ga_3 17 (upd (ga_3 17) (Int32.toNatClampNeg a1) (x2 + 1))) gs_4 hf _ _ hP hD hS _ (lv_sub hl [1, 2, 0] rfl)
            · replace hf := it_of c15 hf
              refine lv_iconst (v := 0) hx hb dX7_goesText_68 (by decide) ?_
              rw [hQ]
              exact ret_z C0 hP hD hS (by have e := Option.some.inj hf; rw [← e]; exact ⟨rfl, rfl⟩) rfl dX7_goesText_69
        · replace hf := it_of c9 hf
          refine lv_iconst (v := 1) hx hb dX7_goesText_51 (by decide) ?_
          rw [hQ]
          exact ret_z C0 hP hD hS (by have e := Option.some.inj hf; rw [← e]; exact ⟨rfl, rfl⟩) rfl dX7_goesText_52
      · replace hf := it_of c7 hf
        refine lv_iconst (v := 0) hx hb dX7_goesText_28 (by decide) ?_
        rw [hQ]
        exact ret_z C0 hP hD hS (by have e := Option.some.inj hf; rw [← e]; exact ⟨rfl, rfl⟩) rfl dX7_goesText_29
  unfold k_X7_goesText at hf
  refine lv_aload_n hx hb dX7_goesText_0 rfl (lv_at hl 0 rfl) ?_
  refine lv_iconst (v := 0) hx hb dX7_goesText_1 (by decide) ?_
  refine va_put (D := D) (ci := 7) (v := .int 0) (ty := .int) (C := RX7) (T := TX7) (N := 73) hx hb hts fw_7 tyX7 tyX7_ok nmX7 hown hK hP hD hS 0 rfl rfl 14 (by decide) (hts _ m_fieldLink_M_53_M_at_I) (fun _ h9 => h9) rfl (by decide +kernel) rfl rfl (Nat.le_of_ble_eq_true rfl) dX7_goesText_2 (fun H locs hP hD hS => ?_)
  replace hP : va_P D vwCl (Mw h q cA fi (upd fs0 14 0) ga0 gs0 pl it asd) H := hP
  replace hD : va_D A (Mw h q cA fi (upd fs0 14 0) ga0 gs0 pl it asd) := hD
  refine lv_aload_n hx hb dX7_goesText_5 rfl (lv_at hl 0 rfl) ?_
  refine lv_bipush (v := 100) hx hb dX7_goesText_6 (by decide) ?_
  refine lv_iload_n hx hb dX7_goesText_8 rfl (lv_at hl 1 rfl) ?_
  refine lv_imul hx hb dX7_goesText_9 ?_
  refine va_put (D := D) (ci := 7) (v := .int (100 * a1)) (ty := .int) (C := RX7) (T := TX7) (N := 73) hx hb hts fw_7 tyX7 tyX7_ok nmX7 hown hK hP hD hS 0 rfl rfl 24 (by decide) (hts _ m_fieldLink_M_83_M_signs_I) (fun _ h9 => h9) rfl (by decide +kernel) rfl rfl (Nat.le_of_ble_eq_true rfl) dX7_goesText_10 (fun H locs hP hD hS => ?_)
  replace hP : va_P D vwCl (Mw h q cA fi (upd (upd fs0 14 0) 24 (100 * a1)) ga0 gs0 pl it asd) H := hP
  replace hD : va_D A (Mw h q cA fi (upd (upd fs0 14 0) 24 (100 * a1)) ga0 gs0 pl it asd) := hD
  refine lv_iconst (v := 0) hx hb dX7_goesText_13 (by decide) ?_
  refine lv_istore_n (lv' := [(2, .int 0), (0, .ref h), (1, .int a1)]) hx hb dX7_goesText_14 rfl hl (by decide) rfl (fun ls hl => ?_)
  exact J15 100000 0 (upd (upd fs0 14 0) 24 (100 * a1)) ga0 gs0 hf _ _ hP hD hS _ (lv_sub hl [1, 2, 0] rfl)
-- charter
noncomputable def k_X7_charter (fi0 : Nat → Int32) (fs0 : Nat → Int32) (ga0 : Nat → Nat → Int32) (gs0 : Nat → Nat → Int32) : Option (Int32 × (Nat → Int32) × (Nat → Int32) × (Nat → Nat → Int32) × (Nat → Nat → Int32)) := if (fi0 11) = 6 then some ((-4), fi0, fs0, ga0, gs0) else b4 (k_X7_goesText (fi0 11) fi0 fs0 ga0 gs0) (fun r2 fs_3 ga_4 gs_5 => if r2 = 0 then some (((-10) - (fs_3 14)), (upd fi0 13 0), fs_3, ga_4, gs_5) else nm (upd (upd (upd fi0 13 0) 12 (fi0 11)) 11 ((fi0 11) + 1)) (fun fi_9 => some ((fi_9 12), fi_9, fs_3, ga_4, gs_5)))
set_option maxHeartbeats 4000000 in
set_option maxRecDepth 100000 in
theorem c_X7_charter {l : Launch} {D : va_G} {cA : Nat → ClassId} (h : Nat) (q : Nat → Nat) (fi0 : Nat → Int32) (fs0 : Nat → Int32) (ga0 : Nat → Nat → Int32) (gs0 : Nat → Nat → Int32) (pl : Nat → Int32) (it : Nat → Int64) (asd : Nat → Int64)  (o : Int32 × (Nat → Int32) × (Nat → Int32) × (Nat → Nat → Int32) × (Nat → Nat → Int32)) (hf : k_X7_charter fi0 fs0 ga0 gs0 = some o) : CI l D cA yX7_charter cX7_charter 2 (some .int) 7 152 [.ref h] (Mw h q cA fi0 fs0 ga0 gs0 pl it asd) 0 0 (fun r w => r = o.1 ∧ w = (Mw h q cA o.2.1 o.2.2.1 o.2.2.2.1 o.2.2.2.2 pl it asd)) := by
  intro sz
  refine met_start (by decide) rfl ?_
  intro p e s m args below meth c ls hsz hargs C0 hname hP hD hS hl
  generalize hAe : va_A (Mw h q cA fi0 fs0 ga0 gs0 pl it asd) sz = A at C0 hD hS ⊢
  obtain ⟨hx, hb, hr, hml, hown, hts, hlk, hK, hA⟩ := id C0
  replace hl : lv_has ls 2 [(0, .ref h)] := hl
  obtain ⟨Q, hQ⟩ : ∃ Q : State → Prop, Q = QI below D A (fun r w => r = o.1 ∧ w = (Mw h q cA o.2.1 o.2.2.1 o.2.2.2.1 o.2.2.2.2 pl it asd)) args s 0 0 := ⟨_, rfl⟩
  refine cast (by rw [hQ]) (?_ : W p l e (RMx 7 152 0 0) s m args below meth c s.heap [] 0 0 Q (F0 m 0 ls []))
  unfold k_X7_charter at hf
  refine lv_aload_n hx hb dX7_charter_0 rfl (lv_at hl 0 rfl) ?_
  refine va_get (D := D) (ci := 7) (v := .int (fi0 11)) (C := RX7) (T := TX7) (N := 73) hx hb hts fw_7 hown hK hP 0 rfl rfl 11 (by decide) (hts _ m_fieldLink_M_44_M_charters_I) (fun _ h9 => h9) rfl dX7_charter_1 ?_
  refine lv_bipush (v := 6) hx hb dX7_charter_4 (by decide) ?_
  refine lv_icmp_ne (tgt := 12) hx hb dX7_charter_6 (by decide) (fun c1 => ?_) (fun c1 => ?_)
  · replace hf := ie_of c1 hf
    refine lv_aload_n hx hb dX7_charter_12 rfl (lv_at hl 0 rfl) ?_
    refine lv_aload_n hx hb dX7_charter_13 rfl (lv_at hl 0 rfl) ?_
    refine va_get (D := D) (ci := 7) (v := .int (fi0 11)) (C := RX7) (T := TX7) (N := 73) hx hb hts fw_7 hown hK hP 0 rfl rfl 11 (by decide) (hts _ m_fieldLink_M_44_M_charters_I) (fun _ h9 => h9) rfl dX7_charter_14 ?_
    obtain ⟨r2q, fs_3, ga_4, gs_5, hq6, hf⟩ := b4_of hf
    refine callVI (As := [.int (fi0 11)]) (rest := []) (wr := []) C0 (c_X7_goesText h q fi0 fs0 ga0 gs0 pl it asd (fi0 11) _ hq6) lk_X7_295_X7_goesText rfl hP hD hS perm_nil 0 7 rfl rfl rfl hl.1 rfl rfl (Nat.le_of_ble_eq_true rfl) dX7_charter_17 ⟨Nat.zero_le _, Nat.zero_le _⟩ (fun r2 w H locs hw hP hD hS => ?_)
    obtain ⟨⟨e1, e2⟩, z7⟩ := hw
    replace e1 : r2 = r2q := e1
    subst e1
    subst e2
    replace hP : va_P D vwCl (Mw h q cA fi0 fs_3 ga_4 gs_5 pl it asd) H := hP.nil
    replace hD : va_D A (Mw h q cA fi0 fs_3 ga_4 gs_5 pl it asd) := hD.nil
    refine lv_istore_n (lv' := [(1, .int r2), (0, .ref h)]) hx hb dX7_charter_20 rfl hl (by decide) rfl (fun ls hl => ?_)
    refine lv_aload_n hx hb dX7_charter_21 rfl (lv_at hl 1 rfl) ?_
    refine lv_iconst (v := 0) hx hb dX7_charter_22 (by decide) ?_
    refine va_put (D := D) (ci := 7) (v := .int 0) (ty := .int) (C := RX7) (T := TX7) (N := 73) hx hb hts fw_7 tyX7 tyX7_ok nmX7 hown hK hP hD hS 0 rfl rfl 13 (by decide) (hts _ m_fieldLink_M_50_M_fed_I) (fun _ h9 => h9) rfl (by decide +kernel) rfl rfl (Nat.le_of_ble_eq_true rfl) dX7_charter_23 (fun H locs hP hD hS => ?_)
    replace hP : va_P D vwCl (Mw h q cA (upd fi0 13 0) fs_3 ga_4 gs_5 pl it asd) H := hP
    replace hD : va_D A (Mw h q cA (upd fi0 13 0) fs_3 ga_4 gs_5 pl it asd) := hD
    refine lv_iload_n hx hb dX7_charter_26 rfl (lv_at hl 0 rfl) ?_
    refine lv_if_ne (tgt := 38) hx hb dX7_charter_27 (by decide) (fun c8 => ?_) (fun c8 => ?_)
    · replace hf := ie_of c8 hf
      refine lv_aload_n hx hb dX7_charter_38 rfl (lv_at hl 1 rfl) ?_
      refine lv_aload_n hx hb dX7_charter_39 rfl (lv_at hl 1 rfl) ?_
      refine va_get (D := D) (ci := 7) (v := .int (fi0 11)) (C := RX7) (T := TX7) (N := 73) hx hb hts fw_7 hown hK hP 0 rfl rfl 11 (by decide) (hts _ m_fieldLink_M_44_M_charters_I) (fun _ h9 => h9) rfl dX7_charter_40 ?_
      refine va_put (D := D) (ci := 7) (v := .int (fi0 11)) (ty := .int) (C := RX7) (T := TX7) (N := 73) hx hb hts fw_7 tyX7 tyX7_ok nmX7 hown hK hP hD hS 0 rfl rfl 12 (by decide) (hts _ m_fieldLink_M_47_M_the_I) (fun _ h9 => h9) rfl (by decide +kernel) rfl rfl (Nat.le_of_ble_eq_true rfl) dX7_charter_43 (fun H locs hP hD hS => ?_)
      replace hP : va_P D vwCl (Mw h q cA (upd (upd fi0 13 0) 12 (fi0 11)) fs_3 ga_4 gs_5 pl it asd) H := hP
      replace hD : va_D A (Mw h q cA (upd (upd fi0 13 0) 12 (fi0 11)) fs_3 ga_4 gs_5 pl it asd) := hD
      refine lv_aload_n hx hb dX7_charter_46 rfl (lv_at hl 1 rfl) ?_
      refine lv_dup hx hb dX7_charter_47 rfl ?_
      refine va_get (D := D) (ci := 7) (v := .int (fi0 11)) (C := RX7) (T := TX7) (N := 73) hx hb hts fw_7 hown hK hP 0 rfl rfl 11 (by decide) (hts _ m_fieldLink_M_44_M_charters_I) (fun _ h9 => h9) rfl dX7_charter_48 ?_
      refine lv_iconst (v := 1) hx hb dX7_charter_51 (by decide) ?_
      refine lv_iadd hx hb dX7_charter_52 ?_
      refine va_put (D := D) (ci := 7) (v := .int ((fi0 11) + 1)) (ty := .int) (C := RX7) (T := TX7) (N := 73) hx hb hts fw_7 tyX7 tyX7_ok nmX7 hown hK hP hD hS 0 rfl rfl 11 (by decide) (hts _ m_fieldLink_M_44_M_charters_I) (fun _ h9 => h9) rfl (by decide +kernel) rfl rfl (Nat.le_of_ble_eq_true rfl) dX7_charter_53 (fun H locs hP hD hS => ?_)
      replace hP : va_P D vwCl (Mw h q cA (upd (upd (upd fi0 13 0) 12 (fi0 11)) 11 ((fi0 11) + 1)) fs_3 ga_4 gs_5 pl it asd) H := hP
      replace hD : va_D A (Mw h q cA (upd (upd (upd fi0 13 0) 12 (fi0 11)) 11 ((fi0 11) + 1)) fs_3 ga_4 gs_5 pl it asd) := hD
      obtain ⟨fi_9, hv10, hf⟩ := nm_of hf
      replace hP : va_P D vwCl (Mw h q cA fi_9 fs_3 ga_4 gs_5 pl it asd) H := by rw [hv10]; exact hP
      replace hD : va_D A (Mw h q cA fi_9 fs_3 ga_4 gs_5 pl it asd) := by rw [hv10]; exact hD
      refine lv_aload_n hx hb dX7_charter_56 rfl (lv_at hl 1 rfl) ?_
      refine va_get (D := D) (ci := 7) (v := .int (fi_9 12)) (C := RX7) (T := TX7) (N := 73) hx hb hts fw_7 hown hK hP 0 rfl rfl 12 (by decide) (hts _ m_fieldLink_M_47_M_the_I) (fun _ h9 => h9) rfl dX7_charter_57 ?_
      rw [hQ]
      exact ret_i C0 hP hD hS (by have e := Option.some.inj hf; rw [← e]; exact ⟨rfl, rfl⟩) dX7_charter_60
    · replace hf := it_of c8 hf
      refine lv_bipush (v := (-10)) hx hb dX7_charter_30 (by decide) ?_
      refine lv_aload_n hx hb dX7_charter_32 rfl (lv_at hl 1 rfl) ?_
      refine va_get (D := D) (ci := 7) (v := .int (fs_3 14)) (C := RX7) (T := TX7) (N := 73) hx hb hts fw_7 hown hK hP 0 rfl rfl 14 (by decide) (hts _ m_fieldLink_M_53_M_at_I) (fun _ h9 => h9) rfl dX7_charter_33 ?_
      refine lv_isub hx hb dX7_charter_36 ?_
      rw [hQ]
      exact ret_i C0 hP hD hS (by have e := Option.some.inj hf; rw [← e]; exact ⟨rfl, rfl⟩) dX7_charter_37
  · replace hf := it_of c1 hf
    refine lv_bipush (v := (-4)) hx hb dX7_charter_9 (by decide) ?_
    rw [hQ]
    exact ret_i C0 hP hD hS (by have e := Option.some.inj hf; rw [← e]; exact ⟨rfl, rfl⟩) dX7_charter_11
-- begin
noncomputable def k_X7_begin (fi : Nat → Int32) : Option Int32 := if 0 ≤ (fi 12) then some (10 * (fi 12)) else some 0
set_option maxHeartbeats 4000000 in
set_option maxRecDepth 100000 in
theorem c_X7_begin {l : Launch} {D : va_G} {cA : Nat → ClassId} (h : Nat) (q : Nat → Nat) (fi : Nat → Int32) (fs : Nat → Int32) (ga : Nat → Nat → Int32) (gs : Nat → Nat → Int32) (pl : Nat → Int32) (it : Nat → Int64) (asd : Nat → Int64)  (o : Int32) (hf : k_X7_begin fi = some o) : CI l D cA yX7_begin cX7_begin 1 (some .int) 0 0 [.ref h] (Mw h q cA fi fs ga gs pl it asd) 0 0 (fun r w => r = o ∧ w = (Mw h q cA fi fs ga gs pl it asd)) := by
  intro sz
  refine met_start (by decide) rfl ?_
  intro p e s m args below meth c ls hsz hargs C0 hname hP hD hS hl
  generalize hAe : va_A (Mw h q cA fi fs ga gs pl it asd) sz = A at C0 hD hS ⊢
  obtain ⟨hx, hb, hr, hml, hown, hts, hlk, hK, hA⟩ := id C0
  replace hl : lv_has ls 1 [(0, .ref h)] := hl
  obtain ⟨Q, hQ⟩ : ∃ Q : State → Prop, Q = QI below D A (fun r w => r = o ∧ w = (Mw h q cA fi fs ga gs pl it asd)) args s 0 0 := ⟨_, rfl⟩
  refine cast (by rw [hQ]) (?_ : W p l e (RMx 0 0 0 0) s m args below meth c s.heap [] 0 0 Q (F0 m 0 ls []))
  unfold k_X7_begin at hf
  refine lv_aload_n hx hb dX7_begin_0 rfl (lv_at hl 0 rfl) ?_
  refine va_get (D := D) (ci := 7) (v := .int (fi 12)) (C := RX7) (T := TX7) (N := 73) hx hb hts fw_7 hown hK hP 0 rfl rfl 12 (by decide) (hts _ m_fieldLink_M_47_M_the_I) (fun _ h9 => h9) rfl dX7_begin_1 ?_
  refine lv_if_ge (tgt := 11) hx hb dX7_begin_4 (by decide) (fun c1 => ?_) (fun c1 => ?_)
  · replace hf := it_of c1 hf
    refine lv_bipush (v := 10) hx hb dX7_begin_11 (by decide) ?_
    refine lv_aload_n hx hb dX7_begin_13 rfl (lv_at hl 0 rfl) ?_
    refine va_get (D := D) (ci := 7) (v := .int (fi 12)) (C := RX7) (T := TX7) (N := 73) hx hb hts fw_7 hown hK hP 0 rfl rfl 12 (by decide) (hts _ m_fieldLink_M_47_M_the_I) (fun _ h9 => h9) rfl dX7_begin_14 ?_
    refine lv_imul hx hb dX7_begin_17 ?_
    rw [hQ]
    exact ret_i C0 hP hD hS (by have e := Option.some.inj hf; rw [← e]; exact ⟨rfl, rfl⟩) dX7_begin_18
  · replace hf := ie_of c1 hf
    refine lv_iconst (v := 0) hx hb dX7_begin_7 (by decide) ?_
    refine lv_goto (tgt := 18) hx hb dX7_begin_8 (by decide) ?_
    rw [hQ]
    exact ret_i C0 hP hD hS (by have e := Option.some.inj hf; rw [← e]; exact ⟨rfl, rfl⟩) dX7_begin_18
-- behind
noncomputable def k_X7_behind (fi : Nat → Int32) (ga : Nat → Nat → Int32) : Option Int32 := if 0 ≤ (fi 12) then gd (fi 12) 6 (some ((10 * (fi 12)) + ((ga 17) (Int32.toNatClampNeg (fi 12))))) else some 0
set_option maxHeartbeats 4000000 in
set_option maxRecDepth 100000 in
theorem c_X7_behind {l : Launch} {D : va_G} {cA : Nat → ClassId} (h : Nat) (q : Nat → Nat) (fi : Nat → Int32) (fs : Nat → Int32) (ga : Nat → Nat → Int32) (gs : Nat → Nat → Int32) (pl : Nat → Int32) (it : Nat → Int64) (asd : Nat → Int64)  (o : Int32) (hf : k_X7_behind fi ga = some o) : CI l D cA yX7_behind cX7_behind 1 (some .int) 0 0 [.ref h] (Mw h q cA fi fs ga gs pl it asd) 0 0 (fun r w => r = o ∧ w = (Mw h q cA fi fs ga gs pl it asd)) := by
  intro sz
  refine met_start (by decide) rfl ?_
  intro p e s m args below meth c ls hsz hargs C0 hname hP hD hS hl
  generalize hAe : va_A (Mw h q cA fi fs ga gs pl it asd) sz = A at C0 hD hS ⊢
  obtain ⟨hx, hb, hr, hml, hown, hts, hlk, hK, hA⟩ := id C0
  replace hl : lv_has ls 1 [(0, .ref h)] := hl
  obtain ⟨Q, hQ⟩ : ∃ Q : State → Prop, Q = QI below D A (fun r w => r = o ∧ w = (Mw h q cA fi fs ga gs pl it asd)) args s 0 0 := ⟨_, rfl⟩
  refine cast (by rw [hQ]) (?_ : W p l e (RMx 0 0 0 0) s m args below meth c s.heap [] 0 0 Q (F0 m 0 ls []))
  unfold k_X7_behind at hf
  refine lv_aload_n hx hb dX7_behind_0 rfl (lv_at hl 0 rfl) ?_
  refine va_get (D := D) (ci := 7) (v := .int (fi 12)) (C := RX7) (T := TX7) (N := 73) hx hb hts fw_7 hown hK hP 0 rfl rfl 12 (by decide) (hts _ m_fieldLink_M_47_M_the_I) (fun _ h9 => h9) rfl dX7_behind_1 ?_
  refine lv_if_ge (tgt := 11) hx hb dX7_behind_4 (by decide) (fun c1 => ?_) (fun c1 => ?_)
  · replace hf := it_of c1 hf
    refine lv_bipush (v := 10) hx hb dX7_behind_11 (by decide) ?_
    refine lv_aload_n hx hb dX7_behind_13 rfl (lv_at hl 0 rfl) ?_
    refine va_get (D := D) (ci := 7) (v := .int (fi 12)) (C := RX7) (T := TX7) (N := 73) hx hb hts fw_7 hown hK hP 0 rfl rfl 12 (by decide) (hts _ m_fieldLink_M_47_M_the_I) (fun _ h9 => h9) rfl dX7_behind_14 ?_
    refine lv_imul hx hb dX7_behind_17 ?_
    refine lv_aload_n hx hb dX7_behind_18 rfl (lv_at hl 0 rfl) ?_
    refine va_get (D := D) (ci := 7) (v := .ref (q 17)) (C := RX7) (T := TX7) (N := 73) hx hb hts fw_7 hown hK hP 0 rfl rfl 17 (by decide) (hts _ m_fieldLink_M_62_M_clauses_aI) (fun _ h9 => h9) rfl dX7_behind_19 ?_
    refine lv_aload_n hx hb dX7_behind_22 rfl (lv_at hl 0 rfl) ?_
    refine va_get (D := D) (ci := 7) (v := .int (fi 12)) (C := RX7) (T := TX7) (N := 73) hx hb hts fw_7 hown hK hP 0 rfl rfl 12 (by decide) (hts _ m_fieldLink_M_47_M_the_I) (fun _ h9 => h9) rfl dX7_behind_23 ?_
    obtain ⟨hi2, hf⟩ := gd_of hf
    refine va_iald hx hb hK hP 7 0 rfl rfl hi2 dX7_behind_26 ?_
    refine lv_iadd hx hb dX7_behind_27 ?_
    rw [hQ]
    exact ret_i C0 hP hD hS (by have e := Option.some.inj hf; rw [← e]; exact ⟨rfl, rfl⟩) dX7_behind_28
  · replace hf := ie_of c1 hf
    refine lv_iconst (v := 0) hx hb dX7_behind_7 (by decide) ?_
    refine lv_goto (tgt := 28) hx hb dX7_behind_8 (by decide) ?_
    rw [hQ]
    exact ret_i C0 hP hD hS (by have e := Option.some.inj hf; rw [← e]; exact ⟨rfl, rfl⟩) dX7_behind_28
-- calm
noncomputable def k_X7_calm_8 (fi : Nat → Int32) (ga : Nat → Nat → Int32) : Nat → Int32 → Int32 → Option Int32
  | 0, _, _ => none
  | n + 1, x1, x2 => b1 (k_X7_behind fi ga) (fun r1 => if r1 ≤ x2 then some x1 else gd x2 60 (if ((ga 18) (Int32.toNatClampNeg x2)) = 2 then gd x2 60 (k_X7_calm_8 fi ga n ((ga 19) (Int32.toNatClampNeg x2)) (x2 + 1)) else k_X7_calm_8 fi ga n x1 (x2 + 1)))
noncomputable def k_X7_calm (fi : Nat → Int32) (ga : Nat → Nat → Int32) : Option Int32 := b1 (k_X7_begin fi) (fun r1 => k_X7_calm_8 fi ga 100000 10 r1)
set_option maxHeartbeats 4000000 in
set_option maxRecDepth 100000 in
theorem c_X7_calm {l : Launch} {D : va_G} {cA : Nat → ClassId} (h : Nat) (q : Nat → Nat) (fi : Nat → Int32) (fs : Nat → Int32) (ga : Nat → Nat → Int32) (gs : Nat → Nat → Int32) (pl : Nat → Int32) (it : Nat → Int64) (asd : Nat → Int64)  (o : Int32) (hf : k_X7_calm fi ga = some o) : CI l D cA yX7_calm cX7_calm 3 (some .int) 1 20 [.ref h] (Mw h q cA fi fs ga gs pl it asd) 0 0 (fun r w => r = o ∧ w = (Mw h q cA fi fs ga gs pl it asd)) := by
  intro sz
  refine met_start (by decide) rfl ?_
  intro p e s m args below meth c ls hsz hargs C0 hname hP hD hS hl
  generalize hAe : va_A (Mw h q cA fi fs ga gs pl it asd) sz = A at C0 hD hS ⊢
  obtain ⟨hx, hb, hr, hml, hown, hts, hlk, hK, hA⟩ := id C0
  replace hl : lv_has ls 3 [(0, .ref h)] := hl
  obtain ⟨Q, hQ⟩ : ∃ Q : State → Prop, Q = QI below D A (fun r w => r = o ∧ w = (Mw h q cA fi fs ga gs pl it asd)) args s 0 0 := ⟨_, rfl⟩
  refine cast (by rw [hQ]) (?_ : W p l e (RMx 1 20 0 0) s m args below meth c s.heap [] 0 0 Q (F0 m 0 ls []))
  have J8 : ∀ n : Nat, ∀ (x1 : Int32) (x2 : Int32), k_X7_calm_8 fi ga n x1 x2 = some o → ∀ (H : Heap) (locs : List Loc), va_P D vwCl (Mw h q cA fi fs ga gs pl it asd) H → va_D A (Mw h q cA fi fs ga gs pl it asd) → va_S A s.heap H locs → ∀ ls : Array Slot, lv_has ls 3 [(0, .ref h), (1, .int x1), (2, .int x2)] → W p l e (RMx 1 20 0 0) s m args below meth c H locs 0 0 Q (F0 m 8 ls []) := by
    intro  n
    induction n with
    | zero =>
      intro x1 x2 hf
      rw [k_X7_calm_8] at hf
      cases hf
    | succ n ih =>
      intro x1 x2 hf H locs hP hD hS ls hl
      rw [k_X7_calm_8] at hf
      refine lv_iload_n hx hb dX7_calm_8 rfl (lv_at hl 2 rfl) ?_
      refine lv_aload_n hx hb dX7_calm_9 rfl (lv_at hl 0 rfl) ?_
      obtain ⟨r1q, hq2, hf⟩ := b1_of hf
      refine callVI (As := []) (rest := [.int x2]) (wr := []) C0 (c_X7_behind h q fi fs ga gs pl it asd _ hq2) lk_X7_301_X7_behind rfl hP hD hS perm_nil 0 7 rfl rfl rfl hl.1 rfl rfl (Nat.le_of_ble_eq_true rfl) dX7_calm_10 ⟨Nat.zero_le _, Nat.zero_le _⟩ (fun r1 w H locs hw hP hD hS => ?_)
      obtain ⟨e1, e2⟩ := hw
      replace e1 : r1 = r1q := e1
      subst e1
      subst e2
      replace hP : va_P D vwCl (Mw h q cA fi fs ga gs pl it asd) H := hP.nil
      replace hD : va_D A (Mw h q cA fi fs ga gs pl it asd) := hD.nil
      refine lv_icmp_ge (tgt := 43) hx hb dX7_calm_13 (by decide) (fun c3 => ?_) (fun c3 => ?_)
      · replace hf := it_of c3 hf
        refine lv_iload_n hx hb dX7_calm_43 rfl (lv_at hl 1 rfl) ?_
        rw [hQ]
        exact ret_i C0 hP hD hS (by have e := Option.some.inj hf; rw [← e]; exact ⟨rfl, rfl⟩) dX7_calm_44
      · replace hf := ie_of c3 hf
        refine lv_aload_n hx hb dX7_calm_16 rfl (lv_at hl 0 rfl) ?_
        refine va_get (D := D) (ci := 7) (v := .ref (q 18)) (C := RX7) (T := TX7) (N := 73) hx hb hts fw_7 hown hK hP 0 rfl rfl 18 (by decide) (hts _ m_fieldLink_M_65_M_word_aI) (fun _ h9 => h9) rfl dX7_calm_17 ?_
        refine lv_iload_n hx hb dX7_calm_20 rfl (lv_at hl 2 rfl) ?_
        obtain ⟨hi4, hf⟩ := gd_of hf
        refine va_iald hx hb hK hP 8 0 rfl rfl hi4 dX7_calm_21 ?_
        refine lv_iconst (v := 2) hx hb dX7_calm_22 (by decide) ?_
        refine lv_icmp_ne (tgt := 35) hx hb dX7_calm_23 (by decide) (fun c5 => ?_) (fun c5 => ?_)
        · replace hf := ie_of c5 hf
          refine lv_iload_n hx hb dX7_calm_35 rfl (lv_at hl 1 rfl) ?_
          refine lv_istore_n (lv' := [(1, .int x1), (0, .ref h), (2, .int x2)]) hx hb dX7_calm_36 rfl hl (by decide) rfl (fun ls hl => ?_)
          refine lv_iinc (v := (x2 + 1)) (lv' := [(2, .int (x2 + 1)), (1, .int x1), (0, .ref h)]) hx hb dX7_calm_37 hl (k := 2) rfl rfl (by decide) rfl (fun ls hl => ?_)
          refine lv_goto (tgt := 8) hx hb dX7_calm_40 (by decide) ?_
          exact ih x1 (x2 + 1) hf _ _ hP hD hS _ (lv_sub hl [2, 1, 0] rfl)
        · replace hf := it_of c5 hf
          refine lv_aload_n hx hb dX7_calm_26 rfl (lv_at hl 0 rfl) ?_
          refine va_get (D := D) (ci := 7) (v := .ref (q 19)) (C := RX7) (T := TX7) (N := 73) hx hb hts fw_7 hown hK hP 0 rfl rfl 19 (by decide) (hts _ m_fieldLink_M_68_M_number_aI) (fun _ h9 => h9) rfl dX7_calm_27 ?_
          refine lv_iload_n hx hb dX7_calm_30 rfl (lv_at hl 2 rfl) ?_
          obtain ⟨hi6, hf⟩ := gd_of hf
          refine va_iald hx hb hK hP 9 0 rfl rfl hi6 dX7_calm_31 ?_
          refine lv_goto (tgt := 36) hx hb dX7_calm_32 (by decide) ?_
          refine lv_istore_n (lv' := [(1, .int ((ga 19) (Int32.toNatClampNeg x2))), (0, .ref h), (2, .int x2)]) hx hb dX7_calm_36 rfl hl (by decide) rfl (fun ls hl => ?_)
          refine lv_iinc (v := (x2 + 1)) (lv' := [(2, .int (x2 + 1)), (1, .int ((ga 19) (Int32.toNatClampNeg x2))), (0, .ref h)]) hx hb dX7_calm_37 hl (k := 2) rfl rfl (by decide) rfl (fun ls hl => ?_)
          refine lv_goto (tgt := 8) hx hb dX7_calm_40 (by decide) ?_
          exact ih ((ga 19) (Int32.toNatClampNeg x2)) (x2 + 1) hf _ _ hP hD hS _ (lv_sub hl [2, 1, 0] rfl)
  unfold k_X7_calm at hf
  refine lv_bipush (v := 10) hx hb dX7_calm_0 (by decide) ?_
  refine lv_istore_n (lv' := [(1, .int 10), (0, .ref h)]) hx hb dX7_calm_2 rfl hl (by decide) rfl (fun ls hl => ?_)
  refine lv_aload_n hx hb dX7_calm_3 rfl (lv_at hl 1 rfl) ?_
  obtain ⟨r1q, hq2, hf⟩ := b1_of hf
  refine callVI (As := []) (rest := []) (wr := []) C0 (c_X7_begin h q fi fs ga gs pl it asd _ hq2) lk_X7_298_X7_begin rfl hP hD hS perm_nil 0 7 rfl rfl rfl hl.1 rfl rfl (Nat.le_of_ble_eq_true rfl) dX7_calm_4 ⟨Nat.zero_le _, Nat.zero_le _⟩ (fun r1 w H locs hw hP hD hS => ?_)
  obtain ⟨e1, e2⟩ := hw
  replace e1 : r1 = r1q := e1
  subst e1
  subst e2
  replace hP : va_P D vwCl (Mw h q cA fi fs ga gs pl it asd) H := hP.nil
  replace hD : va_D A (Mw h q cA fi fs ga gs pl it asd) := hD.nil
  refine lv_istore_n (lv' := [(2, .int r1), (1, .int 10), (0, .ref h)]) hx hb dX7_calm_7 rfl hl (by decide) rfl (fun ls hl => ?_)
  exact J8 100000 10 r1 hf _ _ hP hD hS _ (lv_sub hl [2, 1, 0] rfl)
-- factOf
noncomputable def k_X7_factOf (a1 : Int32) (a2 : Int32) (fi : Nat → Int32) (ga : Nat → Nat → Int32) : Option Int32 := if a1 = 0 then some a2 else if a1 = 1 then gd a2 6 (some ((ga 6) (Int32.toNatClampNeg a2))) else if a1 = 2 then gd a2 6 (some ((ga 7) (Int32.toNatClampNeg a2))) else if a1 = 3 then gd a2 6 (some ((ga 8) (Int32.toNatClampNeg a2))) else if a1 = 4 then gd a2 6 (some (((ga 9) (Int32.toNatClampNeg a2)) - ((ga 9) (Int32.toNatClampNeg a2)) / 10 * 10)) else some ((fi 5) - (fi 5) / 7 * 7)
set_option maxHeartbeats 4000000 in
set_option maxRecDepth 100000 in
theorem c_X7_factOf {l : Launch} {D : va_G} {cA : Nat → ClassId} (h : Nat) (q : Nat → Nat) (fi : Nat → Int32) (fs : Nat → Int32) (ga : Nat → Nat → Int32) (gs : Nat → Nat → Int32) (pl : Nat → Int32) (it : Nat → Int64) (asd : Nat → Int64) (a1 : Int32) (a2 : Int32) (o : Int32) (hf : k_X7_factOf a1 a2 fi ga = some o) : CI l D cA yX7_factOf cX7_factOf 3 (some .int) 0 0 [.ref h, .int a1, .int a2] (Mw h q cA fi fs ga gs pl it asd) 0 0 (fun r w => r = o ∧ w = (Mw h q cA fi fs ga gs pl it asd)) := by
  intro sz
  refine met_start (by decide) rfl ?_
  intro p e s m args below meth c ls hsz hargs C0 hname hP hD hS hl
  generalize hAe : va_A (Mw h q cA fi fs ga gs pl it asd) sz = A at C0 hD hS ⊢
  obtain ⟨hx, hb, hr, hml, hown, hts, hlk, hK, hA⟩ := id C0
  replace hl : lv_has ls 3 [(0, .ref h), (1, .int a1), (2, .int a2)] := hl
  obtain ⟨Q, hQ⟩ : ∃ Q : State → Prop, Q = QI below D A (fun r w => r = o ∧ w = (Mw h q cA fi fs ga gs pl it asd)) args s 0 0 := ⟨_, rfl⟩
  refine cast (by rw [hQ]) (?_ : W p l e (RMx 0 0 0 0) s m args below meth c s.heap [] 0 0 Q (F0 m 0 ls []))
  unfold k_X7_factOf at hf
  refine lv_iload_n hx hb dX7_factOf_0 rfl (lv_at hl 1 rfl) ?_
  by_cases c1 : a1 = 0
  · replace hf := it_of c1 hf
    refine lv_tableIn (off := 35) (tgt := 36) hx hb dX7_factOf_1 (by rw [c1]; decide) (by rw [c1]; decide) (by rw [c1]; decide) (by decide) ?_
    refine lv_iload_n hx hb dX7_factOf_36 rfl (lv_at hl 2 rfl) ?_
    rw [hQ]
    exact ret_i C0 hP hD hS (by have e := Option.some.inj hf; rw [← e]; exact ⟨rfl, rfl⟩) dX7_factOf_37
  · replace hf := ie_of c1 hf
    by_cases c2 : a1 = 1
    · replace hf := it_of c2 hf
      refine lv_tableIn (off := 37) (tgt := 38) hx hb dX7_factOf_1 (by rw [c2]; decide) (by rw [c2]; decide) (by rw [c2]; decide) (by decide) ?_
      refine lv_aload_n hx hb dX7_factOf_38 rfl (lv_at hl 0 rfl) ?_
      refine va_get (D := D) (ci := 7) (v := .ref (q 6)) (C := RX7) (T := TX7) (N := 73) hx hb hts fw_7 hown hK hP 0 rfl rfl 6 (by decide) (hts _ m_fieldLink_M_28_M_kind_aI) (fun _ h9 => h9) rfl dX7_factOf_39 ?_
      refine lv_iload_n hx hb dX7_factOf_42 rfl (lv_at hl 2 rfl) ?_
      obtain ⟨hi3, hf⟩ := gd_of hf
      refine va_iald hx hb hK hP 1 0 rfl rfl hi3 dX7_factOf_43 ?_
      rw [hQ]
      exact ret_i C0 hP hD hS (by have e := Option.some.inj hf; rw [← e]; exact ⟨rfl, rfl⟩) dX7_factOf_44
    · replace hf := ie_of c2 hf
      by_cases c4 : a1 = 2
      · replace hf := it_of c4 hf
        refine lv_tableIn (off := 44) (tgt := 45) hx hb dX7_factOf_1 (by rw [c4]; decide) (by rw [c4]; decide) (by rw [c4]; decide) (by decide) ?_
        refine lv_aload_n hx hb dX7_factOf_45 rfl (lv_at hl 0 rfl) ?_
        refine va_get (D := D) (ci := 7) (v := .ref (q 7)) (C := RX7) (T := TX7) (N := 73) hx hb hts fw_7 hown hK hP 0 rfl rfl 7 (by decide) (hts _ m_fieldLink_M_32_M_v_aI) (fun _ h9 => h9) rfl dX7_factOf_46 ?_
        refine lv_iload_n hx hb dX7_factOf_49 rfl (lv_at hl 2 rfl) ?_
        obtain ⟨hi5, hf⟩ := gd_of hf
        refine va_iald hx hb hK hP 2 0 rfl rfl hi5 dX7_factOf_50 ?_
        rw [hQ]
        exact ret_i C0 hP hD hS (by have e := Option.some.inj hf; rw [← e]; exact ⟨rfl, rfl⟩) dX7_factOf_51
      · replace hf := ie_of c4 hf
        by_cases c6 : a1 = 3
        · replace hf := it_of c6 hf
          refine lv_tableIn (off := 51) (tgt := 52) hx hb dX7_factOf_1 (by rw [c6]; decide) (by rw [c6]; decide) (by rw [c6]; decide) (by decide) ?_
          refine lv_aload_n hx hb dX7_factOf_52 rfl (lv_at hl 0 rfl) ?_
          refine va_get (D := D) (ci := 7) (v := .ref (q 8)) (C := RX7) (T := TX7) (N := 73) hx hb hts fw_7 hown hK hP 0 rfl rfl 8 (by decide) (hts _ m_fieldLink_M_35_M_nerve_aI) (fun _ h9 => h9) rfl dX7_factOf_53 ?_
          refine lv_iload_n hx hb dX7_factOf_56 rfl (lv_at hl 2 rfl) ?_
          obtain ⟨hi7, hf⟩ := gd_of hf
          refine va_iald hx hb hK hP 3 0 rfl rfl hi7 dX7_factOf_57 ?_
          rw [hQ]
          exact ret_i C0 hP hD hS (by have e := Option.some.inj hf; rw [← e]; exact ⟨rfl, rfl⟩) dX7_factOf_58
        · replace hf := ie_of c6 hf
          by_cases c8 : a1 = 4
          · replace hf := it_of c8 hf
            refine lv_tableIn (off := 58) (tgt := 59) hx hb dX7_factOf_1 (by rw [c8]; decide) (by rw [c8]; decide) (by rw [c8]; decide) (by decide) ?_
            refine lv_aload_n hx hb dX7_factOf_59 rfl (lv_at hl 0 rfl) ?_
            refine va_get (D := D) (ci := 7) (v := .ref (q 9)) (C := RX7) (T := TX7) (N := 73) hx hb hts fw_7 hown hK hP 0 rfl rfl 9 (by decide) (hts _ m_fieldLink_M_38_M_spell_aI) (fun _ h9 => h9) rfl dX7_factOf_60 ?_
            refine lv_iload_n hx hb dX7_factOf_63 rfl (lv_at hl 2 rfl) ?_
            obtain ⟨hi9, hf⟩ := gd_of hf
            refine va_iald hx hb hK hP 4 0 rfl rfl hi9 dX7_factOf_64 ?_
            refine lv_bipush (v := 10) hx hb dX7_factOf_65 (by decide) ?_
            refine lv_irem hx hb dX7_factOf_67 (by decide) ?_
            rw [hQ]
            exact ret_i C0 hP hD hS (by have e := Option.some.inj hf; rw [← e]; exact ⟨rfl, rfl⟩) dX7_factOf_68
          · replace hf := ie_of c8 hf
            refine lv_tableOut (tgt := 69) hx hb dX7_factOf_1 (by have := lv_neT c1 (a := 0) (by decide); have := lv_neT c2 (a := 1) (by decide); have := lv_neT c4 (a := 2) (by decide); have := lv_neT c6 (a := 3) (by decide); have := lv_neT c8 (a := 4) (by decide); omega) (by decide) ?_
            refine lv_aload_n hx hb dX7_factOf_69 rfl (lv_at hl 0 rfl) ?_
            refine va_get (D := D) (ci := 7) (v := .int (fi 5)) (C := RX7) (T := TX7) (N := 73) hx hb hts fw_7 hown hK hP 0 rfl rfl 5 (by decide) (hts _ m_fieldLink_M_25_M_day_I) (fun _ h9 => h9) rfl dX7_factOf_70 ?_
            refine lv_bipush (v := 7) hx hb dX7_factOf_73 (by decide) ?_
            refine lv_irem hx hb dX7_factOf_75 (by decide) ?_
            rw [hQ]
            exact ret_i C0 hP hD hS (by have e := Option.some.inj hf; rw [← e]; exact ⟨rfl, rfl⟩) dX7_factOf_76
-- holds
noncomputable def k_X7_holds_233  (kc10 : Int32 → Int32 → (Nat → Int32) → Option (Int32 × (Nat → Int32))) (x3 : Int32) (x4 : Int32) (t1 : Int32) (t2 : Int32) (pl : Nat → Int32) : Option (Int32 × (Nat → Int32)) := gd t1 100 (kc10 (x3 + 1) (x4 + 1) (upd pl (Int32.toNatClampNeg t1) (vp_nar .boolean t2)))
noncomputable def k_X7_holds_139  (kc10 : Int32 → Int32 → (Nat → Int32) → Option (Int32 × (Nat → Int32))) (x3 : Int32) (x4 : Int32) (t1 : Int32) (t2 : Int32) (pl : Nat → Int32) : Option (Int32 × (Nat → Int32)) := gd t1 100 (kc10 x3 (x4 + 1) (upd pl (Int32.toNatClampNeg t1) (vp_nar .boolean t2)))
noncomputable def k_X7_holds_134  (kc10 : Int32 → Int32 → (Nat → Int32) → Option (Int32 × (Nat → Int32))) (x3 : Int32) (x4 : Int32) (t1 : Int32) (pl : Nat → Int32) : Option (Int32 × (Nat → Int32)) := k_X7_holds_139 kc10 x3 x4 t1 1 pl
noncomputable def k_X7_holds_110  (kc10 : Int32 → Int32 → (Nat → Int32) → Option (Int32 × (Nat → Int32))) (x3 : Int32) (x4 : Int32) (t1 : Int32) (pl : Nat → Int32) : Option (Int32 × (Nat → Int32)) := k_X7_holds_139 kc10 x3 x4 t1 0 pl
noncomputable def k_X7_holds_60  (kc10 : Int32 → Int32 → (Nat → Int32) → Option (Int32 × (Nat → Int32))) (x3 : Int32) (x4 : Int32) (t1 : Int32) (t2 : Int32) (pl : Nat → Int32) : Option (Int32 × (Nat → Int32)) := gd t1 100 (kc10 x3 (x4 + 1) (upd pl (Int32.toNatClampNeg t1) (vp_nar .boolean t2)))
noncomputable def k_X7_holds_10 (a1 : Int32) (a2 : Int32) (fi : Nat → Int32) (ga : Nat → Nat → Int32) : Nat → Int32 → Int32 → (Nat → Int32) → Option (Int32 × (Nat → Int32))
  | 0, _, _, _ => none
  | n + 1, x3, x4, pl => gd a1 60 (if ((ga 21) (Int32.toNatClampNeg a1)) ≤ x4 then gd 0 100 (gb (pl (Int32.toNatClampNeg 0)) (some ((pl (Int32.toNatClampNeg 0)), pl))) else gd x4 600 (if ((ga 22) (Int32.toNatClampNeg x4)) = (-33) then gd (x3 - 1) 100 (if (pl (Int32.toNatClampNeg (x3 - 1))) = 0 then k_X7_holds_60 (k_X7_holds_10 a1 a2 fi ga n) x3 x4 (x3 - 1) 1 pl else k_X7_holds_60 (k_X7_holds_10 a1 a2 fi ga n) x3 x4 (x3 - 1) 0 pl) else if 0 ≤ ((ga 22) (Int32.toNatClampNeg x4)) then b1 (k_X7_factOf (((ga 22) (Int32.toNatClampNeg x4)) / 1000) a2 fi ga) (fun r8 => nm ((((ga 22) (Int32.toNatClampNeg x4)) / 100) - (((ga 22) (Int32.toNatClampNeg x4)) / 100) / 10 * 10) (fun mm10 => if mm10 = 0 then if (((ga 22) (Int32.toNatClampNeg x4)) - ((ga 22) (Int32.toNatClampNeg x4)) / 100 * 100) ≤ r8 then k_X7_holds_233 (k_X7_holds_10 a1 a2 fi ga n) x3 x4 x3 0 pl else k_X7_holds_233 (k_X7_holds_10 a1 a2 fi ga n) x3 x4 x3 1 pl else if mm10 = 1 then if r8 = (((ga 22) (Int32.toNatClampNeg x4)) - ((ga 22) (Int32.toNatClampNeg x4)) / 100 * 100) then k_X7_holds_233 (k_X7_holds_10 a1 a2 fi ga n) x3 x4 x3 1 pl else k_X7_holds_233 (k_X7_holds_10 a1 a2 fi ga n) x3 x4 x3 0 pl else if r8 ≤ (((ga 22) (Int32.toNatClampNeg x4)) - ((ga 22) (Int32.toNatClampNeg x4)) / 100 * 100) then k_X7_holds_233 (k_X7_holds_10 a1 a2 fi ga n) x3 x4 x3 0 pl else k_X7_holds_233 (k_X7_holds_10 a1 a2 fi ga n) x3 x4 x3 1 pl)) else if ((ga 22) (Int32.toNatClampNeg x4)) = (-38) then gd ((x3 + (-1)) - 1) 100 (if (pl (Int32.toNatClampNeg ((x3 + (-1)) - 1))) = 0 then k_X7_holds_110 (k_X7_holds_10 a1 a2 fi ga n) (x3 + (-1)) x4 ((x3 + (-1)) - 1) pl else gd (x3 + (-1)) 100 (if (pl (Int32.toNatClampNeg (x3 + (-1)))) = 0 then k_X7_holds_110 (k_X7_holds_10 a1 a2 fi ga n) (x3 + (-1)) x4 ((x3 + (-1)) - 1) pl else k_X7_holds_139 (k_X7_holds_10 a1 a2 fi ga n) (x3 + (-1)) x4 ((x3 + (-1)) - 1) 1 pl)) else gd ((x3 + (-1)) - 1) 100 (if (pl (Int32.toNatClampNeg ((x3 + (-1)) - 1))) = 0 then gd (x3 + (-1)) 100 (if (pl (Int32.toNatClampNeg (x3 + (-1)))) = 0 then k_X7_holds_139 (k_X7_holds_10 a1 a2 fi ga n) (x3 + (-1)) x4 ((x3 + (-1)) - 1) 0 pl else k_X7_holds_134 (k_X7_holds_10 a1 a2 fi ga n) (x3 + (-1)) x4 ((x3 + (-1)) - 1) pl) else k_X7_holds_134 (k_X7_holds_10 a1 a2 fi ga n) (x3 + (-1)) x4 ((x3 + (-1)) - 1) pl)))
noncomputable def k_X7_holds (a1 : Int32) (a2 : Int32) (fi : Nat → Int32) (ga : Nat → Nat → Int32) (pl0 : Nat → Int32) : Option (Int32 × (Nat → Int32)) := gd a1 60 (k_X7_holds_10 a1 a2 fi ga 100000 0 ((ga 20) (Int32.toNatClampNeg a1)) pl0)
set_option maxHeartbeats 4000000 in
set_option maxRecDepth 100000 in
theorem c_X7_holds {l : Launch} {D : va_G} {cA : Nat → ClassId} (h : Nat) (q : Nat → Nat) (fi : Nat → Int32) (fs : Nat → Int32) (ga : Nat → Nat → Int32) (gs : Nat → Nat → Int32) (pl0 : Nat → Int32) (it : Nat → Int64) (asd : Nat → Int64) (a1 : Int32) (a2 : Int32) (o : Int32 × (Nat → Int32)) (hf : k_X7_holds a1 a2 fi ga pl0 = some o) : CI l D cA yX7_holds cX7_holds 8 (some .boolean) 1 22 [.ref h, .int a1, .int a2] (Mw h q cA fi fs ga gs pl0 it asd) 0 0 (fun r w => (r = o.1 ∧ w = (Mw h q cA fi fs ga gs o.2 it asd)) ∧ narrow .boolean (.int r) = .int r) := by
  intro sz
  refine met_start (by decide) rfl ?_
  intro p e s m args below meth c ls hsz hargs C0 hname hP hD hS hl
  generalize hAe : va_A (Mw h q cA fi fs ga gs pl0 it asd) sz = A at C0 hD hS ⊢
  obtain ⟨hx, hb, hr, hml, hown, hts, hlk, hK, hA⟩ := id C0
  replace hl : lv_has ls 8 [(0, .ref h), (1, .int a1), (2, .int a2)] := hl
  obtain ⟨Q, hQ⟩ : ∃ Q : State → Prop, Q = QI below D A (fun r w => (r = o.1 ∧ w = (Mw h q cA fi fs ga gs o.2 it asd)) ∧ narrow .boolean (.int r) = .int r) args s 0 0 := ⟨_, rfl⟩
  refine cast (by rw [hQ]) (?_ : W p l e (RMx 1 22 0 0) s m args below meth c s.heap [] 0 0 Q (F0 m 0 ls []))
  have J233 : ∀ (kc10 : Int32 → Int32 → (Nat → Int32) → Option (Int32 × (Nat → Int32))) (hkc10 : ∀ (x3 : Int32) (x4 : Int32) (pl : Nat → Int32), kc10 x3 x4 pl = some o → ∀ (H : Heap) (locs : List Loc), va_P D vwCl (Mw h q cA fi fs ga gs pl it asd) H → va_D A (Mw h q cA fi fs ga gs pl it asd) → va_S A s.heap H locs → ∀ ls : Array Slot, lv_has ls 8 [(0, .ref h), (1, .int a1), (2, .int a2), (3, .int x3), (4, .int x4)] → W p l e (RMx 1 22 0 0) s m args below meth c H locs 0 0 Q (F0 m 10 ls [])), ∀ (x3 : Int32) (x4 : Int32) (t1 : Int32) (t2 : Int32) (pl : Nat → Int32), k_X7_holds_233 kc10 x3 x4 t1 t2 pl = some o → ∀ (H : Heap) (locs : List Loc), va_P D vwCl (Mw h q cA fi fs ga gs pl it asd) H → va_D A (Mw h q cA fi fs ga gs pl it asd) → va_S A s.heap H locs → ∀ ls : Array Slot, lv_has ls 8 [(0, .ref h), (1, .int a1), (2, .int a2), (3, .int x3), (4, .int x4)] → W p l e (RMx 1 22 0 0) s m args below meth c H locs 0 0 Q (F0 m 233 ls [.int t2, .int t1, .ref (q 28)]) := by
    intro kc10 hkc10 x3 x4 t1 t2 pl hf H locs hP hD hS ls hl
    unfold k_X7_holds_233 at hf
    obtain ⟨hi1, hf⟩ := gd_of hf
    refine va_zast hx hb hK hP hD hS 15 3 rfl rfl hi1 dX7_holds_233 (fun H locs hP hD hS => ?_)
    replace hP : va_P D vwCl (Mw h q cA fi fs ga gs (upd pl (Int32.toNatClampNeg t1) (vp_nar .boolean t2)) it asd) H := hP
    replace hD : va_D A (Mw h q cA fi fs ga gs (upd pl (Int32.toNatClampNeg t1) (vp_nar .boolean t2)) it asd) := hD
    refine lv_iinc (v := (x3 + 1)) (lv' := [(3, .int (x3 + 1)), (0, .ref h), (1, .int a1), (2, .int a2), (4, .int x4)]) hx hb dX7_holds_234 hl (k := 3) rfl rfl (by decide) rfl (fun ls hl => ?_)
    refine lv_iinc (v := (x4 + 1)) (lv' := [(4, .int (x4 + 1)), (3, .int (x3 + 1)), (0, .ref h), (1, .int a1), (2, .int a2)]) hx hb dX7_holds_237 hl (k := 4) rfl rfl (by decide) rfl (fun ls hl => ?_)
    refine lv_goto (tgt := 10) hx hb dX7_holds_240 (by decide) ?_
    exact hkc10 (x3 + 1) (x4 + 1) (upd pl (Int32.toNatClampNeg t1) (vp_nar .boolean t2)) hf _ _ hP hD hS _ (lv_sub hl [2, 3, 4, 1, 0] rfl)
  have J139 : ∀ (kc10 : Int32 → Int32 → (Nat → Int32) → Option (Int32 × (Nat → Int32))) (hkc10 : ∀ (x3 : Int32) (x4 : Int32) (pl : Nat → Int32), kc10 x3 x4 pl = some o → ∀ (H : Heap) (locs : List Loc), va_P D vwCl (Mw h q cA fi fs ga gs pl it asd) H → va_D A (Mw h q cA fi fs ga gs pl it asd) → va_S A s.heap H locs → ∀ ls : Array Slot, lv_has ls 8 [(0, .ref h), (1, .int a1), (2, .int a2), (3, .int x3), (4, .int x4)] → W p l e (RMx 1 22 0 0) s m args below meth c H locs 0 0 Q (F0 m 10 ls [])), ∀ (x3 : Int32) (x4 : Int32) (t1 : Int32) (t2 : Int32) (pl : Nat → Int32), k_X7_holds_139 kc10 x3 x4 t1 t2 pl = some o → ∀ (H : Heap) (locs : List Loc), va_P D vwCl (Mw h q cA fi fs ga gs pl it asd) H → va_D A (Mw h q cA fi fs ga gs pl it asd) → va_S A s.heap H locs → ∀ ls : Array Slot, lv_has ls 8 [(0, .ref h), (1, .int a1), (2, .int a2), (3, .int x3), (4, .int x4)] → W p l e (RMx 1 22 0 0) s m args below meth c H locs 0 0 Q (F0 m 139 ls [.int t2, .int t1, .ref (q 28)]) := by
    intro kc10 hkc10 x3 x4 t1 t2 pl hf H locs hP hD hS ls hl
    unfold k_X7_holds_139 at hf
    obtain ⟨hi1, hf⟩ := gd_of hf
    refine va_zast hx hb hK hP hD hS 15 3 rfl rfl hi1 dX7_holds_139 (fun H locs hP hD hS => ?_)
    replace hP : va_P D vwCl (Mw h q cA fi fs ga gs (upd pl (Int32.toNatClampNeg t1) (vp_nar .boolean t2)) it asd) H := hP
    replace hD : va_D A (Mw h q cA fi fs ga gs (upd pl (Int32.toNatClampNeg t1) (vp_nar .boolean t2)) it asd) := hD
    refine lv_goto (tgt := 237) hx hb dX7_holds_140 (by decide) ?_
    refine lv_iinc (v := (x4 + 1)) (lv' := [(4, .int (x4 + 1)), (0, .ref h), (1, .int a1), (2, .int a2), (3, .int x3)]) hx hb dX7_holds_237 hl (k := 4) rfl rfl (by decide) rfl (fun ls hl => ?_)
    refine lv_goto (tgt := 10) hx hb dX7_holds_240 (by decide) ?_
    exact hkc10 x3 (x4 + 1) (upd pl (Int32.toNatClampNeg t1) (vp_nar .boolean t2)) hf _ _ hP hD hS _ (lv_sub hl [1, 2, 3, 4, 0] rfl)
  have J134 : ∀ (kc10 : Int32 → Int32 → (Nat → Int32) → Option (Int32 × (Nat → Int32))) (hkc10 : ∀ (x3 : Int32) (x4 : Int32) (pl : Nat → Int32), kc10 x3 x4 pl = some o → ∀ (H : Heap) (locs : List Loc), va_P D vwCl (Mw h q cA fi fs ga gs pl it asd) H → va_D A (Mw h q cA fi fs ga gs pl it asd) → va_S A s.heap H locs → ∀ ls : Array Slot, lv_has ls 8 [(0, .ref h), (1, .int a1), (2, .int a2), (3, .int x3), (4, .int x4)] → W p l e (RMx 1 22 0 0) s m args below meth c H locs 0 0 Q (F0 m 10 ls [])), ∀ (x3 : Int32) (x4 : Int32) (t1 : Int32) (pl : Nat → Int32), k_X7_holds_134 kc10 x3 x4 t1 pl = some o → ∀ (H : Heap) (locs : List Loc), va_P D vwCl (Mw h q cA fi fs ga gs pl it asd) H → va_D A (Mw h q cA fi fs ga gs pl it asd) → va_S A s.heap H locs → ∀ ls : Array Slot, lv_has ls 8 [(0, .ref h), (1, .int a1), (2, .int a2), (3, .int x3), (4, .int x4)] → W p l e (RMx 1 22 0 0) s m args below meth c H locs 0 0 Q (F0 m 134 ls [.int t1, .ref (q 28)]) := by
    intro kc10 hkc10 x3 x4 t1 pl hf H locs hP hD hS ls hl
    unfold k_X7_holds_134 at hf
    refine lv_iconst (v := 1) hx hb dX7_holds_134 (by decide) ?_
    refine lv_goto (tgt := 139) hx hb dX7_holds_135 (by decide) ?_
    exact J139 _ hkc10 x3 x4 t1 1 pl hf _ _ hP hD hS _ (lv_sub hl [0, 1, 2, 3, 4] rfl)
  have J110 : ∀ (kc10 : Int32 → Int32 → (Nat → Int32) → Option (Int32 × (Nat → Int32))) (hkc10 : ∀ (x3 : Int32) (x4 : Int32) (pl : Nat → Int32), kc10 x3 x4 pl = some o → ∀ (H : Heap) (locs : List Loc), va_P D vwCl (Mw h q cA fi fs ga gs pl it asd) H → va_D A (Mw h q cA fi fs ga gs pl it asd) → va_S A s.heap H locs → ∀ ls : Array Slot, lv_has ls 8 [(0, .ref h), (1, .int a1), (2, .int a2), (3, .int x3), (4, .int x4)] → W p l e (RMx 1 22 0 0) s m args below meth c H locs 0 0 Q (F0 m 10 ls [])), ∀ (x3 : Int32) (x4 : Int32) (t1 : Int32) (pl : Nat → Int32), k_X7_holds_110 kc10 x3 x4 t1 pl = some o → ∀ (H : Heap) (locs : List Loc), va_P D vwCl (Mw h q cA fi fs ga gs pl it asd) H → va_D A (Mw h q cA fi fs ga gs pl it asd) → va_S A s.heap H locs → ∀ ls : Array Slot, lv_has ls 8 [(0, .ref h), (1, .int a1), (2, .int a2), (3, .int x3), (4, .int x4)] → W p l e (RMx 1 22 0 0) s m args below meth c H locs 0 0 Q (F0 m 110 ls [.int t1, .ref (q 28)]) := by
    intro kc10 hkc10 x3 x4 t1 pl hf H locs hP hD hS ls hl
    unfold k_X7_holds_110 at hf
    refine lv_iconst (v := 0) hx hb dX7_holds_110 (by decide) ?_
    refine lv_goto (tgt := 139) hx hb dX7_holds_111 (by decide) ?_
    exact J139 _ hkc10 x3 x4 t1 0 pl hf _ _ hP hD hS _ (lv_sub hl [0, 1, 2, 3, 4] rfl)
  have J60 : ∀ (kc10 : Int32 → Int32 → (Nat → Int32) → Option (Int32 × (Nat → Int32))) (hkc10 : ∀ (x3 : Int32) (x4 : Int32) (pl : Nat → Int32), kc10 x3 x4 pl = some o → ∀ (H : Heap) (locs : List Loc), va_P D vwCl (Mw h q cA fi fs ga gs pl it asd) H → va_D A (Mw h q cA fi fs ga gs pl it asd) → va_S A s.heap H locs → ∀ ls : Array Slot, lv_has ls 8 [(0, .ref h), (1, .int a1), (2, .int a2), (3, .int x3), (4, .int x4)] → W p l e (RMx 1 22 0 0) s m args below meth c H locs 0 0 Q (F0 m 10 ls [])), ∀ (x3 : Int32) (x4 : Int32) (t1 : Int32) (t2 : Int32) (pl : Nat → Int32), k_X7_holds_60 kc10 x3 x4 t1 t2 pl = some o → ∀ (H : Heap) (locs : List Loc), va_P D vwCl (Mw h q cA fi fs ga gs pl it asd) H → va_D A (Mw h q cA fi fs ga gs pl it asd) → va_S A s.heap H locs → ∀ ls : Array Slot, lv_has ls 8 [(0, .ref h), (1, .int a1), (2, .int a2), (3, .int x3), (4, .int x4)] → W p l e (RMx 1 22 0 0) s m args below meth c H locs 0 0 Q (F0 m 60 ls [.int t2, .int t1, .ref (q 28)]) := by
    intro kc10 hkc10 x3 x4 t1 t2 pl hf H locs hP hD hS ls hl
    unfold k_X7_holds_60 at hf
    obtain ⟨hi1, hf⟩ := gd_of hf
    refine va_zast hx hb hK hP hD hS 15 3 rfl rfl hi1 dX7_holds_60 (fun H locs hP hD hS => ?_)
    replace hP : va_P D vwCl (Mw h q cA fi fs ga gs (upd pl (Int32.toNatClampNeg t1) (vp_nar .boolean t2)) it asd) H := hP
    replace hD : va_D A (Mw h q cA fi fs ga gs (upd pl (Int32.toNatClampNeg t1) (vp_nar .boolean t2)) it asd) := hD
    refine lv_goto (tgt := 237) hx hb dX7_holds_61 (by decide) ?_
    refine lv_iinc (v := (x4 + 1)) (lv' := [(4, .int (x4 + 1)), (0, .ref h), (1, .int a1), (2, .int a2), (3, .int x3)]) hx hb dX7_holds_237 hl (k := 4) rfl rfl (by decide) rfl (fun ls hl => ?_)
    refine lv_goto (tgt := 10) hx hb dX7_holds_240 (by decide) ?_
    exact hkc10 x3 (x4 + 1) (upd pl (Int32.toNatClampNeg t1) (vp_nar .boolean t2)) hf _ _ hP hD hS _ (lv_sub hl [1, 2, 3, 4, 0] rfl)
  have J10 : ∀ n : Nat, ∀ (x3 : Int32) (x4 : Int32) (pl : Nat → Int32), k_X7_holds_10 a1 a2 fi ga n x3 x4 pl = some o → ∀ (H : Heap) (locs : List Loc), va_P D vwCl (Mw h q cA fi fs ga gs pl it asd) H → va_D A (Mw h q cA fi fs ga gs pl it asd) → va_S A s.heap H locs → ∀ ls : Array Slot, lv_has ls 8 [(0, .ref h), (1, .int a1), (2, .int a2), (3, .int x3), (4, .int x4)] → W p l e (RMx 1 22 0 0) s m args below meth c H locs 0 0 Q (F0 m 10 ls []) := by
    intro  n
    induction n with
    | zero =>
      intro x3 x4 pl hf
      rw [k_X7_holds_10] at hf
      cases hf
    | succ n ih =>
      intro x3 x4 pl hf H locs hP hD hS ls hl
      rw [k_X7_holds_10] at hf
      refine lv_iload hx hb dX7_holds_10 (lv_at hl 4 rfl) ?_
      refine lv_aload_n hx hb dX7_holds_12 rfl (lv_at hl 0 rfl) ?_
      refine va_get (D := D) (ci := 7) (v := .ref (q 21)) (C := RX7) (T := TX7) (N := 73) hx hb hts fw_7 hown hK hP 0 rfl rfl 21 (by decide) (hts _ m_fieldLink_M_74_M_to_aI) (fun _ h9 => h9) rfl dX7_holds_13 ?_
      refine lv_iload_n hx hb dX7_holds_16 rfl (lv_at hl 1 rfl) ?_
      obtain ⟨hi1, hf⟩ := gd_of hf
      refine va_iald hx hb hK hP 11 0 rfl rfl hi1 dX7_holds_17 ?_
      refine lv_icmp_ge (tgt := 243) hx hb dX7_holds_18 (by decide) (fun c2 => ?_) (fun c2 => ?_)
      · replace hf := it_of c2 hf
        refine lv_aload_n hx hb dX7_holds_243 rfl (lv_at hl 0 rfl) ?_
        refine va_get (D := D) (ci := 7) (v := .ref (q 28)) (C := RX7) (T := TX7) (N := 73) hx hb hts fw_7 hown hK hP 0 rfl rfl 28 (by decide) (hts _ m_fieldLink_M_95_M_pile_aZ) (fun _ h9 => h9) rfl dX7_holds_244 ?_
        refine lv_iconst (v := 0) hx hb dX7_holds_247 (by decide) ?_
        obtain ⟨hi3, hf⟩ := gd_of hf
        refine va_zald hx hb hK hP 15 3 rfl rfl hi3 dX7_holds_248 ?_
        obtain ⟨hb4, hf⟩ := gb_of hf
        rw [hQ]
        exact ret_z C0 hP hD hS (by have e := Option.some.inj hf; rw [← e]; exact ⟨rfl, rfl⟩) hb4 dX7_holds_249
      · replace hf := ie_of c2 hf
        refine lv_aload_n hx hb dX7_holds_21 rfl (lv_at hl 0 rfl) ?_
        refine va_get (D := D) (ci := 7) (v := .ref (q 22)) (C := RX7) (T := TX7) (N := 73) hx hb hts fw_7 hown hK hP 0 rfl rfl 22 (by decide) (hts _ m_fieldLink_M_77_M_sign_aI) (fun _ h9 => h9) rfl dX7_holds_22 ?_
        refine lv_iload hx hb dX7_holds_25 (lv_at hl 4 rfl) ?_
        obtain ⟨hi5, hf⟩ := gd_of hf
        refine va_iald hx hb hK hP 12 0 rfl rfl hi5 dX7_holds_27 ?_
        refine lv_istore (lv' := [(5, .int ((ga 22) (Int32.toNatClampNeg x4))), (0, .ref h), (1, .int a1), (2, .int a2), (3, .int x3), (4, .int x4)]) hx hb dX7_holds_28 hl (by decide) rfl (fun ls hl => ?_)
        refine lv_iload hx hb dX7_holds_30 (lv_at hl 0 rfl) ?_
        refine lv_bipush (v := (-33)) hx hb dX7_holds_32 (by decide) ?_
        refine lv_icmp_ne (tgt := 64) hx hb dX7_holds_34 (by decide) (fun c6 => ?_) (fun c6 => ?_)
        · replace hf := ie_of c6 hf
          refine lv_iload hx hb dX7_holds_64 (lv_at hl 0 rfl) ?_
          refine lv_if_ge (tgt := 143) hx hb dX7_holds_66 (by decide) (fun c7 => ?_) (fun c7 => ?_)
          · replace hf := it_of c7 hf
            refine lv_aload_n hx hb dX7_holds_143 rfl (lv_at hl 1 rfl) ?_
            refine lv_iload hx hb dX7_holds_144 (lv_at hl 0 rfl) ?_
            refine lv_sipush (v := 1000) hx hb dX7_holds_146 (by decide) ?_
            refine lv_idiv hx hb dX7_holds_149 (by decide) ?_
            refine lv_iload_n hx hb dX7_holds_150 rfl (lv_at hl 3 rfl) ?_
            obtain ⟨r8q, hq9, hf⟩ := b1_of hf
            refine callVI (As := [.int (((ga 22) (Int32.toNatClampNeg x4)) / 1000), .int a2]) (rest := []) (wr := []) C0 (c_X7_factOf h q fi fs ga gs pl it asd (((ga 22) (Int32.toNatClampNeg x4)) / 1000) a2 _ hq9) lk_X7_304_X7_factOf rfl hP hD hS perm_nil 0 7 rfl rfl rfl hl.1 rfl rfl (Nat.le_of_ble_eq_true rfl) dX7_holds_151 ⟨Nat.zero_le _, Nat.zero_le _⟩ (fun r8 w H locs hw hP hD hS => ?_)
            obtain ⟨e1, e2⟩ := hw
            replace e1 : r8 = r8q := e1
            subst e1
            subst e2
            replace hP : va_P D vwCl (Mw h q cA fi fs ga gs pl it asd) H := hP.nil
            replace hD : va_D A (Mw h q cA fi fs ga gs pl it asd) := hD.nil
            refine lv_istore (lv' := [(6, .int r8), (5, .int ((ga 22) (Int32.toNatClampNeg x4))), (0, .ref h), (1, .int a1), (2, .int a2), (3, .int x3), (4, .int x4)]) hx hb dX7_holds_154 hl (by decide) rfl (fun ls hl => ?_)
            refine lv_iload hx hb dX7_holds_156 (lv_at hl 1 rfl) ?_
            refine lv_bipush (v := 100) hx hb dX7_holds_158 (by decide) ?_
            refine lv_idiv hx hb dX7_holds_160 (by decide) ?_
            refine lv_bipush (v := 10) hx hb dX7_holds_161 (by decide) ?_
            refine lv_irem hx hb dX7_holds_163 (by decide) ?_
            refine lv_topi (fun mm10 emm10 => ?_)
            replace hf := nm_i emm10 hf
            refine lv_istore (lv' := [(7, .int mm10), (6, .int r8), (5, .int ((ga 22) (Int32.toNatClampNeg x4))), (0, .ref h), (1, .int a1), (2, .int a2), (3, .int x3), (4, .int x4)]) hx hb dX7_holds_164 hl (by decide) rfl (fun ls hl => ?_)
            refine lv_aload_n hx hb dX7_holds_166 rfl (lv_at hl 3 rfl) ?_
            refine va_get (D := D) (ci := 7) (v := .ref (q 28)) (C := RX7) (T := TX7) (N := 73) hx hb hts fw_7 hown hK hP 0 rfl rfl 28 (by decide) (hts _ m_fieldLink_M_95_M_pile_aZ) (fun _ h9 => h9) rfl dX7_holds_167 ?_
            refine lv_iload_n hx hb dX7_holds_170 rfl (lv_at hl 6 rfl) ?_
            refine lv_iload hx hb dX7_holds_171 (lv_at hl 0 rfl) ?_
            refine lv_if_ne (tgt := 194) hx hb dX7_holds_173 (by decide) (fun c11 => ?_) (fun c11 => ?_)
            · replace hf := ie_of c11 hf
              refine lv_iload hx hb dX7_holds_194 (lv_at hl 0 rfl) ?_
              refine lv_iconst (v := 1) hx hb dX7_holds_196 (by decide) ?_
              refine lv_icmp_ne (tgt := 218) hx hb dX7_holds_197 (by decide) (fun c12 => ?_) (fun c12 => ?_)
              · replace hf := ie_of c12 hf
                refine lv_iload hx hb dX7_holds_218 (lv_at hl 1 rfl) ?_
                refine lv_iload hx hb dX7_holds_220 (lv_at hl 2 rfl) ?_
                refine lv_bipush (v := 100) hx hb dX7_holds_222 (by decide) ?_
                refine lv_irem hx hb dX7_holds_224 (by decide) ?_
                refine lv_icmp_le (tgt := 232) hx hb dX7_holds_225 (by decide) (fun c13 => ?_) (fun c13 => ?_)
                · replace hf := it_of c13 hf
                  refine lv_iconst (v := 0) hx hb dX7_holds_232 (by decide) ?_
                  exact J233 _ ih x3 x4 x3 0 pl hf _ _ hP hD hS _ (lv_sub hl [3, 4, 5, 6, 7] rfl)
                · replace hf := ie_of c13 hf
                  refine lv_iconst (v := 1) hx hb dX7_holds_228 (by decide) ?_
                  refine lv_goto (tgt := 233) hx hb dX7_holds_229 (by decide) ?_
                  exact J233 _ ih x3 x4 x3 1 pl hf _ _ hP hD hS _ (lv_sub hl [3, 4, 5, 6, 7] rfl)
              · replace hf := it_of c12 hf
                refine lv_iload hx hb dX7_holds_200 (lv_at hl 1 rfl) ?_
                refine lv_iload hx hb dX7_holds_202 (lv_at hl 2 rfl) ?_
                refine lv_bipush (v := 100) hx hb dX7_holds_204 (by decide) ?_
                refine lv_irem hx hb dX7_holds_206 (by decide) ?_
                refine lv_icmp_ne (tgt := 214) hx hb dX7_holds_207 (by decide) (fun c14 => ?_) (fun c14 => ?_)
                · replace hf := ie_of c14 hf
                  refine lv_iconst (v := 0) hx hb dX7_holds_214 (by decide) ?_
                  refine lv_goto (tgt := 233) hx hb dX7_holds_215 (by decide) ?_
                  exact J233 _ ih x3 x4 x3 0 pl hf _ _ hP hD hS _ (lv_sub hl [3, 4, 5, 6, 7] rfl)
                · replace hf := it_of c14 hf
                  refine lv_iconst (v := 1) hx hb dX7_holds_210 (by decide) ?_
                  refine lv_goto (tgt := 233) hx hb dX7_holds_211 (by decide) ?_
                  exact J233 _ ih x3 x4 x3 1 pl hf _ _ hP hD hS _ (lv_sub hl [3, 4, 5, 6, 7] rfl)
            · replace hf := it_of c11 hf
              refine lv_iload hx hb dX7_holds_176 (lv_at hl 1 rfl) ?_
              refine lv_iload hx hb dX7_holds_178 (lv_at hl 2 rfl) ?_
              refine lv_bipush (v := 100) hx hb dX7_holds_180 (by decide) ?_
              refine lv_irem hx hb dX7_holds_182 (by decide) ?_
              refine lv_icmp_ge (tgt := 190) hx hb dX7_holds_183 (by decide) (fun c15 => ?_) (fun c15 => ?_)
              · replace hf := it_of c15 hf
                refine lv_iconst (v := 0) hx hb dX7_holds_190 (by decide) ?_
                refine lv_goto (tgt := 233) hx hb dX7_holds_191 (by decide) ?_
                exact J233 _ ih x3 x4 x3 0 pl hf _ _ hP hD hS _ (lv_sub hl [3, 4, 5, 6, 7] rfl)
              · replace hf := ie_of c15 hf
                refine lv_iconst (v := 1) hx hb dX7_holds_186 (by decide) ?_
                refine lv_goto (tgt := 233) hx hb dX7_holds_187 (by decide) ?_
                exact J233 _ ih x3 x4 x3 1 pl hf _ _ hP hD hS _ (lv_sub hl [3, 4, 5, 6, 7] rfl)
          · replace hf := ie_of c7 hf
            refine lv_iinc (v := (x3 + (-1))) (lv' := [(3, .int (x3 + (-1))), (5, .int ((ga 22) (Int32.toNatClampNeg x4))), (0, .ref h), (1, .int a1), (2, .int a2), (4, .int x4)]) hx hb dX7_holds_69 hl (k := 4) rfl rfl (by decide) rfl (fun ls hl => ?_)
            refine lv_aload_n hx hb dX7_holds_72 rfl (lv_at hl 2 rfl) ?_
            refine va_get (D := D) (ci := 7) (v := .ref (q 28)) (C := RX7) (T := TX7) (N := 73) hx hb hts fw_7 hown hK hP 0 rfl rfl 28 (by decide) (hts _ m_fieldLink_M_95_M_pile_aZ) (fun _ h9 => h9) rfl dX7_holds_73 ?_
            refine lv_iload_n hx hb dX7_holds_76 rfl (lv_at hl 0 rfl) ?_
            refine lv_iconst (v := 1) hx hb dX7_holds_77 (by decide) ?_
            refine lv_isub hx hb dX7_holds_78 ?_
            refine lv_iload hx hb dX7_holds_79 (lv_at hl 1 rfl) ?_
            refine lv_bipush (v := (-38)) hx hb dX7_holds_81 (by decide) ?_
            refine lv_icmp_ne (tgt := 114) hx hb dX7_holds_83 (by decide) (fun c16 => ?_) (fun c16 => ?_)
            · replace hf := ie_of c16 hf
              refine lv_aload_n hx hb dX7_holds_114 rfl (lv_at hl 2 rfl) ?_
              refine va_get (D := D) (ci := 7) (v := .ref (q 28)) (C := RX7) (T := TX7) (N := 73) hx hb hts fw_7 hown hK hP 0 rfl rfl 28 (by decide) (hts _ m_fieldLink_M_95_M_pile_aZ) (fun _ h9 => h9) rfl dX7_holds_115 ?_
              refine lv_iload_n hx hb dX7_holds_118 rfl (lv_at hl 0 rfl) ?_
              refine lv_iconst (v := 1) hx hb dX7_holds_119 (by decide) ?_
              refine lv_isub hx hb dX7_holds_120 ?_
              obtain ⟨hi17, hf⟩ := gd_of hf
              refine va_zald hx hb hK hP 15 3 rfl rfl hi17 dX7_holds_121 ?_
              refine lv_if_ne (tgt := 134) hx hb dX7_holds_122 (by decide) (fun c18 => ?_) (fun c18 => ?_)
              · replace hf := ie_of c18 hf
                exact J134 _ ih (x3 + (-1)) x4 ((x3 + (-1)) - 1) pl hf _ _ hP hD hS _ (lv_sub hl [2, 3, 4, 0, 5] rfl)
              · replace hf := it_of c18 hf
                refine lv_aload_n hx hb dX7_holds_125 rfl (lv_at hl 2 rfl) ?_
                refine va_get (D := D) (ci := 7) (v := .ref (q 28)) (C := RX7) (T := TX7) (N := 73) hx hb hts fw_7 hown hK hP 0 rfl rfl 28 (by decide) (hts _ m_fieldLink_M_95_M_pile_aZ) (fun _ h9 => h9) rfl dX7_holds_126 ?_
                refine lv_iload_n hx hb dX7_holds_129 rfl (lv_at hl 0 rfl) ?_
                obtain ⟨hi19, hf⟩ := gd_of hf
                refine va_zald hx hb hK hP 15 3 rfl rfl hi19 dX7_holds_130 ?_
                refine lv_if_eq (tgt := 138) hx hb dX7_holds_131 (by decide) (fun c20 => ?_) (fun c20 => ?_)
                · replace hf := it_of c20 hf
                  refine lv_iconst (v := 0) hx hb dX7_holds_138 (by decide) ?_
                  exact J139 _ ih (x3 + (-1)) x4 ((x3 + (-1)) - 1) 0 pl hf _ _ hP hD hS _ (lv_sub hl [2, 3, 4, 0, 5] rfl)
                · replace hf := ie_of c20 hf
                  exact J134 _ ih (x3 + (-1)) x4 ((x3 + (-1)) - 1) pl hf _ _ hP hD hS _ (lv_sub hl [2, 3, 4, 0, 5] rfl)
            · replace hf := it_of c16 hf
              refine lv_aload_n hx hb dX7_holds_86 rfl (lv_at hl 2 rfl) ?_
              refine va_get (D := D) (ci := 7) (v := .ref (q 28)) (C := RX7) (T := TX7) (N := 73) hx hb hts fw_7 hown hK hP 0 rfl rfl 28 (by decide) (hts _ m_fieldLink_M_95_M_pile_aZ) (fun _ h9 => h9) rfl dX7_holds_87 ?_
              refine lv_iload_n hx hb dX7_holds_90 rfl (lv_at hl 0 rfl) ?_
              refine lv_iconst (v := 1) hx hb dX7_holds_91 (by decide) ?_
              refine lv_isub hx hb dX7_holds_92 ?_
              obtain ⟨hi21, hf⟩ := gd_of hf
              refine va_zald hx hb hK hP 15 3 rfl rfl hi21 dX7_holds_93 ?_
              refine lv_if_eq (tgt := 110) hx hb dX7_holds_94 (by decide) (fun c22 => ?_) (fun c22 => ?_)
              · replace hf := it_of c22 hf
                exact J110 _ ih (x3 + (-1)) x4 ((x3 + (-1)) - 1) pl hf _ _ hP hD hS _ (lv_sub hl [2, 3, 4, 0, 5] rfl)
              · replace hf := ie_of c22 hf
                refine lv_aload_n hx hb dX7_holds_97 rfl (lv_at hl 2 rfl) ?_
                refine va_get (D := D) (ci := 7) (v := .ref (q 28)) (C := RX7) (T := TX7) (N := 73) hx hb hts fw_7 hown hK hP 0 rfl rfl 28 (by decide) (hts _ m_fieldLink_M_95_M_pile_aZ) (fun _ h9 => h9) rfl dX7_holds_98 ?_
                refine lv_iload_n hx hb dX7_holds_101 rfl (lv_at hl 0 rfl) ?_
                obtain ⟨hi23, hf⟩ := gd_of hf
                refine va_zald hx hb hK hP 15 3 rfl rfl hi23 dX7_holds_102 ?_
                refine lv_if_eq (tgt := 110) hx hb dX7_holds_103 (by decide) (fun c24 => ?_) (fun c24 => ?_)
                · replace hf := it_of c24 hf
                  exact J110 _ ih (x3 + (-1)) x4 ((x3 + (-1)) - 1) pl hf _ _ hP hD hS _ (lv_sub hl [2, 3, 4, 0, 5] rfl)
                · replace hf := ie_of c24 hf
                  refine lv_iconst (v := 1) hx hb dX7_holds_106 (by decide) ?_
                  refine lv_goto (tgt := 139) hx hb dX7_holds_107 (by decide) ?_
                  exact J139 _ ih (x3 + (-1)) x4 ((x3 + (-1)) - 1) 1 pl hf _ _ hP hD hS _ (lv_sub hl [2, 3, 4, 0, 5] rfl)
        · replace hf := it_of c6 hf
          refine lv_aload_n hx hb dX7_holds_37 rfl (lv_at hl 1 rfl) ?_
          refine va_get (D := D) (ci := 7) (v := .ref (q 28)) (C := RX7) (T := TX7) (N := 73) hx hb hts fw_7 hown hK hP 0 rfl rfl 28 (by decide) (hts _ m_fieldLink_M_95_M_pile_aZ) (fun _ h9 => h9) rfl dX7_holds_38 ?_
          refine lv_iload_n hx hb dX7_holds_41 rfl (lv_at hl 4 rfl) ?_
          refine lv_iconst (v := 1) hx hb dX7_holds_42 (by decide) ?_
          refine lv_isub hx hb dX7_holds_43 ?_
          refine lv_aload_n hx hb dX7_holds_44 rfl (lv_at hl 1 rfl) ?_
          refine va_get (D := D) (ci := 7) (v := .ref (q 28)) (C := RX7) (T := TX7) (N := 73) hx hb hts fw_7 hown hK hP 0 rfl rfl 28 (by decide) (hts _ m_fieldLink_M_95_M_pile_aZ) (fun _ h9 => h9) rfl dX7_holds_45 ?_
          refine lv_iload_n hx hb dX7_holds_48 rfl (lv_at hl 4 rfl) ?_
          refine lv_iconst (v := 1) hx hb dX7_holds_49 (by decide) ?_
          refine lv_isub hx hb dX7_holds_50 ?_
          obtain ⟨hi25, hf⟩ := gd_of hf
          refine va_zald hx hb hK hP 15 3 rfl rfl hi25 dX7_holds_51 ?_
          refine lv_if_ne (tgt := 59) hx hb dX7_holds_52 (by decide) (fun c26 => ?_) (fun c26 => ?_)
          · replace hf := ie_of c26 hf
            refine lv_iconst (v := 0) hx hb dX7_holds_59 (by decide) ?_
            exact J60 _ ih x3 x4 (x3 - 1) 0 pl hf _ _ hP hD hS _ (lv_sub hl [1, 2, 3, 4, 5] rfl)
          · replace hf := it_of c26 hf
            refine lv_iconst (v := 1) hx hb dX7_holds_55 (by decide) ?_
            refine lv_goto (tgt := 60) hx hb dX7_holds_56 (by decide) ?_
            exact J60 _ ih x3 x4 (x3 - 1) 1 pl hf _ _ hP hD hS _ (lv_sub hl [1, 2, 3, 4, 5] rfl)
  unfold k_X7_holds at hf
  refine lv_iconst (v := 0) hx hb dX7_holds_0 (by decide) ?_
  refine lv_istore_n (lv' := [(3, .int 0), (0, .ref h), (1, .int a1), (2, .int a2)]) hx hb dX7_holds_1 rfl hl (by decide) rfl (fun ls hl => ?_)
  refine lv_aload_n hx hb dX7_holds_2 rfl (lv_at hl 1 rfl) ?_
  refine va_get (D := D) (ci := 7) (v := .ref (q 20)) (C := RX7) (T := TX7) (N := 73) hx hb hts fw_7 hown hK hP 0 rfl rfl 20 (by decide) (hts _ m_fieldLink_M_71_M_from_aI) (fun _ h9 => h9) rfl dX7_holds_3 ?_
  refine lv_iload_n hx hb dX7_holds_6 rfl (lv_at hl 2 rfl) ?_
  obtain ⟨hi1, hf⟩ := gd_of hf
  refine va_iald hx hb hK hP 10 0 rfl rfl hi1 dX7_holds_7 ?_
  refine lv_istore (lv' := [(4, .int ((ga 20) (Int32.toNatClampNeg a1))), (3, .int 0), (0, .ref h), (1, .int a1), (2, .int a2)]) hx hb dX7_holds_8 hl (by decide) rfl (fun ls hl => ?_)
  exact J10 100000 0 ((ga 20) (Int32.toNatClampNeg a1)) pl0 hf _ _ hP hD hS _ (lv_sub hl [2, 3, 4, 1, 0] rfl)
-- sum
noncomputable def k_X7_sum_15 (a1 : Int32) (fi : Nat → Int32) (ga : Nat → Nat → Int32) : Nat → Int32 → Int32 → (Nat → Int32) → Option (Int32 × (Nat → Int32))
  | 0, _, _, _ => none
  | n + 1, x2, x3, pl => b1 (k_X7_behind fi ga) (fun r1 => if r1 ≤ x3 then some (x2, pl) else gd x3 60 (if 1 < ((ga 18) (Int32.toNatClampNeg x3)) then k_X7_sum_15 a1 fi ga n x2 (x3 + 1) pl else b2 (k_X7_holds x3 a1 fi ga pl) (fun r6 pl_7 => if r6 = 0 then k_X7_sum_15 a1 fi ga n x2 (x3 + 1) pl_7 else gd x3 60 (if ((ga 18) (Int32.toNatClampNeg x3)) = 0 then gd x3 60 (k_X7_sum_15 a1 fi ga n (x2 + ((ga 19) (Int32.toNatClampNeg x3))) (x3 + 1) pl_7) else gd x3 60 (k_X7_sum_15 a1 fi ga n (x2 + (-((ga 19) (Int32.toNatClampNeg x3)))) (x3 + 1) pl_7)))))
noncomputable def k_X7_sum (a1 : Int32) (fi : Nat → Int32) (ga : Nat → Nat → Int32) (pl0 : Nat → Int32) : Option (Int32 × (Nat → Int32)) := gd a1 6 (b1 (k_X7_begin fi) (fun r2 => k_X7_sum_15 a1 fi ga 100000 (-(((ga 8) (Int32.toNatClampNeg a1)) / 4)) r2 pl0))
set_option maxHeartbeats 4000000 in
set_option maxRecDepth 100000 in
theorem c_X7_sum {l : Launch} {D : va_G} {cA : Nat → ClassId} (h : Nat) (q : Nat → Nat) (fi : Nat → Int32) (fs : Nat → Int32) (ga : Nat → Nat → Int32) (gs : Nat → Nat → Int32) (pl0 : Nat → Int32) (it : Nat → Int64) (asd : Nat → Int64) (a1 : Int32) (o : Int32 × (Nat → Int32)) (hf : k_X7_sum a1 fi ga pl0 = some o) : CI l D cA yX7_sum cX7_sum 4 (some .int) 2 49 [.ref h, .int a1] (Mw h q cA fi fs ga gs pl0 it asd) 0 0 (fun r w => r = o.1 ∧ w = (Mw h q cA fi fs ga gs o.2 it asd)) := by
  intro sz
  refine met_start (by decide) rfl ?_
  intro p e s m args below meth c ls hsz hargs C0 hname hP hD hS hl
  generalize hAe : va_A (Mw h q cA fi fs ga gs pl0 it asd) sz = A at C0 hD hS ⊢
  obtain ⟨hx, hb, hr, hml, hown, hts, hlk, hK, hA⟩ := id C0
  replace hl : lv_has ls 4 [(0, .ref h), (1, .int a1)] := hl
  obtain ⟨Q, hQ⟩ : ∃ Q : State → Prop, Q = QI below D A (fun r w => r = o.1 ∧ w = (Mw h q cA fi fs ga gs o.2 it asd)) args s 0 0 := ⟨_, rfl⟩
  refine cast (by rw [hQ]) (?_ : W p l e (RMx 2 49 0 0) s m args below meth c s.heap [] 0 0 Q (F0 m 0 ls []))
  have J15 : ∀ n : Nat, ∀ (x2 : Int32) (x3 : Int32) (pl : Nat → Int32), k_X7_sum_15 a1 fi ga n x2 x3 pl = some o → ∀ (H : Heap) (locs : List Loc), va_P D vwCl (Mw h q cA fi fs ga gs pl it asd) H → va_D A (Mw h q cA fi fs ga gs pl it asd) → va_S A s.heap H locs → ∀ ls : Array Slot, lv_has ls 4 [(0, .ref h), (1, .int a1), (2, .int x2), (3, .int x3)] → W p l e (RMx 2 49 0 0) s m args below meth c H locs 0 0 Q (F0 m 15 ls []) := by
    intro  n
    induction n with
    | zero =>
      intro x2 x3 pl hf
      rw [k_X7_sum_15] at hf
      cases hf
    | succ n ih =>
      intro x2 x3 pl hf H locs hP hD hS ls hl
      rw [k_X7_sum_15] at hf
      refine lv_iload_n hx hb dX7_sum_15 rfl (lv_at hl 3 rfl) ?_
      refine lv_aload_n hx hb dX7_sum_16 rfl (lv_at hl 0 rfl) ?_
      obtain ⟨r1q, hq2, hf⟩ := b1_of hf
      refine callVI (As := []) (rest := [.int x3]) (wr := []) C0 (c_X7_behind h q fi fs ga gs pl it asd _ hq2) lk_X7_301_X7_behind rfl hP hD hS perm_nil 0 7 rfl rfl rfl hl.1 rfl rfl (Nat.le_of_ble_eq_true rfl) dX7_sum_17 ⟨Nat.zero_le _, Nat.zero_le _⟩ (fun r1 w H locs hw hP hD hS => ?_)
      obtain ⟨e1, e2⟩ := hw
      replace e1 : r1 = r1q := e1
      subst e1
      subst e2
      replace hP : va_P D vwCl (Mw h q cA fi fs ga gs pl it asd) H := hP.nil
      replace hD : va_D A (Mw h q cA fi fs ga gs pl it asd) := hD.nil
      refine lv_icmp_ge (tgt := 79) hx hb dX7_sum_20 (by decide) (fun c3 => ?_) (fun c3 => ?_)
      · replace hf := it_of c3 hf
        refine lv_iload_n hx hb dX7_sum_79 rfl (lv_at hl 2 rfl) ?_
        rw [hQ]
        exact ret_i C0 hP hD hS (by have e := Option.some.inj hf; rw [← e]; exact ⟨rfl, rfl⟩) dX7_sum_80
      · replace hf := ie_of c3 hf
        refine lv_aload_n hx hb dX7_sum_23 rfl (lv_at hl 0 rfl) ?_
        refine va_get (D := D) (ci := 7) (v := .ref (q 18)) (C := RX7) (T := TX7) (N := 73) hx hb hts fw_7 hown hK hP 0 rfl rfl 18 (by decide) (hts _ m_fieldLink_M_65_M_word_aI) (fun _ h9 => h9) rfl dX7_sum_24 ?_
        refine lv_iload_n hx hb dX7_sum_27 rfl (lv_at hl 3 rfl) ?_
        obtain ⟨hi4, hf⟩ := gd_of hf
        refine va_iald hx hb hK hP 8 0 rfl rfl hi4 dX7_sum_28 ?_
        refine lv_iconst (v := 1) hx hb dX7_sum_29 (by decide) ?_
        refine lv_icmp_gt (tgt := 73) hx hb dX7_sum_30 (by decide) (fun c5 => ?_) (fun c5 => ?_)
        · replace hf := it_of c5 hf
          refine lv_iinc (v := (x3 + 1)) (lv' := [(3, .int (x3 + 1)), (0, .ref h), (1, .int a1), (2, .int x2)]) hx hb dX7_sum_73 hl (k := 3) rfl rfl (by decide) rfl (fun ls hl => ?_)
          refine lv_goto (tgt := 15) hx hb dX7_sum_76 (by decide) ?_
          exact ih x2 (x3 + 1) pl hf _ _ hP hD hS _ (lv_sub hl [1, 2, 3, 0] rfl)
        · replace hf := ie_of c5 hf
          refine lv_aload_n hx hb dX7_sum_33 rfl (lv_at hl 0 rfl) ?_
          refine lv_iload_n hx hb dX7_sum_34 rfl (lv_at hl 3 rfl) ?_
          refine lv_iload_n hx hb dX7_sum_35 rfl (lv_at hl 1 rfl) ?_
          obtain ⟨r6q, pl_7, hq8, hf⟩ := b2_of hf
          refine callVI (As := [.int x3, .int a1]) (rest := []) (wr := []) C0 (c_X7_holds h q fi fs ga gs pl it asd x3 a1 _ hq8) lk_X7_308_X7_holds rfl hP hD hS perm_nil 0 7 rfl rfl rfl hl.1 rfl rfl (Nat.le_of_ble_eq_true rfl) dX7_sum_36 ⟨Nat.zero_le _, Nat.zero_le _⟩ (fun r6 w H locs hw hP hD hS => ?_)
          obtain ⟨⟨e1, e2⟩, z9⟩ := hw
          replace e1 : r6 = r6q := e1
          subst e1
          subst e2
          replace hP : va_P D vwCl (Mw h q cA fi fs ga gs pl_7 it asd) H := hP.nil
          replace hD : va_D A (Mw h q cA fi fs ga gs pl_7 it asd) := hD.nil
          refine lv_if_ne (tgt := 45) hx hb dX7_sum_39 (by decide) (fun c10 => ?_) (fun c10 => ?_)
          · replace hf := ie_of c10 hf
            refine lv_iload_n hx hb dX7_sum_45 rfl (lv_at hl 2 rfl) ?_
            refine lv_aload_n hx hb dX7_sum_46 rfl (lv_at hl 0 rfl) ?_
            refine va_get (D := D) (ci := 7) (v := .ref (q 18)) (C := RX7) (T := TX7) (N := 73) hx hb hts fw_7 hown hK hP 0 rfl rfl 18 (by decide) (hts _ m_fieldLink_M_65_M_word_aI) (fun _ h9 => h9) rfl dX7_sum_47 ?_
            refine lv_iload_n hx hb dX7_sum_50 rfl (lv_at hl 3 rfl) ?_
            obtain ⟨hi11, hf⟩ := gd_of hf
            refine va_iald hx hb hK hP 8 0 rfl rfl hi11 dX7_sum_51 ?_
            refine lv_if_ne (tgt := 64) hx hb dX7_sum_52 (by decide) (fun c12 => ?_) (fun c12 => ?_)
            · replace hf := ie_of c12 hf
              refine lv_aload_n hx hb dX7_sum_64 rfl (lv_at hl 0 rfl) ?_
              refine va_get (D := D) (ci := 7) (v := .ref (q 19)) (C := RX7) (T := TX7) (N := 73) hx hb hts fw_7 hown hK hP 0 rfl rfl 19 (by decide) (hts _ m_fieldLink_M_68_M_number_aI) (fun _ h9 => h9) rfl dX7_sum_65 ?_
              refine lv_iload_n hx hb dX7_sum_68 rfl (lv_at hl 3 rfl) ?_
              obtain ⟨hi13, hf⟩ := gd_of hf
              refine va_iald hx hb hK hP 9 0 rfl rfl hi13 dX7_sum_69 ?_
              refine lv_ineg hx hb dX7_sum_70 ?_
              refine lv_iadd hx hb dX7_sum_71 ?_
              refine lv_istore_n (lv' := [(2, .int (x2 + (-((ga 19) (Int32.toNatClampNeg x3))))), (0, .ref h), (1, .int a1), (3, .int x3)]) hx hb dX7_sum_72 rfl hl (by decide) rfl (fun ls hl => ?_)
              refine lv_iinc (v := (x3 + 1)) (lv' := [(3, .int (x3 + 1)), (2, .int (x2 + (-((ga 19) (Int32.toNatClampNeg x3))))), (0, .ref h), (1, .int a1)]) hx hb dX7_sum_73 hl (k := 3) rfl rfl (by decide) rfl (fun ls hl => ?_)
              refine lv_goto (tgt := 15) hx hb dX7_sum_76 (by decide) ?_
              exact ih (x2 + (-((ga 19) (Int32.toNatClampNeg x3)))) (x3 + 1) pl_7 hf _ _ hP hD hS _ (lv_sub hl [2, 3, 1, 0] rfl)
            · replace hf := it_of c12 hf
              refine lv_aload_n hx hb dX7_sum_55 rfl (lv_at hl 0 rfl) ?_
              refine va_get (D := D) (ci := 7) (v := .ref (q 19)) (C := RX7) (T := TX7) (N := 73) hx hb hts fw_7 hown hK hP 0 rfl rfl 19 (by decide) (hts _ m_fieldLink_M_68_M_number_aI) (fun _ h9 => h9) rfl dX7_sum_56 ?_
              refine lv_iload_n hx hb dX7_sum_59 rfl (lv_at hl 3 rfl) ?_
              obtain ⟨hi14, hf⟩ := gd_of hf
              refine va_iald hx hb hK hP 9 0 rfl rfl hi14 dX7_sum_60 ?_
              refine lv_goto (tgt := 71) hx hb dX7_sum_61 (by decide) ?_
              refine lv_iadd hx hb dX7_sum_71 ?_
              refine lv_istore_n (lv' := [(2, .int (x2 + ((ga 19) (Int32.toNatClampNeg x3)))), (0, .ref h), (1, .int a1), (3, .int x3)]) hx hb dX7_sum_72 rfl hl (by decide) rfl (fun ls hl => ?_)
              refine lv_iinc (v := (x3 + 1)) (lv' := [(3, .int (x3 + 1)), (2, .int (x2 + ((ga 19) (Int32.toNatClampNeg x3)))), (0, .ref h), (1, .int a1)]) hx hb dX7_sum_73 hl (k := 3) rfl rfl (by decide) rfl (fun ls hl => ?_)
              refine lv_goto (tgt := 15) hx hb dX7_sum_76 (by decide) ?_
              exact ih (x2 + ((ga 19) (Int32.toNatClampNeg x3))) (x3 + 1) pl_7 hf _ _ hP hD hS _ (lv_sub hl [2, 3, 1, 0] rfl)
          · replace hf := it_of c10 hf
            refine lv_goto (tgt := 73) hx hb dX7_sum_42 (by decide) ?_
            refine lv_iinc (v := (x3 + 1)) (lv' := [(3, .int (x3 + 1)), (0, .ref h), (1, .int a1), (2, .int x2)]) hx hb dX7_sum_73 hl (k := 3) rfl rfl (by decide) rfl (fun ls hl => ?_)
            refine lv_goto (tgt := 15) hx hb dX7_sum_76 (by decide) ?_
            exact ih x2 (x3 + 1) pl_7 hf _ _ hP hD hS _ (lv_sub hl [1, 2, 3, 0] rfl)
  unfold k_X7_sum at hf
  refine lv_aload_n hx hb dX7_sum_0 rfl (lv_at hl 0 rfl) ?_
  refine va_get (D := D) (ci := 7) (v := .ref (q 8)) (C := RX7) (T := TX7) (N := 73) hx hb hts fw_7 hown hK hP 0 rfl rfl 8 (by decide) (hts _ m_fieldLink_M_35_M_nerve_aI) (fun _ h9 => h9) rfl dX7_sum_1 ?_
  refine lv_iload_n hx hb dX7_sum_4 rfl (lv_at hl 1 rfl) ?_
  obtain ⟨hi1, hf⟩ := gd_of hf
  refine va_iald hx hb hK hP 3 0 rfl rfl hi1 dX7_sum_5 ?_
  refine lv_iconst (v := 4) hx hb dX7_sum_6 (by decide) ?_
  refine lv_idiv hx hb dX7_sum_7 (by decide) ?_
  refine lv_ineg hx hb dX7_sum_8 ?_
  refine lv_istore_n (lv' := [(2, .int (-(((ga 8) (Int32.toNatClampNeg a1)) / 4))), (0, .ref h), (1, .int a1)]) hx hb dX7_sum_9 rfl hl (by decide) rfl (fun ls hl => ?_)
  refine lv_aload_n hx hb dX7_sum_10 rfl (lv_at hl 1 rfl) ?_
  obtain ⟨r2q, hq3, hf⟩ := b1_of hf
  refine callVI (As := []) (rest := []) (wr := []) C0 (c_X7_begin h q fi fs ga gs pl0 it asd _ hq3) lk_X7_298_X7_begin rfl hP hD hS perm_nil 0 7 rfl rfl rfl hl.1 rfl rfl (Nat.le_of_ble_eq_true rfl) dX7_sum_11 ⟨Nat.zero_le _, Nat.zero_le _⟩ (fun r2 w H locs hw hP hD hS => ?_)
  obtain ⟨e1, e2⟩ := hw
  replace e1 : r2 = r2q := e1
  subst e1
  subst e2
  replace hP : va_P D vwCl (Mw h q cA fi fs ga gs pl0 it asd) H := hP.nil
  replace hD : va_D A (Mw h q cA fi fs ga gs pl0 it asd) := hD.nil
  refine lv_istore_n (lv' := [(3, .int r2), (2, .int (-(((ga 8) (Int32.toNatClampNeg a1)) / 4))), (0, .ref h), (1, .int a1)]) hx hb dX7_sum_14 rfl hl (by decide) rfl (fun ls hl => ?_)
  exact J15 100000 (-(((ga 8) (Int32.toNatClampNeg a1)) / 4)) r2 pl0 hf _ _ hP hD hS _ (lv_sub hl [2, 3, 1, 0] rfl)
-- isDancerBelow
noncomputable def k_X7_isDancerBelow_2 (a1 : Int32) (fi : Nat → Int32) (ga : Nat → Nat → Int32) : Nat → Int32 → Option Int32
  | 0, _ => none
  | n + 1, x2 => if (fi 0) ≤ x2 then some 0 else if x2 = a1 then k_X7_isDancerBelow_2 a1 fi ga n (x2 + 1) else gd x2 6 (if ((ga 6) (Int32.toNatClampNeg x2)) = 5 then b1 (k_X7_has (fi 1) x2) (fun r5 => if r5 = 0 then some 1 else k_X7_isDancerBelow_2 a1 fi ga n (x2 + 1)) else k_X7_isDancerBelow_2 a1 fi ga n (x2 + 1))
noncomputable def k_X7_isDancerBelow (a1 : Int32) (fi : Nat → Int32) (ga : Nat → Nat → Int32) : Option Int32 := k_X7_isDancerBelow_2 a1 fi ga 100000 0
set_option maxHeartbeats 4000000 in
set_option maxRecDepth 100000 in
theorem c_X7_isDancerBelow {l : Launch} {D : va_G} {cA : Nat → ClassId} (h : Nat) (q : Nat → Nat) (fi : Nat → Int32) (fs : Nat → Int32) (ga : Nat → Nat → Int32) (gs : Nat → Nat → Int32) (pl : Nat → Int32) (it : Nat → Int64) (asd : Nat → Int64) (a1 : Int32) (o : Int32) (hf : k_X7_isDancerBelow a1 fi ga = some o) : CI l D cA yX7_isDancerBelow cX7_isDancerBelow 3 (some .boolean) 1 22 [.ref h, .int a1] (Mw h q cA fi fs ga gs pl it asd) 0 0 (fun r w => (r = o ∧ w = (Mw h q cA fi fs ga gs pl it asd)) ∧ narrow .boolean (.int r) = .int r) := by
  intro sz
  refine met_start (by decide) rfl ?_
  intro p e s m args below meth c ls hsz hargs C0 hname hP hD hS hl
  generalize hAe : va_A (Mw h q cA fi fs ga gs pl it asd) sz = A at C0 hD hS ⊢
  obtain ⟨hx, hb, hr, hml, hown, hts, hlk, hK, hA⟩ := id C0
  replace hl : lv_has ls 3 [(0, .ref h), (1, .int a1)] := hl
  obtain ⟨Q, hQ⟩ : ∃ Q : State → Prop, Q = QI below D A (fun r w => (r = o ∧ w = (Mw h q cA fi fs ga gs pl it asd)) ∧ narrow .boolean (.int r) = .int r) args s 0 0 := ⟨_, rfl⟩
  refine cast (by rw [hQ]) (?_ : W p l e (RMx 1 22 0 0) s m args below meth c s.heap [] 0 0 Q (F0 m 0 ls []))
  have J2 : ∀ n : Nat, ∀ (x2 : Int32), k_X7_isDancerBelow_2 a1 fi ga n x2 = some o → ∀ (H : Heap) (locs : List Loc), va_P D vwCl (Mw h q cA fi fs ga gs pl it asd) H → va_D A (Mw h q cA fi fs ga gs pl it asd) → va_S A s.heap H locs → ∀ ls : Array Slot, lv_has ls 3 [(0, .ref h), (1, .int a1), (2, .int x2)] → W p l e (RMx 1 22 0 0) s m args below meth c H locs 0 0 Q (F0 m 2 ls []) := by
    intro  n
    induction n with
    | zero =>
      intro x2 hf
      rw [k_X7_isDancerBelow_2] at hf
      cases hf
    | succ n ih =>
      intro x2 hf H locs hP hD hS ls hl
      rw [k_X7_isDancerBelow_2] at hf
      refine lv_iload_n hx hb dX7_isDancerBelow_2 rfl (lv_at hl 2 rfl) ?_
      refine lv_aload_n hx hb dX7_isDancerBelow_3 rfl (lv_at hl 0 rfl) ?_
      refine va_get (D := D) (ci := 7) (v := .int (fi 0)) (C := RX7) (T := TX7) (N := 73) hx hb hts fw_7 hown hK hP 0 rfl rfl 0 (by decide) (hts _ m_fieldLink_M_7_M_men_I) (fun _ h9 => h9) rfl dX7_isDancerBelow_4 ?_
      refine lv_icmp_ge (tgt := 45) hx hb dX7_isDancerBelow_7 (by decide) (fun c1 => ?_) (fun c1 => ?_)
      · replace hf := it_of c1 hf
        refine lv_iconst (v := 0) hx hb dX7_isDancerBelow_45 (by decide) ?_
        rw [hQ]
        exact ret_z C0 hP hD hS (by have e := Option.some.inj hf; rw [← e]; exact ⟨rfl, rfl⟩) rfl dX7_isDancerBelow_46
      · replace hf := ie_of c1 hf
        refine lv_iload_n hx hb dX7_isDancerBelow_10 rfl (lv_at hl 2 rfl) ?_
        refine lv_iload_n hx hb dX7_isDancerBelow_11 rfl (lv_at hl 1 rfl) ?_
        refine lv_icmp_eq (tgt := 39) hx hb dX7_isDancerBelow_12 (by decide) (fun c2 => ?_) (fun c2 => ?_)
        · replace hf := it_of c2 hf
          refine lv_iinc (v := (x2 + 1)) (lv' := [(2, .int (x2 + 1)), (0, .ref h), (1, .int a1)]) hx hb dX7_isDancerBelow_39 hl (k := 2) rfl rfl (by decide) rfl (fun ls hl => ?_)
          refine lv_goto (tgt := 2) hx hb dX7_isDancerBelow_42 (by decide) ?_
          exact ih (x2 + 1) hf _ _ hP hD hS _ (lv_sub hl [1, 2, 0] rfl)
        · replace hf := ie_of c2 hf
          refine lv_aload_n hx hb dX7_isDancerBelow_15 rfl (lv_at hl 0 rfl) ?_
          refine va_get (D := D) (ci := 7) (v := .ref (q 6)) (C := RX7) (T := TX7) (N := 73) hx hb hts fw_7 hown hK hP 0 rfl rfl 6 (by decide) (hts _ m_fieldLink_M_28_M_kind_aI) (fun _ h9 => h9) rfl dX7_isDancerBelow_16 ?_
          refine lv_iload_n hx hb dX7_isDancerBelow_19 rfl (lv_at hl 2 rfl) ?_
          obtain ⟨hi3, hf⟩ := gd_of hf
          refine va_iald hx hb hK hP 1 0 rfl rfl hi3 dX7_isDancerBelow_20 ?_
          refine lv_iconst (v := 5) hx hb dX7_isDancerBelow_21 (by decide) ?_
          refine lv_icmp_ne (tgt := 39) hx hb dX7_isDancerBelow_22 (by decide) (fun c4 => ?_) (fun c4 => ?_)
          · replace hf := ie_of c4 hf
            refine lv_iinc (v := (x2 + 1)) (lv' := [(2, .int (x2 + 1)), (0, .ref h), (1, .int a1)]) hx hb dX7_isDancerBelow_39 hl (k := 2) rfl rfl (by decide) rfl (fun ls hl => ?_)
            refine lv_goto (tgt := 2) hx hb dX7_isDancerBelow_42 (by decide) ?_
            exact ih (x2 + 1) hf _ _ hP hD hS _ (lv_sub hl [1, 2, 0] rfl)
          · replace hf := it_of c4 hf
            refine lv_aload_n hx hb dX7_isDancerBelow_25 rfl (lv_at hl 0 rfl) ?_
            refine lv_aload_n hx hb dX7_isDancerBelow_26 rfl (lv_at hl 0 rfl) ?_
            refine va_get (D := D) (ci := 7) (v := .int (fi 1)) (C := RX7) (T := TX7) (N := 73) hx hb hts fw_7 hown hK hP 0 rfl rfl 1 (by decide) (hts _ m_fieldLink_M_13_M_up_I) (fun _ h9 => h9) rfl dX7_isDancerBelow_27 ?_
            refine lv_iload_n hx hb dX7_isDancerBelow_30 rfl (lv_at hl 2 rfl) ?_
            obtain ⟨r5q, hq6, hf⟩ := b1_of hf
            refine callVI (As := [.int (fi 1), .int x2]) (rest := []) (wr := (Mw h q cA fi fs ga gs pl it asd)) C0 (c_X7_has h (fi 1) x2 _ hq6) lk_X7_233_X7_has rfl hP hD hS (List.Perm.refl _) 0 7 rfl rfl rfl hl.1 rfl rfl (Nat.le_of_ble_eq_true rfl) dX7_isDancerBelow_31 ⟨Nat.zero_le _, Nat.zero_le _⟩ (fun r5 w H locs hw hP hD hS => ?_)
            obtain ⟨⟨e1, e2⟩, z7⟩ := hw
            replace e1 : r5 = r5q := e1
            subst e1
            subst e2
            replace hP : va_P D vwCl (Mw h q cA fi fs ga gs pl it asd) H := hP
            replace hD : va_D A (Mw h q cA fi fs ga gs pl it asd) := hD
            refine lv_if_ne (tgt := 39) hx hb dX7_isDancerBelow_34 (by decide) (fun c8 => ?_) (fun c8 => ?_)
            · replace hf := ie_of c8 hf
              refine lv_iinc (v := (x2 + 1)) (lv' := [(2, .int (x2 + 1)), (0, .ref h), (1, .int a1)]) hx hb dX7_isDancerBelow_39 hl (k := 2) rfl rfl (by decide) rfl (fun ls hl => ?_)
              refine lv_goto (tgt := 2) hx hb dX7_isDancerBelow_42 (by decide) ?_
              exact ih (x2 + 1) hf _ _ hP hD hS _ (lv_sub hl [1, 2, 0] rfl)
            · replace hf := it_of c8 hf
              refine lv_iconst (v := 1) hx hb dX7_isDancerBelow_37 (by decide) ?_
              rw [hQ]
              exact ret_z C0 hP hD hS (by have e := Option.some.inj hf; rw [← e]; exact ⟨rfl, rfl⟩) rfl dX7_isDancerBelow_38
  unfold k_X7_isDancerBelow at hf
  refine lv_iconst (v := 0) hx hb dX7_isDancerBelow_0 (by decide) ?_
  refine lv_istore_n (lv' := [(2, .int 0), (0, .ref h), (1, .int a1)]) hx hb dX7_isDancerBelow_1 rfl hl (by decide) rfl (fun ls hl => ?_)
  exact J2 100000 0 hf _ _ hP hD hS _ (lv_sub hl [1, 2, 0] rfl)
-- noise
noncomputable def k_X7_noise_21 (a1 : Int32) (fi : Nat → Int32) (ga : Nat → Nat → Int32) (x2 : Int32) (t0 : Int32) (pl : Nat → Int32) : Option (Int32 × (Nat → Int32)) := gd a1 6 (if ((ga 6) (Int32.toNatClampNeg a1)) = 1 then gd a1 6 (some ((x2 + ((ga 7) (Int32.toNatClampNeg a1))), pl)) else if ((ga 6) (Int32.toNatClampNeg a1)) = 2 then some (((x2 / 2) + 3), pl) else if ((ga 6) (Int32.toNatClampNeg a1)) = 3 then some (t0, pl) else if ((ga 6) (Int32.toNatClampNeg a1)) = 4 then gd a1 6 (gd a1 6 (b1 (k_X7_least ((ga 9) (Int32.toNatClampNeg a1)) 9) (fun r9 => some (((x2 + ((ga 7) (Int32.toNatClampNeg a1))) - r9), pl)))) else if ((ga 6) (Int32.toNatClampNeg a1)) = 5 then b1 (k_X7_isDancerBelow a1 fi ga) (fun r12 => if r12 = 0 then some (((x2 / 2) + 3), pl) else some ((2 * ((x2 / 2) + 3)), pl)) else if ((ga 6) (Int32.toNatClampNeg a1)) = 6 then gd ((4 * a1) + ((fi 5) - (fi 5) / 4 * 4)) 24 (some ((t0 + ((ga 10) (Int32.toNatClampNeg ((4 * a1) + ((fi 5) - (fi 5) / 4 * 4))))), pl)) else some (x2, pl))
noncomputable def k_X7_noise (a1 : Int32) (fi : Nat → Int32) (ga : Nat → Nat → Int32) (pl0 : Nat → Int32) : Option (Int32 × (Nat → Int32)) := b2 (k_X7_sum a1 fi ga pl0) (fun r1 pl_2 => if ((fi 5) - (fi 5) / 7 * 7) = 0 then k_X7_noise_21 a1 fi ga r1 0 pl_2 else k_X7_noise_21 a1 fi ga r1 r1 pl_2)
set_option maxHeartbeats 4000000 in
set_option maxRecDepth 100000 in
theorem c_X7_noise {l : Launch} {D : va_G} {cA : Nat → ClassId} (h : Nat) (q : Nat → Nat) (fi : Nat → Int32) (fs : Nat → Int32) (ga : Nat → Nat → Int32) (gs : Nat → Nat → Int32) (pl0 : Nat → Int32) (it : Nat → Int64) (asd : Nat → Int64) (a1 : Int32) (o : Int32 × (Nat → Int32)) (hf : k_X7_noise a1 fi ga pl0 = some o) : CI l D cA yX7_noise cX7_noise 4 (some .int) 3 72 [.ref h, .int a1] (Mw h q cA fi fs ga gs pl0 it asd) 0 0 (fun r w => r = o.1 ∧ w = (Mw h q cA fi fs ga gs o.2 it asd)) := by
  intro sz
  refine met_start (by decide) rfl ?_
  intro p e s m args below meth c ls hsz hargs C0 hname hP hD hS hl
  generalize hAe : va_A (Mw h q cA fi fs ga gs pl0 it asd) sz = A at C0 hD hS ⊢
  obtain ⟨hx, hb, hr, hml, hown, hts, hlk, hK, hA⟩ := id C0
  replace hl : lv_has ls 4 [(0, .ref h), (1, .int a1)] := hl
  obtain ⟨Q, hQ⟩ : ∃ Q : State → Prop, Q = QI below D A (fun r w => r = o.1 ∧ w = (Mw h q cA fi fs ga gs o.2 it asd)) args s 0 0 := ⟨_, rfl⟩
  refine cast (by rw [hQ]) (?_ : W p l e (RMx 3 72 0 0) s m args below meth c s.heap [] 0 0 Q (F0 m 0 ls []))
  have J21 : ∀ (x2 : Int32) (t0 : Int32) (pl : Nat → Int32), k_X7_noise_21 a1 fi ga x2 t0 pl = some o → ∀ (H : Heap) (locs : List Loc), va_P D vwCl (Mw h q cA fi fs ga gs pl it asd) H → va_D A (Mw h q cA fi fs ga gs pl it asd) → va_S A s.heap H locs → ∀ ls : Array Slot, lv_has ls 4 [(0, .ref h), (1, .int a1), (2, .int x2)] → W p l e (RMx 3 72 0 0) s m args below meth c H locs 0 0 Q (F0 m 21 ls [.int t0]) := by
    intro  x2 t0 pl hf H locs hP hD hS ls hl
    unfold k_X7_noise_21 at hf
    refine lv_istore_n (lv' := [(3, .int t0), (0, .ref h), (1, .int a1), (2, .int x2)]) hx hb dX7_noise_21 rfl hl (by decide) rfl (fun ls hl => ?_)
    refine lv_aload_n hx hb dX7_noise_22 rfl (lv_at hl 1 rfl) ?_
    refine va_get (D := D) (ci := 7) (v := .ref (q 6)) (C := RX7) (T := TX7) (N := 73) hx hb hts fw_7 hown hK hP 0 rfl rfl 6 (by decide) (hts _ m_fieldLink_M_28_M_kind_aI) (fun _ h9 => h9) rfl dX7_noise_23 ?_
    refine lv_iload_n hx hb dX7_noise_26 rfl (lv_at hl 2 rfl) ?_
    obtain ⟨hi1, hf⟩ := gd_of hf
    refine va_iald hx hb hK hP 1 0 rfl rfl hi1 dX7_noise_27 ?_
    by_cases c2 : ((ga 6) (Int32.toNatClampNeg a1)) = 1
    · replace hf := it_of c2 hf
      refine lv_tableIn (off := 40) (tgt := 68) hx hb dX7_noise_28 (by rw [c2]; decide) (by rw [c2]; decide) (by rw [c2]; decide) (by decide) ?_
      refine lv_iload_n hx hb dX7_noise_68 rfl (lv_at hl 3 rfl) ?_
      refine lv_aload_n hx hb dX7_noise_69 rfl (lv_at hl 1 rfl) ?_
      refine va_get (D := D) (ci := 7) (v := .ref (q 7)) (C := RX7) (T := TX7) (N := 73) hx hb hts fw_7 hown hK hP 0 rfl rfl 7 (by decide) (hts _ m_fieldLink_M_32_M_v_aI) (fun _ h9 => h9) rfl dX7_noise_70 ?_
      refine lv_iload_n hx hb dX7_noise_73 rfl (lv_at hl 2 rfl) ?_
      obtain ⟨hi3, hf⟩ := gd_of hf
      refine va_iald hx hb hK hP 2 0 rfl rfl hi3 dX7_noise_74 ?_
      refine lv_iadd hx hb dX7_noise_75 ?_
      rw [hQ]
      exact ret_i C0 hP hD hS (by have e := Option.some.inj hf; rw [← e]; exact ⟨rfl, rfl⟩) dX7_noise_76
    · replace hf := ie_of c2 hf
      by_cases c4 : ((ga 6) (Int32.toNatClampNeg a1)) = 2
      · replace hf := it_of c4 hf
        refine lv_tableIn (off := 49) (tgt := 77) hx hb dX7_noise_28 (by rw [c4]; decide) (by rw [c4]; decide) (by rw [c4]; decide) (by decide) ?_
        refine lv_iload_n hx hb dX7_noise_77 rfl (lv_at hl 3 rfl) ?_
        refine lv_iconst (v := 2) hx hb dX7_noise_78 (by decide) ?_
        refine lv_idiv hx hb dX7_noise_79 (by decide) ?_
        refine lv_iconst (v := 3) hx hb dX7_noise_80 (by decide) ?_
        refine lv_iadd hx hb dX7_noise_81 ?_
        rw [hQ]
        exact ret_i C0 hP hD hS (by have e := Option.some.inj hf; rw [← e]; exact ⟨rfl, rfl⟩) dX7_noise_82
      · replace hf := ie_of c4 hf
        by_cases c5 : ((ga 6) (Int32.toNatClampNeg a1)) = 3
        · replace hf := it_of c5 hf
          refine lv_tableIn (off := 55) (tgt := 83) hx hb dX7_noise_28 (by rw [c5]; decide) (by rw [c5]; decide) (by rw [c5]; decide) (by decide) ?_
          refine lv_iload_n hx hb dX7_noise_83 rfl (lv_at hl 0 rfl) ?_
          rw [hQ]
          exact ret_i C0 hP hD hS (by have e := Option.some.inj hf; rw [← e]; exact ⟨rfl, rfl⟩) dX7_noise_84
        · replace hf := ie_of c5 hf
          by_cases c6 : ((ga 6) (Int32.toNatClampNeg a1)) = 4
          · replace hf := it_of c6 hf
            refine lv_tableIn (off := 57) (tgt := 85) hx hb dX7_noise_28 (by rw [c6]; decide) (by rw [c6]; decide) (by rw [c6]; decide) (by decide) ?_
            refine lv_iload_n hx hb dX7_noise_85 rfl (lv_at hl 3 rfl) ?_
            refine lv_aload_n hx hb dX7_noise_86 rfl (lv_at hl 1 rfl) ?_
            refine va_get (D := D) (ci := 7) (v := .ref (q 7)) (C := RX7) (T := TX7) (N := 73) hx hb hts fw_7 hown hK hP 0 rfl rfl 7 (by decide) (hts _ m_fieldLink_M_32_M_v_aI) (fun _ h9 => h9) rfl dX7_noise_87 ?_
            refine lv_iload_n hx hb dX7_noise_90 rfl (lv_at hl 2 rfl) ?_
            obtain ⟨hi7, hf⟩ := gd_of hf
            refine va_iald hx hb hK hP 2 0 rfl rfl hi7 dX7_noise_91 ?_
            refine lv_iadd hx hb dX7_noise_92 ?_
            refine lv_aload_n hx hb dX7_noise_93 rfl (lv_at hl 1 rfl) ?_
            refine lv_aload_n hx hb dX7_noise_94 rfl (lv_at hl 1 rfl) ?_
            refine va_get (D := D) (ci := 7) (v := .ref (q 9)) (C := RX7) (T := TX7) (N := 73) hx hb hts fw_7 hown hK hP 0 rfl rfl 9 (by decide) (hts _ m_fieldLink_M_38_M_spell_aI) (fun _ h9 => h9) rfl dX7_noise_95 ?_
            refine lv_iload_n hx hb dX7_noise_98 rfl (lv_at hl 2 rfl) ?_
            obtain ⟨hi8, hf⟩ := gd_of hf
            refine va_iald hx hb hK hP 4 0 rfl rfl hi8 dX7_noise_99 ?_
            refine lv_bipush (v := 9) hx hb dX7_noise_100 (by decide) ?_
            obtain ⟨r9q, hq10, hf⟩ := b1_of hf
            refine callVI (As := [.int ((ga 9) (Int32.toNatClampNeg a1)), .int 9]) (rest := [.int (x2 + ((ga 7) (Int32.toNatClampNeg a1)))]) (wr := (Mw h q cA fi fs ga gs pl it asd)) C0 (c_X7_least h ((ga 9) (Int32.toNatClampNeg a1)) 9 _ hq10) lk_X7_314_X7_least rfl hP hD hS (List.Perm.refl _) 0 7 rfl rfl rfl hl.1 rfl rfl (Nat.le_of_ble_eq_true rfl) dX7_noise_102 ⟨Nat.zero_le _, Nat.zero_le _⟩ (fun r9 w H locs hw hP hD hS => ?_)
            obtain ⟨e1, e2⟩ := hw
            replace e1 : r9 = r9q := e1
            subst e1
            subst e2
            replace hP : va_P D vwCl (Mw h q cA fi fs ga gs pl it asd) H := hP
            replace hD : va_D A (Mw h q cA fi fs ga gs pl it asd) := hD
            refine lv_isub hx hb dX7_noise_105 ?_
            rw [hQ]
            exact ret_i C0 hP hD hS (by have e := Option.some.inj hf; rw [← e]; exact ⟨rfl, rfl⟩) dX7_noise_106
          · replace hf := ie_of c6 hf
            by_cases c11 : ((ga 6) (Int32.toNatClampNeg a1)) = 5
            · replace hf := it_of c11 hf
              refine lv_tableIn (off := 79) (tgt := 107) hx hb dX7_noise_28 (by rw [c11]; decide) (by rw [c11]; decide) (by rw [c11]; decide) (by decide) ?_
              refine lv_aload_n hx hb dX7_noise_107 rfl (lv_at hl 1 rfl) ?_
              refine lv_iload_n hx hb dX7_noise_108 rfl (lv_at hl 2 rfl) ?_
              obtain ⟨r12q, hq13, hf⟩ := b1_of hf
              refine callVI (As := [.int a1]) (rest := []) (wr := []) C0 (c_X7_isDancerBelow h q fi fs ga gs pl it asd a1 _ hq13) lk_X7_317_X7_isDancerBelow rfl hP hD hS perm_nil 0 7 rfl rfl rfl hl.1 rfl rfl (Nat.le_of_ble_eq_true rfl) dX7_noise_109 ⟨Nat.zero_le _, Nat.zero_le _⟩ (fun r12 w H locs hw hP hD hS => ?_)
              obtain ⟨⟨e1, e2⟩, z14⟩ := hw
              replace e1 : r12 = r12q := e1
              subst e1
              subst e2
              replace hP : va_P D vwCl (Mw h q cA fi fs ga gs pl it asd) H := hP.nil
              replace hD : va_D A (Mw h q cA fi fs ga gs pl it asd) := hD.nil
              refine lv_if_eq (tgt := 125) hx hb dX7_noise_112 (by decide) (fun c15 => ?_) (fun c15 => ?_)
              · replace hf := it_of c15 hf
                refine lv_iload_n hx hb dX7_noise_125 rfl (lv_at hl 3 rfl) ?_
                refine lv_iconst (v := 2) hx hb dX7_noise_126 (by decide) ?_
                refine lv_idiv hx hb dX7_noise_127 (by decide) ?_
                refine lv_iconst (v := 3) hx hb dX7_noise_128 (by decide) ?_
                refine lv_iadd hx hb dX7_noise_129 ?_
                rw [hQ]
                exact ret_i C0 hP hD hS (by have e := Option.some.inj hf; rw [← e]; exact ⟨rfl, rfl⟩) dX7_noise_130
              · replace hf := ie_of c15 hf
                refine lv_iconst (v := 2) hx hb dX7_noise_115 (by decide) ?_
                refine lv_iload_n hx hb dX7_noise_116 rfl (lv_at hl 3 rfl) ?_
                refine lv_iconst (v := 2) hx hb dX7_noise_117 (by decide) ?_
                refine lv_idiv hx hb dX7_noise_118 (by decide) ?_
                refine lv_iconst (v := 3) hx hb dX7_noise_119 (by decide) ?_
                refine lv_iadd hx hb dX7_noise_120 ?_
                refine lv_imul hx hb dX7_noise_121 ?_
                refine lv_goto (tgt := 130) hx hb dX7_noise_122 (by decide) ?_
                rw [hQ]
                exact ret_i C0 hP hD hS (by have e := Option.some.inj hf; rw [← e]; exact ⟨rfl, rfl⟩) dX7_noise_130
            · replace hf := ie_of c11 hf
              by_cases c16 : ((ga 6) (Int32.toNatClampNeg a1)) = 6
              · replace hf := it_of c16 hf
                refine lv_tableIn (off := 103) (tgt := 131) hx hb dX7_noise_28 (by rw [c16]; decide) (by rw [c16]; decide) (by rw [c16]; decide) (by decide) ?_
                refine lv_iload_n hx hb dX7_noise_131 rfl (lv_at hl 0 rfl) ?_
                refine lv_aload_n hx hb dX7_noise_132 rfl (lv_at hl 1 rfl) ?_
                refine va_get (D := D) (ci := 7) (v := .ref (q 10)) (C := RX7) (T := TX7) (N := 73) hx hb hts fw_7 hown hK hP 0 rfl rfl 10 (by decide) (hts _ m_fieldLink_M_41_M_rows_aI) (fun _ h9 => h9) rfl dX7_noise_133 ?_
                refine lv_iconst (v := 4) hx hb dX7_noise_136 (by decide) ?_
                refine lv_iload_n hx hb dX7_noise_137 rfl (lv_at hl 2 rfl) ?_
                refine lv_imul hx hb dX7_noise_138 ?_
                refine lv_aload_n hx hb dX7_noise_139 rfl (lv_at hl 1 rfl) ?_
                refine va_get (D := D) (ci := 7) (v := .int (fi 5)) (C := RX7) (T := TX7) (N := 73) hx hb hts fw_7 hown hK hP 0 rfl rfl 5 (by decide) (hts _ m_fieldLink_M_25_M_day_I) (fun _ h9 => h9) rfl dX7_noise_140 ?_
                refine lv_iconst (v := 4) hx hb dX7_noise_143 (by decide) ?_
                refine lv_irem hx hb dX7_noise_144 (by decide) ?_
                refine lv_iadd hx hb dX7_noise_145 ?_
                obtain ⟨hi17, hf⟩ := gd_of hf
                refine va_iald hx hb hK hP 5 0 rfl rfl hi17 dX7_noise_146 ?_
                refine lv_iadd hx hb dX7_noise_147 ?_
                rw [hQ]
                exact ret_i C0 hP hD hS (by have e := Option.some.inj hf; rw [← e]; exact ⟨rfl, rfl⟩) dX7_noise_148
              · replace hf := ie_of c16 hf
                refine lv_tableOut (tgt := 149) hx hb dX7_noise_28 (by have := lv_neT c2 (a := 1) (by decide); have := lv_neT c4 (a := 2) (by decide); have := lv_neT c5 (a := 3) (by decide); have := lv_neT c6 (a := 4) (by decide); have := lv_neT c11 (a := 5) (by decide); have := lv_neT c16 (a := 6) (by decide); omega) (by decide) ?_
                refine lv_iload_n hx hb dX7_noise_149 rfl (lv_at hl 3 rfl) ?_
                rw [hQ]
                exact ret_i C0 hP hD hS (by have e := Option.some.inj hf; rw [← e]; exact ⟨rfl, rfl⟩) dX7_noise_150
  unfold k_X7_noise at hf
  refine lv_aload_n hx hb dX7_noise_0 rfl (lv_at hl 0 rfl) ?_
  refine lv_iload_n hx hb dX7_noise_1 rfl (lv_at hl 1 rfl) ?_
  obtain ⟨r1q, pl_2, hq3, hf⟩ := b2_of hf
  refine callVI (As := [.int a1]) (rest := []) (wr := []) C0 (c_X7_sum h q fi fs ga gs pl0 it asd a1 _ hq3) lk_X7_311_X7_sum rfl hP hD hS perm_nil 0 7 rfl rfl rfl hl.1 rfl rfl (Nat.le_of_ble_eq_true rfl) dX7_noise_2 ⟨Nat.zero_le _, Nat.zero_le _⟩ (fun r1 w H locs hw hP hD hS => ?_)
  obtain ⟨e1, e2⟩ := hw
  replace e1 : r1 = r1q := e1
  subst e1
  subst e2
  replace hP : va_P D vwCl (Mw h q cA fi fs ga gs pl_2 it asd) H := hP.nil
  replace hD : va_D A (Mw h q cA fi fs ga gs pl_2 it asd) := hD.nil
  refine lv_istore_n (lv' := [(2, .int r1), (0, .ref h), (1, .int a1)]) hx hb dX7_noise_5 rfl hl (by decide) rfl (fun ls hl => ?_)
  refine lv_aload_n hx hb dX7_noise_6 rfl (lv_at hl 1 rfl) ?_
  refine va_get (D := D) (ci := 7) (v := .int (fi 5)) (C := RX7) (T := TX7) (N := 73) hx hb hts fw_7 hown hK hP 0 rfl rfl 5 (by decide) (hts _ m_fieldLink_M_25_M_day_I) (fun _ h9 => h9) rfl dX7_noise_7 ?_
  refine lv_bipush (v := 7) hx hb dX7_noise_10 (by decide) ?_
  refine lv_irem hx hb dX7_noise_12 (by decide) ?_
  refine lv_if_ne (tgt := 20) hx hb dX7_noise_13 (by decide) (fun c4 => ?_) (fun c4 => ?_)
  · replace hf := ie_of c4 hf
    refine lv_iload_n hx hb dX7_noise_20 rfl (lv_at hl 0 rfl) ?_
    exact J21 r1 r1 pl_2 hf _ _ hP hD hS _ (lv_sub hl [1, 2, 0] rfl)
  · replace hf := it_of c4 hf
    refine lv_iconst (v := 0) hx hb dX7_noise_16 (by decide) ?_
    refine lv_goto (tgt := 21) hx hb dX7_noise_17 (by decide) ?_
    exact J21 r1 0 pl_2 hf _ _ hP hD hS _ (lv_sub hl [1, 2, 0] rfl)

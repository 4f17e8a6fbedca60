-- told
noncomputable def k_X7_told (a1 : Int32) (fi0 : Nat → Int32) (fs0 : Nat → Int32) (ga0 : Nat → Nat → Int32) (gs0 : Nat → Nat → Int32) (pl0 : Nat → Int32) : Option (Int32 × (Nat → Int32) × (Nat → Int32) × (Nat → Nat → Int32) × (Nat → Nat → Int32) × (Nat → Int32)) := if a1 = 0 then some ((fi0 5), fi0, fs0, ga0, gs0, pl0) else if a1 = 1 then b1 (k_X7_calm fi0 ga0) (fun r3 => some (r3, fi0, fs0, ga0, gs0, pl0)) else if a1 = 2 then some ((fi0 2), fi0, fs0, ga0, gs0, pl0) else if a1 = 3 then some ((fi0 3), fi0, fs0, ga0, gs0, pl0) else if a1 = 4 then some ((fi0 4), fi0, fs0, ga0, gs0, pl0) else if a1 = 5 then b2 (k_X7_sound fi0 ga0 pl0) (fun r9 pl_10 => some (r9, fi0, fs0, ga0, gs0, pl_10)) else if a1 = 6 then some ((fi0 1), fi0, fs0, ga0, gs0, pl0) else if a1 = 7 then b6 (k_X7_hushed fi0 fs0 ga0 gs0 pl0) (fun r14 fi_15 fs_16 ga_17 gs_18 pl_19 => some (r14, fi_15, fs_16, ga_17, gs_18, pl_19)) else if a1 = 8 then b2 (k_X7_watch fi0 ga0 pl0) (fun r22 pl_23 => b2 (k_X7_watchApart r22 fi0 ga0 pl_23) (fun r25 pl_26 => some (r25, fi0, fs0, ga0, gs0, pl_26))) else if a1 = 9 then b2 (k_X7_watch fi0 ga0 pl0) (fun r29 pl_30 => some (r29, fi0, fs0, ga0, gs0, pl_30)) else some ((-1), fi0, fs0, ga0, gs0, pl0)
set_option maxHeartbeats 4000000 in
set_option maxRecDepth 100000 in
theorem c_X7_told {l : Launch} {D : va_G} {cA : Nat → ClassId} (h : Nat) (q : Nat → Nat) (fi0 : Nat → Int32) (fs0 : Nat → Int32) (ga0 : Nat → Nat → Int32) (gs0 : Nat → Nat → Int32) (pl0 : Nat → Int32) (it : Nat → Int64) (asd : Nat → Int64) (a1 : Int32) (o : Int32 × (Nat → Int32) × (Nat → Int32) × (Nat → Nat → Int32) × (Nat → Nat → Int32) × (Nat → Int32)) (hf : k_X7_told a1 fi0 fs0 ga0 gs0 pl0 = some o) : CI l D cA yX7_told cX7_told 2 (some .int) 8 183 [.ref h, .int a1] (Mw h q cA fi0 fs0 ga0 gs0 pl0 it asd) 0 0 (fun r w => r = o.1 ∧ w = (Mw h q cA o.2.1 o.2.2.1 o.2.2.2.1 o.2.2.2.2.1 o.2.2.2.2.2 it asd)) := by
  intro sz
  refine met_start (by decide) rfl ?_
  intro p e s m args below meth c ls hsz hargs C0 hname hP hD hS hl
  generalize hAe : va_A (Mw h q cA fi0 fs0 ga0 gs0 pl0 it asd) sz = A at C0 hD hS ⊢
  obtain ⟨hx, hb, hr, hml, hown, hts, hlk, hK, hA⟩ := id C0
  replace hl : lv_has ls 2 [(0, .ref h), (1, .int a1)] := hl
  obtain ⟨Q, hQ⟩ : ∃ Q : State → Prop, Q = QI below D A (fun r w => r = o.1 ∧ w = (Mw h q cA o.2.1 o.2.2.1 o.2.2.2.1 o.2.2.2.2.1 o.2.2.2.2.2 it asd)) args s 0 0 := ⟨_, rfl⟩
  refine cast (by rw [hQ]) (?_ : W p l e (RMx 8 183 0 0) s m args below meth c s.heap [] 0 0 Q (F0 m 0 ls []))
  unfold k_X7_told at hf
  refine lv_iload_n hx hb dX7_told_0 rfl (lv_at hl 1 rfl) ?_
  by_cases c1 : a1 = 0
  · replace hf := it_of c1 hf
    refine lv_tableIn (off := 55) (tgt := 56) hx hb dX7_told_1 (by rw [c1]; decide) (by rw [c1]; decide) (by rw [c1]; decide) (by decide) ?_
    refine lv_aload_n hx hb dX7_told_56 rfl (lv_at hl 0 rfl) ?_
    refine va_get (D := D) (ci := 7) (v := .int (fi0 5)) (C := RX7) (T := TX7) (N := 73) hx hb hts fw_7 hown hK hP 0 rfl rfl 5 (by decide) (hts _ m_fieldLink_M_25_M_day_I) (fun _ h9 => h9) rfl dX7_told_57 ?_
    rw [hQ]
    exact ret_i C0 hP hD hS (by have e := Option.some.inj hf; rw [← e]; exact ⟨rfl, rfl⟩) dX7_told_60
  · replace hf := ie_of c1 hf
    by_cases c2 : a1 = 1
    · replace hf := it_of c2 hf
      refine lv_tableIn (off := 60) (tgt := 61) hx hb dX7_told_1 (by rw [c2]; decide) (by rw [c2]; decide) (by rw [c2]; decide) (by decide) ?_
      refine lv_aload_n hx hb dX7_told_61 rfl (lv_at hl 0 rfl) ?_
      obtain ⟨r3q, hq4, hf⟩ := b1_of hf
      refine callVI (As := []) (rest := []) (wr := []) C0 (c_X7_calm h q fi0 fs0 ga0 gs0 pl0 it asd _ hq4) lk_X7_329_X7_calm rfl hP hD hS perm_nil 0 7 rfl rfl rfl hl.1 rfl rfl (Nat.le_of_ble_eq_true rfl) dX7_told_62 ⟨Nat.zero_le _, Nat.zero_le _⟩ (fun r3 w H locs hw hP hD hS => ?_)
      obtain ⟨e1, e2⟩ := hw
      replace e1 : r3 = r3q := e1
      subst e1
      subst e2
      replace hP : va_P D vwCl (Mw h q cA fi0 fs0 ga0 gs0 pl0 it asd) H := hP.nil
      replace hD : va_D A (Mw h q cA fi0 fs0 ga0 gs0 pl0 it asd) := hD.nil
      rw [hQ]
      exact ret_i C0 hP hD hS (by have e := Option.some.inj hf; rw [← e]; exact ⟨rfl, rfl⟩) dX7_told_65
    · replace hf := ie_of c2 hf
      by_cases c5 : a1 = 2
      · replace hf := it_of c5 hf
        refine lv_tableIn (off := 65) (tgt := 66) hx hb dX7_told_1 (by rw [c5]; decide) (by rw [c5]; decide) (by rw [c5]; decide) (by decide) ?_
        refine lv_aload_n hx hb dX7_told_66 rfl (lv_at hl 0 rfl) ?_
        refine va_get (D := D) (ci := 7) (v := .int (fi0 2)) (C := RX7) (T := TX7) (N := 73) hx hb hts fw_7 hown hK hP 0 rfl rfl 2 (by decide) (hts _ m_fieldLink_M_16_M_fears_I) (fun _ h9 => h9) rfl dX7_told_67 ?_
        rw [hQ]
        exact ret_i C0 hP hD hS (by have e := Option.some.inj hf; rw [← e]; exact ⟨rfl, rfl⟩) dX7_told_70
      · replace hf := ie_of c5 hf
        by_cases c6 : a1 = 3
        · replace hf := it_of c6 hf
          refine lv_tableIn (off := 70) (tgt := 71) hx hb dX7_told_1 (by rw [c6]; decide) (by rw [c6]; decide) (by rw [c6]; decide) (by decide) ?_
          refine lv_aload_n hx hb dX7_told_71 rfl (lv_at hl 0 rfl) ?_
          refine va_get (D := D) (ci := 7) (v := .int (fi0 3)) (C := RX7) (T := TX7) (N := 73) hx hb hts fw_7 hown hK hP 0 rfl rfl 3 (by decide) (hts _ m_fieldLink_M_19_M_truths_I) (fun _ h9 => h9) rfl dX7_told_72 ?_
          rw [hQ]
          exact ret_i C0 hP hD hS (by have e := Option.some.inj hf; rw [← e]; exact ⟨rfl, rfl⟩) dX7_told_75
        · replace hf := ie_of c6 hf
          by_cases c7 : a1 = 4
          · replace hf := it_of c7 hf
            refine lv_tableIn (off := 75) (tgt := 76) hx hb dX7_told_1 (by rw [c7]; decide) (by rw [c7]; decide) (by rw [c7]; decide) (by decide) ?_
            refine lv_aload_n hx hb dX7_told_76 rfl (lv_at hl 0 rfl) ?_
            refine va_get (D := D) (ci := 7) (v := .int (fi0 4)) (C := RX7) (T := TX7) (N := 73) hx hb hts fw_7 hown hK hP 0 rfl rfl 4 (by decide) (hts _ m_fieldLink_M_22_M_silences_I) (fun _ h9 => h9) rfl dX7_told_77 ?_
            rw [hQ]
            exact ret_i C0 hP hD hS (by have e := Option.some.inj hf; rw [← e]; exact ⟨rfl, rfl⟩) dX7_told_80
          · replace hf := ie_of c7 hf
            by_cases c8 : a1 = 5
            · replace hf := it_of c8 hf
              refine lv_tableIn (off := 80) (tgt := 81) hx hb dX7_told_1 (by rw [c8]; decide) (by rw [c8]; decide) (by rw [c8]; decide) (by decide) ?_
              refine lv_aload_n hx hb dX7_told_81 rfl (lv_at hl 0 rfl) ?_
              obtain ⟨r9q, pl_10, hq11, hf⟩ := b2_of hf
              refine callVI (As := []) (rest := []) (wr := []) C0 (c_X7_sound h q fi0 fs0 ga0 gs0 pl0 it asd _ hq11) lk_X7_326_X7_sound rfl hP hD hS perm_nil 0 7 rfl rfl rfl hl.1 rfl rfl (Nat.le_of_ble_eq_true rfl) dX7_told_82 ⟨Nat.zero_le _, Nat.zero_le _⟩ (fun r9 w H locs hw hP hD hS => ?_)
              obtain ⟨e1, e2⟩ := hw
              replace e1 : r9 = r9q := e1
              subst e1
              subst e2
              replace hP : va_P D vwCl (Mw h q cA fi0 fs0 ga0 gs0 pl_10 it asd) H := hP.nil
              replace hD : va_D A (Mw h q cA fi0 fs0 ga0 gs0 pl_10 it asd) := hD.nil
              rw [hQ]
              exact ret_i C0 hP hD hS (by have e := Option.some.inj hf; rw [← e]; exact ⟨rfl, rfl⟩) dX7_told_85
            · replace hf := ie_of c8 hf
              by_cases c12 : a1 = 6
              · replace hf := it_of c12 hf
                refine lv_tableIn (off := 85) (tgt := 86) hx hb dX7_told_1 (by rw [c12]; decide) (by rw [c12]; decide) (by rw [c12]; decide) (by decide) ?_
                refine lv_aload_n hx hb dX7_told_86 rfl (lv_at hl 0 rfl) ?_
                refine va_get (D := D) (ci := 7) (v := .int (fi0 1)) (C := RX7) (T := TX7) (N := 73) hx hb hts fw_7 hown hK hP 0 rfl rfl 1 (by decide) (hts _ m_fieldLink_M_13_M_up_I) (fun _ h9 => h9) rfl dX7_told_87 ?_
                rw [hQ]
                exact ret_i C0 hP hD hS (by have e := Option.some.inj hf; rw [← e]; exact ⟨rfl, rfl⟩) dX7_told_90
              · replace hf := ie_of c12 hf
                by_cases c13 : a1 = 7
                · replace hf := it_of c13 hf
                  refine lv_tableIn (off := 90) (tgt := 91) hx hb dX7_told_1 (by rw [c13]; decide) (by rw [c13]; decide) (by rw [c13]; decide) (by decide) ?_
                  refine lv_aload_n hx hb dX7_told_91 rfl (lv_at hl 0 rfl) ?_
                  obtain ⟨r14q, fi_15, fs_16, ga_17, gs_18, pl_19, hq20, hf⟩ := b6_of hf
                  refine callVI (As := []) (rest := []) (wr := []) C0 (c_X7_hushed h q fi0 fs0 ga0 gs0 pl0 it asd _ hq20) lk_X7_354_X7_hushed rfl hP hD hS perm_nil 0 7 rfl rfl rfl hl.1 rfl rfl (Nat.le_of_ble_eq_true rfl) dX7_told_92 ⟨Nat.zero_le _, Nat.zero_le _⟩ (fun r14 w H locs hw hP hD hS => ?_)
                  obtain ⟨e1, e2⟩ := hw
                  replace e1 : r14 = r14q := e1
                  subst e1
                  subst e2
                  replace hP : va_P D vwCl (Mw h q cA fi_15 fs_16 ga_17 gs_18 pl_19 it asd) H := hP.nil
                  replace hD : va_D A (Mw h q cA fi_15 fs_16 ga_17 gs_18 pl_19 it asd) := hD.nil
                  rw [hQ]
                  exact ret_i C0 hP hD hS (by have e := Option.some.inj hf; rw [← e]; exact ⟨rfl, rfl⟩) dX7_told_95
                · replace hf := ie_of c13 hf
                  by_cases c21 : a1 = 8
                  · replace hf := it_of c21 hf
                    refine lv_tableIn (off := 95) (tgt := 96) hx hb dX7_told_1 (by rw [c21]; decide) (by rw [c21]; decide) (by rw [c21]; decide) (by decide) ?_
                    refine lv_aload_n hx hb dX7_told_96 rfl (lv_at hl 0 rfl) ?_
                    refine lv_aload_n hx hb dX7_told_97 rfl (lv_at hl 0 rfl) ?_
                    obtain ⟨r22q, pl_23, hq24, hf⟩ := b2_of hf
                    refine callVI (As := []) (rest := [.ref h]) (wr := []) C0 (c_X7_watch h q fi0 fs0 ga0 gs0 pl0 it asd _ hq24) lk_X7_357_X7_watch rfl hP hD hS perm_nil 0 7 rfl rfl rfl hl.1 rfl rfl (Nat.le_of_ble_eq_true rfl) dX7_told_98 ⟨Nat.zero_le _, Nat.zero_le _⟩ (fun r22 w H locs hw hP hD hS => ?_)
                    obtain ⟨e1, e2⟩ := hw
                    replace e1 : r22 = r22q := e1
                    subst e1
                    subst e2
                    replace hP : va_P D vwCl (Mw h q cA fi0 fs0 ga0 gs0 pl_23 it asd) H := hP.nil
                    replace hD : va_D A (Mw h q cA fi0 fs0 ga0 gs0 pl_23 it asd) := hD.nil
                    obtain ⟨r25q, pl_26, hq27, hf⟩ := b2_of hf
                    refine callVI (As := [.int r22]) (rest := []) (wr := []) C0 (c_X7_watchApart h q fi0 fs0 ga0 gs0 pl_23 it asd r22 _ hq27) lk_X7_351_X7_watchApart rfl hP hD hS perm_nil 0 7 rfl rfl rfl hl.1 rfl rfl (Nat.le_of_ble_eq_true rfl) dX7_told_101 ⟨Nat.zero_le _, Nat.zero_le _⟩ (fun r25 w H locs hw hP hD hS => ?_)
                    obtain ⟨e1, e2⟩ := hw
                    replace e1 : r25 = r25q := e1
                    subst e1
                    subst e2
                    replace hP : va_P D vwCl (Mw h q cA fi0 fs0 ga0 gs0 pl_26 it asd) H := hP.nil
                    replace hD : va_D A (Mw h q cA fi0 fs0 ga0 gs0 pl_26 it asd) := hD.nil
                    rw [hQ]
                    exact ret_i C0 hP hD hS (by have e := Option.some.inj hf; rw [← e]; exact ⟨rfl, rfl⟩) dX7_told_104
                  · replace hf := ie_of c21 hf
                    by_cases c28 : a1 = 9
                    · replace hf := it_of c28 hf
                      refine lv_tableIn (off := 104) (tgt := 105) hx hb dX7_told_1 (by rw [c28]; decide) (by rw [c28]; decide) (by rw [c28]; decide) (by decide) ?_
                      refine lv_aload_n hx hb dX7_told_105 rfl (lv_at hl 0 rfl) ?_
                      obtain ⟨r29q, pl_30, hq31, hf⟩ := b2_of hf
                      refine callVI (As := []) (rest := []) (wr := []) C0 (c_X7_watch h q fi0 fs0 ga0 gs0 pl0 it asd _ hq31) lk_X7_357_X7_watch rfl hP hD hS perm_nil 0 7 rfl rfl rfl hl.1 rfl rfl (Nat.le_of_ble_eq_true rfl) dX7_told_106 ⟨Nat.zero_le _, Nat.zero_le _⟩ (fun r29 w H locs hw hP hD hS => ?_)
                      obtain ⟨e1, e2⟩ := hw
                      replace e1 : r29 = r29q := e1
                      subst e1
                      subst e2
                      replace hP : va_P D vwCl (Mw h q cA fi0 fs0 ga0 gs0 pl_30 it asd) H := hP.nil
                      replace hD : va_D A (Mw h q cA fi0 fs0 ga0 gs0 pl_30 it asd) := hD.nil
                      rw [hQ]
                      exact ret_i C0 hP hD hS (by have e := Option.some.inj hf; rw [← e]; exact ⟨rfl, rfl⟩) dX7_told_109
                    · replace hf := ie_of c28 hf
                      refine lv_tableOut (tgt := 110) hx hb dX7_told_1 (by have := lv_neT c1 (a := 0) (by decide); have := lv_neT c2 (a := 1) (by decide); have := lv_neT c5 (a := 2) (by decide); have := lv_neT c6 (a := 3) (by decide); have := lv_neT c7 (a := 4) (by decide); have := lv_neT c8 (a := 5) (by decide); have := lv_neT c12 (a := 6) (by decide); have := lv_neT c13 (a := 7) (by decide); have := lv_neT c21 (a := 8) (by decide); have := lv_neT c28 (a := 9) (by decide); omega) (by decide) ?_
                      refine lv_iconst (v := (-1)) hx hb dX7_told_110 (by decide) ?_
                      rw [hQ]
                      exact ret_i C0 hP hD hS (by have e := Option.some.inj hf; rw [← e]; exact ⟨rfl, rfl⟩) dX7_told_111
-- on
noncomputable def k_X7_on_71  (t0 : Int32) (fi : Nat → Int32) (fs : Nat → Int32) (ga : Nat → Nat → Int32) (gs : Nat → Nat → Int32) (pl : Nat → Int32) : Option (Int32 × (Nat → Int32) × (Nat → Int32) × (Nat → Nat → Int32) × (Nat → Nat → Int32) × (Nat → Int32)) := b3 (k_X7_putBack fi fs ga gs) (fun fi_1 fs_2 ga_3 => some (t0, fi_1, fs_2, ga_3, gs, pl))
noncomputable def k_X7_on (a1 : Int32) (a2 : Int32) (fi0 : Nat → Int32) (fs0 : Nat → Int32) (ga0 : Nat → Nat → Int32) (gs0 : Nat → Nat → Int32) (pl0 : Nat → Int32) : Option (Int32 × (Nat → Int32) × (Nat → Int32) × (Nat → Nat → Int32) × (Nat → Nat → Int32) × (Nat → Int32)) := b1 (k_X7_in a2 0 3) (fun r1 => if r1 = 0 then some ((-1), fi0, fs0, ga0, gs0, pl0) else b1 (k_X7_isDays a1) (fun r5 => if r5 = 0 then some ((-2), fi0, fs0, ga0, gs0, pl0) else b2 (k_X7_save fi0 fs0 ga0 gs0) (fun fs_9 gs_10 => b3 (k_X7_goDays a1 fi0 fs_9 ga0 pl0) (fun fi_12 ga_13 pl_14 => if a2 = 0 then k_X7_on_71 (fi_12 2) fi_12 fs_9 ga_13 gs_10 pl_14 else if a2 = 1 then k_X7_on_71 (fi_12 3) fi_12 fs_9 ga_13 gs_10 pl_14 else if a2 = 2 then k_X7_on_71 (fi_12 4) fi_12 fs_9 ga_13 gs_10 pl_14 else b2 (k_X7_sound fi_12 ga_13 pl_14) (fun r19 pl_20 => k_X7_on_71 r19 fi_12 fs_9 ga_13 gs_10 pl_20)))))
set_option maxHeartbeats 4000000 in
set_option maxRecDepth 100000 in
theorem c_X7_on {l : Launch} {D : va_G} {cA : Nat → ClassId} (h : Nat) (q : Nat → Nat) (fi0 : Nat → Int32) (fs0 : Nat → Int32) (ga0 : Nat → Nat → Int32) (gs0 : Nat → Nat → Int32) (pl0 : Nat → Int32) (it : Nat → Int64) (asd : Nat → Int64) (a1 : Int32) (a2 : Int32) (o : Int32 × (Nat → Int32) × (Nat → Int32) × (Nat → Nat → Int32) × (Nat → Nat → Int32) × (Nat → Int32)) (hf : k_X7_on a1 a2 fi0 fs0 ga0 gs0 pl0 = some o) : CI l D cA yX7_on cX7_on 4 (some .int) 8 184 [.ref h, .int a1, .int a2] (Mw h q cA fi0 fs0 ga0 gs0 pl0 it asd) 0 0 (fun r w => r = o.1 ∧ w = (Mw h q cA o.2.1 o.2.2.1 o.2.2.2.1 o.2.2.2.2.1 o.2.2.2.2.2 it asd)) := by
  intro sz
  refine met_start (by decide) rfl ?_
  intro p e s m args below meth c ls hsz hargs C0 hname hP hD hS hl
  generalize hAe : va_A (Mw h q cA fi0 fs0 ga0 gs0 pl0 it asd) sz = A at C0 hD hS ⊢
  obtain ⟨hx, hb, hr, hml, hown, hts, hlk, hK, hA⟩ := id C0
  replace hl : lv_has ls 4 [(0, .ref h), (1, .int a1), (2, .int a2)] := hl
  obtain ⟨Q, hQ⟩ : ∃ Q : State → Prop, Q = QI below D A (fun r w => r = o.1 ∧ w = (Mw h q cA o.2.1 o.2.2.1 o.2.2.2.1 o.2.2.2.2.1 o.2.2.2.2.2 it asd)) args s 0 0 := ⟨_, rfl⟩
  refine cast (by rw [hQ]) (?_ : W p l e (RMx 8 184 0 0) s m args below meth c s.heap [] 0 0 Q (F0 m 0 ls []))
  have J71 : ∀ (t0 : Int32) (fi : Nat → Int32) (fs : Nat → Int32) (ga : Nat → Nat → Int32) (gs : Nat → Nat → Int32) (pl : Nat → Int32), k_X7_on_71 t0 fi fs ga gs pl = some o → ∀ (H : Heap) (locs : List Loc), va_P D vwCl (Mw h q cA fi fs ga gs pl it asd) H → va_D A (Mw h q cA fi fs ga gs pl it asd) → va_S A s.heap H locs → ∀ ls : Array Slot, lv_has ls 4 [(0, .ref h)] → W p l e (RMx 8 184 0 0) s m args below meth c H locs 0 0 Q (F0 m 71 ls [.int t0]) := by
    intro  t0 fi fs ga gs pl hf H locs hP hD hS ls hl
    unfold k_X7_on_71 at hf
    refine lv_istore_n (lv' := [(3, .int t0), (0, .ref h)]) hx hb dX7_on_71 rfl hl (by decide) rfl (fun ls hl => ?_)
    refine lv_aload_n hx hb dX7_on_72 rfl (lv_at hl 1 rfl) ?_
    obtain ⟨fi_1, fs_2, ga_3, hq4, hf⟩ := b3_of hf
    refine callVV (As := []) (rest := []) (wr := []) C0 (c_X7_putBack h q fi fs ga gs pl it asd _ hq4) lk_X7_345_X7_putBack rfl hP hD hS perm_nil 0 7 rfl rfl rfl hl.1 rfl rfl (Nat.le_of_ble_eq_true rfl) dX7_on_73 ⟨Nat.zero_le _, Nat.zero_le _⟩ (fun w H locs hw hP hD hS => ?_)
    have e2 := hw
    subst e2
    replace hP : va_P D vwCl (Mw h q cA fi_1 fs_2 ga_3 gs pl it asd) H := hP.nil
    replace hD : va_D A (Mw h q cA fi_1 fs_2 ga_3 gs pl it asd) := hD.nil
    refine lv_iload_n hx hb dX7_on_76 rfl (lv_at hl 0 rfl) ?_
    rw [hQ]
    exact ret_i C0 hP hD hS (by have e := Option.some.inj hf; rw [← e]; exact ⟨rfl, rfl⟩) dX7_on_77
  unfold k_X7_on at hf
  refine lv_aload_n hx hb dX7_on_0 rfl (lv_at hl 0 rfl) ?_
  refine lv_iload_n hx hb dX7_on_1 rfl (lv_at hl 2 rfl) ?_
  refine lv_iconst (v := 0) hx hb dX7_on_2 (by decide) ?_
  refine lv_iconst (v := 3) hx hb dX7_on_3 (by decide) ?_
  obtain ⟨r1q, hq2, hf⟩ := b1_of hf
  refine callVI (As := [.int a2, .int 0, .int 3]) (rest := []) (wr := (Mw h q cA fi0 fs0 ga0 gs0 pl0 it asd)) C0 (c_X7_in h a2 0 3 _ hq2) lk_X7_237_X7_in rfl hP hD hS (List.Perm.refl _) 0 7 rfl rfl rfl hl.1 rfl rfl (Nat.le_of_ble_eq_true rfl) dX7_on_4 ⟨Nat.zero_le _, Nat.zero_le _⟩ (fun r1 w H locs hw hP hD hS => ?_)
  obtain ⟨⟨e1, e2⟩, z3⟩ := hw
  replace e1 : r1 = r1q := e1
  subst e1
  subst e2
  replace hP : va_P D vwCl (Mw h q cA fi0 fs0 ga0 gs0 pl0 it asd) H := hP
  replace hD : va_D A (Mw h q cA fi0 fs0 ga0 gs0 pl0 it asd) := hD
  refine lv_if_ne (tgt := 12) hx hb dX7_on_7 (by decide) (fun c4 => ?_) (fun c4 => ?_)
  · replace hf := ie_of c4 hf
    refine lv_aload_n hx hb dX7_on_12 rfl (lv_at hl 0 rfl) ?_
    refine lv_iload_n hx hb dX7_on_13 rfl (lv_at hl 1 rfl) ?_
    obtain ⟨r5q, hq6, hf⟩ := b1_of hf
    refine callVI (As := [.int a1]) (rest := []) (wr := []) C0 (c_X7_isDays h q fi0 fs0 ga0 gs0 pl0 it asd a1 _ hq6) lk_X7_335_X7_isDays rfl hP hD hS perm_nil 0 7 rfl rfl rfl hl.1 rfl rfl (Nat.le_of_ble_eq_true rfl) dX7_on_14 ⟨Nat.zero_le _, Nat.zero_le _⟩ (fun r5 w H locs hw hP hD hS => ?_)
    obtain ⟨⟨e1, e2⟩, z7⟩ := hw
    replace e1 : r5 = r5q := e1
    subst e1
    subst e2
    replace hP : va_P D vwCl (Mw h q cA fi0 fs0 ga0 gs0 pl0 it asd) H := hP.nil
    replace hD : va_D A (Mw h q cA fi0 fs0 ga0 gs0 pl0 it asd) := hD.nil
    refine lv_if_ne (tgt := 23) hx hb dX7_on_17 (by decide) (fun c8 => ?_) (fun c8 => ?_)
    · replace hf := ie_of c8 hf
      refine lv_aload_n hx hb dX7_on_23 rfl (lv_at hl 0 rfl) ?_
      obtain ⟨fs_9, gs_10, hq11, hf⟩ := b2_of hf
      refine callVV (As := []) (rest := []) (wr := []) C0 (c_X7_save h q fi0 fs0 ga0 gs0 pl0 it asd _ hq11) lk_X7_342_X7_save rfl hP hD hS perm_nil 0 7 rfl rfl rfl hl.1 rfl rfl (Nat.le_of_ble_eq_true rfl) dX7_on_24 ⟨Nat.zero_le _, Nat.zero_le _⟩ (fun w H locs hw hP hD hS => ?_)
      have e2 := hw
      subst e2
      replace hP : va_P D vwCl (Mw h q cA fi0 fs_9 ga0 gs_10 pl0 it asd) H := hP.nil
      replace hD : va_D A (Mw h q cA fi0 fs_9 ga0 gs_10 pl0 it asd) := hD.nil
      refine lv_aload_n hx hb dX7_on_27 rfl (lv_at hl 0 rfl) ?_
      refine lv_iload_n hx hb dX7_on_28 rfl (lv_at hl 1 rfl) ?_
      obtain ⟨fi_12, ga_13, pl_14, hq15, hf⟩ := b3_of hf
      refine callVV (As := [.int a1]) (rest := []) (wr := []) C0 (c_X7_goDays h q fi0 fs_9 ga0 gs_10 pl0 it asd a1 _ hq15) lk_X7_338_X7_goDays rfl hP hD hS perm_nil 0 7 rfl rfl rfl hl.1 rfl rfl (Nat.le_of_ble_eq_true rfl) dX7_on_29 ⟨Nat.zero_le _, Nat.zero_le _⟩ (fun w H locs hw hP hD hS => ?_)
      have e2 := hw
      subst e2
      replace hP : va_P D vwCl (Mw h q cA fi_12 fs_9 ga_13 gs_10 pl_14 it asd) H := hP.nil
      replace hD : va_D A (Mw h q cA fi_12 fs_9 ga_13 gs_10 pl_14 it asd) := hD.nil
      refine lv_iload_n hx hb dX7_on_32 rfl (lv_at hl 2 rfl) ?_
      refine lv_if_ne (tgt := 43) hx hb dX7_on_33 (by decide) (fun c16 => ?_) (fun c16 => ?_)
      · replace hf := ie_of c16 hf
        refine lv_iload_n hx hb dX7_on_43 rfl (lv_at hl 2 rfl) ?_
        refine lv_iconst (v := 1) hx hb dX7_on_44 (by decide) ?_
        refine lv_icmp_ne (tgt := 55) hx hb dX7_on_45 (by decide) (fun c17 => ?_) (fun c17 => ?_)
        · replace hf := ie_of c17 hf
          refine lv_iload_n hx hb dX7_on_55 rfl (lv_at hl 2 rfl) ?_
          refine lv_iconst (v := 2) hx hb dX7_on_56 (by decide) ?_
          refine lv_icmp_ne (tgt := 67) hx hb dX7_on_57 (by decide) (fun c18 => ?_) (fun c18 => ?_)
          · replace hf := ie_of c18 hf
            refine lv_aload_n hx hb dX7_on_67 rfl (lv_at hl 0 rfl) ?_
            obtain ⟨r19q, pl_20, hq21, hf⟩ := b2_of hf
            refine callVI (As := []) (rest := []) (wr := []) C0 (c_X7_sound h q fi_12 fs_9 ga_13 gs_10 pl_14 it asd _ hq21) lk_X7_326_X7_sound rfl hP hD hS perm_nil 0 7 rfl rfl rfl hl.1 rfl rfl (Nat.le_of_ble_eq_true rfl) dX7_on_68 ⟨Nat.zero_le _, Nat.zero_le _⟩ (fun r19 w H locs hw hP hD hS => ?_)
            obtain ⟨e1, e2⟩ := hw
            replace e1 : r19 = r19q := e1
            subst e1
            subst e2
            replace hP : va_P D vwCl (Mw h q cA fi_12 fs_9 ga_13 gs_10 pl_20 it asd) H := hP.nil
            replace hD : va_D A (Mw h q cA fi_12 fs_9 ga_13 gs_10 pl_20 it asd) := hD.nil
            exact J71 r19 fi_12 fs_9 ga_13 gs_10 pl_20 hf _ _ hP hD hS _ (lv_sub hl [0] rfl)
          · replace hf := it_of c18 hf
            refine lv_aload_n hx hb dX7_on_60 rfl (lv_at hl 0 rfl) ?_
            refine va_get (D := D) (ci := 7) (v := .int (fi_12 4)) (C := RX7) (T := TX7) (N := 73) hx hb hts fw_7 hown hK hP 0 rfl rfl 4 (by decide) (hts _ m_fieldLink_M_22_M_silences_I) (fun _ h9 => h9) rfl dX7_on_61 ?_
            refine lv_goto (tgt := 71) hx hb dX7_on_64 (by decide) ?_
            exact J71 (fi_12 4) fi_12 fs_9 ga_13 gs_10 pl_14 hf _ _ hP hD hS _ (lv_sub hl [0] rfl)
        · replace hf := it_of c17 hf
          refine lv_aload_n hx hb dX7_on_48 rfl (lv_at hl 0 rfl) ?_
          refine va_get (D := D) (ci := 7) (v := .int (fi_12 3)) (C := RX7) (T := TX7) (N := 73) hx hb hts fw_7 hown hK hP 0 rfl rfl 3 (by decide) (hts _ m_fieldLink_M_19_M_truths_I) (fun _ h9 => h9) rfl dX7_on_49 ?_
          refine lv_goto (tgt := 71) hx hb dX7_on_52 (by decide) ?_
          exact J71 (fi_12 3) fi_12 fs_9 ga_13 gs_10 pl_14 hf _ _ hP hD hS _ (lv_sub hl [0] rfl)
      · replace hf := it_of c16 hf
        refine lv_aload_n hx hb dX7_on_36 rfl (lv_at hl 0 rfl) ?_
        refine va_get (D := D) (ci := 7) (v := .int (fi_12 2)) (C := RX7) (T := TX7) (N := 73) hx hb hts fw_7 hown hK hP 0 rfl rfl 2 (by decide) (hts _ m_fieldLink_M_16_M_fears_I) (fun _ h9 => h9) rfl dX7_on_37 ?_
        refine lv_goto (tgt := 71) hx hb dX7_on_40 (by decide) ?_
        exact J71 (fi_12 2) fi_12 fs_9 ga_13 gs_10 pl_14 hf _ _ hP hD hS _ (lv_sub hl [0] rfl)
    · replace hf := it_of c8 hf
      refine lv_bipush (v := (-2)) hx hb dX7_on_20 (by decide) ?_
      rw [hQ]
      exact ret_i C0 hP hD hS (by have e := Option.some.inj hf; rw [← e]; exact ⟨rfl, rfl⟩) dX7_on_22
  · replace hf := it_of c4 hf
    refine lv_iconst (v := (-1)) hx hb dX7_on_10 (by decide) ?_
    rw [hQ]
    exact ret_i C0 hP hD hS (by have e := Option.some.inj hf; rw [← e]; exact ⟨rfl, rfl⟩) dX7_on_11
-- truthsBy
noncomputable def k_X7_truthsBy (a1 : Int32) (a2 : Int32) (fi0 : Nat → Int32) (fs0 : Nat → Int32) (ga0 : Nat → Nat → Int32) (gs0 : Nat → Nat → Int32) (pl0 : Nat → Int32) : Option (Int32 × (Nat → Int32) × (Nat → Int32) × (Nat → Nat → Int32) × (Nat → Nat → Int32) × (Nat → Int32)) := b2 (k_X7_save fi0 fs0 ga0 gs0) (fun fs_1 gs_2 => b3 (k_X7_goDays a2 (upd fi0 1 a1) fs_1 ga0 pl0) (fun fi_4 ga_5 pl_6 => b3 (k_X7_putBack fi_4 fs_1 ga_5 gs_2) (fun fi_8 fs_9 ga_10 => some ((fi_4 3), fi_8, fs_9, ga_10, gs_2, pl_6))))
set_option maxHeartbeats 4000000 in
set_option maxRecDepth 100000 in
theorem c_X7_truthsBy {l : Launch} {D : va_G} {cA : Nat → ClassId} (h : Nat) (q : Nat → Nat) (fi0 : Nat → Int32) (fs0 : Nat → Int32) (ga0 : Nat → Nat → Int32) (gs0 : Nat → Nat → Int32) (pl0 : Nat → Int32) (it : Nat → Int64) (asd : Nat → Int64) (a1 : Int32) (a2 : Int32) (o : Int32 × (Nat → Int32) × (Nat → Int32) × (Nat → Nat → Int32) × (Nat → Nat → Int32) × (Nat → Int32)) (hf : k_X7_truthsBy a1 a2 fi0 fs0 ga0 gs0 pl0 = some o) : CI l D cA yX7_truthsBy cX7_truthsBy 4 (some .int) 8 184 [.ref h, .int a1, .int a2] (Mw h q cA fi0 fs0 ga0 gs0 pl0 it asd) 0 0 (fun r w => r = o.1 ∧ w = (Mw h q cA o.2.1 o.2.2.1 o.2.2.2.1 o.2.2.2.2.1 o.2.2.2.2.2 it asd)) := by
  intro sz
  refine met_start (by decide) rfl ?_
  intro p e s m args below meth c ls hsz hargs C0 hname hP hD hS hl
  generalize hAe : va_A (Mw h q cA fi0 fs0 ga0 gs0 pl0 it asd) sz = A at C0 hD hS ⊢
  obtain ⟨hx, hb, hr, hml, hown, hts, hlk, hK, hA⟩ := id C0
  replace hl : lv_has ls 4 [(0, .ref h), (1, .int a1), (2, .int a2)] := hl
  obtain ⟨Q, hQ⟩ : ∃ Q : State → Prop, Q = QI below D A (fun r w => r = o.1 ∧ w = (Mw h q cA o.2.1 o.2.2.1 o.2.2.2.1 o.2.2.2.2.1 o.2.2.2.2.2 it asd)) args s 0 0 := ⟨_, rfl⟩
  refine cast (by rw [hQ]) (?_ : W p l e (RMx 8 184 0 0) s m args below meth c s.heap [] 0 0 Q (F0 m 0 ls []))
  unfold k_X7_truthsBy at hf
  refine lv_aload_n hx hb dX7_truthsBy_0 rfl (lv_at hl 0 rfl) ?_
  obtain ⟨fs_1, gs_2, hq3, hf⟩ := b2_of hf
  refine callVV (As := []) (rest := []) (wr := []) C0 (c_X7_save h q fi0 fs0 ga0 gs0 pl0 it asd _ hq3) lk_X7_342_X7_save rfl hP hD hS perm_nil 0 7 rfl rfl rfl hl.1 rfl rfl (Nat.le_of_ble_eq_true rfl) dX7_truthsBy_1 ⟨Nat.zero_le _, Nat.zero_le _⟩ (fun w H locs hw hP hD hS => ?_)
  have e2 := hw
  subst e2
  replace hP : va_P D vwCl (Mw h q cA fi0 fs_1 ga0 gs_2 pl0 it asd) H := hP.nil
  replace hD : va_D A (Mw h q cA fi0 fs_1 ga0 gs_2 pl0 it asd) := hD.nil
  refine lv_aload_n hx hb dX7_truthsBy_4 rfl (lv_at hl 0 rfl) ?_
  refine lv_iload_n hx hb dX7_truthsBy_5 rfl (lv_at hl 1 rfl) ?_
  refine va_put (D := D) (ci := 7) (v := .int a1) (ty := .int) (C := RX7) (T := TX7) (N := 73) hx hb hts fw_7 tyX7 tyX7_ok nmX7 hown hK hP hD hS 0 rfl rfl 1 (by decide) (hts _ m_fieldLink_M_13_M_up_I) (fun _ h9 => h9) rfl (by decide +kernel) rfl rfl (Nat.le_of_ble_eq_true rfl) dX7_truthsBy_6 (fun H locs hP hD hS => ?_)
  replace hP : va_P D vwCl (Mw h q cA (upd fi0 1 a1) fs_1 ga0 gs_2 pl0 it asd) H := hP
  replace hD : va_D A (Mw h q cA (upd fi0 1 a1) fs_1 ga0 gs_2 pl0 it asd) := hD
  refine lv_aload_n hx hb dX7_truthsBy_9 rfl (lv_at hl 0 rfl) ?_
  refine lv_iload_n hx hb dX7_truthsBy_10 rfl (lv_at hl 2 rfl) ?_
  obtain ⟨fi_4, ga_5, pl_6, hq7, hf⟩ := b3_of hf
  refine callVV (As := [.int a2]) (rest := []) (wr := []) C0 (c_X7_goDays h q (upd fi0 1 a1) fs_1 ga0 gs_2 pl0 it asd a2 _ hq7) lk_X7_338_X7_goDays rfl hP hD hS perm_nil 0 7 rfl rfl rfl hl.1 rfl rfl (Nat.le_of_ble_eq_true rfl) dX7_truthsBy_11 ⟨Nat.zero_le _, Nat.zero_le _⟩ (fun w H locs hw hP hD hS => ?_)
  have e2 := hw
  subst e2
  replace hP : va_P D vwCl (Mw h q cA fi_4 fs_1 ga_5 gs_2 pl_6 it asd) H := hP.nil
  replace hD : va_D A (Mw h q cA fi_4 fs_1 ga_5 gs_2 pl_6 it asd) := hD.nil
  refine lv_aload_n hx hb dX7_truthsBy_14 rfl (lv_at hl 0 rfl) ?_
  refine va_get (D := D) (ci := 7) (v := .int (fi_4 3)) (C := RX7) (T := TX7) (N := 73) hx hb hts fw_7 hown hK hP 0 rfl rfl 3 (by decide) (hts _ m_fieldLink_M_19_M_truths_I) (fun _ h9 => h9) rfl dX7_truthsBy_15 ?_
  refine lv_istore_n (lv' := [(3, .int (fi_4 3)), (0, .ref h), (1, .int a1), (2, .int a2)]) hx hb dX7_truthsBy_18 rfl hl (by decide) rfl (fun ls hl => ?_)
  refine lv_aload_n hx hb dX7_truthsBy_19 rfl (lv_at hl 1 rfl) ?_
  obtain ⟨fi_8, fs_9, ga_10, hq11, hf⟩ := b3_of hf
  refine callVV (As := []) (rest := []) (wr := []) C0 (c_X7_putBack h q fi_4 fs_1 ga_5 gs_2 pl_6 it asd _ hq11) lk_X7_345_X7_putBack rfl hP hD hS perm_nil 0 7 rfl rfl rfl hl.1 rfl rfl (Nat.le_of_ble_eq_true rfl) dX7_truthsBy_20 ⟨Nat.zero_le _, Nat.zero_le _⟩ (fun w H locs hw hP hD hS => ?_)
  have e2 := hw
  subst e2
  replace hP : va_P D vwCl (Mw h q cA fi_8 fs_9 ga_10 gs_2 pl_6 it asd) H := hP.nil
  replace hD : va_D A (Mw h q cA fi_8 fs_9 ga_10 gs_2 pl_6 it asd) := hD.nil
  refine lv_iload_n hx hb dX7_truthsBy_23 rfl (lv_at hl 0 rfl) ?_
  rw [hQ]
  exact ret_i C0 hP hD hS (by have e := Option.some.inj hf; rw [← e]; exact ⟨rfl, rfl⟩) dX7_truthsBy_24
-- changed
noncomputable def k_X7_changed_13 (a1 : Int32) (a2 : Int32) : Nat → Int32 → Int32 → Int32 → (Nat → Int32) → (Nat → Int32) → (Nat → Nat → Int32) → (Nat → Nat → Int32) → (Nat → Int32) → Option (Int32 × (Nat → Int32) × (Nat → Int32) × (Nat → Nat → Int32) × (Nat → Nat → Int32) × (Nat → Int32))
  | 0, _, _, _, _, _, _, _, _ => none
  | n + 1, x3, x4, x5, fi, fs, ga, gs, pl => if (1 <<< ((fi 0) &&& 31)) ≤ x5 then if a2 = 0 then some (x4, fi, fs, ga, gs, pl) else some (x3, fi, fs, ga, gs, pl) else b6 (k_X7_truthsBy x5 a1 fi fs ga gs pl) (fun r3 fi_4 fs_5 ga_6 gs_7 pl_8 => if r3 < x4 then k_X7_changed_13 a1 a2 n x3 x4 (x5 + 1) fi_4 fs_5 ga_6 gs_7 pl_8 else if r3 = x4 then b1 (k_X7_bits x5) (fun r12 => b1 (k_X7_bits x3) (fun r14 => if r12 < r14 then k_X7_changed_13 a1 a2 n x5 r3 (x5 + 1) fi_4 fs_5 ga_6 gs_7 pl_8 else k_X7_changed_13 a1 a2 n x3 x4 (x5 + 1) fi_4 fs_5 ga_6 gs_7 pl_8)) else k_X7_changed_13 a1 a2 n x5 r3 (x5 + 1) fi_4 fs_5 ga_6 gs_7 pl_8)
noncomputable def k_X7_changed (a1 : Int32) (a2 : Int32) (fi0 : Nat → Int32) (fs0 : Nat → Int32) (ga0 : Nat → Nat → Int32) (gs0 : Nat → Nat → Int32) (pl0 : Nat → Int32) : Option (Int32 × (Nat → Int32) × (Nat → Int32) × (Nat → Nat → Int32) × (Nat → Nat → Int32) × (Nat → Int32)) := b6 (k_X7_truthsBy 0 a1 fi0 fs0 ga0 gs0 pl0) (fun r1 fi_2 fs_3 ga_4 gs_5 pl_6 => k_X7_changed_13 a1 a2 100000 0 r1 1 fi_2 fs_3 ga_4 gs_5 pl_6)
set_option maxHeartbeats 4000000 in
set_option maxRecDepth 100000 in
theorem c_X7_changed {l : Launch} {D : va_G} {cA : Nat → ClassId} (h : Nat) (q : Nat → Nat) (fi0 : Nat → Int32) (fs0 : Nat → Int32) (ga0 : Nat → Nat → Int32) (gs0 : Nat → Nat → Int32) (pl0 : Nat → Int32) (it : Nat → Int64) (asd : Nat → Int64) (a1 : Int32) (a2 : Int32) (o : Int32 × (Nat → Int32) × (Nat → Int32) × (Nat → Nat → Int32) × (Nat → Nat → Int32) × (Nat → Int32)) (hf : k_X7_changed a1 a2 fi0 fs0 ga0 gs0 pl0 = some o) : CI l D cA yX7_changed cX7_changed 7 (some .int) 9 207 [.ref h, .int a1, .int a2] (Mw h q cA fi0 fs0 ga0 gs0 pl0 it asd) 0 0 (fun r w => r = o.1 ∧ w = (Mw h q cA o.2.1 o.2.2.1 o.2.2.2.1 o.2.2.2.2.1 o.2.2.2.2.2 it asd)) := by
  intro sz
  refine met_start (by decide) rfl ?_
  intro p e s m args below meth c ls hsz hargs C0 hname hP hD hS hl
  generalize hAe : va_A (Mw h q cA fi0 fs0 ga0 gs0 pl0 it asd) sz = A at C0 hD hS ⊢
  obtain ⟨hx, hb, hr, hml, hown, hts, hlk, hK, hA⟩ := id C0
  replace hl : lv_has ls 7 [(0, .ref h), (1, .int a1), (2, .int a2)] := hl
  obtain ⟨Q, hQ⟩ : ∃ Q : State → Prop, Q = QI below D A (fun r w => r = o.1 ∧ w = (Mw h q cA o.2.1 o.2.2.1 o.2.2.2.1 o.2.2.2.2.1 o.2.2.2.2.2 it asd)) args s 0 0 := ⟨_, rfl⟩
  refine cast (by rw [hQ]) (?_ : W p l e (RMx 9 207 0 0) s m args below meth c s.heap [] 0 0 Q (F0 m 0 ls []))
  have J13 : ∀ n : Nat, ∀ (x3 : Int32) (x4 : Int32) (x5 : Int32) (fi : Nat → Int32) (fs : Nat → Int32) (ga : Nat → Nat → Int32) (gs : Nat → Nat → Int32) (pl : Nat → Int32), k_X7_changed_13 a1 a2 n x3 x4 x5 fi fs ga gs pl = some o → ∀ (H : Heap) (locs : List Loc), va_P D vwCl (Mw h q cA fi fs ga gs pl it asd) H → va_D A (Mw h q cA fi fs ga gs pl it asd) → va_S A s.heap H locs → ∀ ls : Array Slot, lv_has ls 7 [(0, .ref h), (1, .int a1), (2, .int a2), (3, .int x3), (4, .int x4), (5, .int x5)] → W p l e (RMx 9 207 0 0) s m args below meth c H locs 0 0 Q (F0 m 13 ls []) := by
    intro  n
    induction n with
    | zero =>
      intro x3 x4 x5 fi fs ga gs pl hf
      rw [k_X7_changed_13] at hf
      cases hf
    | succ n ih =>
      intro x3 x4 x5 fi fs ga gs pl hf H locs hP hD hS ls hl
      rw [k_X7_changed_13] at hf
      refine lv_iload hx hb dX7_changed_13 (lv_at hl 5 rfl) ?_
      refine lv_iconst (v := 1) hx hb dX7_changed_15 (by decide) ?_
      refine lv_aload_n hx hb dX7_changed_16 rfl (lv_at hl 0 rfl) ?_
      refine va_get (D := D) (ci := 7) (v := .int (fi 0)) (C := RX7) (T := TX7) (N := 73) hx hb hts fw_7 hown hK hP 0 rfl rfl 0 (by decide) (hts _ m_fieldLink_M_7_M_men_I) (fun _ h9 => h9) rfl dX7_changed_17 ?_
      refine lv_ishl hx hb dX7_changed_20 ?_
      refine lv_icmp_ge (tgt := 77) hx hb dX7_changed_21 (by decide) (fun c1 => ?_) (fun c1 => ?_)
      · replace hf := it_of c1 hf
        refine lv_iload_n hx hb dX7_changed_77 rfl (lv_at hl 2 rfl) ?_
        refine lv_if_eq (tgt := 85) hx hb dX7_changed_78 (by decide) (fun c2 => ?_) (fun c2 => ?_)
        · replace hf := it_of c2 hf
          refine lv_iload hx hb dX7_changed_85 (lv_at hl 4 rfl) ?_
          rw [hQ]
          exact ret_i C0 hP hD hS (by have e := Option.some.inj hf; rw [← e]; exact ⟨rfl, rfl⟩) dX7_changed_87
        · replace hf := ie_of c2 hf
          refine lv_iload_n hx hb dX7_changed_81 rfl (lv_at hl 3 rfl) ?_
          refine lv_goto (tgt := 87) hx hb dX7_changed_82 (by decide) ?_
          rw [hQ]
          exact ret_i C0 hP hD hS (by have e := Option.some.inj hf; rw [← e]; exact ⟨rfl, rfl⟩) dX7_changed_87
      · replace hf := ie_of c1 hf
        refine lv_aload_n hx hb dX7_changed_24 rfl (lv_at hl 0 rfl) ?_
        refine lv_iload hx hb dX7_changed_25 (lv_at hl 5 rfl) ?_
        refine lv_iload_n hx hb dX7_changed_27 rfl (lv_at hl 1 rfl) ?_
        obtain ⟨r3q, fi_4, fs_5, ga_6, gs_7, pl_8, hq9, hf⟩ := b6_of hf
        refine callVI (As := [.int x5, .int a1]) (rest := []) (wr := []) C0 (c_X7_truthsBy h q fi fs ga gs pl it asd x5 a1 _ hq9) lk_X7_360_X7_truthsBy rfl hP hD hS perm_nil 0 7 rfl rfl rfl hl.1 rfl rfl (Nat.le_of_ble_eq_true rfl) dX7_changed_28 ⟨Nat.zero_le _, Nat.zero_le _⟩ (fun r3 w H locs hw hP hD hS => ?_)
        obtain ⟨e1, e2⟩ := hw
        replace e1 : r3 = r3q := e1
        subst e1
        subst e2
        replace hP : va_P D vwCl (Mw h q cA fi_4 fs_5 ga_6 gs_7 pl_8 it asd) H := hP.nil
        replace hD : va_D A (Mw h q cA fi_4 fs_5 ga_6 gs_7 pl_8 it asd) := hD.nil
        refine lv_istore (lv' := [(6, .int r3), (0, .ref h), (1, .int a1), (2, .int a2), (3, .int x3), (4, .int x4), (5, .int x5)]) hx hb dX7_changed_31 hl (by decide) rfl (fun ls hl => ?_)
        refine lv_iload hx hb dX7_changed_33 (lv_at hl 0 rfl) ?_
        refine lv_iload hx hb dX7_changed_35 (lv_at hl 5 rfl) ?_
        refine lv_icmp_lt (tgt := 71) hx hb dX7_changed_37 (by decide) (fun c10 => ?_) (fun c10 => ?_)
        · replace hf := it_of c10 hf
          refine lv_iinc (v := (x5 + 1)) (lv' := [(5, .int (x5 + 1)), (6, .int r3), (0, .ref h), (1, .int a1), (2, .int a2), (3, .int x3), (4, .int x4)]) hx hb dX7_changed_71 hl (k := 6) rfl rfl (by decide) rfl (fun ls hl => ?_)
          refine lv_goto (tgt := 13) hx hb dX7_changed_74 (by decide) ?_
          exact ih x3 x4 (x5 + 1) fi_4 fs_5 ga_6 gs_7 pl_8 hf _ _ hP hD hS _ (lv_sub hl [2, 3, 4, 5, 6, 0] rfl)
        · replace hf := ie_of c10 hf
          refine lv_iload hx hb dX7_changed_40 (lv_at hl 0 rfl) ?_
          refine lv_iload hx hb dX7_changed_42 (lv_at hl 5 rfl) ?_
          refine lv_icmp_ne (tgt := 64) hx hb dX7_changed_44 (by decide) (fun c11 => ?_) (fun c11 => ?_)
          · replace hf := ie_of c11 hf
            refine lv_iload hx hb dX7_changed_64 (lv_at hl 6 rfl) ?_
            refine lv_istore_n (lv' := [(3, .int x5), (6, .int r3), (0, .ref h), (1, .int a1), (2, .int a2), (4, .int x4), (5, .int x5)]) hx hb dX7_changed_66 rfl hl (by decide) rfl (fun ls hl => ?_)
            refine lv_iload hx hb dX7_changed_67 (lv_at hl 1 rfl) ?_
            refine lv_istore (lv' := [(4, .int r3), (3, .int x5), (6, .int r3), (0, .ref h), (1, .int a1), (2, .int a2), (5, .int x5)]) hx hb dX7_changed_69 hl (by decide) rfl (fun ls hl => ?_)
            refine lv_iinc (v := (x5 + 1)) (lv' := [(5, .int (x5 + 1)), (4, .int r3), (3, .int x5), (6, .int r3), (0, .ref h), (1, .int a1), (2, .int a2)]) hx hb dX7_changed_71 hl (k := 6) rfl rfl (by decide) rfl (fun ls hl => ?_)
            refine lv_goto (tgt := 13) hx hb dX7_changed_74 (by decide) ?_
            exact ih x5 r3 (x5 + 1) fi_4 fs_5 ga_6 gs_7 pl_8 hf _ _ hP hD hS _ (lv_sub hl [4, 5, 6, 2, 1, 0] rfl)
          · replace hf := it_of c11 hf
            refine lv_aload_n hx hb dX7_changed_47 rfl (lv_at hl 1 rfl) ?_
            refine lv_iload hx hb dX7_changed_48 (lv_at hl 6 rfl) ?_
            obtain ⟨r12q, hq13, hf⟩ := b1_of hf
            refine callVI (As := [.int x5]) (rest := []) (wr := []) C0 (c_X7_bits h q fi_4 fs_5 ga_6 gs_7 pl_8 it asd x5 _ hq13) lk_X7_363_X7_bits rfl hP hD hS perm_nil 0 7 rfl rfl rfl hl.1 rfl rfl (Nat.le_of_ble_eq_true rfl) dX7_changed_50 ⟨Nat.zero_le _, Nat.zero_le _⟩ (fun r12 w H locs hw hP hD hS => ?_)
            obtain ⟨e1, e2⟩ := hw
            replace e1 : r12 = r12q := e1
            subst e1
            subst e2
            replace hP : va_P D vwCl (Mw h q cA fi_4 fs_5 ga_6 gs_7 pl_8 it asd) H := hP.nil
            replace hD : va_D A (Mw h q cA fi_4 fs_5 ga_6 gs_7 pl_8 it asd) := hD.nil
            refine lv_aload_n hx hb dX7_changed_53 rfl (lv_at hl 1 rfl) ?_
            refine lv_iload_n hx hb dX7_changed_54 rfl (lv_at hl 4 rfl) ?_
            obtain ⟨r14q, hq15, hf⟩ := b1_of hf
            refine callVI (As := [.int x3]) (rest := [.int r12]) (wr := []) C0 (c_X7_bits h q fi_4 fs_5 ga_6 gs_7 pl_8 it asd x3 _ hq15) lk_X7_363_X7_bits rfl hP hD hS perm_nil 0 7 rfl rfl rfl hl.1 rfl rfl (Nat.le_of_ble_eq_true rfl) dX7_changed_55 ⟨Nat.zero_le _, Nat.zero_le _⟩ (fun r14 w H locs hw hP hD hS => ?_)
            obtain ⟨e1, e2⟩ := hw
            replace e1 : r14 = r14q := e1
            subst e1
            subst e2
            replace hP : va_P D vwCl (Mw h q cA fi_4 fs_5 ga_6 gs_7 pl_8 it asd) H := hP.nil
            replace hD : va_D A (Mw h q cA fi_4 fs_5 ga_6 gs_7 pl_8 it asd) := hD.nil
            refine lv_icmp_lt (tgt := 64) hx hb dX7_changed_58 (by decide) (fun c16 => ?_) (fun c16 => ?_)
            · replace hf := it_of c16 hf
              refine lv_iload hx hb dX7_changed_64 (lv_at hl 6 rfl) ?_
              refine lv_istore_n (lv' := [(3, .int x5), (6, .int r3), (0, .ref h), (1, .int a1), (2, .int a2), (4, .int x4), (5, .int x5)]) hx hb dX7_changed_66 rfl hl (by decide) rfl (fun ls hl => ?_)
              refine lv_iload hx hb dX7_changed_67 (lv_at hl 1 rfl) ?_
              refine lv_istore (lv' := [(4, .int r3), (3, .int x5), (6, .int r3), (0, .ref h), (1, .int a1), (2, .int a2), (5, .int x5)]) hx hb dX7_changed_69 hl (by decide) rfl (fun ls hl => ?_)
              refine lv_iinc (v := (x5 + 1)) (lv' := [(5, .int (x5 + 1)), (4, .int r3), (3, .int x5), (6, .int r3), (0, .ref h), (1, .int a1), (2, .int a2)]) hx hb dX7_changed_71 hl (k := 6) rfl rfl (by decide) rfl (fun ls hl => ?_)
              refine lv_goto (tgt := 13) hx hb dX7_changed_74 (by decide) ?_
              exact ih x5 r3 (x5 + 1) fi_4 fs_5 ga_6 gs_7 pl_8 hf _ _ hP hD hS _ (lv_sub hl [4, 5, 6, 2, 1, 0] rfl)
            · replace hf := ie_of c16 hf
              refine lv_goto (tgt := 71) hx hb dX7_changed_61 (by decide) ?_
              refine lv_iinc (v := (x5 + 1)) (lv' := [(5, .int (x5 + 1)), (6, .int r3), (0, .ref h), (1, .int a1), (2, .int a2), (3, .int x3), (4, .int x4)]) hx hb dX7_changed_71 hl (k := 6) rfl rfl (by decide) rfl (fun ls hl => ?_)
              refine lv_goto (tgt := 13) hx hb dX7_changed_74 (by decide) ?_
              exact ih x3 x4 (x5 + 1) fi_4 fs_5 ga_6 gs_7 pl_8 hf _ _ hP hD hS _ (lv_sub hl [2, 3, 4, 5, 6, 0] rfl)
  unfold k_X7_changed at hf
  refine lv_iconst (v := 0) hx hb dX7_changed_0 (by decide) ?_
  refine lv_istore_n (lv' := [(3, .int 0), (0, .ref h), (1, .int a1), (2, .int a2)]) hx hb dX7_changed_1 rfl hl (by decide) rfl (fun ls hl => ?_)
  refine lv_aload_n hx hb dX7_changed_2 rfl (lv_at hl 1 rfl) ?_
  refine lv_iconst (v := 0) hx hb dX7_changed_3 (by decide) ?_
  refine lv_iload_n hx hb dX7_changed_4 rfl (lv_at hl 2 rfl) ?_
  obtain ⟨r1q, fi_2, fs_3, ga_4, gs_5, pl_6, hq7, hf⟩ := b6_of hf
  refine callVI (As := [.int 0, .int a1]) (rest := []) (wr := []) C0 (c_X7_truthsBy h q fi0 fs0 ga0 gs0 pl0 it asd 0 a1 _ hq7) lk_X7_360_X7_truthsBy rfl hP hD hS perm_nil 0 7 rfl rfl rfl hl.1 rfl rfl (Nat.le_of_ble_eq_true rfl) dX7_changed_5 ⟨Nat.zero_le _, Nat.zero_le _⟩ (fun r1 w H locs hw hP hD hS => ?_)
  obtain ⟨e1, e2⟩ := hw
  replace e1 : r1 = r1q := e1
  subst e1
  subst e2
  replace hP : va_P D vwCl (Mw h q cA fi_2 fs_3 ga_4 gs_5 pl_6 it asd) H := hP.nil
  replace hD : va_D A (Mw h q cA fi_2 fs_3 ga_4 gs_5 pl_6 it asd) := hD.nil
  refine lv_istore (lv' := [(4, .int r1), (3, .int 0), (0, .ref h), (1, .int a1), (2, .int a2)]) hx hb dX7_changed_8 hl (by decide) rfl (fun ls hl => ?_)
  refine lv_iconst (v := 1) hx hb dX7_changed_10 (by decide) ?_
  refine lv_istore (lv' := [(5, .int 1), (4, .int r1), (3, .int 0), (0, .ref h), (1, .int a1), (2, .int a2)]) hx hb dX7_changed_11 hl (by decide) rfl (fun ls hl => ?_)
  exact J13 100000 0 r1 1 fi_2 fs_3 ga_4 gs_5 pl_6 hf _ _ hP hD hS _ (lv_sub hl [3, 4, 5, 2, 1, 0] rfl)
-- fright
noncomputable def k_X7_fright_42 (a1 : Int32) (kc15 : Int32 → Int32 → Int32 → (Nat → Int32) → (Nat → Int32) → (Nat → Nat → Int32) → (Nat → Nat → Int32) → (Nat → Int32) → Option (Int32 × (Nat → Int32) × (Nat → Int32) × (Nat → Nat → Int32) × (Nat → Nat → Int32) × (Nat → Int32))) (x2 : Int32) (x3 : Int32) (x4 : Int32) (fi : Nat → Int32) (fs : Nat → Int32) (ga : Nat → Nat → Int32) (gs : Nat → Nat → Int32) (pl : Nat → Int32) : Option (Int32 × (Nat → Int32) × (Nat → Int32) × (Nat → Nat → Int32) × (Nat → Nat → Int32) × (Nat → Int32)) := b6 (k_X7_truthsBy (x3 &&& (x4 ^^^ (-1))) a1 fi fs ga gs pl) (fun r1 fi_2 fs_3 ga_4 gs_5 pl_6 => if r1 ≤ (fi_2 3) then kc15 x2 x3 (x4 + 1) fi_2 fs_3 ga_4 gs_5 pl_6 else kc15 x4 x3 (x4 + 1) fi_2 fs_3 ga_4 gs_5 pl_6)
noncomputable def k_X7_fright_15 (a1 : Int32) : Nat → Int32 → Int32 → Int32 → (Nat → Int32) → (Nat → Int32) → (Nat → Nat → Int32) → (Nat → Nat → Int32) → (Nat → Int32) → Option (Int32 × (Nat → Int32) × (Nat → Int32) × (Nat → Nat → Int32) × (Nat → Nat → Int32) × (Nat → Int32))
  | 0, _, _, _, _, _, _, _, _ => none
  | n + 1, x2, x3, x4, fi, fs, ga, gs, pl => if x3 < x4 then some (x2, fi, fs, ga, gs, pl) else if x2 < 0 then k_X7_fright_42 a1 (k_X7_fright_15 a1 n) x2 x3 x4 fi fs ga gs pl else b1 (k_X7_bits x4) (fun r3 => b1 (k_X7_bits x2) (fun r5 => if r3 < r5 then k_X7_fright_42 a1 (k_X7_fright_15 a1 n) x2 x3 x4 fi fs ga gs pl else k_X7_fright_15 a1 n x2 x3 (x4 + 1) fi fs ga gs pl))
noncomputable def k_X7_fright (a1 : Int32) (fi0 : Nat → Int32) (fs0 : Nat → Int32) (ga0 : Nat → Nat → Int32) (gs0 : Nat → Nat → Int32) (pl0 : Nat → Int32) : Option (Int32 × (Nat → Int32) × (Nat → Int32) × (Nat → Nat → Int32) × (Nat → Nat → Int32) × (Nat → Int32)) := k_X7_fright_15 a1 100000 (-5) ((1 <<< ((fi0 0) &&& 31)) - 1) 0 fi0 fs0 ga0 gs0 pl0
set_option maxHeartbeats 4000000 in
set_option maxRecDepth 100000 in
theorem c_X7_fright {l : Launch} {D : va_G} {cA : Nat → ClassId} (h : Nat) (q : Nat → Nat) (fi0 : Nat → Int32) (fs0 : Nat → Int32) (ga0 : Nat → Nat → Int32) (gs0 : Nat → Nat → Int32) (pl0 : Nat → Int32) (it : Nat → Int64) (asd : Nat → Int64) (a1 : Int32) (o : Int32 × (Nat → Int32) × (Nat → Int32) × (Nat → Nat → Int32) × (Nat → Nat → Int32) × (Nat → Int32)) (hf : k_X7_fright a1 fi0 fs0 ga0 gs0 pl0 = some o) : CI l D cA yX7_fright cX7_fright 5 (some .int) 9 207 [.ref h, .int a1] (Mw h q cA fi0 fs0 ga0 gs0 pl0 it asd) 0 0 (fun r w => r = o.1 ∧ w = (Mw h q cA o.2.1 o.2.2.1 o.2.2.2.1 o.2.2.2.2.1 o.2.2.2.2.2 it asd)) := by
  intro sz
  refine met_start (by decide) rfl ?_
  intro p e s m args below meth c ls hsz hargs C0 hname hP hD hS hl
  generalize hAe : va_A (Mw h q cA fi0 fs0 ga0 gs0 pl0 it asd) sz = A at C0 hD hS ⊢
  obtain ⟨hx, hb, hr, hml, hown, hts, hlk, hK, hA⟩ := id C0
  replace hl : lv_has ls 5 [(0, .ref h), (1, .int a1)] := hl
  obtain ⟨Q, hQ⟩ : ∃ Q : State → Prop, Q = QI below D A (fun r w => r = o.1 ∧ w = (Mw h q cA o.2.1 o.2.2.1 o.2.2.2.1 o.2.2.2.2.1 o.2.2.2.2.2 it asd)) args s 0 0 := ⟨_, rfl⟩
  refine cast (by rw [hQ]) (?_ : W p l e (RMx 9 207 0 0) s m args below meth c s.heap [] 0 0 Q (F0 m 0 ls []))
  have J42 : ∀ (kc15 : Int32 → Int32 → Int32 → (Nat → Int32) → (Nat → Int32) → (Nat → Nat → Int32) → (Nat → Nat → Int32) → (Nat → Int32) → Option (Int32 × (Nat → Int32) × (Nat → Int32) × (Nat → Nat → Int32) × (Nat → Nat → Int32) × (Nat → Int32))) (hkc15 : ∀ (x2 : Int32) (x3 : Int32) (x4 : Int32) (fi : Nat → Int32) (fs : Nat → Int32) (ga : Nat → Nat → Int32) (gs : Nat → Nat → Int32) (pl : Nat → Int32), kc15 x2 x3 x4 fi fs ga gs pl = some o → ∀ (H : Heap) (locs : List Loc), va_P D vwCl (Mw h q cA fi fs ga gs pl it asd) H → va_D A (Mw h q cA fi fs ga gs pl it asd) → va_S A s.heap H locs → ∀ ls : Array Slot, lv_has ls 5 [(0, .ref h), (1, .int a1), (2, .int x2), (3, .int x3), (4, .int x4)] → W p l e (RMx 9 207 0 0) s m args below meth c H locs 0 0 Q (F0 m 15 ls [])), ∀ (x2 : Int32) (x3 : Int32) (x4 : Int32) (fi : Nat → Int32) (fs : Nat → Int32) (ga : Nat → Nat → Int32) (gs : Nat → Nat → Int32) (pl : Nat → Int32), k_X7_fright_42 a1 kc15 x2 x3 x4 fi fs ga gs pl = some o → ∀ (H : Heap) (locs : List Loc), va_P D vwCl (Mw h q cA fi fs ga gs pl it asd) H → va_D A (Mw h q cA fi fs ga gs pl it asd) → va_S A s.heap H locs → ∀ ls : Array Slot, lv_has ls 5 [(0, .ref h), (1, .int a1), (2, .int x2), (3, .int x3), (4, .int x4)] → W p l e (RMx 9 207 0 0) s m args below meth c H locs 0 0 Q (F0 m 42 ls []) := by
    intro kc15 hkc15 x2 x3 x4 fi fs ga gs pl hf H locs hP hD hS ls hl
    unfold k_X7_fright_42 at hf
    refine lv_aload_n hx hb dX7_fright_42 rfl (lv_at hl 0 rfl) ?_
    refine lv_iload_n hx hb dX7_fright_43 rfl (lv_at hl 3 rfl) ?_
    refine lv_iload hx hb dX7_fright_44 (lv_at hl 4 rfl) ?_
    refine lv_iconst (v := (-1)) hx hb dX7_fright_46 (by decide) ?_
    refine lv_ixor hx hb dX7_fright_47 ?_
    refine lv_iand hx hb dX7_fright_48 ?_
    refine lv_iload_n hx hb dX7_fright_49 rfl (lv_at hl 1 rfl) ?_
    obtain ⟨r1q, fi_2, fs_3, ga_4, gs_5, pl_6, hq7, hf⟩ := b6_of hf
    refine callVI (As := [.int (x3 &&& (x4 ^^^ (-1))), .int a1]) (rest := []) (wr := []) C0 (c_X7_truthsBy h q fi fs ga gs pl it asd (x3 &&& (x4 ^^^ (-1))) a1 _ hq7) lk_X7_360_X7_truthsBy rfl hP hD hS perm_nil 0 7 rfl rfl rfl hl.1 rfl rfl (Nat.le_of_ble_eq_true rfl) dX7_fright_50 ⟨Nat.zero_le _, Nat.zero_le _⟩ (fun r1 w H locs hw hP hD hS => ?_)
    obtain ⟨e1, e2⟩ := hw
    replace e1 : r1 = r1q := e1
    subst e1
    subst e2
    replace hP : va_P D vwCl (Mw h q cA fi_2 fs_3 ga_4 gs_5 pl_6 it asd) H := hP.nil
    replace hD : va_D A (Mw h q cA fi_2 fs_3 ga_4 gs_5 pl_6 it asd) := hD.nil
    refine lv_aload_n hx hb dX7_fright_53 rfl (lv_at hl 0 rfl) ?_
    refine va_get (D := D) (ci := 7) (v := .int (fi_2 3)) (C := RX7) (T := TX7) (N := 73) hx hb hts fw_7 hown hK hP 0 rfl rfl 3 (by decide) (hts _ m_fieldLink_M_19_M_truths_I) (fun _ h9 => h9) rfl dX7_fright_54 ?_
    refine lv_icmp_le (tgt := 65) hx hb dX7_fright_57 (by decide) (fun c8 => ?_) (fun c8 => ?_)
    · replace hf := it_of c8 hf
      refine lv_iload_n hx hb dX7_fright_65 rfl (lv_at hl 2 rfl) ?_
      refine lv_istore_n (lv' := [(2, .int x2), (0, .ref h), (1, .int a1), (3, .int x3), (4, .int x4)]) hx hb dX7_fright_66 rfl hl (by decide) rfl (fun ls hl => ?_)
      refine lv_iinc (v := (x4 + 1)) (lv' := [(4, .int (x4 + 1)), (2, .int x2), (0, .ref h), (1, .int a1), (3, .int x3)]) hx hb dX7_fright_67 hl (k := 4) rfl rfl (by decide) rfl (fun ls hl => ?_)
      refine lv_goto (tgt := 15) hx hb dX7_fright_70 (by decide) ?_
      exact hkc15 x2 x3 (x4 + 1) fi_2 fs_3 ga_4 gs_5 pl_6 hf _ _ hP hD hS _ (lv_sub hl [2, 3, 1, 4, 0] rfl)
    · replace hf := ie_of c8 hf
      refine lv_iload hx hb dX7_fright_60 (lv_at hl 4 rfl) ?_
      refine lv_goto (tgt := 66) hx hb dX7_fright_62 (by decide) ?_
      refine lv_istore_n (lv' := [(2, .int x4), (0, .ref h), (1, .int a1), (3, .int x3), (4, .int x4)]) hx hb dX7_fright_66 rfl hl (by decide) rfl (fun ls hl => ?_)
      refine lv_iinc (v := (x4 + 1)) (lv' := [(4, .int (x4 + 1)), (2, .int x4), (0, .ref h), (1, .int a1), (3, .int x3)]) hx hb dX7_fright_67 hl (k := 4) rfl rfl (by decide) rfl (fun ls hl => ?_)
      refine lv_goto (tgt := 15) hx hb dX7_fright_70 (by decide) ?_
      exact hkc15 x4 x3 (x4 + 1) fi_2 fs_3 ga_4 gs_5 pl_6 hf _ _ hP hD hS _ (lv_sub hl [2, 3, 1, 4, 0] rfl)
  have J15 : ∀ n : Nat, ∀ (x2 : Int32) (x3 : Int32) (x4 : Int32) (fi : Nat → Int32) (fs : Nat → Int32) (ga : Nat → Nat → Int32) (gs : Nat → Nat → Int32) (pl : Nat → Int32), k_X7_fright_15 a1 n x2 x3 x4 fi fs ga gs pl = some o → ∀ (H : Heap) (locs : List Loc), va_P D vwCl (Mw h q cA fi fs ga gs pl it asd) H → va_D A (Mw h q cA fi fs ga gs pl it asd) → va_S A s.heap H locs → ∀ ls : Array Slot, lv_has ls 5 [(0, .ref h), (1, .int a1), (2, .int x2), (3, .int x3), (4, .int x4)] → W p l e (RMx 9 207 0 0) s m args below meth c H locs 0 0 Q (F0 m 15 ls []) := by
    intro  n
    induction n with
    | zero =>
      intro x2 x3 x4 fi fs ga gs pl hf
      rw [k_X7_fright_15] at hf
      cases hf
    | succ n ih =>
      intro x2 x3 x4 fi fs ga gs pl hf H locs hP hD hS ls hl
      rw [k_X7_fright_15] at hf
      refine lv_iload hx hb dX7_fright_15 (lv_at hl 4 rfl) ?_
      refine lv_iload_n hx hb dX7_fright_17 rfl (lv_at hl 3 rfl) ?_
      refine lv_icmp_gt (tgt := 73) hx hb dX7_fright_18 (by decide) (fun c1 => ?_) (fun c1 => ?_)
      · replace hf := it_of c1 hf
        refine lv_iload_n hx hb dX7_fright_73 rfl (lv_at hl 2 rfl) ?_
        rw [hQ]
        exact ret_i C0 hP hD hS (by have e := Option.some.inj hf; rw [← e]; exact ⟨rfl, rfl⟩) dX7_fright_74
      · replace hf := ie_of c1 hf
        refine lv_iload_n hx hb dX7_fright_21 rfl (lv_at hl 2 rfl) ?_
        refine lv_if_lt (tgt := 42) hx hb dX7_fright_22 (by decide) (fun c2 => ?_) (fun c2 => ?_)
        · replace hf := it_of c2 hf
          exact J42 _ ih x2 x3 x4 fi fs ga gs pl hf _ _ hP hD hS _ (lv_sub hl [0, 1, 2, 3, 4] rfl)
        · replace hf := ie_of c2 hf
          refine lv_aload_n hx hb dX7_fright_25 rfl (lv_at hl 0 rfl) ?_
          refine lv_iload hx hb dX7_fright_26 (lv_at hl 4 rfl) ?_
          obtain ⟨r3q, hq4, hf⟩ := b1_of hf
          refine callVI (As := [.int x4]) (rest := []) (wr := []) C0 (c_X7_bits h q fi fs ga gs pl it asd x4 _ hq4) lk_X7_363_X7_bits rfl hP hD hS perm_nil 0 7 rfl rfl rfl hl.1 rfl rfl (Nat.le_of_ble_eq_true rfl) dX7_fright_28 ⟨Nat.zero_le _, Nat.zero_le _⟩ (fun r3 w H locs hw hP hD hS => ?_)
          obtain ⟨e1, e2⟩ := hw
          replace e1 : r3 = r3q := e1
          subst e1
          subst e2
          replace hP : va_P D vwCl (Mw h q cA fi fs ga gs pl it asd) H := hP.nil
          replace hD : va_D A (Mw h q cA fi fs ga gs pl it asd) := hD.nil
          refine lv_aload_n hx hb dX7_fright_31 rfl (lv_at hl 0 rfl) ?_
          refine lv_iload_n hx hb dX7_fright_32 rfl (lv_at hl 2 rfl) ?_
          obtain ⟨r5q, hq6, hf⟩ := b1_of hf
          refine callVI (As := [.int x2]) (rest := [.int r3]) (wr := []) C0 (c_X7_bits h q fi fs ga gs pl it asd x2 _ hq6) lk_X7_363_X7_bits rfl hP hD hS perm_nil 0 7 rfl rfl rfl hl.1 rfl rfl (Nat.le_of_ble_eq_true rfl) dX7_fright_33 ⟨Nat.zero_le _, Nat.zero_le _⟩ (fun r5 w H locs hw hP hD hS => ?_)
          obtain ⟨e1, e2⟩ := hw
          replace e1 : r5 = r5q := e1
          subst e1
          subst e2
          replace hP : va_P D vwCl (Mw h q cA fi fs ga gs pl it asd) H := hP.nil
          replace hD : va_D A (Mw h q cA fi fs ga gs pl it asd) := hD.nil
          refine lv_icmp_lt (tgt := 42) hx hb dX7_fright_36 (by decide) (fun c7 => ?_) (fun c7 => ?_)
          · replace hf := it_of c7 hf
            exact J42 _ ih x2 x3 x4 fi fs ga gs pl hf _ _ hP hD hS _ (lv_sub hl [0, 1, 2, 3, 4] rfl)
          · replace hf := ie_of c7 hf
            refine lv_goto (tgt := 67) hx hb dX7_fright_39 (by decide) ?_
            refine lv_iinc (v := (x4 + 1)) (lv' := [(4, .int (x4 + 1)), (0, .ref h), (1, .int a1), (2, .int x2), (3, .int x3)]) hx hb dX7_fright_67 hl (k := 4) rfl rfl (by decide) rfl (fun ls hl => ?_)
            refine lv_goto (tgt := 15) hx hb dX7_fright_70 (by decide) ?_
            exact ih x2 x3 (x4 + 1) fi fs ga gs pl hf _ _ hP hD hS _ (lv_sub hl [1, 2, 3, 4, 0] rfl)
  unfold k_X7_fright at hf
  refine lv_bipush (v := (-5)) hx hb dX7_fright_0 (by decide) ?_
  refine lv_istore_n (lv' := [(2, .int (-5)), (0, .ref h), (1, .int a1)]) hx hb dX7_fright_2 rfl hl (by decide) rfl (fun ls hl => ?_)
  refine lv_iconst (v := 1) hx hb dX7_fright_3 (by decide) ?_
  refine lv_aload_n hx hb dX7_fright_4 rfl (lv_at hl 1 rfl) ?_
  refine va_get (D := D) (ci := 7) (v := .int (fi0 0)) (C := RX7) (T := TX7) (N := 73) hx hb hts fw_7 hown hK hP 0 rfl rfl 0 (by decide) (hts _ m_fieldLink_M_7_M_men_I) (fun _ h9 => h9) rfl dX7_fright_5 ?_
  refine lv_ishl hx hb dX7_fright_8 ?_
  refine lv_iconst (v := 1) hx hb dX7_fright_9 (by decide) ?_
  refine lv_isub hx hb dX7_fright_10 ?_
  refine lv_istore_n (lv' := [(3, .int ((1 <<< ((fi0 0) &&& 31)) - 1)), (2, .int (-5)), (0, .ref h), (1, .int a1)]) hx hb dX7_fright_11 rfl hl (by decide) rfl (fun ls hl => ?_)
  refine lv_iconst (v := 0) hx hb dX7_fright_12 (by decide) ?_
  refine lv_istore (lv' := [(4, .int 0), (3, .int ((1 <<< ((fi0 0) &&& 31)) - 1)), (2, .int (-5)), (0, .ref h), (1, .int a1)]) hx hb dX7_fright_13 hl (by decide) rfl (fun ls hl => ?_)
  exact J15 100000 (-5) ((1 <<< ((fi0 0) &&& 31)) - 1) 0 fi0 fs0 ga0 gs0 pl0 hf _ _ hP hD hS _ (lv_sub hl [3, 4, 2, 1, 0] rfl)
-- best
noncomputable def k_X7_best_50  (t1 : Int32) (t2 : Int32) (fi : Nat → Int32) (fs : Nat → Int32) (ga : Nat → Nat → Int32) (gs : Nat → Nat → Int32) (pl : Nat → Int32) : Option (Int32 × (Nat → Int32) × (Nat → Int32) × (Nat → Nat → Int32) × (Nat → Nat → Int32) × (Nat → Int32)) := b6 (k_X7_changed t1 t2 fi fs ga gs pl) (fun r1 fi_2 fs_3 ga_4 gs_5 pl_6 => some (r1, fi_2, fs_3, ga_4, gs_5, pl_6))
noncomputable def k_X7_best (a1 : Int32) (a2 : Int32) (fi0 : Nat → Int32) (fs0 : Nat → Int32) (ga0 : Nat → Nat → Int32) (gs0 : Nat → Nat → Int32) (pl0 : Nat → Int32) : Option (Int32 × (Nat → Int32) × (Nat → Int32) × (Nat → Nat → Int32) × (Nat → Nat → Int32) × (Nat → Int32)) := b1 (k_X7_in a2 0 2) (fun r1 => if r1 = 0 then some ((-1), fi0, fs0, ga0, gs0, pl0) else b1 (k_X7_in a1 1 12) (fun r5 => if r5 = 0 then some ((-2), fi0, fs0, ga0, gs0, pl0) else if a2 = 2 then b6 (k_X7_fright a1 fi0 fs0 ga0 gs0 pl0) (fun r11 fi_12 fs_13 ga_14 gs_15 pl_16 => some (r11, fi_12, fs_13, ga_14, gs_15, pl_16)) else if a2 = 0 then k_X7_best_50 a1 1 fi0 fs0 ga0 gs0 pl0 else k_X7_best_50 a1 0 fi0 fs0 ga0 gs0 pl0))
set_option maxHeartbeats 4000000 in
set_option maxRecDepth 100000 in
theorem c_X7_best {l : Launch} {D : va_G} {cA : Nat → ClassId} (h : Nat) (q : Nat → Nat) (fi0 : Nat → Int32) (fs0 : Nat → Int32) (ga0 : Nat → Nat → Int32) (gs0 : Nat → Nat → Int32) (pl0 : Nat → Int32) (it : Nat → Int64) (asd : Nat → Int64) (a1 : Int32) (a2 : Int32) (o : Int32 × (Nat → Int32) × (Nat → Int32) × (Nat → Nat → Int32) × (Nat → Nat → Int32) × (Nat → Int32)) (hf : k_X7_best a1 a2 fi0 fs0 ga0 gs0 pl0 = some o) : CI l D cA yX7_best cX7_best 3 (some .int) 10 233 [.ref h, .int a1, .int a2] (Mw h q cA fi0 fs0 ga0 gs0 pl0 it asd) 0 0 (fun r w => r = o.1 ∧ w = (Mw h q cA o.2.1 o.2.2.1 o.2.2.2.1 o.2.2.2.2.1 o.2.2.2.2.2 it asd)) := by
  intro sz
  refine met_start (by decide) rfl ?_
  intro p e s m args below meth c ls hsz hargs C0 hname hP hD hS hl
  generalize hAe : va_A (Mw h q cA fi0 fs0 ga0 gs0 pl0 it asd) sz = A at C0 hD hS ⊢
  obtain ⟨hx, hb, hr, hml, hown, hts, hlk, hK, hA⟩ := id C0
  replace hl : lv_has ls 3 [(0, .ref h), (1, .int a1), (2, .int a2)] := hl
  obtain ⟨Q, hQ⟩ : ∃ Q : State → Prop, Q = QI below D A (fun r w => r = o.1 ∧ w = (Mw h q cA o.2.1 o.2.2.1 o.2.2.2.1 o.2.2.2.2.1 o.2.2.2.2.2 it asd)) args s 0 0 := ⟨_, rfl⟩
  refine cast (by rw [hQ]) (?_ : W p l e (RMx 10 233 0 0) s m args below meth c s.heap [] 0 0 Q (F0 m 0 ls []))
  have J50 : ∀ (t1 : Int32) (t2 : Int32) (fi : Nat → Int32) (fs : Nat → Int32) (ga : Nat → Nat → Int32) (gs : Nat → Nat → Int32) (pl : Nat → Int32), k_X7_best_50 t1 t2 fi fs ga gs pl = some o → ∀ (H : Heap) (locs : List Loc), va_P D vwCl (Mw h q cA fi fs ga gs pl it asd) H → va_D A (Mw h q cA fi fs ga gs pl it asd) → va_S A s.heap H locs → ∀ ls : Array Slot, lv_has ls 3 [] → W p l e (RMx 10 233 0 0) s m args below meth c H locs 0 0 Q (F0 m 50 ls [.int t2, .int t1, .ref h]) := by
    intro  t1 t2 fi fs ga gs pl hf H locs hP hD hS ls hl
    unfold k_X7_best_50 at hf
    obtain ⟨r1q, fi_2, fs_3, ga_4, gs_5, pl_6, hq7, hf⟩ := b6_of hf
    refine callVI (As := [.int t1, .int t2]) (rest := []) (wr := []) C0 (c_X7_changed h q fi fs ga gs pl it asd t1 t2 _ hq7) lk_X7_369_X7_changed rfl hP hD hS perm_nil 0 7 rfl rfl rfl hl.1 rfl rfl (Nat.le_of_ble_eq_true rfl) dX7_best_50 ⟨Nat.zero_le _, Nat.zero_le _⟩ (fun r1 w H locs hw hP hD hS => ?_)
    obtain ⟨e1, e2⟩ := hw
    replace e1 : r1 = r1q := e1
    subst e1
    subst e2
    replace hP : va_P D vwCl (Mw h q cA fi_2 fs_3 ga_4 gs_5 pl_6 it asd) H := hP.nil
    replace hD : va_D A (Mw h q cA fi_2 fs_3 ga_4 gs_5 pl_6 it asd) := hD.nil
    rw [hQ]
    exact ret_i C0 hP hD hS (by have e := Option.some.inj hf; rw [← e]; exact ⟨rfl, rfl⟩) dX7_best_53
  unfold k_X7_best at hf
  refine lv_aload_n hx hb dX7_best_0 rfl (lv_at hl 0 rfl) ?_
  refine lv_iload_n hx hb dX7_best_1 rfl (lv_at hl 2 rfl) ?_
  refine lv_iconst (v := 0) hx hb dX7_best_2 (by decide) ?_
  refine lv_iconst (v := 2) hx hb dX7_best_3 (by decide) ?_
  obtain ⟨r1q, hq2, hf⟩ := b1_of hf
  refine callVI (As := [.int a2, .int 0, .int 2]) (rest := []) (wr := (Mw h q cA fi0 fs0 ga0 gs0 pl0 it asd)) C0 (c_X7_in h a2 0 2 _ hq2) lk_X7_237_X7_in rfl hP hD hS (List.Perm.refl _) 0 7 rfl rfl rfl hl.1 rfl rfl (Nat.le_of_ble_eq_true rfl) dX7_best_4 ⟨Nat.zero_le _, Nat.zero_le _⟩ (fun r1 w H locs hw hP hD hS => ?_)
  obtain ⟨⟨e1, e2⟩, z3⟩ := hw
  replace e1 : r1 = r1q := e1
  subst e1
  subst e2
  replace hP : va_P D vwCl (Mw h q cA fi0 fs0 ga0 gs0 pl0 it asd) H := hP
  replace hD : va_D A (Mw h q cA fi0 fs0 ga0 gs0 pl0 it asd) := hD
  refine lv_if_ne (tgt := 12) hx hb dX7_best_7 (by decide) (fun c4 => ?_) (fun c4 => ?_)
  · replace hf := ie_of c4 hf
    refine lv_aload_n hx hb dX7_best_12 rfl (lv_at hl 0 rfl) ?_
    refine lv_iload_n hx hb dX7_best_13 rfl (lv_at hl 1 rfl) ?_
    refine lv_iconst (v := 1) hx hb dX7_best_14 (by decide) ?_
    refine lv_bipush (v := 12) hx hb dX7_best_15 (by decide) ?_
    obtain ⟨r5q, hq6, hf⟩ := b1_of hf
    refine callVI (As := [.int a1, .int 1, .int 12]) (rest := []) (wr := (Mw h q cA fi0 fs0 ga0 gs0 pl0 it asd)) C0 (c_X7_in h a1 1 12 _ hq6) lk_X7_237_X7_in rfl hP hD hS (List.Perm.refl _) 0 7 rfl rfl rfl hl.1 rfl rfl (Nat.le_of_ble_eq_true rfl) dX7_best_17 ⟨Nat.zero_le _, Nat.zero_le _⟩ (fun r5 w H locs hw hP hD hS => ?_)
    obtain ⟨⟨e1, e2⟩, z7⟩ := hw
    replace e1 : r5 = r5q := e1
    subst e1
    subst e2
    replace hP : va_P D vwCl (Mw h q cA fi0 fs0 ga0 gs0 pl0 it asd) H := hP
    replace hD : va_D A (Mw h q cA fi0 fs0 ga0 gs0 pl0 it asd) := hD
    refine lv_if_ne (tgt := 26) hx hb dX7_best_20 (by decide) (fun c8 => ?_) (fun c8 => ?_)
    · replace hf := ie_of c8 hf
      refine lv_iload_n hx hb dX7_best_26 rfl (lv_at hl 2 rfl) ?_
      refine lv_iconst (v := 2) hx hb dX7_best_27 (by decide) ?_
      refine lv_icmp_ne (tgt := 39) hx hb dX7_best_28 (by decide) (fun c9 => ?_) (fun c9 => ?_)
      · replace hf := ie_of c9 hf
        refine lv_aload_n hx hb dX7_best_39 rfl (lv_at hl 0 rfl) ?_
        refine lv_iload_n hx hb dX7_best_40 rfl (lv_at hl 1 rfl) ?_
        refine lv_iload_n hx hb dX7_best_41 rfl (lv_at hl 2 rfl) ?_
        refine lv_if_ne (tgt := 49) hx hb dX7_best_42 (by decide) (fun c10 => ?_) (fun c10 => ?_)
        · replace hf := ie_of c10 hf
          refine lv_iconst (v := 0) hx hb dX7_best_49 (by decide) ?_
          exact J50 a1 0 fi0 fs0 ga0 gs0 pl0 hf _ _ hP hD hS _ (lv_sub hl [] rfl)
        · replace hf := it_of c10 hf
          refine lv_iconst (v := 1) hx hb dX7_best_45 (by decide) ?_
          refine lv_goto (tgt := 50) hx hb dX7_best_46 (by decide) ?_
          exact J50 a1 1 fi0 fs0 ga0 gs0 pl0 hf _ _ hP hD hS _ (lv_sub hl [] rfl)
      · replace hf := it_of c9 hf
        refine lv_aload_n hx hb dX7_best_31 rfl (lv_at hl 0 rfl) ?_
        refine lv_iload_n hx hb dX7_best_32 rfl (lv_at hl 1 rfl) ?_
        obtain ⟨r11q, fi_12, fs_13, ga_14, gs_15, pl_16, hq17, hf⟩ := b6_of hf
        refine callVI (As := [.int a1]) (rest := []) (wr := []) C0 (c_X7_fright h q fi0 fs0 ga0 gs0 pl0 it asd a1 _ hq17) lk_X7_366_X7_fright rfl hP hD hS perm_nil 0 7 rfl rfl rfl hl.1 rfl rfl (Nat.le_of_ble_eq_true rfl) dX7_best_33 ⟨Nat.zero_le _, Nat.zero_le _⟩ (fun r11 w H locs hw hP hD hS => ?_)
        obtain ⟨e1, e2⟩ := hw
        replace e1 : r11 = r11q := e1
        subst e1
        subst e2
        replace hP : va_P D vwCl (Mw h q cA fi_12 fs_13 ga_14 gs_15 pl_16 it asd) H := hP.nil
        replace hD : va_D A (Mw h q cA fi_12 fs_13 ga_14 gs_15 pl_16 it asd) := hD.nil
        refine lv_goto (tgt := 53) hx hb dX7_best_36 (by decide) ?_
        rw [hQ]
        exact ret_i C0 hP hD hS (by have e := Option.some.inj hf; rw [← e]; exact ⟨rfl, rfl⟩) dX7_best_53
    · replace hf := it_of c8 hf
      refine lv_bipush (v := (-2)) hx hb dX7_best_23 (by decide) ?_
      rw [hQ]
      exact ret_i C0 hP hD hS (by have e := Option.some.inj hf; rw [← e]; exact ⟨rfl, rfl⟩) dX7_best_25
  · replace hf := it_of c4 hf
    refine lv_iconst (v := (-1)) hx hb dX7_best_10 (by decide) ?_
    rw [hQ]
    exact ret_i C0 hP hD hS (by have e := Option.some.inj hf; rw [← e]; exact ⟨rfl, rfl⟩) dX7_best_11
-- hear
noncomputable def k_X7_hear (a1 : Int32) (a2 : Int32) (fi0 : Nat → Int32) (ga0 : Nat → Nat → Int32) : Option (Int32 × (Nat → Int32) × (Nat → Nat → Int32)) := if a1 = (-1) then some (0, (upd fi0 36 0), ga0) else b1 (k_X7_in a1 0 12) (fun r2 => if r2 = 0 then some ((-2), fi0, ga0) else b1 (k_X7_in a2 0 999) (fun r6 => if r6 = 0 then some ((-2), fi0, ga0) else if (fi0 36) = 5 then some ((-4), fi0, ga0) else gd (fi0 36) 5 (gd (fi0 36) 5 (nm (va_up (va_up ga0 37 (upd (ga0 37) (Int32.toNatClampNeg (fi0 36)) a1)) 38 (upd (ga0 38) (Int32.toNatClampNeg (fi0 36)) a2)) (fun ga_13 => some (((fi0 36) + 1), (upd fi0 36 ((fi0 36) + 1)), ga_13))))))
set_option maxHeartbeats 4000000 in
set_option maxRecDepth 100000 in
theorem c_X7_hear {l : Launch} {D : va_G} {cA : Nat → ClassId} (h : Nat) (q : Nat → Nat) (fi0 : Nat → Int32) (fs : Nat → Int32) (ga0 : Nat → Nat → Int32) (gs : Nat → Nat → Int32) (pl : Nat → Int32) (it : Nat → Int64) (asd : Nat → Int64) (a1 : Int32) (a2 : Int32) (o : Int32 × (Nat → Int32) × (Nat → Nat → Int32)) (hf : k_X7_hear a1 a2 fi0 ga0 = some o) : CI l D cA yX7_hear cX7_hear 3 (some .int) 1 23 [.ref h, .int a1, .int a2] (Mw h q cA fi0 fs ga0 gs pl it asd) 0 0 (fun r w => r = o.1 ∧ w = (Mw h q cA o.2.1 fs o.2.2 gs pl it asd)) := by
  intro sz
  refine met_start (by decide) rfl ?_
  intro p e s m args below meth c ls hsz hargs C0 hname hP hD hS hl
  generalize hAe : va_A (Mw h q cA fi0 fs ga0 gs pl it asd) sz = A at C0 hD hS ⊢
  obtain ⟨hx, hb, hr, hml, hown, hts, hlk, hK, hA⟩ := id C0
  replace hl : lv_has ls 3 [(0, .ref h), (1, .int a1), (2, .int a2)] := hl
  obtain ⟨Q, hQ⟩ : ∃ Q : State → Prop, Q = QI below D A (fun r w => r = o.1 ∧ w = (Mw h q cA o.2.1 fs o.2.2 gs pl it asd)) args s 0 0 := ⟨_, rfl⟩
  refine cast (by rw [hQ]) (?_ : W p l e (RMx 1 23 0 0) s m args below meth c s.heap [] 0 0 Q (F0 m 0 ls []))
  unfold k_X7_hear at hf
  refine lv_iload_n hx hb dX7_hear_0 rfl (lv_at hl 1 rfl) ?_
  refine lv_iconst (v := (-1)) hx hb dX7_hear_1 (by decide) ?_
  refine lv_icmp_ne (tgt := 12) hx hb dX7_hear_2 (by decide) (fun c1 => ?_) (fun c1 => ?_)
  · replace hf := ie_of c1 hf
    refine lv_aload_n hx hb dX7_hear_12 rfl (lv_at hl 0 rfl) ?_
    refine lv_iload_n hx hb dX7_hear_13 rfl (lv_at hl 1 rfl) ?_
    refine lv_iconst (v := 0) hx hb dX7_hear_14 (by decide) ?_
    refine lv_bipush (v := 12) hx hb dX7_hear_15 (by decide) ?_
    obtain ⟨r2q, hq3, hf⟩ := b1_of hf
    refine callVI (As := [.int a1, .int 0, .int 12]) (rest := []) (wr := (Mw h q cA fi0 fs ga0 gs pl it asd)) C0 (c_X7_in h a1 0 12 _ hq3) lk_X7_237_X7_in rfl hP hD hS (List.Perm.refl _) 0 7 rfl rfl rfl hl.1 rfl rfl (Nat.le_of_ble_eq_true rfl) dX7_hear_17 ⟨Nat.zero_le _, Nat.zero_le _⟩ (fun r2 w H locs hw hP hD hS => ?_)
    obtain ⟨⟨e1, e2⟩, z4⟩ := hw
    replace e1 : r2 = r2q := e1
    subst e1
    subst e2
    replace hP : va_P D vwCl (Mw h q cA fi0 fs ga0 gs pl it asd) H := hP
    replace hD : va_D A (Mw h q cA fi0 fs ga0 gs pl it asd) := hD
    refine lv_if_eq (tgt := 35) hx hb dX7_hear_20 (by decide) (fun c5 => ?_) (fun c5 => ?_)
    · replace hf := it_of c5 hf
      refine lv_bipush (v := (-2)) hx hb dX7_hear_35 (by decide) ?_
      rw [hQ]
      exact ret_i C0 hP hD hS (by have e := Option.some.inj hf; rw [← e]; exact ⟨rfl, rfl⟩) dX7_hear_37
    · replace hf := ie_of c5 hf
      refine lv_aload_n hx hb dX7_hear_23 rfl (lv_at hl 0 rfl) ?_
      refine lv_iload_n hx hb dX7_hear_24 rfl (lv_at hl 2 rfl) ?_
      refine lv_iconst (v := 0) hx hb dX7_hear_25 (by decide) ?_
      refine lv_sipush (v := 999) hx hb dX7_hear_26 (by decide) ?_
      obtain ⟨r6q, hq7, hf⟩ := b1_of hf
      refine callVI (As := [.int a2, .int 0, .int 999]) (rest := []) (wr := (Mw h q cA fi0 fs ga0 gs pl it asd)) C0 (c_X7_in h a2 0 999 _ hq7) lk_X7_237_X7_in rfl hP hD hS (List.Perm.refl _) 0 7 rfl rfl rfl hl.1 rfl rfl (Nat.le_of_ble_eq_true rfl) dX7_hear_29 ⟨Nat.zero_le _, Nat.zero_le _⟩ (fun r6 w H locs hw hP hD hS => ?_)
      obtain ⟨⟨e1, e2⟩, z8⟩ := hw
      replace e1 : r6 = r6q := e1
      subst e1
      subst e2
      replace hP : va_P D vwCl (Mw h q cA fi0 fs ga0 gs pl it asd) H := hP
      replace hD : va_D A (Mw h q cA fi0 fs ga0 gs pl it asd) := hD
      refine lv_if_ne (tgt := 38) hx hb dX7_hear_32 (by decide) (fun c9 => ?_) (fun c9 => ?_)
      · replace hf := ie_of c9 hf
        refine lv_aload_n hx hb dX7_hear_38 rfl (lv_at hl 0 rfl) ?_
        refine va_get (D := D) (ci := 7) (v := .int (fi0 36)) (C := RX7) (T := TX7) (N := 73) hx hb hts fw_7 hown hK hP 0 rfl rfl 36 (by decide) (hts _ m_fieldLink_M_120_M_heard_I) (fun _ h9 => h9) rfl dX7_hear_39 ?_
        refine lv_iconst (v := 5) hx hb dX7_hear_42 (by decide) ?_
        refine lv_icmp_ne (tgt := 49) hx hb dX7_hear_43 (by decide) (fun c10 => ?_) (fun c10 => ?_)
        · replace hf := ie_of c10 hf
          refine lv_aload_n hx hb dX7_hear_49 rfl (lv_at hl 0 rfl) ?_
          refine va_get (D := D) (ci := 7) (v := .ref (q 37)) (C := RX7) (T := TX7) (N := 73) hx hb hts fw_7 hown hK hP 0 rfl rfl 37 (by decide) (hts _ m_fieldLink_M_123_M_heardWhen_aI) (fun _ h9 => h9) rfl dX7_hear_50 ?_
          refine lv_aload_n hx hb dX7_hear_53 rfl (lv_at hl 0 rfl) ?_
          refine va_get (D := D) (ci := 7) (v := .int (fi0 36)) (C := RX7) (T := TX7) (N := 73) hx hb hts fw_7 hown hK hP 0 rfl rfl 36 (by decide) (hts _ m_fieldLink_M_120_M_heard_I) (fun _ h9 => h9) rfl dX7_hear_54 ?_
          refine lv_iload_n hx hb dX7_hear_57 rfl (lv_at hl 1 rfl) ?_
          obtain ⟨hi11, hf⟩ := gd_of hf
          refine va_iast hx hb hK hP hD hS 17 0 rfl rfl hi11 dX7_hear_58 (fun H locs hP hD hS => ?_)
          replace hP : va_P D vwCl (Mw h q cA fi0 fs (va_up ga0 37 (upd (ga0 37) (Int32.toNatClampNeg (fi0 36)) a1)) gs pl it asd) H := hP
          replace hD : va_D A (Mw h q cA fi0 fs (va_up ga0 37 (upd (ga0 37) (Int32.toNatClampNeg (fi0 36)) a1)) gs pl it asd) := hD
          refine lv_aload_n hx hb dX7_hear_59 rfl (lv_at hl 0 rfl) ?_
          refine va_get (D := D) (ci := 7) (v := .ref (q 38)) (C := RX7) (T := TX7) (N := 73) hx hb hts fw_7 hown hK hP 0 rfl rfl 38 (by decide) (hts _ m_fieldLink_M_126_M_heardSound_aI) (fun _ h9 => h9) rfl dX7_hear_60 ?_
          refine lv_aload_n hx hb dX7_hear_63 rfl (lv_at hl 0 rfl) ?_
          refine va_get (D := D) (ci := 7) (v := .int (fi0 36)) (C := RX7) (T := TX7) (N := 73) hx hb hts fw_7 hown hK hP 0 rfl rfl 36 (by decide) (hts _ m_fieldLink_M_120_M_heard_I) (fun _ h9 => h9) rfl dX7_hear_64 ?_
          refine lv_iload_n hx hb dX7_hear_67 rfl (lv_at hl 2 rfl) ?_
          obtain ⟨hi12, hf⟩ := gd_of hf
          refine va_iast hx hb hK hP hD hS 18 0 rfl rfl hi12 dX7_hear_68 (fun H locs hP hD hS => ?_)
          replace hP : va_P D vwCl (Mw h q cA fi0 fs (va_up (va_up ga0 37 (upd (ga0 37) (Int32.toNatClampNeg (fi0 36)) a1)) 38 (upd (ga0 38) (Int32.toNatClampNeg (fi0 36)) a2)) gs pl it asd) H := hP
          replace hD : va_D A (Mw h q cA fi0 fs (va_up (va_up ga0 37 (upd (ga0 37) (Int32.toNatClampNeg (fi0 36)) a1)) 38 (upd (ga0 38) (Int32.toNatClampNeg (fi0 36)) a2)) gs pl it asd) := hD
          obtain ⟨ga_13, hv14, hf⟩ := nm_of hf
          replace hP : va_P D vwCl (Mw h q cA fi0 fs ga_13 gs pl it asd) H := by rw [hv14]; exact hP
          replace hD : va_D A (Mw h q cA fi0 fs ga_13 gs pl it asd) := by rw [hv14]; exact hD
          refine lv_aload_n hx hb dX7_hear_69 rfl (lv_at hl 0 rfl) ?_
          refine lv_dup hx hb dX7_hear_70 rfl ?_
          refine va_get (D := D) (ci := 7) (v := .int (fi0 36)) (C := RX7) (T := TX7) (N := 73) hx hb hts fw_7 hown hK hP 0 rfl rfl 36 (by decide) (hts _ m_fieldLink_M_120_M_heard_I) (fun _ h9 => h9) rfl dX7_hear_71 ?_
          refine lv_iconst (v := 1) hx hb dX7_hear_74 (by decide) ?_
          refine lv_iadd hx hb dX7_hear_75 ?_
          refine va_put (D := D) (ci := 7) (v := .int ((fi0 36) + 1)) (ty := .int) (C := RX7) (T := TX7) (N := 73) hx hb hts fw_7 tyX7 tyX7_ok nmX7 hown hK hP hD hS 0 rfl rfl 36 (by decide) (hts _ m_fieldLink_M_120_M_heard_I) (fun _ h9 => h9) rfl (by decide +kernel) rfl rfl (Nat.le_of_ble_eq_true rfl) dX7_hear_76 (fun H locs hP hD hS => ?_)
          replace hP : va_P D vwCl (Mw h q cA (upd fi0 36 ((fi0 36) + 1)) fs ga_13 gs pl it asd) H := hP
          replace hD : va_D A (Mw h q cA (upd fi0 36 ((fi0 36) + 1)) fs ga_13 gs pl it asd) := hD
          refine lv_aload_n hx hb dX7_hear_79 rfl (lv_at hl 0 rfl) ?_
          refine va_get (D := D) (ci := 7) (v := .int ((fi0 36) + 1)) (C := RX7) (T := TX7) (N := 73) hx hb hts fw_7 hown hK hP 0 rfl rfl 36 (by decide) (hts _ m_fieldLink_M_120_M_heard_I) (fun _ h9 => h9) rfl dX7_hear_80 ?_
          rw [hQ]
          exact ret_i C0 hP hD hS (by have e := Option.some.inj hf; rw [← e]; exact ⟨rfl, rfl⟩) dX7_hear_83
        · replace hf := it_of c10 hf
          refine lv_bipush (v := (-4)) hx hb dX7_hear_46 (by decide) ?_
          rw [hQ]
          exact ret_i C0 hP hD hS (by have e := Option.some.inj hf; rw [← e]; exact ⟨rfl, rfl⟩) dX7_hear_48
      · replace hf := it_of c9 hf
        refine lv_bipush (v := (-2)) hx hb dX7_hear_35 (by decide) ?_
        rw [hQ]
        exact ret_i C0 hP hD hS (by have e := Option.some.inj hf; rw [← e]; exact ⟨rfl, rfl⟩) dX7_hear_37
  · replace hf := it_of c1 hf
    refine lv_aload_n hx hb dX7_hear_5 rfl (lv_at hl 0 rfl) ?_
    refine lv_iconst (v := 0) hx hb dX7_hear_6 (by decide) ?_
    refine va_put (D := D) (ci := 7) (v := .int 0) (ty := .int) (C := RX7) (T := TX7) (N := 73) hx hb hts fw_7 tyX7 tyX7_ok nmX7 hown hK hP hD hS 0 rfl rfl 36 (by decide) (hts _ m_fieldLink_M_120_M_heard_I) (fun _ h9 => h9) rfl (by decide +kernel) rfl rfl (Nat.le_of_ble_eq_true rfl) dX7_hear_7 (fun H locs hP hD hS => ?_)
    replace hP : va_P D vwCl (Mw h q cA (upd fi0 36 0) fs ga0 gs pl it asd) H := hP
    replace hD : va_D A (Mw h q cA (upd fi0 36 0) fs ga0 gs pl it asd) := hD
    refine lv_iconst (v := 0) hx hb dX7_hear_10 (by decide) ?_
    rw [hQ]
    exact ret_i C0 hP hD hS (by have e := Option.some.inj hf; rw [← e]; exact ⟨rfl, rfl⟩) dX7_hear_11
-- isHeard
noncomputable def k_X7_isHeard_48  (kc4 : Int32 → Int32 → (Nat → Int32) → (Nat → Int32) → (Nat → Nat → Int32) → (Nat → Nat → Int32) → (Nat → Int32) → Option (Int32 × (Nat → Int32) × (Nat → Int32) × (Nat → Nat → Int32) × (Nat → Nat → Int32) × (Nat → Int32))) (x2 : Int32) (t0 : Int32) (fi : Nat → Int32) (fs : Nat → Int32) (ga : Nat → Nat → Int32) (gs : Nat → Nat → Int32) (pl : Nat → Int32) : Option (Int32 × (Nat → Int32) × (Nat → Int32) × (Nat → Nat → Int32) × (Nat → Nat → Int32) × (Nat → Int32)) := b3 (k_X7_putBack fi fs ga gs) (fun fi_1 fs_2 ga_3 => kc4 t0 (x2 + 1) fi_1 fs_2 ga_3 gs pl)
noncomputable def k_X7_isHeard_4  : Nat → Int32 → Int32 → (Nat → Int32) → (Nat → Int32) → (Nat → Nat → Int32) → (Nat → Nat → Int32) → (Nat → Int32) → Option (Int32 × (Nat → Int32) × (Nat → Int32) × (Nat → Nat → Int32) × (Nat → Nat → Int32) × (Nat → Int32))
  | 0, _, _, _, _, _, _, _ => none
  | n + 1, x1, x2, fi, fs, ga, gs, pl => if (fi 36) ≤ x2 then gb x1 (some (x1, fi, fs, ga, gs, pl)) else if x1 = 0 then gb x1 (some (x1, fi, fs, ga, gs, pl)) else b2 (k_X7_save fi fs ga gs) (fun fs_5 gs_6 => gd x2 5 (b3 (k_X7_goDays ((ga 37) (Int32.toNatClampNeg x2)) fi fs_5 ga pl) (fun fi_9 ga_10 pl_11 => b2 (k_X7_sound fi_9 ga_10 pl_11) (fun r13 pl_14 => gd x2 5 (if r13 = ((ga_10 38) (Int32.toNatClampNeg x2)) then k_X7_isHeard_48 (k_X7_isHeard_4 n) x2 1 fi_9 fs_5 ga_10 gs_6 pl_14 else k_X7_isHeard_48 (k_X7_isHeard_4 n) x2 0 fi_9 fs_5 ga_10 gs_6 pl_14)))))
noncomputable def k_X7_isHeard (fi0 : Nat → Int32) (fs0 : Nat → Int32) (ga0 : Nat → Nat → Int32) (gs0 : Nat → Nat → Int32) (pl0 : Nat → Int32) : Option (Int32 × (Nat → Int32) × (Nat → Int32) × (Nat → Nat → Int32) × (Nat → Nat → Int32) × (Nat → Int32)) := k_X7_isHeard_4 100000 1 0 fi0 fs0 ga0 gs0 pl0
set_option maxHeartbeats 4000000 in
set_option maxRecDepth 100000 in
theorem c_X7_isHeard {l : Launch} {D : va_G} {cA : Nat → ClassId} (h : Nat) (q : Nat → Nat) (fi0 : Nat → Int32) (fs0 : Nat → Int32) (ga0 : Nat → Nat → Int32) (gs0 : Nat → Nat → Int32) (pl0 : Nat → Int32) (it : Nat → Int64) (asd : Nat → Int64)  (o : Int32 × (Nat → Int32) × (Nat → Int32) × (Nat → Nat → Int32) × (Nat → Nat → Int32) × (Nat → Int32)) (hf : k_X7_isHeard fi0 fs0 ga0 gs0 pl0 = some o) : CI l D cA yX7_isHeard cX7_isHeard 3 (some .boolean) 8 184 [.ref h] (Mw h q cA fi0 fs0 ga0 gs0 pl0 it asd) 0 0 (fun r w => (r = o.1 ∧ w = (Mw h q cA o.2.1 o.2.2.1 o.2.2.2.1 o.2.2.2.2.1 o.2.2.2.2.2 it asd)) ∧ narrow .boolean (.int r) = .int r) := by
  intro sz
  refine met_start (by decide) rfl ?_
  intro p e s m args below meth c ls hsz hargs C0 hname hP hD hS hl
  generalize hAe : va_A (Mw h q cA fi0 fs0 ga0 gs0 pl0 it asd) sz = A at C0 hD hS ⊢
  obtain ⟨hx, hb, hr, hml, hown, hts, hlk, hK, hA⟩ := id C0
  replace hl : lv_has ls 3 [(0, .ref h)] := hl
  obtain ⟨Q, hQ⟩ : ∃ Q : State → Prop, Q = QI below D A (fun r w => (r = o.1 ∧ w = (Mw h q cA o.2.1 o.2.2.1 o.2.2.2.1 o.2.2.2.2.1 o.2.2.2.2.2 it asd)) ∧ narrow .boolean (.int r) = .int r) args s 0 0 := ⟨_, rfl⟩
  refine cast (by rw [hQ]) (?_ : W p l e (RMx 8 184 0 0) s m args below meth c s.heap [] 0 0 Q (F0 m 0 ls []))
  have J48 : ∀ (kc4 : Int32 → Int32 → (Nat → Int32) → (Nat → Int32) → (Nat → Nat → Int32) → (Nat → Nat → Int32) → (Nat → Int32) → Option (Int32 × (Nat → Int32) × (Nat → Int32) × (Nat → Nat → Int32) × (Nat → Nat → Int32) × (Nat → Int32))) (hkc4 : ∀ (x1 : Int32) (x2 : Int32) (fi : Nat → Int32) (fs : Nat → Int32) (ga : Nat → Nat → Int32) (gs : Nat → Nat → Int32) (pl : Nat → Int32), kc4 x1 x2 fi fs ga gs pl = some o → ∀ (H : Heap) (locs : List Loc), va_P D vwCl (Mw h q cA fi fs ga gs pl it asd) H → va_D A (Mw h q cA fi fs ga gs pl it asd) → va_S A s.heap H locs → ∀ ls : Array Slot, lv_has ls 3 [(0, .ref h), (1, .int x1), (2, .int x2)] → W p l e (RMx 8 184 0 0) s m args below meth c H locs 0 0 Q (F0 m 4 ls [])), ∀ (x2 : Int32) (t0 : Int32) (fi : Nat → Int32) (fs : Nat → Int32) (ga : Nat → Nat → Int32) (gs : Nat → Nat → Int32) (pl : Nat → Int32), k_X7_isHeard_48 kc4 x2 t0 fi fs ga gs pl = some o → ∀ (H : Heap) (locs : List Loc), va_P D vwCl (Mw h q cA fi fs ga gs pl it asd) H → va_D A (Mw h q cA fi fs ga gs pl it asd) → va_S A s.heap H locs → ∀ ls : Array Slot, lv_has ls 3 [(0, .ref h), (2, .int x2)] → W p l e (RMx 8 184 0 0) s m args below meth c H locs 0 0 Q (F0 m 48 ls [.int t0]) := by
    intro kc4 hkc4 x2 t0 fi fs ga gs pl hf H locs hP hD hS ls hl
    unfold k_X7_isHeard_48 at hf
    refine lv_istore_n (lv' := [(1, .int t0), (0, .ref h), (2, .int x2)]) hx hb dX7_isHeard_48 rfl hl (by decide) rfl (fun ls hl => ?_)
    refine lv_aload_n hx hb dX7_isHeard_49 rfl (lv_at hl 1 rfl) ?_
    obtain ⟨fi_1, fs_2, ga_3, hq4, hf⟩ := b3_of hf
    refine callVV (As := []) (rest := []) (wr := []) C0 (c_X7_putBack h q fi fs ga gs pl it asd _ hq4) lk_X7_345_X7_putBack rfl hP hD hS perm_nil 0 7 rfl rfl rfl hl.1 rfl rfl (Nat.le_of_ble_eq_true rfl) dX7_isHeard_50 ⟨Nat.zero_le _, Nat.zero_le _⟩ (fun w H locs hw hP hD hS => ?_)
    have e2 := hw
    subst e2
    replace hP : va_P D vwCl (Mw h q cA fi_1 fs_2 ga_3 gs pl it asd) H := hP.nil
    replace hD : va_D A (Mw h q cA fi_1 fs_2 ga_3 gs pl it asd) := hD.nil
    refine lv_iinc (v := (x2 + 1)) (lv' := [(2, .int (x2 + 1)), (1, .int t0), (0, .ref h)]) hx hb dX7_isHeard_53 hl (k := 2) rfl rfl (by decide) rfl (fun ls hl => ?_)
    refine lv_goto (tgt := 4) hx hb dX7_isHeard_56 (by decide) ?_
    exact hkc4 t0 (x2 + 1) fi_1 fs_2 ga_3 gs pl hf _ _ hP hD hS _ (lv_sub hl [2, 1, 0] rfl)
  have J4 : ∀ n : Nat, ∀ (x1 : Int32) (x2 : Int32) (fi : Nat → Int32) (fs : Nat → Int32) (ga : Nat → Nat → Int32) (gs : Nat → Nat → Int32) (pl : Nat → Int32), k_X7_isHeard_4 n x1 x2 fi fs ga gs pl = some o → ∀ (H : Heap) (locs : List Loc), va_P D vwCl (Mw h q cA fi fs ga gs pl it asd) H → va_D A (Mw h q cA fi fs ga gs pl it asd) → va_S A s.heap H locs → ∀ ls : Array Slot, lv_has ls 3 [(0, .ref h), (1, .int x1), (2, .int x2)] → W p l e (RMx 8 184 0 0) s m args below meth c H locs 0 0 Q (F0 m 4 ls []) := by
    intro  n
    induction n with
    | zero =>
      intro x1 x2 fi fs ga gs pl hf
      rw [k_X7_isHeard_4] at hf
      cases hf
    | succ n ih =>
      intro x1 x2 fi fs ga gs pl hf H locs hP hD hS ls hl
      rw [k_X7_isHeard_4] at hf
      refine lv_iload_n hx hb dX7_isHeard_4 rfl (lv_at hl 2 rfl) ?_
      refine lv_aload_n hx hb dX7_isHeard_5 rfl (lv_at hl 0 rfl) ?_
      refine va_get (D := D) (ci := 7) (v := .int (fi 36)) (C := RX7) (T := TX7) (N := 73) hx hb hts fw_7 hown hK hP 0 rfl rfl 36 (by decide) (hts _ m_fieldLink_M_120_M_heard_I) (fun _ h9 => h9) rfl dX7_isHeard_6 ?_
      refine lv_icmp_ge (tgt := 59) hx hb dX7_isHeard_9 (by decide) (fun c1 => ?_) (fun c1 => ?_)
      · replace hf := it_of c1 hf
        refine lv_iload_n hx hb dX7_isHeard_59 rfl (lv_at hl 1 rfl) ?_
        obtain ⟨hb2, hf⟩ := gb_of hf
        rw [hQ]
        exact ret_z C0 hP hD hS (by have e := Option.some.inj hf; rw [← e]; exact ⟨rfl, rfl⟩) hb2 dX7_isHeard_60
      · replace hf := ie_of c1 hf
        refine lv_iload_n hx hb dX7_isHeard_12 rfl (lv_at hl 1 rfl) ?_
        refine lv_if_eq (tgt := 59) hx hb dX7_isHeard_13 (by decide) (fun c3 => ?_) (fun c3 => ?_)
        · replace hf := it_of c3 hf
          refine lv_iload_n hx hb dX7_isHeard_59 rfl (lv_at hl 1 rfl) ?_
          obtain ⟨hb4, hf⟩ := gb_of hf
          rw [hQ]
          exact ret_z C0 hP hD hS (by have e := Option.some.inj hf; rw [← e]; exact ⟨rfl, rfl⟩) hb4 dX7_isHeard_60
        · replace hf := ie_of c3 hf
          refine lv_aload_n hx hb dX7_isHeard_16 rfl (lv_at hl 0 rfl) ?_
          obtain ⟨fs_5, gs_6, hq7, hf⟩ := b2_of hf
          refine callVV (As := []) (rest := []) (wr := []) C0 (c_X7_save h q fi fs ga gs pl it asd _ hq7) lk_X7_342_X7_save rfl hP hD hS perm_nil 0 7 rfl rfl rfl hl.1 rfl rfl (Nat.le_of_ble_eq_true rfl) dX7_isHeard_17 ⟨Nat.zero_le _, Nat.zero_le _⟩ (fun w H locs hw hP hD hS => ?_)
          have e2 := hw
          subst e2
          replace hP : va_P D vwCl (Mw h q cA fi fs_5 ga gs_6 pl it asd) H := hP.nil
          replace hD : va_D A (Mw h q cA fi fs_5 ga gs_6 pl it asd) := hD.nil
          refine lv_aload_n hx hb dX7_isHeard_20 rfl (lv_at hl 0 rfl) ?_
          refine lv_aload_n hx hb dX7_isHeard_21 rfl (lv_at hl 0 rfl) ?_
          refine va_get (D := D) (ci := 7) (v := .ref (q 37)) (C := RX7) (T := TX7) (N := 73) hx hb hts fw_7 hown hK hP 0 rfl rfl 37 (by decide) (hts _ m_fieldLink_M_123_M_heardWhen_aI) (fun _ h9 => h9) rfl dX7_isHeard_22 ?_
          refine lv_iload_n hx hb dX7_isHeard_25 rfl (lv_at hl 2 rfl) ?_
          obtain ⟨hi8, hf⟩ := gd_of hf
          refine va_iald hx hb hK hP 17 0 rfl rfl hi8 dX7_isHeard_26 ?_
          obtain ⟨fi_9, ga_10, pl_11, hq12, hf⟩ := b3_of hf
          refine callVV (As := [.int ((ga 37) (Int32.toNatClampNeg x2))]) (rest := []) (wr := []) C0 (c_X7_goDays h q fi fs_5 ga gs_6 pl it asd ((ga 37) (Int32.toNatClampNeg x2)) _ hq12) lk_X7_338_X7_goDays rfl hP hD hS perm_nil 0 7 rfl rfl rfl hl.1 rfl rfl (Nat.le_of_ble_eq_true rfl) dX7_isHeard_27 ⟨Nat.zero_le _, Nat.zero_le _⟩ (fun w H locs hw hP hD hS => ?_)
          have e2 := hw
          subst e2
          replace hP : va_P D vwCl (Mw h q cA fi_9 fs_5 ga_10 gs_6 pl_11 it asd) H := hP.nil
          replace hD : va_D A (Mw h q cA fi_9 fs_5 ga_10 gs_6 pl_11 it asd) := hD.nil
          refine lv_aload_n hx hb dX7_isHeard_30 rfl (lv_at hl 0 rfl) ?_
          obtain ⟨r13q, pl_14, hq15, hf⟩ := b2_of hf
          refine callVI (As := []) (rest := []) (wr := []) C0 (c_X7_sound h q fi_9 fs_5 ga_10 gs_6 pl_11 it asd _ hq15) lk_X7_326_X7_sound rfl hP hD hS perm_nil 0 7 rfl rfl rfl hl.1 rfl rfl (Nat.le_of_ble_eq_true rfl) dX7_isHeard_31 ⟨Nat.zero_le _, Nat.zero_le _⟩ (fun r13 w H locs hw hP hD hS => ?_)
          obtain ⟨e1, e2⟩ := hw
          replace e1 : r13 = r13q := e1
          subst e1
          subst e2
          replace hP : va_P D vwCl (Mw h q cA fi_9 fs_5 ga_10 gs_6 pl_14 it asd) H := hP.nil
          replace hD : va_D A (Mw h q cA fi_9 fs_5 ga_10 gs_6 pl_14 it asd) := hD.nil
          refine lv_aload_n hx hb dX7_isHeard_34 rfl (lv_at hl 0 rfl) ?_
          refine va_get (D := D) (ci := 7) (v := .ref (q 38)) (C := RX7) (T := TX7) (N := 73) hx hb hts fw_7 hown hK hP 0 rfl rfl 38 (by decide) (hts _ m_fieldLink_M_126_M_heardSound_aI) (fun _ h9 => h9) rfl dX7_isHeard_35 ?_
          refine lv_iload_n hx hb dX7_isHeard_38 rfl (lv_at hl 2 rfl) ?_
          obtain ⟨hi16, hf⟩ := gd_of hf
          refine va_iald hx hb hK hP 18 0 rfl rfl hi16 dX7_isHeard_39 ?_
          refine lv_icmp_ne (tgt := 47) hx hb dX7_isHeard_40 (by decide) (fun c17 => ?_) (fun c17 => ?_)
          · replace hf := ie_of c17 hf
            refine lv_iconst (v := 0) hx hb dX7_isHeard_47 (by decide) ?_
            exact J48 _ ih x2 0 fi_9 fs_5 ga_10 gs_6 pl_14 hf _ _ hP hD hS _ (lv_sub hl [0, 2] rfl)
          · replace hf := it_of c17 hf
            refine lv_iconst (v := 1) hx hb dX7_isHeard_43 (by decide) ?_
            refine lv_goto (tgt := 48) hx hb dX7_isHeard_44 (by decide) ?_
            exact J48 _ ih x2 1 fi_9 fs_5 ga_10 gs_6 pl_14 hf _ _ hP hD hS _ (lv_sub hl [0, 2] rfl)
  unfold k_X7_isHeard at hf
  refine lv_iconst (v := 1) hx hb dX7_isHeard_0 (by decide) ?_
  refine lv_istore_n (lv' := [(1, .int 1), (0, .ref h)]) hx hb dX7_isHeard_1 rfl hl (by decide) rfl (fun ls hl => ?_)
  refine lv_iconst (v := 0) hx hb dX7_isHeard_2 (by decide) ?_
  refine lv_istore_n (lv' := [(2, .int 0), (1, .int 1), (0, .ref h)]) hx hb dX7_isHeard_3 rfl hl (by decide) rfl (fun ls hl => ?_)
  exact J4 100000 1 0 fi0 fs0 ga0 gs0 pl0 hf _ _ hP hD hS _ (lv_sub hl [2, 1, 0] rfl)
-- nerves
noncomputable def k_X7_nerves_12 (a1 : Int32) : Nat → Int32 → Int32 → Int32 → (Nat → Int32) → (Nat → Int32) → (Nat → Nat → Int32) → (Nat → Nat → Int32) → (Nat → Int32) → Option (Int32 × (Nat → Int32) × (Nat → Int32) × (Nat → Nat → Int32) × (Nat → Nat → Int32) × (Nat → Int32))
  | 0, _, _, _, _, _, _, _, _ => none
  | n + 1, x2, x3, x4, fi, fs, ga, gs, pl => if 21 ≤ x4 then gd a1 6 (some (x3, fi, fs, (va_up ga 8 (upd (ga 8) (Int32.toNatClampNeg a1) x2)), gs, pl)) else gd a1 6 (b6 (k_X7_isHeard fi fs (va_up ga 8 (upd (ga 8) (Int32.toNatClampNeg a1) x4)) gs pl) (fun r4 fi_5 fs_6 ga_7 gs_8 pl_9 => if r4 = 0 then k_X7_nerves_12 a1 n x2 (x3 ||| 0) (x4 + 1) fi_5 fs_6 ga_7 gs_8 pl_9 else k_X7_nerves_12 a1 n x2 (x3 ||| (1 <<< (x4 &&& 31))) (x4 + 1) fi_5 fs_6 ga_7 gs_8 pl_9))
noncomputable def k_X7_nerves (a1 : Int32) (fi0 : Nat → Int32) (fs0 : Nat → Int32) (ga0 : Nat → Nat → Int32) (gs0 : Nat → Nat → Int32) (pl0 : Nat → Int32) : Option (Int32 × (Nat → Int32) × (Nat → Int32) × (Nat → Nat → Int32) × (Nat → Nat → Int32) × (Nat → Int32)) := gd a1 6 (k_X7_nerves_12 a1 100000 ((ga0 8) (Int32.toNatClampNeg a1)) 0 0 fi0 fs0 ga0 gs0 pl0)
set_option maxHeartbeats 4000000 in
set_option maxRecDepth 100000 in
theorem c_X7_nerves {l : Launch} {D : va_G} {cA : Nat → ClassId} (h : Nat) (q : Nat → Nat) (fi0 : Nat → Int32) (fs0 : Nat → Int32) (ga0 : Nat → Nat → Int32) (gs0 : Nat → Nat → Int32) (pl0 : Nat → Int32) (it : Nat → Int64) (asd : Nat → Int64) (a1 : Int32) (o : Int32 × (Nat → Int32) × (Nat → Int32) × (Nat → Nat → Int32) × (Nat → Nat → Int32) × (Nat → Int32)) (hf : k_X7_nerves a1 fi0 fs0 ga0 gs0 pl0 = some o) : CI l D cA yX7_nerves cX7_nerves 5 (some .int) 9 206 [.ref h, .int a1] (Mw h q cA fi0 fs0 ga0 gs0 pl0 it asd) 0 0 (fun r w => r = o.1 ∧ w = (Mw h q cA o.2.1 o.2.2.1 o.2.2.2.1 o.2.2.2.2.1 o.2.2.2.2.2 it asd)) := by
  intro sz
  refine met_start (by decide) rfl ?_
  intro p e s m args below meth c ls hsz hargs C0 hname hP hD hS hl
  generalize hAe : va_A (Mw h q cA fi0 fs0 ga0 gs0 pl0 it asd) sz = A at C0 hD hS ⊢
  obtain ⟨hx, hb, hr, hml, hown, hts, hlk, hK, hA⟩ := id C0
  replace hl : lv_has ls 5 [(0, .ref h), (1, .int a1)] := hl
  obtain ⟨Q, hQ⟩ : ∃ Q : State → Prop, Q = QI below D A (fun r w => r = o.1 ∧ w = (Mw h q cA o.2.1 o.2.2.1 o.2.2.2.1 o.2.2.2.2.1 o.2.2.2.2.2 it asd)) args s 0 0 := ⟨_, rfl⟩
  refine cast (by rw [hQ]) (?_ : W p l e (RMx 9 206 0 0) s m args below meth c s.heap [] 0 0 Q (F0 m 0 ls []))
  have J12 : ∀ n : Nat, ∀ (x2 : Int32) (x3 : Int32) (x4 : Int32) (fi : Nat → Int32) (fs : Nat → Int32) (ga : Nat → Nat → Int32) (gs : Nat → Nat → Int32) (pl : Nat → Int32), k_X7_nerves_12 a1 n x2 x3 x4 fi fs ga gs pl = some o → ∀ (H : Heap) (locs : List Loc), va_P D vwCl (Mw h q cA fi fs ga gs pl it asd) H → va_D A (Mw h q cA fi fs ga gs pl it asd) → va_S A s.heap H locs → ∀ ls : Array Slot, lv_has ls 5 [(0, .ref h), (1, .int a1), (2, .int x2), (3, .int x3), (4, .int x4)] → W p l e (RMx 9 206 0 0) s m args below meth c H locs 0 0 Q (F0 m 12 ls []) := by
    intro  n
    induction n with
    | zero =>
      intro x2 x3 x4 fi fs ga gs pl hf
      rw [k_X7_nerves_12] at hf
      cases hf
    | succ n ih =>
      intro x2 x3 x4 fi fs ga gs pl hf H locs hP hD hS ls hl
      rw [k_X7_nerves_12] at hf
      refine lv_iload hx hb dX7_nerves_12 (lv_at hl 4 rfl) ?_
      refine lv_bipush (v := 21) hx hb dX7_nerves_14 (by decide) ?_
      refine lv_icmp_ge (tgt := 51) hx hb dX7_nerves_16 (by decide) (fun c1 => ?_) (fun c1 => ?_)
      · replace hf := it_of c1 hf
        refine lv_aload_n hx hb dX7_nerves_51 rfl (lv_at hl 0 rfl) ?_
        refine va_get (D := D) (ci := 7) (v := .ref (q 8)) (C := RX7) (T := TX7) (N := 73) hx hb hts fw_7 hown hK hP 0 rfl rfl 8 (by decide) (hts _ m_fieldLink_M_35_M_nerve_aI) (fun _ h9 => h9) rfl dX7_nerves_52 ?_
        refine lv_iload_n hx hb dX7_nerves_55 rfl (lv_at hl 1 rfl) ?_
        refine lv_iload_n hx hb dX7_nerves_56 rfl (lv_at hl 2 rfl) ?_
        obtain ⟨hi2, hf⟩ := gd_of hf
        refine va_iast hx hb hK hP hD hS 3 0 rfl rfl hi2 dX7_nerves_57 (fun H locs hP hD hS => ?_)
        replace hP : va_P D vwCl (Mw h q cA fi fs (va_up ga 8 (upd (ga 8) (Int32.toNatClampNeg a1) x2)) gs pl it asd) H := hP
        replace hD : va_D A (Mw h q cA fi fs (va_up ga 8 (upd (ga 8) (Int32.toNatClampNeg a1) x2)) gs pl it asd) := hD
        refine lv_iload_n hx hb dX7_nerves_58 rfl (lv_at hl 3 rfl) ?_
        rw [hQ]
        exact ret_i C0 hP hD hS (by have e := Option.some.inj hf; rw [← e]; exact ⟨rfl, rfl⟩) dX7_nerves_59
      · replace hf := ie_of c1 hf
        refine lv_aload_n hx hb dX7_nerves_19 rfl (lv_at hl 0 rfl) ?_
        refine va_get (D := D) (ci := 7) (v := .ref (q 8)) (C := RX7) (T := TX7) (N := 73) hx hb hts fw_7 hown hK hP 0 rfl rfl 8 (by decide) (hts _ m_fieldLink_M_35_M_nerve_aI) (fun _ h9 => h9) rfl dX7_nerves_20 ?_
        refine lv_iload_n hx hb dX7_nerves_23 rfl (lv_at hl 1 rfl) ?_
        refine lv_iload hx hb dX7_nerves_24 (lv_at hl 4 rfl) ?_
        obtain ⟨hi3, hf⟩ := gd_of hf
        refine va_iast hx hb hK hP hD hS 3 0 rfl rfl hi3 dX7_nerves_26 (fun H locs hP hD hS => ?_)
        replace hP : va_P D vwCl (Mw h q cA fi fs (va_up ga 8 (upd (ga 8) (Int32.toNatClampNeg a1) x4)) gs pl it asd) H := hP
        replace hD : va_D A (Mw h q cA fi fs (va_up ga 8 (upd (ga 8) (Int32.toNatClampNeg a1) x4)) gs pl it asd) := hD
        refine lv_iload_n hx hb dX7_nerves_27 rfl (lv_at hl 3 rfl) ?_
        refine lv_aload_n hx hb dX7_nerves_28 rfl (lv_at hl 0 rfl) ?_
        obtain ⟨r4q, fi_5, fs_6, ga_7, gs_8, pl_9, hq10, hf⟩ := b6_of hf
        refine callVI (As := []) (rest := [.int x3]) (wr := []) C0 (c_X7_isHeard h q fi fs (va_up ga 8 (upd (ga 8) (Int32.toNatClampNeg a1) x4)) gs pl it asd _ hq10) lk_X7_373_X7_isHeard rfl hP hD hS perm_nil 0 7 rfl rfl rfl hl.1 rfl rfl (Nat.le_of_ble_eq_true rfl) dX7_nerves_29 ⟨Nat.zero_le _, Nat.zero_le _⟩ (fun r4 w H locs hw hP hD hS => ?_)
        obtain ⟨⟨e1, e2⟩, z11⟩ := hw
        replace e1 : r4 = r4q := e1
        subst e1
        subst e2
        replace hP : va_P D vwCl (Mw h q cA fi_5 fs_6 ga_7 gs_8 pl_9 it asd) H := hP.nil
        replace hD : va_D A (Mw h q cA fi_5 fs_6 ga_7 gs_8 pl_9 it asd) := hD.nil
        refine lv_if_eq (tgt := 42) hx hb dX7_nerves_32 (by decide) (fun c12 => ?_) (fun c12 => ?_)
        · replace hf := it_of c12 hf
          refine lv_iconst (v := 0) hx hb dX7_nerves_42 (by decide) ?_
          refine lv_ior hx hb dX7_nerves_43 ?_
          refine lv_istore_n (lv' := [(3, .int (x3 ||| 0)), (0, .ref h), (1, .int a1), (2, .int x2), (4, .int x4)]) hx hb dX7_nerves_44 rfl hl (by decide) rfl (fun ls hl => ?_)
          refine lv_iinc (v := (x4 + 1)) (lv' := [(4, .int (x4 + 1)), (3, .int (x3 ||| 0)), (0, .ref h), (1, .int a1), (2, .int x2)]) hx hb dX7_nerves_45 hl (k := 4) rfl rfl (by decide) rfl (fun ls hl => ?_)
          refine lv_goto (tgt := 12) hx hb dX7_nerves_48 (by decide) ?_
          exact ih x2 (x3 ||| 0) (x4 + 1) fi_5 fs_6 ga_7 gs_8 pl_9 hf _ _ hP hD hS _ (lv_sub hl [2, 3, 4, 1, 0] rfl)
        · replace hf := ie_of c12 hf
          refine lv_iconst (v := 1) hx hb dX7_nerves_35 (by decide) ?_
          refine lv_iload hx hb dX7_nerves_36 (lv_at hl 4 rfl) ?_
          refine lv_ishl hx hb dX7_nerves_38 ?_
          refine lv_goto (tgt := 43) hx hb dX7_nerves_39 (by decide) ?_
          refine lv_ior hx hb dX7_nerves_43 ?_
          refine lv_istore_n (lv' := [(3, .int (x3 ||| (1 <<< (x4 &&& 31)))), (0, .ref h), (1, .int a1), (2, .int x2), (4, .int x4)]) hx hb dX7_nerves_44 rfl hl (by decide) rfl (fun ls hl => ?_)
          refine lv_iinc (v := (x4 + 1)) (lv' := [(4, .int (x4 + 1)), (3, .int (x3 ||| (1 <<< (x4 &&& 31)))), (0, .ref h), (1, .int a1), (2, .int x2)]) hx hb dX7_nerves_45 hl (k := 4) rfl rfl (by decide) rfl (fun ls hl => ?_)
          refine lv_goto (tgt := 12) hx hb dX7_nerves_48 (by decide) ?_
          exact ih x2 (x3 ||| (1 <<< (x4 &&& 31))) (x4 + 1) fi_5 fs_6 ga_7 gs_8 pl_9 hf _ _ hP hD hS _ (lv_sub hl [2, 3, 4, 1, 0] rfl)
  unfold k_X7_nerves at hf
  refine lv_aload_n hx hb dX7_nerves_0 rfl (lv_at hl 0 rfl) ?_
  refine va_get (D := D) (ci := 7) (v := .ref (q 8)) (C := RX7) (T := TX7) (N := 73) hx hb hts fw_7 hown hK hP 0 rfl rfl 8 (by decide) (hts _ m_fieldLink_M_35_M_nerve_aI) (fun _ h9 => h9) rfl dX7_nerves_1 ?_
  refine lv_iload_n hx hb dX7_nerves_4 rfl (lv_at hl 1 rfl) ?_
  obtain ⟨hi1, hf⟩ := gd_of hf
  refine va_iald hx hb hK hP 3 0 rfl rfl hi1 dX7_nerves_5 ?_
  refine lv_istore_n (lv' := [(2, .int ((ga0 8) (Int32.toNatClampNeg a1))), (0, .ref h), (1, .int a1)]) hx hb dX7_nerves_6 rfl hl (by decide) rfl (fun ls hl => ?_)
  refine lv_iconst (v := 0) hx hb dX7_nerves_7 (by decide) ?_
  refine lv_istore_n (lv' := [(3, .int 0), (2, .int ((ga0 8) (Int32.toNatClampNeg a1))), (0, .ref h), (1, .int a1)]) hx hb dX7_nerves_8 rfl hl (by decide) rfl (fun ls hl => ?_)
  refine lv_iconst (v := 0) hx hb dX7_nerves_9 (by decide) ?_
  refine lv_istore (lv' := [(4, .int 0), (3, .int 0), (2, .int ((ga0 8) (Int32.toNatClampNeg a1))), (0, .ref h), (1, .int a1)]) hx hb dX7_nerves_10 hl (by decide) rfl (fun ls hl => ?_)
  exact J12 100000 ((ga0 8) (Int32.toNatClampNeg a1)) 0 0 fi0 fs0 ga0 gs0 pl0 hf _ _ hP hD hS _ (lv_sub hl [3, 4, 2, 1, 0] rfl)

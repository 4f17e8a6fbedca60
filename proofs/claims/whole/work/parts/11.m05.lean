-- of
noncomputable def k_X7_of (a1 : Int32) (a2 : Int32) (fi0 : Nat → Int32) (fs0 : Nat → Int32) (ga0 : Nat → Nat → Int32) (gs0 : Nat → Nat → Int32) (pl0 : Nat → Int32) : Option (Int32 × (Nat → Int32) × (Nat → Int32) × (Nat → Nat → Int32) × (Nat → Nat → Int32) × (Nat → Int32)) := b1 (k_X7_isMan a1 fi0) (fun r1 => if r1 = 0 then some ((-10001), fi0, fs0, ga0, gs0, pl0) else if a2 = 0 then gd a1 6 (some (((ga0 6) (Int32.toNatClampNeg a1)), fi0, fs0, ga0, gs0, pl0)) else if a2 = 1 then gd a1 6 (some (((ga0 7) (Int32.toNatClampNeg a1)), fi0, fs0, ga0, gs0, pl0)) else if a2 = 2 then gd a1 6 (some (((ga0 8) (Int32.toNatClampNeg a1)), fi0, fs0, ga0, gs0, pl0)) else if a2 = 3 then b1 (k_X7_has (fi0 1) a1) (fun r12 => if r12 = 0 then some (0, fi0, fs0, ga0, gs0, pl0) else some (1, fi0, fs0, ga0, gs0, pl0)) else if a2 = 4 then gd a1 6 (some (((ga0 9) (Int32.toNatClampNeg a1)), fi0, fs0, ga0, gs0, pl0)) else if a2 = 5 then b2 (k_X7_noise a1 fi0 ga0 pl0) (fun r19 pl_20 => some (r19, fi0, fs0, ga0, gs0, pl_20)) else if a2 = 6 then b6 (k_X7_nerves a1 fi0 fs0 ga0 gs0 pl0) (fun r23 fi_24 fs_25 ga_26 gs_27 pl_28 => some (r23, fi_24, fs_25, ga_26, gs_27, pl_28)) else some ((-10001), fi0, fs0, ga0, gs0, pl0))
set_option maxHeartbeats 4000000 in
set_option maxRecDepth 100000 in
theorem c_X7_of {l : Launch} {D : va_G} {cA : Nat → ClassId} (h : Nat) (q : Nat → Nat) (fi0 : Nat → Int32) (fs0 : Nat → Int32) (ga0 : Nat → Nat → Int32) (gs0 : Nat → Nat → Int32) (pl0 : Nat → Int32) (it : Nat → Int64) (asd : Nat → Int64) (a1 : Int32) (a2 : Int32) (o : Int32 × (Nat → Int32) × (Nat → Int32) × (Nat → Nat → Int32) × (Nat → Nat → Int32) × (Nat → Int32)) (hf : k_X7_of a1 a2 fi0 fs0 ga0 gs0 pl0 = some o) : CI l D cA yX7_of cX7_of 3 (some .int) 10 230 [.ref h, .int a1, .int a2] (Mw h q cA fi0 fs0 ga0 gs0 pl0 it asd) 0 0 (fun r w => r = o.1 ∧ w = (Mw h q cA o.2.1 o.2.2.1 o.2.2.2.1 o.2.2.2.2.1 o.2.2.2.2.2 it asd)) := by
  intro sz
  refine met_start (by decide) rfl ?_
  intro p e s m args below meth c ls hsz hargs C0 hname hP hD hS hl
  generalize hAe : va_A (Mw h q cA fi0 fs0 ga0 gs0 pl0 it asd) sz = A at C0 hD hS ⊢
  obtain ⟨hx, hb, hr, hml, hown, hts, hlk, hK, hA⟩ := id C0
  replace hl : lv_has ls 3 [(0, .ref h), (1, .int a1), (2, .int a2)] := hl
  obtain ⟨Q, hQ⟩ : ∃ Q : State → Prop, Q = QI below D A (fun r w => r = o.1 ∧ w = (Mw h q cA o.2.1 o.2.2.1 o.2.2.2.1 o.2.2.2.2.1 o.2.2.2.2.2 it asd)) args s 0 0 := ⟨_, rfl⟩
  refine cast (by rw [hQ]) (?_ : W p l e (RMx 10 230 0 0) s m args below meth c s.heap [] 0 0 Q (F0 m 0 ls []))
  unfold k_X7_of at hf
  refine lv_aload_n hx hb dX7_of_0 rfl (lv_at hl 0 rfl) ?_
  refine lv_iload_n hx hb dX7_of_1 rfl (lv_at hl 1 rfl) ?_
  obtain ⟨r1q, hq2, hf⟩ := b1_of hf
  refine callVI (As := [.int a1]) (rest := []) (wr := []) C0 (c_X7_isMan h q fi0 fs0 ga0 gs0 pl0 it asd a1 _ hq2) lk_X7_245_X7_isMan rfl hP hD hS perm_nil 0 7 rfl rfl rfl hl.1 rfl rfl (Nat.le_of_ble_eq_true rfl) dX7_of_2 ⟨Nat.zero_le _, Nat.zero_le _⟩ (fun r1 w H locs hw hP hD hS => ?_)
  obtain ⟨⟨e1, e2⟩, z3⟩ := hw
  replace e1 : r1 = r1q := e1
  subst e1
  subst e2
  replace hP : va_P D vwCl (Mw h q cA fi0 fs0 ga0 gs0 pl0 it asd) H := hP.nil
  replace hD : va_D A (Mw h q cA fi0 fs0 ga0 gs0 pl0 it asd) := hD.nil
  refine lv_if_ne (tgt := 12) hx hb dX7_of_5 (by decide) (fun c4 => ?_) (fun c4 => ?_)
  · replace hf := ie_of c4 hf
    refine lv_iload_n hx hb dX7_of_12 rfl (lv_at hl 2 rfl) ?_
    by_cases c5 : a2 = 0
    · replace hf := it_of c5 hf
      refine lv_tableIn (off := 43) (tgt := 56) hx hb dX7_of_13 (by rw [c5]; decide) (by rw [c5]; decide) (by rw [c5]; decide) (by decide) ?_
      refine lv_aload_n hx hb dX7_of_56 rfl (lv_at hl 0 rfl) ?_
      refine va_get (D := D) (ci := 7) (v := .ref (q 6)) (C := RX7) (T := TX7) (N := 73) hx hb hts fw_7 hown hK hP 0 rfl rfl 6 (by decide) (hts _ m_fieldLink_M_28_M_kind_aI) (fun _ h9 => h9) rfl dX7_of_57 ?_
      refine lv_iload_n hx hb dX7_of_60 rfl (lv_at hl 1 rfl) ?_
      obtain ⟨hi6, hf⟩ := gd_of hf
      refine va_iald hx hb hK hP 1 0 rfl rfl hi6 dX7_of_61 ?_
      rw [hQ]
      exact ret_i C0 hP hD hS (by have e := Option.some.inj hf; rw [← e]; exact ⟨rfl, rfl⟩) dX7_of_62
    · replace hf := ie_of c5 hf
      by_cases c7 : a2 = 1
      · replace hf := it_of c7 hf
        refine lv_tableIn (off := 50) (tgt := 63) hx hb dX7_of_13 (by rw [c7]; decide) (by rw [c7]; decide) (by rw [c7]; decide) (by decide) ?_
        refine lv_aload_n hx hb dX7_of_63 rfl (lv_at hl 0 rfl) ?_
        refine va_get (D := D) (ci := 7) (v := .ref (q 7)) (C := RX7) (T := TX7) (N := 73) hx hb hts fw_7 hown hK hP 0 rfl rfl 7 (by decide) (hts _ m_fieldLink_M_32_M_v_aI) (fun _ h9 => h9) rfl dX7_of_64 ?_
        refine lv_iload_n hx hb dX7_of_67 rfl (lv_at hl 1 rfl) ?_
        obtain ⟨hi8, hf⟩ := gd_of hf
        refine va_iald hx hb hK hP 2 0 rfl rfl hi8 dX7_of_68 ?_
        rw [hQ]
        exact ret_i C0 hP hD hS (by have e := Option.some.inj hf; rw [← e]; exact ⟨rfl, rfl⟩) dX7_of_69
      · replace hf := ie_of c7 hf
        by_cases c9 : a2 = 2
        · replace hf := it_of c9 hf
          refine lv_tableIn (off := 57) (tgt := 70) hx hb dX7_of_13 (by rw [c9]; decide) (by rw [c9]; decide) (by rw [c9]; decide) (by decide) ?_
          refine lv_aload_n hx hb dX7_of_70 rfl (lv_at hl 0 rfl) ?_
          refine va_get (D := D) (ci := 7) (v := .ref (q 8)) (C := RX7) (T := TX7) (N := 73) hx hb hts fw_7 hown hK hP 0 rfl rfl 8 (by decide) (hts _ m_fieldLink_M_35_M_nerve_aI) (fun _ h9 => h9) rfl dX7_of_71 ?_
          refine lv_iload_n hx hb dX7_of_74 rfl (lv_at hl 1 rfl) ?_
          obtain ⟨hi10, hf⟩ := gd_of hf
          refine va_iald hx hb hK hP 3 0 rfl rfl hi10 dX7_of_75 ?_
          rw [hQ]
          exact ret_i C0 hP hD hS (by have e := Option.some.inj hf; rw [← e]; exact ⟨rfl, rfl⟩) dX7_of_76
        · replace hf := ie_of c9 hf
          by_cases c11 : a2 = 3
          · replace hf := it_of c11 hf
            refine lv_tableIn (off := 64) (tgt := 77) hx hb dX7_of_13 (by rw [c11]; decide) (by rw [c11]; decide) (by rw [c11]; decide) (by decide) ?_
            refine lv_aload_n hx hb dX7_of_77 rfl (lv_at hl 0 rfl) ?_
            refine lv_aload_n hx hb dX7_of_78 rfl (lv_at hl 0 rfl) ?_
            refine va_get (D := D) (ci := 7) (v := .int (fi0 1)) (C := RX7) (T := TX7) (N := 73) hx hb hts fw_7 hown hK hP 0 rfl rfl 1 (by decide) (hts _ m_fieldLink_M_13_M_up_I) (fun _ h9 => h9) rfl dX7_of_79 ?_
            refine lv_iload_n hx hb dX7_of_82 rfl (lv_at hl 1 rfl) ?_
            obtain ⟨r12q, hq13, hf⟩ := b1_of hf
            refine callVI (As := [.int (fi0 1), .int a1]) (rest := []) (wr := (Mw h q cA fi0 fs0 ga0 gs0 pl0 it asd)) C0 (c_X7_has h (fi0 1) a1 _ hq13) lk_X7_233_X7_has rfl hP hD hS (List.Perm.refl _) 0 7 rfl rfl rfl hl.1 rfl rfl (Nat.le_of_ble_eq_true rfl) dX7_of_83 ⟨Nat.zero_le _, Nat.zero_le _⟩ (fun r12 w H locs hw hP hD hS => ?_)
            obtain ⟨⟨e1, e2⟩, z14⟩ := hw
            replace e1 : r12 = r12q := e1
            subst e1
            subst e2
            replace hP : va_P D vwCl (Mw h q cA fi0 fs0 ga0 gs0 pl0 it asd) H := hP
            replace hD : va_D A (Mw h q cA fi0 fs0 ga0 gs0 pl0 it asd) := hD
            refine lv_if_eq (tgt := 93) hx hb dX7_of_86 (by decide) (fun c15 => ?_) (fun c15 => ?_)
            · replace hf := it_of c15 hf
              refine lv_iconst (v := 0) hx hb dX7_of_93 (by decide) ?_
              rw [hQ]
              exact ret_i C0 hP hD hS (by have e := Option.some.inj hf; rw [← e]; exact ⟨rfl, rfl⟩) dX7_of_94
            · replace hf := ie_of c15 hf
              refine lv_iconst (v := 1) hx hb dX7_of_89 (by decide) ?_
              refine lv_goto (tgt := 94) hx hb dX7_of_90 (by decide) ?_
              rw [hQ]
              exact ret_i C0 hP hD hS (by have e := Option.some.inj hf; rw [← e]; exact ⟨rfl, rfl⟩) dX7_of_94
          · replace hf := ie_of c11 hf
            by_cases c16 : a2 = 4
            · replace hf := it_of c16 hf
              refine lv_tableIn (off := 82) (tgt := 95) hx hb dX7_of_13 (by rw [c16]; decide) (by rw [c16]; decide) (by rw [c16]; decide) (by decide) ?_
              refine lv_aload_n hx hb dX7_of_95 rfl (lv_at hl 0 rfl) ?_
              refine va_get (D := D) (ci := 7) (v := .ref (q 9)) (C := RX7) (T := TX7) (N := 73) hx hb hts fw_7 hown hK hP 0 rfl rfl 9 (by decide) (hts _ m_fieldLink_M_38_M_spell_aI) (fun _ h9 => h9) rfl dX7_of_96 ?_
              refine lv_iload_n hx hb dX7_of_99 rfl (lv_at hl 1 rfl) ?_
              obtain ⟨hi17, hf⟩ := gd_of hf
              refine va_iald hx hb hK hP 4 0 rfl rfl hi17 dX7_of_100 ?_
              rw [hQ]
              exact ret_i C0 hP hD hS (by have e := Option.some.inj hf; rw [← e]; exact ⟨rfl, rfl⟩) dX7_of_101
            · replace hf := ie_of c16 hf
              by_cases c18 : a2 = 5
              · replace hf := it_of c18 hf
                refine lv_tableIn (off := 89) (tgt := 102) hx hb dX7_of_13 (by rw [c18]; decide) (by rw [c18]; decide) (by rw [c18]; decide) (by decide) ?_
                refine lv_aload_n hx hb dX7_of_102 rfl (lv_at hl 0 rfl) ?_
                refine lv_iload_n hx hb dX7_of_103 rfl (lv_at hl 1 rfl) ?_
                obtain ⟨r19q, pl_20, hq21, hf⟩ := b2_of hf
                refine callVI (As := [.int a1]) (rest := []) (wr := []) C0 (c_X7_noise h q fi0 fs0 ga0 gs0 pl0 it asd a1 _ hq21) lk_X7_320_X7_noise rfl hP hD hS perm_nil 0 7 rfl rfl rfl hl.1 rfl rfl (Nat.le_of_ble_eq_true rfl) dX7_of_104 ⟨Nat.zero_le _, Nat.zero_le _⟩ (fun r19 w H locs hw hP hD hS => ?_)
                obtain ⟨e1, e2⟩ := hw
                replace e1 : r19 = r19q := e1
                subst e1
                subst e2
                replace hP : va_P D vwCl (Mw h q cA fi0 fs0 ga0 gs0 pl_20 it asd) H := hP.nil
                replace hD : va_D A (Mw h q cA fi0 fs0 ga0 gs0 pl_20 it asd) := hD.nil
                rw [hQ]
                exact ret_i C0 hP hD hS (by have e := Option.some.inj hf; rw [← e]; exact ⟨rfl, rfl⟩) dX7_of_107
              · replace hf := ie_of c18 hf
                by_cases c22 : a2 = 6
                · replace hf := it_of c22 hf
                  refine lv_tableIn (off := 95) (tgt := 108) hx hb dX7_of_13 (by rw [c22]; decide) (by rw [c22]; decide) (by rw [c22]; decide) (by decide) ?_
                  refine lv_aload_n hx hb dX7_of_108 rfl (lv_at hl 0 rfl) ?_
                  refine lv_iload_n hx hb dX7_of_109 rfl (lv_at hl 1 rfl) ?_
                  obtain ⟨r23q, fi_24, fs_25, ga_26, gs_27, pl_28, hq29, hf⟩ := b6_of hf
                  refine callVI (As := [.int a1]) (rest := []) (wr := []) C0 (c_X7_nerves h q fi0 fs0 ga0 gs0 pl0 it asd a1 _ hq29) lk_X7_376_X7_nerves rfl hP hD hS perm_nil 0 7 rfl rfl rfl hl.1 rfl rfl (Nat.le_of_ble_eq_true rfl) dX7_of_110 ⟨Nat.zero_le _, Nat.zero_le _⟩ (fun r23 w H locs hw hP hD hS => ?_)
                  obtain ⟨e1, e2⟩ := hw
                  replace e1 : r23 = r23q := e1
                  subst e1
                  subst e2
                  replace hP : va_P D vwCl (Mw h q cA fi_24 fs_25 ga_26 gs_27 pl_28 it asd) H := hP.nil
                  replace hD : va_D A (Mw h q cA fi_24 fs_25 ga_26 gs_27 pl_28 it asd) := hD.nil
                  rw [hQ]
                  exact ret_i C0 hP hD hS (by have e := Option.some.inj hf; rw [← e]; exact ⟨rfl, rfl⟩) dX7_of_113
                · replace hf := ie_of c22 hf
                  refine lv_tableOut (tgt := 114) hx hb dX7_of_13 (by have := lv_neT c5 (a := 0) (by decide); have := lv_neT c7 (a := 1) (by decide); have := lv_neT c9 (a := 2) (by decide); have := lv_neT c11 (a := 3) (by decide); have := lv_neT c16 (a := 4) (by decide); have := lv_neT c18 (a := 5) (by decide); have := lv_neT c22 (a := 6) (by decide); omega) (by decide) ?_
                  refine lv_sipush (v := (-10001)) hx hb dX7_of_114 (by decide) ?_
                  rw [hQ]
                  exact ret_i C0 hP hD hS (by have e := Option.some.inj hf; rw [← e]; exact ⟨rfl, rfl⟩) dX7_of_117
  · replace hf := it_of c4 hf
    refine lv_sipush (v := (-10001)) hx hb dX7_of_8 (by decide) ?_
    rw [hQ]
    exact ret_i C0 hP hD hS (by have e := Option.some.inj hf; rw [← e]; exact ⟨rfl, rfl⟩) dX7_of_11
-- can
noncomputable def k_X7_can_38 (a1 : Int32) (a2 : Int32) : Nat → Int32 → Int32 → Int32 → Int32 → (Nat → Int32) → (Nat → Int32) → (Nat → Nat → Int32) → (Nat → Nat → Int32) → (Nat → Int32) → Option (Int32 × (Nat → Int32) × (Nat → Int32) × (Nat → Nat → Int32) × (Nat → Nat → Int32) × (Nat → Int32))
  | 0, _, _, _, _, _, _, _, _, _ => none
  | n + 1, x3, x4, x5, x6, fi, fs, ga, gs, pl => if x6 < 0 then gd a1 6 (if a2 = 0 then some (x4, fi, fs, (va_up ga 7 (upd (ga 7) (Int32.toNatClampNeg a1) x3)), gs, pl) else some (x5, fi, fs, (va_up ga 7 (upd (ga 7) (Int32.toNatClampNeg a1) x3)), gs, pl)) else gd a1 6 (b6 (k_X7_isHeard fi fs (va_up ga 7 (upd (ga 7) (Int32.toNatClampNeg a1) x6)) gs pl) (fun r5 fi_6 fs_7 ga_8 gs_9 pl_10 => if r5 = 0 then k_X7_can_38 a1 a2 n x3 x4 x5 (x6 + (-1)) fi_6 fs_7 ga_8 gs_9 pl_10 else k_X7_can_38 a1 a2 n x3 (x4 + 1) x6 (x6 + (-1)) fi_6 fs_7 ga_8 gs_9 pl_10))
noncomputable def k_X7_can (a1 : Int32) (a2 : Int32) (fi0 : Nat → Int32) (fs0 : Nat → Int32) (ga0 : Nat → Nat → Int32) (gs0 : Nat → Nat → Int32) (pl0 : Nat → Int32) : Option (Int32 × (Nat → Int32) × (Nat → Int32) × (Nat → Nat → Int32) × (Nat → Nat → Int32) × (Nat → Int32)) := b1 (k_X7_isMan a1 fi0) (fun r1 => if r1 = 0 then some ((-1), fi0, fs0, ga0, gs0, pl0) else b1 (k_X7_in a2 0 1) (fun r5 => if r5 = 0 then some ((-1), fi0, fs0, ga0, gs0, pl0) else gd a1 6 (k_X7_can_38 a1 a2 100000 ((ga0 7) (Int32.toNatClampNeg a1)) 0 (-5) 9 fi0 fs0 ga0 gs0 pl0)))
set_option maxHeartbeats 4000000 in
set_option maxRecDepth 100000 in
theorem c_X7_can {l : Launch} {D : va_G} {cA : Nat → ClassId} (h : Nat) (q : Nat → Nat) (fi0 : Nat → Int32) (fs0 : Nat → Int32) (ga0 : Nat → Nat → Int32) (gs0 : Nat → Nat → Int32) (pl0 : Nat → Int32) (it : Nat → Int64) (asd : Nat → Int64) (a1 : Int32) (a2 : Int32) (o : Int32 × (Nat → Int32) × (Nat → Int32) × (Nat → Nat → Int32) × (Nat → Nat → Int32) × (Nat → Int32)) (hf : k_X7_can a1 a2 fi0 fs0 ga0 gs0 pl0 = some o) : CI l D cA yX7_can cX7_can 7 (some .int) 9 206 [.ref h, .int a1, .int a2] (Mw h q cA fi0 fs0 ga0 gs0 pl0 it asd) 0 0 (fun r w => r = o.1 ∧ w = (Mw h q cA o.2.1 o.2.2.1 o.2.2.2.1 o.2.2.2.2.1 o.2.2.2.2.2 it asd)) := by
  intro sz
  refine met_start (by decide) rfl ?_
  intro p e s m args below meth c ls hsz hargs C0 hname hP hD hS hl
  generalize hAe : va_A (Mw h q cA fi0 fs0 ga0 gs0 pl0 it asd) sz = A at C0 hD hS ⊢
  obtain ⟨hx, hb, hr, hml, hown, hts, hlk, hK, hA⟩ := id C0
  replace hl : lv_has ls 7 [(0, .ref h), (1, .int a1), (2, .int a2)] := hl
  obtain ⟨Q, hQ⟩ : ∃ Q : State → Prop, Q = QI below D A (fun r w => r = o.1 ∧ w = (Mw h q cA o.2.1 o.2.2.1 o.2.2.2.1 o.2.2.2.2.1 o.2.2.2.2.2 it asd)) args s 0 0 := ⟨_, rfl⟩
  refine cast (by rw [hQ]) (?_ : W p l e (RMx 9 206 0 0) s m args below meth c s.heap [] 0 0 Q (F0 m 0 ls []))
  have J38 : ∀ n : Nat, ∀ (x3 : Int32) (x4 : Int32) (x5 : Int32) (x6 : Int32) (fi : Nat → Int32) (fs : Nat → Int32) (ga : Nat → Nat → Int32) (gs : Nat → Nat → Int32) (pl : Nat → Int32), k_X7_can_38 a1 a2 n x3 x4 x5 x6 fi fs ga gs pl = some o → ∀ (H : Heap) (locs : List Loc), va_P D vwCl (Mw h q cA fi fs ga gs pl it asd) H → va_D A (Mw h q cA fi fs ga gs pl it asd) → va_S A s.heap H locs → ∀ ls : Array Slot, lv_has ls 7 [(0, .ref h), (1, .int a1), (2, .int a2), (3, .int x3), (4, .int x4), (5, .int x5), (6, .int x6)] → W p l e (RMx 9 206 0 0) s m args below meth c H locs 0 0 Q (F0 m 38 ls []) := by
    intro  n
    induction n with
    | zero =>
      intro x3 x4 x5 x6 fi fs ga gs pl hf
      rw [k_X7_can_38] at hf
      cases hf
    | succ n ih =>
      intro x3 x4 x5 x6 fi fs ga gs pl hf H locs hP hD hS ls hl
      rw [k_X7_can_38] at hf
      refine lv_iload hx hb dX7_can_38 (lv_at hl 6 rfl) ?_
      refine lv_if_lt (tgt := 74) hx hb dX7_can_40 (by decide) (fun c1 => ?_) (fun c1 => ?_)
      · replace hf := it_of c1 hf
        refine lv_aload_n hx hb dX7_can_74 rfl (lv_at hl 0 rfl) ?_
        refine va_get (D := D) (ci := 7) (v := .ref (q 7)) (C := RX7) (T := TX7) (N := 73) hx hb hts fw_7 hown hK hP 0 rfl rfl 7 (by decide) (hts _ m_fieldLink_M_32_M_v_aI) (fun _ h9 => h9) rfl dX7_can_75 ?_
        refine lv_iload_n hx hb dX7_can_78 rfl (lv_at hl 1 rfl) ?_
        refine lv_iload_n hx hb dX7_can_79 rfl (lv_at hl 3 rfl) ?_
        obtain ⟨hi2, hf⟩ := gd_of hf
        refine va_iast hx hb hK hP hD hS 2 0 rfl rfl hi2 dX7_can_80 (fun H locs hP hD hS => ?_)
        replace hP : va_P D vwCl (Mw h q cA fi fs (va_up ga 7 (upd (ga 7) (Int32.toNatClampNeg a1) x3)) gs pl it asd) H := hP
        replace hD : va_D A (Mw h q cA fi fs (va_up ga 7 (upd (ga 7) (Int32.toNatClampNeg a1) x3)) gs pl it asd) := hD
        refine lv_iload_n hx hb dX7_can_81 rfl (lv_at hl 2 rfl) ?_
        refine lv_if_ne (tgt := 90) hx hb dX7_can_82 (by decide) (fun c3 => ?_) (fun c3 => ?_)
        · replace hf := ie_of c3 hf
          refine lv_iload hx hb dX7_can_90 (lv_at hl 5 rfl) ?_
          rw [hQ]
          exact ret_i C0 hP hD hS (by have e := Option.some.inj hf; rw [← e]; exact ⟨rfl, rfl⟩) dX7_can_92
        · replace hf := it_of c3 hf
          refine lv_iload hx hb dX7_can_85 (lv_at hl 4 rfl) ?_
          refine lv_goto (tgt := 92) hx hb dX7_can_87 (by decide) ?_
          rw [hQ]
          exact ret_i C0 hP hD hS (by have e := Option.some.inj hf; rw [← e]; exact ⟨rfl, rfl⟩) dX7_can_92
      · replace hf := ie_of c1 hf
        refine lv_aload_n hx hb dX7_can_43 rfl (lv_at hl 0 rfl) ?_
        refine va_get (D := D) (ci := 7) (v := .ref (q 7)) (C := RX7) (T := TX7) (N := 73) hx hb hts fw_7 hown hK hP 0 rfl rfl 7 (by decide) (hts _ m_fieldLink_M_32_M_v_aI) (fun _ h9 => h9) rfl dX7_can_44 ?_
        refine lv_iload_n hx hb dX7_can_47 rfl (lv_at hl 1 rfl) ?_
        refine lv_iload hx hb dX7_can_48 (lv_at hl 6 rfl) ?_
        obtain ⟨hi4, hf⟩ := gd_of hf
        refine va_iast hx hb hK hP hD hS 2 0 rfl rfl hi4 dX7_can_50 (fun H locs hP hD hS => ?_)
        replace hP : va_P D vwCl (Mw h q cA fi fs (va_up ga 7 (upd (ga 7) (Int32.toNatClampNeg a1) x6)) gs pl it asd) H := hP
        replace hD : va_D A (Mw h q cA fi fs (va_up ga 7 (upd (ga 7) (Int32.toNatClampNeg a1) x6)) gs pl it asd) := hD
        refine lv_aload_n hx hb dX7_can_51 rfl (lv_at hl 0 rfl) ?_
        obtain ⟨r5q, fi_6, fs_7, ga_8, gs_9, pl_10, hq11, hf⟩ := b6_of hf
        refine callVI (As := []) (rest := []) (wr := []) C0 (c_X7_isHeard h q fi fs (va_up ga 7 (upd (ga 7) (Int32.toNatClampNeg a1) x6)) gs pl it asd _ hq11) lk_X7_373_X7_isHeard rfl hP hD hS perm_nil 0 7 rfl rfl rfl hl.1 rfl rfl (Nat.le_of_ble_eq_true rfl) dX7_can_52 ⟨Nat.zero_le _, Nat.zero_le _⟩ (fun r5 w H locs hw hP hD hS => ?_)
        obtain ⟨⟨e1, e2⟩, z12⟩ := hw
        replace e1 : r5 = r5q := e1
        subst e1
        subst e2
        replace hP : va_P D vwCl (Mw h q cA fi_6 fs_7 ga_8 gs_9 pl_10 it asd) H := hP.nil
        replace hD : va_D A (Mw h q cA fi_6 fs_7 ga_8 gs_9 pl_10 it asd) := hD.nil
        refine lv_if_ne (tgt := 61) hx hb dX7_can_55 (by decide) (fun c13 => ?_) (fun c13 => ?_)
        · replace hf := ie_of c13 hf
          refine lv_iinc (v := (x4 + 1)) (lv' := [(4, .int (x4 + 1)), (0, .ref h), (1, .int a1), (2, .int a2), (3, .int x3), (5, .int x5), (6, .int x6)]) hx hb dX7_can_61 hl (k := 4) rfl rfl (by decide) rfl (fun ls hl => ?_)
          refine lv_iload hx hb dX7_can_64 (lv_at hl 6 rfl) ?_
          refine lv_istore (lv' := [(5, .int x6), (4, .int (x4 + 1)), (0, .ref h), (1, .int a1), (2, .int a2), (3, .int x3), (6, .int x6)]) hx hb dX7_can_66 hl (by decide) rfl (fun ls hl => ?_)
          refine lv_iinc (v := (x6 + (-1))) (lv' := [(6, .int (x6 + (-1))), (5, .int x6), (4, .int (x4 + 1)), (0, .ref h), (1, .int a1), (2, .int a2), (3, .int x3)]) hx hb dX7_can_68 hl (k := 6) rfl rfl (by decide) rfl (fun ls hl => ?_)
          refine lv_goto (tgt := 38) hx hb dX7_can_71 (by decide) ?_
          exact ih x3 (x4 + 1) x6 (x6 + (-1)) fi_6 fs_7 ga_8 gs_9 pl_10 hf _ _ hP hD hS _ (lv_sub hl [3, 4, 5, 6, 2, 1, 0] rfl)
        · replace hf := it_of c13 hf
          refine lv_goto (tgt := 68) hx hb dX7_can_58 (by decide) ?_
          refine lv_iinc (v := (x6 + (-1))) (lv' := [(6, .int (x6 + (-1))), (0, .ref h), (1, .int a1), (2, .int a2), (3, .int x3), (4, .int x4), (5, .int x5)]) hx hb dX7_can_68 hl (k := 6) rfl rfl (by decide) rfl (fun ls hl => ?_)
          refine lv_goto (tgt := 38) hx hb dX7_can_71 (by decide) ?_
          exact ih x3 x4 x5 (x6 + (-1)) fi_6 fs_7 ga_8 gs_9 pl_10 hf _ _ hP hD hS _ (lv_sub hl [1, 2, 3, 4, 5, 6, 0] rfl)
  unfold k_X7_can at hf
  refine lv_aload_n hx hb dX7_can_0 rfl (lv_at hl 0 rfl) ?_
  refine lv_iload_n hx hb dX7_can_1 rfl (lv_at hl 1 rfl) ?_
  obtain ⟨r1q, hq2, hf⟩ := b1_of hf
  refine callVI (As := [.int a1]) (rest := []) (wr := []) C0 (c_X7_isMan h q fi0 fs0 ga0 gs0 pl0 it asd a1 _ hq2) lk_X7_245_X7_isMan rfl hP hD hS perm_nil 0 7 rfl rfl rfl hl.1 rfl rfl (Nat.le_of_ble_eq_true rfl) dX7_can_2 ⟨Nat.zero_le _, Nat.zero_le _⟩ (fun r1 w H locs hw hP hD hS => ?_)
  obtain ⟨⟨e1, e2⟩, z3⟩ := hw
  replace e1 : r1 = r1q := e1
  subst e1
  subst e2
  replace hP : va_P D vwCl (Mw h q cA fi0 fs0 ga0 gs0 pl0 it asd) H := hP.nil
  replace hD : va_D A (Mw h q cA fi0 fs0 ga0 gs0 pl0 it asd) := hD.nil
  refine lv_if_eq (tgt := 18) hx hb dX7_can_5 (by decide) (fun c4 => ?_) (fun c4 => ?_)
  · replace hf := it_of c4 hf
    refine lv_iconst (v := (-1)) hx hb dX7_can_18 (by decide) ?_
    rw [hQ]
    exact ret_i C0 hP hD hS (by have e := Option.some.inj hf; rw [← e]; exact ⟨rfl, rfl⟩) dX7_can_19
  · replace hf := ie_of c4 hf
    refine lv_aload_n hx hb dX7_can_8 rfl (lv_at hl 0 rfl) ?_
    refine lv_iload_n hx hb dX7_can_9 rfl (lv_at hl 2 rfl) ?_
    refine lv_iconst (v := 0) hx hb dX7_can_10 (by decide) ?_
    refine lv_iconst (v := 1) hx hb dX7_can_11 (by decide) ?_
    obtain ⟨r5q, hq6, hf⟩ := b1_of hf
    refine callVI (As := [.int a2, .int 0, .int 1]) (rest := []) (wr := (Mw h q cA fi0 fs0 ga0 gs0 pl0 it asd)) C0 (c_X7_in h a2 0 1 _ hq6) lk_X7_237_X7_in rfl hP hD hS (List.Perm.refl _) 0 7 rfl rfl rfl hl.1 rfl rfl (Nat.le_of_ble_eq_true rfl) dX7_can_12 ⟨Nat.zero_le _, Nat.zero_le _⟩ (fun r5 w H locs hw hP hD hS => ?_)
    obtain ⟨⟨e1, e2⟩, z7⟩ := hw
    replace e1 : r5 = r5q := e1
    subst e1
    subst e2
    replace hP : va_P D vwCl (Mw h q cA fi0 fs0 ga0 gs0 pl0 it asd) H := hP
    replace hD : va_D A (Mw h q cA fi0 fs0 ga0 gs0 pl0 it asd) := hD
    refine lv_if_ne (tgt := 20) hx hb dX7_can_15 (by decide) (fun c8 => ?_) (fun c8 => ?_)
    · replace hf := ie_of c8 hf
      refine lv_aload_n hx hb dX7_can_20 rfl (lv_at hl 0 rfl) ?_
      refine va_get (D := D) (ci := 7) (v := .ref (q 7)) (C := RX7) (T := TX7) (N := 73) hx hb hts fw_7 hown hK hP 0 rfl rfl 7 (by decide) (hts _ m_fieldLink_M_32_M_v_aI) (fun _ h9 => h9) rfl dX7_can_21 ?_
      refine lv_iload_n hx hb dX7_can_24 rfl (lv_at hl 1 rfl) ?_
      obtain ⟨hi9, hf⟩ := gd_of hf
      refine va_iald hx hb hK hP 2 0 rfl rfl hi9 dX7_can_25 ?_
      refine lv_istore_n (lv' := [(3, .int ((ga0 7) (Int32.toNatClampNeg a1))), (0, .ref h), (1, .int a1), (2, .int a2)]) hx hb dX7_can_26 rfl hl (by decide) rfl (fun ls hl => ?_)
      refine lv_iconst (v := 0) hx hb dX7_can_27 (by decide) ?_
      refine lv_istore (lv' := [(4, .int 0), (3, .int ((ga0 7) (Int32.toNatClampNeg a1))), (0, .ref h), (1, .int a1), (2, .int a2)]) hx hb dX7_can_28 hl (by decide) rfl (fun ls hl => ?_)
      refine lv_bipush (v := (-5)) hx hb dX7_can_30 (by decide) ?_
      refine lv_istore (lv' := [(5, .int (-5)), (4, .int 0), (3, .int ((ga0 7) (Int32.toNatClampNeg a1))), (0, .ref h), (1, .int a1), (2, .int a2)]) hx hb dX7_can_32 hl (by decide) rfl (fun ls hl => ?_)
      refine lv_bipush (v := 9) hx hb dX7_can_34 (by decide) ?_
      refine lv_istore (lv' := [(6, .int 9), (5, .int (-5)), (4, .int 0), (3, .int ((ga0 7) (Int32.toNatClampNeg a1))), (0, .ref h), (1, .int a1), (2, .int a2)]) hx hb dX7_can_36 hl (by decide) rfl (fun ls hl => ?_)
      exact J38 100000 ((ga0 7) (Int32.toNatClampNeg a1)) 0 (-5) 9 fi0 fs0 ga0 gs0 pl0 hf _ _ hP hD hS _ (lv_sub hl [4, 5, 6, 3, 2, 1, 0] rfl)
    · replace hf := it_of c8 hf
      refine lv_iconst (v := (-1)) hx hb dX7_can_18 (by decide) ?_
      rw [hQ]
      exact ret_i C0 hP hD hS (by have e := Option.some.inj hf; rw [← e]; exact ⟨rfl, rfl⟩) dX7_can_19
-- divisor
noncomputable def k_X7_divisor_5  : Nat → Int32 → Int32 → Option Int32
  | 0, _, _ => none
  | n + 1, x3, x4 => if x4 = 0 then some x3 else gz x4 (k_X7_divisor_5 n x4 (x3 - x3 / x4 * x4))
noncomputable def k_X7_divisor (a1 : Int32) (a2 : Int32) : Option Int32 := k_X7_divisor_5 100000 a1 a2
set_option maxHeartbeats 4000000 in
set_option maxRecDepth 100000 in
theorem c_X7_divisor {l : Launch} {D : va_G} {cA : Nat → ClassId} (h : Nat)  (a1 : Int32) (a2 : Int32) (o : Int32) (hf : k_X7_divisor a1 a2 = some o) : CI l D cA yX7_divisor cX7_divisor 6 (some .int) 0 0 [.ref h, .int a1, .int a2] ([] : va_W) 0 0 (fun r w => r = o ∧ w = ([] : va_W)) := by
  intro sz
  refine met_start (by decide) rfl ?_
  intro p e s m args below meth c ls hsz hargs C0 hname hP hD hS hl
  generalize hAe : va_A ([] : va_W) sz = A at C0 hD hS ⊢
  obtain ⟨hx, hb, hr, hml, hown, hts, hlk, hK, hA⟩ := id C0
  replace hl : lv_has ls 6 [(0, .ref h), (1, .int a1), (2, .int a2)] := hl
  obtain ⟨Q, hQ⟩ : ∃ Q : State → Prop, Q = QI below D A (fun r w => r = o ∧ w = ([] : va_W)) args s 0 0 := ⟨_, rfl⟩
  refine cast (by rw [hQ]) (?_ : W p l e (RMx 0 0 0 0) s m args below meth c s.heap [] 0 0 Q (F0 m 0 ls []))
  have J5 : ∀ n : Nat, ∀ (x3 : Int32) (x4 : Int32), k_X7_divisor_5 n x3 x4 = some o → ∀ (H : Heap) (locs : List Loc), va_P D vwCl ([] : va_W) H → va_D A ([] : va_W) → va_S A s.heap H locs → ∀ ls : Array Slot, lv_has ls 6 [(3, .int x3), (4, .int x4)] → W p l e (RMx 0 0 0 0) s m args below meth c H locs 0 0 Q (F0 m 5 ls []) := by
    intro  n
    induction n with
    | zero =>
      intro x3 x4 hf
      rw [k_X7_divisor_5] at hf
      cases hf
    | succ n ih =>
      intro x3 x4 hf H locs hP hD hS ls hl
      rw [k_X7_divisor_5] at hf
      refine lv_iload hx hb dX7_divisor_5 (lv_at hl 1 rfl) ?_
      refine lv_if_eq (tgt := 26) hx hb dX7_divisor_7 (by decide) (fun c1 => ?_) (fun c1 => ?_)
      · replace hf := it_of c1 hf
        refine lv_iload_n hx hb dX7_divisor_26 rfl (lv_at hl 0 rfl) ?_
        rw [hQ]
        exact ret_i C0 hP hD hS (by have e := Option.some.inj hf; rw [← e]; exact ⟨rfl, rfl⟩) dX7_divisor_27
      · replace hf := ie_of c1 hf
        refine lv_iload_n hx hb dX7_divisor_10 rfl (lv_at hl 0 rfl) ?_
        refine lv_iload hx hb dX7_divisor_11 (lv_at hl 1 rfl) ?_
        obtain ⟨hz2, hf⟩ := gz_of hf
        refine lv_irem hx hb dX7_divisor_13 hz2 ?_
        refine lv_istore (lv' := [(5, .int (x3 - x3 / x4 * x4)), (3, .int x3), (4, .int x4)]) hx hb dX7_divisor_14 hl (by decide) rfl (fun ls hl => ?_)
        refine lv_iload hx hb dX7_divisor_16 (lv_at hl 2 rfl) ?_
        refine lv_istore_n (lv' := [(3, .int x4), (5, .int (x3 - x3 / x4 * x4)), (4, .int x4)]) hx hb dX7_divisor_18 rfl hl (by decide) rfl (fun ls hl => ?_)
        refine lv_iload hx hb dX7_divisor_19 (lv_at hl 1 rfl) ?_
        refine lv_istore (lv' := [(4, .int (x3 - x3 / x4 * x4)), (3, .int x4), (5, .int (x3 - x3 / x4 * x4))]) hx hb dX7_divisor_21 hl (by decide) rfl (fun ls hl => ?_)
        refine lv_goto (tgt := 5) hx hb dX7_divisor_23 (by decide) ?_
        exact ih x4 (x3 - x3 / x4 * x4) hf _ _ hP hD hS _ (lv_sub hl [1, 0] rfl)
  unfold k_X7_divisor at hf
  refine lv_iload_n hx hb dX7_divisor_0 rfl (lv_at hl 1 rfl) ?_
  refine lv_istore_n (lv' := [(3, .int a1), (0, .ref h), (1, .int a1), (2, .int a2)]) hx hb dX7_divisor_1 rfl hl (by decide) rfl (fun ls hl => ?_)
  refine lv_iload_n hx hb dX7_divisor_2 rfl (lv_at hl 3 rfl) ?_
  refine lv_istore (lv' := [(4, .int a2), (3, .int a1), (0, .ref h), (1, .int a1), (2, .int a2)]) hx hb dX7_divisor_3 hl (by decide) rfl (fun ls hl => ?_)
  exact J5 100000 a1 a2 hf _ _ hP hD hS _ (lv_sub hl [1, 0] rfl)
-- lowest
noncomputable def k_X7_lowest (a1 : Int32) (a2 : Int32) (a3 : Int32) : Option Int64 := b1 (k_X7_divisor a1 a2) (fun r1 => if a3 = 0 then gz r1 (some (Int32.toInt64 (a1 / r1))) else gz r1 (some (Int32.toInt64 (a2 / r1))))
set_option maxHeartbeats 4000000 in
set_option maxRecDepth 100000 in
theorem c_X7_lowest {l : Launch} {D : va_G} {cA : Nat → ClassId} (h : Nat) (q : Nat → Nat) (fi : Nat → Int32) (fs : Nat → Int32) (ga : Nat → Nat → Int32) (gs : Nat → Nat → Int32) (pl : Nat → Int32) (it : Nat → Int64) (asd : Nat → Int64) (a1 : Int32) (a2 : Int32) (a3 : Int32) (o : Int64) (hf : k_X7_lowest a1 a2 a3 = some o) : CL l D cA yX7_lowest cX7_lowest 5 (some .long) 1 25 [.ref h, .int a1, .int a2, .int a3] (Mw h q cA fi fs ga gs pl it asd) 0 0 (fun r w => r = o ∧ w = (Mw h q cA fi fs ga gs pl it asd)) := by
  intro sz
  refine met_start (by decide) rfl ?_
  intro p e s m args below meth c ls hsz hargs C0 hname hP hD hS hl
  generalize hAe : va_A (Mw h q cA fi fs ga gs pl it asd) sz = A at C0 hD hS ⊢
  obtain ⟨hx, hb, hr, hml, hown, hts, hlk, hK, hA⟩ := id C0
  replace hl : lv_has ls 5 [(0, .ref h), (1, .int a1), (2, .int a2), (3, .int a3)] := hl
  obtain ⟨Q, hQ⟩ : ∃ Q : State → Prop, Q = QL below D A (fun r w => r = o ∧ w = (Mw h q cA fi fs ga gs pl it asd)) args s 0 0 := ⟨_, rfl⟩
  refine cast (by rw [hQ]) (?_ : W p l e (RMx 1 25 0 0) s m args below meth c s.heap [] 0 0 Q (F0 m 0 ls []))
  unfold k_X7_lowest at hf
  refine lv_aload_n hx hb dX7_lowest_0 rfl (lv_at hl 0 rfl) ?_
  refine lv_iload_n hx hb dX7_lowest_1 rfl (lv_at hl 1 rfl) ?_
  refine lv_iload_n hx hb dX7_lowest_2 rfl (lv_at hl 2 rfl) ?_
  obtain ⟨r1q, hq2, hf⟩ := b1_of hf
  refine callVI (As := [.int a1, .int a2]) (rest := []) (wr := (Mw h q cA fi fs ga gs pl it asd)) C0 (c_X7_divisor h a1 a2 _ hq2) lk_X7_379_X7_divisor rfl hP hD hS (List.Perm.refl _) 0 7 rfl rfl rfl hl.1 rfl rfl (Nat.le_of_ble_eq_true rfl) dX7_lowest_3 ⟨Nat.zero_le _, Nat.zero_le _⟩ (fun r1 w H locs hw hP hD hS => ?_)
  obtain ⟨e1, e2⟩ := hw
  replace e1 : r1 = r1q := e1
  subst e1
  subst e2
  replace hP : va_P D vwCl (Mw h q cA fi fs ga gs pl it asd) H := hP
  replace hD : va_D A (Mw h q cA fi fs ga gs pl it asd) := hD
  refine lv_istore (lv' := [(4, .int r1), (0, .ref h), (1, .int a1), (2, .int a2), (3, .int a3)]) hx hb dX7_lowest_6 hl (by decide) rfl (fun ls hl => ?_)
  refine lv_iload_n hx hb dX7_lowest_8 rfl (lv_at hl 4 rfl) ?_
  refine lv_if_ne (tgt := 20) hx hb dX7_lowest_9 (by decide) (fun c3 => ?_) (fun c3 => ?_)
  · replace hf := ie_of c3 hf
    refine lv_iload_n hx hb dX7_lowest_20 rfl (lv_at hl 3 rfl) ?_
    refine lv_iload hx hb dX7_lowest_21 (lv_at hl 0 rfl) ?_
    obtain ⟨hz4, hf⟩ := gz_of hf
    refine lv_idiv hx hb dX7_lowest_23 hz4 ?_
    refine lv_i2l (v := (Int32.toInt64 (a2 / r1))) hx hb dX7_lowest_24 rfl ?_
    rw [hQ]
    exact ret_l C0 hP hD hS (by have e := Option.some.inj hf; rw [← e]; exact ⟨rfl, rfl⟩) dX7_lowest_25
  · replace hf := it_of c3 hf
    refine lv_iload_n hx hb dX7_lowest_12 rfl (lv_at hl 2 rfl) ?_
    refine lv_iload hx hb dX7_lowest_13 (lv_at hl 0 rfl) ?_
    obtain ⟨hz5, hf⟩ := gz_of hf
    refine lv_idiv hx hb dX7_lowest_15 hz5 ?_
    refine lv_i2l (v := (Int32.toInt64 (a1 / r1))) hx hb dX7_lowest_16 rfl ?_
    refine lv_goto (tgt := 25) hx hb dX7_lowest_17 (by decide) ?_
    rw [hQ]
    exact ret_l C0 hP hD hS (by have e := Option.some.inj hf; rw [← e]; exact ⟨rfl, rfl⟩) dX7_lowest_25
-- odds
noncomputable def k_X7_odds_37 (a1 : Int32) (a2 : Int32) : Nat → Int32 → Int32 → (Nat → Int32) → (Nat → Int32) → (Nat → Nat → Int32) → (Nat → Nat → Int32) → (Nat → Int32) → Option (Int64 × (Nat → Int32) × (Nat → Int32) × (Nat → Nat → Int32) × (Nat → Nat → Int32) × (Nat → Int32))
  | 0, _, _, _, _, _, _, _ => none
  | n + 1, x3, x4, fi, fs, ga, gs, pl => if (fi 0) ≤ x4 then b1 (k_X7_lowest x3 (fi 0) a2) (fun r2 => some (r2, fi, fs, ga, gs, pl)) else b6 (k_X7_truthsBy ((fi 1) ^^^ (1 <<< (x4 &&& 31))) a1 fi fs ga gs pl) (fun r4 fi_5 fs_6 ga_7 gs_8 pl_9 => if r4 ≤ (fi_5 3) then k_X7_odds_37 a1 a2 n (x3 + 0) (x4 + 1) fi_5 fs_6 ga_7 gs_8 pl_9 else k_X7_odds_37 a1 a2 n (x3 + 1) (x4 + 1) fi_5 fs_6 ga_7 gs_8 pl_9)
noncomputable def k_X7_odds (a1 : Int32) (a2 : Int32) (fi0 : Nat → Int32) (fs0 : Nat → Int32) (ga0 : Nat → Nat → Int32) (gs0 : Nat → Nat → Int32) (pl0 : Nat → Int32) : Option (Int64 × (Nat → Int32) × (Nat → Int32) × (Nat → Nat → Int32) × (Nat → Nat → Int32) × (Nat → Int32)) := b1 (k_X7_in a1 0 20) (fun r1 => if r1 = 0 then some ((-9223372036854775808), fi0, fs0, ga0, gs0, pl0) else b1 (k_X7_in a2 0 1) (fun r5 => if r5 = 0 then some ((-9223372036854775808), fi0, fs0, ga0, gs0, pl0) else if (fi0 0) = 0 then some ((-9223372036854775808), fi0, fs0, ga0, gs0, pl0) else k_X7_odds_37 a1 a2 100000 0 0 fi0 fs0 ga0 gs0 pl0))
set_option maxHeartbeats 4000000 in
set_option maxRecDepth 100000 in
theorem c_X7_odds {l : Launch} {D : va_G} {cA : Nat → ClassId} (h : Nat) (q : Nat → Nat) (fi0 : Nat → Int32) (fs0 : Nat → Int32) (ga0 : Nat → Nat → Int32) (gs0 : Nat → Nat → Int32) (pl0 : Nat → Int32) (it : Nat → Int64) (asd : Nat → Int64) (a1 : Int32) (a2 : Int32) (o : Int64 × (Nat → Int32) × (Nat → Int32) × (Nat → Nat → Int32) × (Nat → Nat → Int32) × (Nat → Int32)) (hf : k_X7_odds a1 a2 fi0 fs0 ga0 gs0 pl0 = some o) : CL l D cA yX7_odds cX7_odds 5 (some .long) 9 207 [.ref h, .int a1, .int a2] (Mw h q cA fi0 fs0 ga0 gs0 pl0 it asd) 0 0 (fun r w => r = o.1 ∧ w = (Mw h q cA o.2.1 o.2.2.1 o.2.2.2.1 o.2.2.2.2.1 o.2.2.2.2.2 it asd)) := by
  intro sz
  refine met_start (by decide) rfl ?_
  intro p e s m args below meth c ls hsz hargs C0 hname hP hD hS hl
  generalize hAe : va_A (Mw h q cA fi0 fs0 ga0 gs0 pl0 it asd) sz = A at C0 hD hS ⊢
  obtain ⟨hx, hb, hr, hml, hown, hts, hlk, hK, hA⟩ := id C0
  replace hl : lv_has ls 5 [(0, .ref h), (1, .int a1), (2, .int a2)] := hl
  obtain ⟨Q, hQ⟩ : ∃ Q : State → Prop, Q = QL below D A (fun r w => r = o.1 ∧ w = (Mw h q cA o.2.1 o.2.2.1 o.2.2.2.1 o.2.2.2.2.1 o.2.2.2.2.2 it asd)) args s 0 0 := ⟨_, rfl⟩
  refine cast (by rw [hQ]) (?_ : W p l e (RMx 9 207 0 0) s m args below meth c s.heap [] 0 0 Q (F0 m 0 ls []))
  have J37 : ∀ n : Nat, ∀ (x3 : Int32) (x4 : Int32) (fi : Nat → Int32) (fs : Nat → Int32) (ga : Nat → Nat → Int32) (gs : Nat → Nat → Int32) (pl : Nat → Int32), k_X7_odds_37 a1 a2 n x3 x4 fi fs ga gs pl = some o → ∀ (H : Heap) (locs : List Loc), va_P D vwCl (Mw h q cA fi fs ga gs pl it asd) H → va_D A (Mw h q cA fi fs ga gs pl it asd) → va_S A s.heap H locs → ∀ ls : Array Slot, lv_has ls 5 [(0, .ref h), (1, .int a1), (2, .int a2), (3, .int x3), (4, .int x4)] → W p l e (RMx 9 207 0 0) s m args below meth c H locs 0 0 Q (F0 m 37 ls []) := by
    intro  n
    induction n with
    | zero =>
      intro x3 x4 fi fs ga gs pl hf
      rw [k_X7_odds_37] at hf
      cases hf
    | succ n ih =>
      intro x3 x4 fi fs ga gs pl hf H locs hP hD hS ls hl
      rw [k_X7_odds_37] at hf
      refine lv_iload hx hb dX7_odds_37 (lv_at hl 4 rfl) ?_
      refine lv_aload_n hx hb dX7_odds_39 rfl (lv_at hl 0 rfl) ?_
      refine va_get (D := D) (ci := 7) (v := .int (fi 0)) (C := RX7) (T := TX7) (N := 73) hx hb hts fw_7 hown hK hP 0 rfl rfl 0 (by decide) (hts _ m_fieldLink_M_7_M_men_I) (fun _ h9 => h9) rfl dX7_odds_40 ?_
      refine lv_icmp_ge (tgt := 81) hx hb dX7_odds_43 (by decide) (fun c1 => ?_) (fun c1 => ?_)
      · replace hf := it_of c1 hf
        refine lv_aload_n hx hb dX7_odds_81 rfl (lv_at hl 0 rfl) ?_
        refine lv_iload_n hx hb dX7_odds_82 rfl (lv_at hl 3 rfl) ?_
        refine lv_aload_n hx hb dX7_odds_83 rfl (lv_at hl 0 rfl) ?_
        refine va_get (D := D) (ci := 7) (v := .int (fi 0)) (C := RX7) (T := TX7) (N := 73) hx hb hts fw_7 hown hK hP 0 rfl rfl 0 (by decide) (hts _ m_fieldLink_M_7_M_men_I) (fun _ h9 => h9) rfl dX7_odds_84 ?_
        refine lv_iload_n hx hb dX7_odds_87 rfl (lv_at hl 2 rfl) ?_
        obtain ⟨r2q, hq3, hf⟩ := b1_of hf
        refine callVL (As := [.int x3, .int (fi 0), .int a2]) (rest := []) (wr := []) C0 (c_X7_lowest h q fi fs ga gs pl it asd x3 (fi 0) a2 _ hq3) lk_X7_384_X7_lowest rfl hP hD hS perm_nil 0 7 rfl rfl rfl hl.1 rfl rfl (Nat.le_of_ble_eq_true rfl) dX7_odds_88 ⟨Nat.zero_le _, Nat.zero_le _⟩ (fun r2 w H locs hw hP hD hS => ?_)
        obtain ⟨e1, e2⟩ := hw
        replace e1 : r2 = r2q := e1
        subst e1
        subst e2
        replace hP : va_P D vwCl (Mw h q cA fi fs ga gs pl it asd) H := hP.nil
        replace hD : va_D A (Mw h q cA fi fs ga gs pl it asd) := hD.nil
        rw [hQ]
        exact ret_l C0 hP hD hS (by have e := Option.some.inj hf; rw [← e]; exact ⟨rfl, rfl⟩) dX7_odds_91
      · replace hf := ie_of c1 hf
        refine lv_iload_n hx hb dX7_odds_46 rfl (lv_at hl 3 rfl) ?_
        refine lv_aload_n hx hb dX7_odds_47 rfl (lv_at hl 0 rfl) ?_
        refine lv_aload_n hx hb dX7_odds_48 rfl (lv_at hl 0 rfl) ?_
        refine va_get (D := D) (ci := 7) (v := .int (fi 1)) (C := RX7) (T := TX7) (N := 73) hx hb hts fw_7 hown hK hP 0 rfl rfl 1 (by decide) (hts _ m_fieldLink_M_13_M_up_I) (fun _ h9 => h9) rfl dX7_odds_49 ?_
        refine lv_iconst (v := 1) hx hb dX7_odds_52 (by decide) ?_
        refine lv_iload hx hb dX7_odds_53 (lv_at hl 4 rfl) ?_
        refine lv_ishl hx hb dX7_odds_55 ?_
        refine lv_ixor hx hb dX7_odds_56 ?_
        refine lv_iload_n hx hb dX7_odds_57 rfl (lv_at hl 1 rfl) ?_
        obtain ⟨r4q, fi_5, fs_6, ga_7, gs_8, pl_9, hq10, hf⟩ := b6_of hf
        refine callVI (As := [.int ((fi 1) ^^^ (1 <<< (x4 &&& 31))), .int a1]) (rest := [.int x3]) (wr := []) C0 (c_X7_truthsBy h q fi fs ga gs pl it asd ((fi 1) ^^^ (1 <<< (x4 &&& 31))) a1 _ hq10) lk_X7_360_X7_truthsBy rfl hP hD hS perm_nil 0 7 rfl rfl rfl hl.1 rfl rfl (Nat.le_of_ble_eq_true rfl) dX7_odds_58 ⟨Nat.zero_le _, Nat.zero_le _⟩ (fun r4 w H locs hw hP hD hS => ?_)
        obtain ⟨e1, e2⟩ := hw
        replace e1 : r4 = r4q := e1
        subst e1
        subst e2
        replace hP : va_P D vwCl (Mw h q cA fi_5 fs_6 ga_7 gs_8 pl_9 it asd) H := hP.nil
        replace hD : va_D A (Mw h q cA fi_5 fs_6 ga_7 gs_8 pl_9 it asd) := hD.nil
        refine lv_aload_n hx hb dX7_odds_61 rfl (lv_at hl 0 rfl) ?_
        refine va_get (D := D) (ci := 7) (v := .int (fi_5 3)) (C := RX7) (T := TX7) (N := 73) hx hb hts fw_7 hown hK hP 0 rfl rfl 3 (by decide) (hts _ m_fieldLink_M_19_M_truths_I) (fun _ h9 => h9) rfl dX7_odds_62 ?_
        refine lv_icmp_le (tgt := 72) hx hb dX7_odds_65 (by decide) (fun c11 => ?_) (fun c11 => ?_)
        · replace hf := it_of c11 hf
          refine lv_iconst (v := 0) hx hb dX7_odds_72 (by decide) ?_
          refine lv_iadd hx hb dX7_odds_73 ?_
          refine lv_istore_n (lv' := [(3, .int (x3 + 0)), (0, .ref h), (1, .int a1), (2, .int a2), (4, .int x4)]) hx hb dX7_odds_74 rfl hl (by decide) rfl (fun ls hl => ?_)
          refine lv_iinc (v := (x4 + 1)) (lv' := [(4, .int (x4 + 1)), (3, .int (x3 + 0)), (0, .ref h), (1, .int a1), (2, .int a2)]) hx hb dX7_odds_75 hl (k := 4) rfl rfl (by decide) rfl (fun ls hl => ?_)
          refine lv_goto (tgt := 37) hx hb dX7_odds_78 (by decide) ?_
          exact ih (x3 + 0) (x4 + 1) fi_5 fs_6 ga_7 gs_8 pl_9 hf _ _ hP hD hS _ (lv_sub hl [2, 3, 4, 1, 0] rfl)
        · replace hf := ie_of c11 hf
          refine lv_iconst (v := 1) hx hb dX7_odds_68 (by decide) ?_
          refine lv_goto (tgt := 73) hx hb dX7_odds_69 (by decide) ?_
          refine lv_iadd hx hb dX7_odds_73 ?_
          refine lv_istore_n (lv' := [(3, .int (x3 + 1)), (0, .ref h), (1, .int a1), (2, .int a2), (4, .int x4)]) hx hb dX7_odds_74 rfl hl (by decide) rfl (fun ls hl => ?_)
          refine lv_iinc (v := (x4 + 1)) (lv' := [(4, .int (x4 + 1)), (3, .int (x3 + 1)), (0, .ref h), (1, .int a1), (2, .int a2)]) hx hb dX7_odds_75 hl (k := 4) rfl rfl (by decide) rfl (fun ls hl => ?_)
          refine lv_goto (tgt := 37) hx hb dX7_odds_78 (by decide) ?_
          exact ih (x3 + 1) (x4 + 1) fi_5 fs_6 ga_7 gs_8 pl_9 hf _ _ hP hD hS _ (lv_sub hl [2, 3, 4, 1, 0] rfl)
  unfold k_X7_odds at hf
  refine lv_aload_n hx hb dX7_odds_0 rfl (lv_at hl 0 rfl) ?_
  refine lv_iload_n hx hb dX7_odds_1 rfl (lv_at hl 1 rfl) ?_
  refine lv_iconst (v := 0) hx hb dX7_odds_2 (by decide) ?_
  refine lv_bipush (v := 20) hx hb dX7_odds_3 (by decide) ?_
  obtain ⟨r1q, hq2, hf⟩ := b1_of hf
  refine callVI (As := [.int a1, .int 0, .int 20]) (rest := []) (wr := (Mw h q cA fi0 fs0 ga0 gs0 pl0 it asd)) C0 (c_X7_in h a1 0 20 _ hq2) lk_X7_237_X7_in rfl hP hD hS (List.Perm.refl _) 0 7 rfl rfl rfl hl.1 rfl rfl (Nat.le_of_ble_eq_true rfl) dX7_odds_5 ⟨Nat.zero_le _, Nat.zero_le _⟩ (fun r1 w H locs hw hP hD hS => ?_)
  obtain ⟨⟨e1, e2⟩, z3⟩ := hw
  replace e1 : r1 = r1q := e1
  subst e1
  subst e2
  replace hP : va_P D vwCl (Mw h q cA fi0 fs0 ga0 gs0 pl0 it asd) H := hP
  replace hD : va_D A (Mw h q cA fi0 fs0 ga0 gs0 pl0 it asd) := hD
  refine lv_if_eq (tgt := 28) hx hb dX7_odds_8 (by decide) (fun c4 => ?_) (fun c4 => ?_)
  · replace hf := it_of c4 hf
    refine lv_ldc2 (v := (-9223372036854775808)) hx hb hown (hts _ m_constantLong_M_382_n9223372036854775808) dX7_odds_28 ?_
    rw [hQ]
    exact ret_l C0 hP hD hS (by have e := Option.some.inj hf; rw [← e]; exact ⟨rfl, rfl⟩) dX7_odds_31
  · replace hf := ie_of c4 hf
    refine lv_aload_n hx hb dX7_odds_11 rfl (lv_at hl 0 rfl) ?_
    refine lv_iload_n hx hb dX7_odds_12 rfl (lv_at hl 2 rfl) ?_
    refine lv_iconst (v := 0) hx hb dX7_odds_13 (by decide) ?_
    refine lv_iconst (v := 1) hx hb dX7_odds_14 (by decide) ?_
    obtain ⟨r5q, hq6, hf⟩ := b1_of hf
    refine callVI (As := [.int a2, .int 0, .int 1]) (rest := []) (wr := (Mw h q cA fi0 fs0 ga0 gs0 pl0 it asd)) C0 (c_X7_in h a2 0 1 _ hq6) lk_X7_237_X7_in rfl hP hD hS (List.Perm.refl _) 0 7 rfl rfl rfl hl.1 rfl rfl (Nat.le_of_ble_eq_true rfl) dX7_odds_15 ⟨Nat.zero_le _, Nat.zero_le _⟩ (fun r5 w H locs hw hP hD hS => ?_)
    obtain ⟨⟨e1, e2⟩, z7⟩ := hw
    replace e1 : r5 = r5q := e1
    subst e1
    subst e2
    replace hP : va_P D vwCl (Mw h q cA fi0 fs0 ga0 gs0 pl0 it asd) H := hP
    replace hD : va_D A (Mw h q cA fi0 fs0 ga0 gs0 pl0 it asd) := hD
    refine lv_if_eq (tgt := 28) hx hb dX7_odds_18 (by decide) (fun c8 => ?_) (fun c8 => ?_)
    · replace hf := it_of c8 hf
      refine lv_ldc2 (v := (-9223372036854775808)) hx hb hown (hts _ m_constantLong_M_382_n9223372036854775808) dX7_odds_28 ?_
      rw [hQ]
      exact ret_l C0 hP hD hS (by have e := Option.some.inj hf; rw [← e]; exact ⟨rfl, rfl⟩) dX7_odds_31
    · replace hf := ie_of c8 hf
      refine lv_aload_n hx hb dX7_odds_21 rfl (lv_at hl 0 rfl) ?_
      refine va_get (D := D) (ci := 7) (v := .int (fi0 0)) (C := RX7) (T := TX7) (N := 73) hx hb hts fw_7 hown hK hP 0 rfl rfl 0 (by decide) (hts _ m_fieldLink_M_7_M_men_I) (fun _ h9 => h9) rfl dX7_odds_22 ?_
      refine lv_if_ne (tgt := 32) hx hb dX7_odds_25 (by decide) (fun c9 => ?_) (fun c9 => ?_)
      · replace hf := ie_of c9 hf
        refine lv_iconst (v := 0) hx hb dX7_odds_32 (by decide) ?_
        refine lv_istore_n (lv' := [(3, .int 0), (0, .ref h), (1, .int a1), (2, .int a2)]) hx hb dX7_odds_33 rfl hl (by decide) rfl (fun ls hl => ?_)
        refine lv_iconst (v := 0) hx hb dX7_odds_34 (by decide) ?_
        refine lv_istore (lv' := [(4, .int 0), (3, .int 0), (0, .ref h), (1, .int a1), (2, .int a2)]) hx hb dX7_odds_35 hl (by decide) rfl (fun ls hl => ?_)
        exact J37 100000 0 0 fi0 fs0 ga0 gs0 pl0 hf _ _ hP hD hS _ (lv_sub hl [2, 3, 4, 1, 0] rfl)
      · replace hf := it_of c9 hf
        refine lv_ldc2 (v := (-9223372036854775808)) hx hb hown (hts _ m_constantLong_M_382_n9223372036854775808) dX7_odds_28 ?_
        rw [hQ]
        exact ret_l C0 hP hD hS (by have e := Option.some.inj hf; rw [← e]; exact ⟨rfl, rfl⟩) dX7_odds_31
-- mean
noncomputable def k_X7_mean_32 (a1 : Int32) (fi : Nat → Int32) (ga : Nat → Nat → Int32) : Nat → Int32 → Int32 → Int32 → Option Int64
  | 0, _, _, _ => none
  | n + 1, x2, x3, x4 => if (fi 0) ≤ x4 then b1 (k_X7_lowest x3 x2 a1) (fun r2 => some r2) else b1 (k_X7_has (fi 1) x4) (fun r4 => if r4 = 0 then gd x4 6 (k_X7_mean_32 a1 fi ga n x2 (x3 + ((ga 8) (Int32.toNatClampNeg x4))) (x4 + 1)) else k_X7_mean_32 a1 fi ga n x2 (x3 + 0) (x4 + 1))
noncomputable def k_X7_mean (a1 : Int32) (fi : Nat → Int32) (ga : Nat → Nat → Int32) : Option Int64 := b1 (k_X7_below fi) (fun r1 => b1 (k_X7_bits r1) (fun r3 => b1 (k_X7_in a1 0 1) (fun r5 => if r5 = 0 then some (-9223372036854775808) else if r3 = 0 then some (-9223372036854775808) else k_X7_mean_32 a1 fi ga 100000 r3 0 0)))
set_option maxHeartbeats 4000000 in
set_option maxRecDepth 100000 in
theorem c_X7_mean {l : Launch} {D : va_G} {cA : Nat → ClassId} (h : Nat) (q : Nat → Nat) (fi : Nat → Int32) (fs : Nat → Int32) (ga : Nat → Nat → Int32) (gs : Nat → Nat → Int32) (pl : Nat → Int32) (it : Nat → Int64) (asd : Nat → Int64) (a1 : Int32) (o : Int64) (hf : k_X7_mean a1 fi ga = some o) : CL l D cA yX7_mean cX7_mean 5 (some .long) 2 49 [.ref h, .int a1] (Mw h q cA fi fs ga gs pl it asd) 0 0 (fun r w => r = o ∧ w = (Mw h q cA fi fs ga gs pl it asd)) := by
  intro sz
  refine met_start (by decide) rfl ?_
  intro p e s m args below meth c ls hsz hargs C0 hname hP hD hS hl
  generalize hAe : va_A (Mw h q cA fi fs ga gs pl it asd) sz = A at C0 hD hS ⊢
  obtain ⟨hx, hb, hr, hml, hown, hts, hlk, hK, hA⟩ := id C0
  replace hl : lv_has ls 5 [(0, .ref h), (1, .int a1)] := hl
  obtain ⟨Q, hQ⟩ : ∃ Q : State → Prop, Q = QL below D A (fun r w => r = o ∧ w = (Mw h q cA fi fs ga gs pl it asd)) args s 0 0 := ⟨_, rfl⟩
  refine cast (by rw [hQ]) (?_ : W p l e (RMx 2 49 0 0) s m args below meth c s.heap [] 0 0 Q (F0 m 0 ls []))
  have J32 : ∀ n : Nat, ∀ (x2 : Int32) (x3 : Int32) (x4 : Int32), k_X7_mean_32 a1 fi ga n x2 x3 x4 = some o → ∀ (H : Heap) (locs : List Loc), va_P D vwCl (Mw h q cA fi fs ga gs pl it asd) H → va_D A (Mw h q cA fi fs ga gs pl it asd) → va_S A s.heap H locs → ∀ ls : Array Slot, lv_has ls 5 [(0, .ref h), (1, .int a1), (2, .int x2), (3, .int x3), (4, .int x4)] → W p l e (RMx 2 49 0 0) s m args below meth c H locs 0 0 Q (F0 m 32 ls []) := by
    intro  n
    induction n with
    | zero =>
      intro x2 x3 x4 hf
      rw [k_X7_mean_32] at hf
      cases hf
    | succ n ih =>
      intro x2 x3 x4 hf H locs hP hD hS ls hl
      rw [k_X7_mean_32] at hf
      refine lv_iload hx hb dX7_mean_32 (lv_at hl 4 rfl) ?_
      refine lv_aload_n hx hb dX7_mean_34 rfl (lv_at hl 0 rfl) ?_
      refine va_get (D := D) (ci := 7) (v := .int (fi 0)) (C := RX7) (T := TX7) (N := 73) hx hb hts fw_7 hown hK hP 0 rfl rfl 0 (by decide) (hts _ m_fieldLink_M_7_M_men_I) (fun _ h9 => h9) rfl dX7_mean_35 ?_
      refine lv_icmp_ge (tgt := 74) hx hb dX7_mean_38 (by decide) (fun c1 => ?_) (fun c1 => ?_)
      · replace hf := it_of c1 hf
        refine lv_aload_n hx hb dX7_mean_74 rfl (lv_at hl 0 rfl) ?_
        refine lv_iload_n hx hb dX7_mean_75 rfl (lv_at hl 3 rfl) ?_
        refine lv_iload_n hx hb dX7_mean_76 rfl (lv_at hl 2 rfl) ?_
        refine lv_iload_n hx hb dX7_mean_77 rfl (lv_at hl 1 rfl) ?_
        obtain ⟨r2q, hq3, hf⟩ := b1_of hf
        refine callVL (As := [.int x3, .int x2, .int a1]) (rest := []) (wr := []) C0 (c_X7_lowest h q fi fs ga gs pl it asd x3 x2 a1 _ hq3) lk_X7_384_X7_lowest rfl hP hD hS perm_nil 0 7 rfl rfl rfl hl.1 rfl rfl (Nat.le_of_ble_eq_true rfl) dX7_mean_78 ⟨Nat.zero_le _, Nat.zero_le _⟩ (fun r2 w H locs hw hP hD hS => ?_)
        obtain ⟨e1, e2⟩ := hw
        replace e1 : r2 = r2q := e1
        subst e1
        subst e2
        replace hP : va_P D vwCl (Mw h q cA fi fs ga gs pl it asd) H := hP.nil
        replace hD : va_D A (Mw h q cA fi fs ga gs pl it asd) := hD.nil
        rw [hQ]
        exact ret_l C0 hP hD hS (by have e := Option.some.inj hf; rw [← e]; exact ⟨rfl, rfl⟩) dX7_mean_81
      · replace hf := ie_of c1 hf
        refine lv_iload_n hx hb dX7_mean_41 rfl (lv_at hl 3 rfl) ?_
        refine lv_aload_n hx hb dX7_mean_42 rfl (lv_at hl 0 rfl) ?_
        refine lv_aload_n hx hb dX7_mean_43 rfl (lv_at hl 0 rfl) ?_
        refine va_get (D := D) (ci := 7) (v := .int (fi 1)) (C := RX7) (T := TX7) (N := 73) hx hb hts fw_7 hown hK hP 0 rfl rfl 1 (by decide) (hts _ m_fieldLink_M_13_M_up_I) (fun _ h9 => h9) rfl dX7_mean_44 ?_
        refine lv_iload hx hb dX7_mean_47 (lv_at hl 4 rfl) ?_
        obtain ⟨r4q, hq5, hf⟩ := b1_of hf
        refine callVI (As := [.int (fi 1), .int x4]) (rest := [.int x3]) (wr := (Mw h q cA fi fs ga gs pl it asd)) C0 (c_X7_has h (fi 1) x4 _ hq5) lk_X7_233_X7_has rfl hP hD hS (List.Perm.refl _) 0 7 rfl rfl rfl hl.1 rfl rfl (Nat.le_of_ble_eq_true rfl) dX7_mean_49 ⟨Nat.zero_le _, Nat.zero_le _⟩ (fun r4 w H locs hw hP hD hS => ?_)
        obtain ⟨⟨e1, e2⟩, z6⟩ := hw
        replace e1 : r4 = r4q := e1
        subst e1
        subst e2
        replace hP : va_P D vwCl (Mw h q cA fi fs ga gs pl it asd) H := hP
        replace hD : va_D A (Mw h q cA fi fs ga gs pl it asd) := hD
        refine lv_if_eq (tgt := 59) hx hb dX7_mean_52 (by decide) (fun c7 => ?_) (fun c7 => ?_)
        · replace hf := it_of c7 hf
          refine lv_aload_n hx hb dX7_mean_59 rfl (lv_at hl 0 rfl) ?_
          refine va_get (D := D) (ci := 7) (v := .ref (q 8)) (C := RX7) (T := TX7) (N := 73) hx hb hts fw_7 hown hK hP 0 rfl rfl 8 (by decide) (hts _ m_fieldLink_M_35_M_nerve_aI) (fun _ h9 => h9) rfl dX7_mean_60 ?_
          refine lv_iload hx hb dX7_mean_63 (lv_at hl 4 rfl) ?_
          obtain ⟨hi8, hf⟩ := gd_of hf
          refine va_iald hx hb hK hP 3 0 rfl rfl hi8 dX7_mean_65 ?_
          refine lv_iadd hx hb dX7_mean_66 ?_
          refine lv_istore_n (lv' := [(3, .int (x3 + ((ga 8) (Int32.toNatClampNeg x4)))), (0, .ref h), (1, .int a1), (2, .int x2), (4, .int x4)]) hx hb dX7_mean_67 rfl hl (by decide) rfl (fun ls hl => ?_)
          refine lv_iinc (v := (x4 + 1)) (lv' := [(4, .int (x4 + 1)), (3, .int (x3 + ((ga 8) (Int32.toNatClampNeg x4)))), (0, .ref h), (1, .int a1), (2, .int x2)]) hx hb dX7_mean_68 hl (k := 4) rfl rfl (by decide) rfl (fun ls hl => ?_)
          refine lv_goto (tgt := 32) hx hb dX7_mean_71 (by decide) ?_
          exact ih x2 (x3 + ((ga 8) (Int32.toNatClampNeg x4))) (x4 + 1) hf _ _ hP hD hS _ (lv_sub hl [2, 3, 4, 1, 0] rfl)
        · replace hf := ie_of c7 hf
          refine lv_iconst (v := 0) hx hb dX7_mean_55 (by decide) ?_
          refine lv_goto (tgt := 66) hx hb dX7_mean_56 (by decide) ?_
          refine lv_iadd hx hb dX7_mean_66 ?_
          refine lv_istore_n (lv' := [(3, .int (x3 + 0)), (0, .ref h), (1, .int a1), (2, .int x2), (4, .int x4)]) hx hb dX7_mean_67 rfl hl (by decide) rfl (fun ls hl => ?_)
          refine lv_iinc (v := (x4 + 1)) (lv' := [(4, .int (x4 + 1)), (3, .int (x3 + 0)), (0, .ref h), (1, .int a1), (2, .int x2)]) hx hb dX7_mean_68 hl (k := 4) rfl rfl (by decide) rfl (fun ls hl => ?_)
          refine lv_goto (tgt := 32) hx hb dX7_mean_71 (by decide) ?_
          exact ih x2 (x3 + 0) (x4 + 1) hf _ _ hP hD hS _ (lv_sub hl [2, 3, 4, 1, 0] rfl)
  unfold k_X7_mean at hf
  refine lv_aload_n hx hb dX7_mean_0 rfl (lv_at hl 0 rfl) ?_
  refine lv_aload_n hx hb dX7_mean_1 rfl (lv_at hl 0 rfl) ?_
  obtain ⟨r1q, hq2, hf⟩ := b1_of hf
  refine callVI (As := []) (rest := [.ref h]) (wr := []) C0 (c_X7_below h q fi fs ga gs pl it asd _ hq2) lk_X7_348_X7_below rfl hP hD hS perm_nil 0 7 rfl rfl rfl hl.1 rfl rfl (Nat.le_of_ble_eq_true rfl) dX7_mean_2 ⟨Nat.zero_le _, Nat.zero_le _⟩ (fun r1 w H locs hw hP hD hS => ?_)
  obtain ⟨e1, e2⟩ := hw
  replace e1 : r1 = r1q := e1
  subst e1
  subst e2
  replace hP : va_P D vwCl (Mw h q cA fi fs ga gs pl it asd) H := hP.nil
  replace hD : va_D A (Mw h q cA fi fs ga gs pl it asd) := hD.nil
  obtain ⟨r3q, hq4, hf⟩ := b1_of hf
  refine callVI (As := [.int r1]) (rest := []) (wr := []) C0 (c_X7_bits h q fi fs ga gs pl it asd r1 _ hq4) lk_X7_363_X7_bits rfl hP hD hS perm_nil 0 7 rfl rfl rfl hl.1 rfl rfl (Nat.le_of_ble_eq_true rfl) dX7_mean_5 ⟨Nat.zero_le _, Nat.zero_le _⟩ (fun r3 w H locs hw hP hD hS => ?_)
  obtain ⟨e1, e2⟩ := hw
  replace e1 : r3 = r3q := e1
  subst e1
  subst e2
  replace hP : va_P D vwCl (Mw h q cA fi fs ga gs pl it asd) H := hP.nil
  replace hD : va_D A (Mw h q cA fi fs ga gs pl it asd) := hD.nil
  refine lv_istore_n (lv' := [(2, .int r3), (0, .ref h), (1, .int a1)]) hx hb dX7_mean_8 rfl hl (by decide) rfl (fun ls hl => ?_)
  refine lv_aload_n hx hb dX7_mean_9 rfl (lv_at hl 1 rfl) ?_
  refine lv_iload_n hx hb dX7_mean_10 rfl (lv_at hl 2 rfl) ?_
  refine lv_iconst (v := 0) hx hb dX7_mean_11 (by decide) ?_
  refine lv_iconst (v := 1) hx hb dX7_mean_12 (by decide) ?_
  obtain ⟨r5q, hq6, hf⟩ := b1_of hf
  refine callVI (As := [.int a1, .int 0, .int 1]) (rest := []) (wr := (Mw h q cA fi fs ga gs pl it asd)) C0 (c_X7_in h a1 0 1 _ hq6) lk_X7_237_X7_in rfl hP hD hS (List.Perm.refl _) 0 7 rfl rfl rfl hl.1 rfl rfl (Nat.le_of_ble_eq_true rfl) dX7_mean_13 ⟨Nat.zero_le _, Nat.zero_le _⟩ (fun r5 w H locs hw hP hD hS => ?_)
  obtain ⟨⟨e1, e2⟩, z7⟩ := hw
  replace e1 : r5 = r5q := e1
  subst e1
  subst e2
  replace hP : va_P D vwCl (Mw h q cA fi fs ga gs pl it asd) H := hP
  replace hD : va_D A (Mw h q cA fi fs ga gs pl it asd) := hD
  refine lv_if_eq (tgt := 23) hx hb dX7_mean_16 (by decide) (fun c8 => ?_) (fun c8 => ?_)
  · replace hf := it_of c8 hf
    refine lv_ldc2 (v := (-9223372036854775808)) hx hb hown (hts _ m_constantLong_M_382_n9223372036854775808) dX7_mean_23 ?_
    rw [hQ]
    exact ret_l C0 hP hD hS (by have e := Option.some.inj hf; rw [← e]; exact ⟨rfl, rfl⟩) dX7_mean_26
  · replace hf := ie_of c8 hf
    refine lv_iload_n hx hb dX7_mean_19 rfl (lv_at hl 0 rfl) ?_
    refine lv_if_ne (tgt := 27) hx hb dX7_mean_20 (by decide) (fun c9 => ?_) (fun c9 => ?_)
    · replace hf := ie_of c9 hf
      refine lv_iconst (v := 0) hx hb dX7_mean_27 (by decide) ?_
      refine lv_istore_n (lv' := [(3, .int 0), (2, .int r3), (0, .ref h), (1, .int a1)]) hx hb dX7_mean_28 rfl hl (by decide) rfl (fun ls hl => ?_)
      refine lv_iconst (v := 0) hx hb dX7_mean_29 (by decide) ?_
      refine lv_istore (lv' := [(4, .int 0), (3, .int 0), (2, .int r3), (0, .ref h), (1, .int a1)]) hx hb dX7_mean_30 hl (by decide) rfl (fun ls hl => ?_)
      exact J32 100000 r3 0 0 hf _ _ hP hD hS _ (lv_sub hl [3, 4, 2, 1, 0] rfl)
    · replace hf := it_of c9 hf
      refine lv_ldc2 (v := (-9223372036854775808)) hx hb hown (hts _ m_constantLong_M_382_n9223372036854775808) dX7_mean_23 ?_
      rw [hQ]
      exact ret_l C0 hP hD hS (by have e := Option.some.inj hf; rw [← e]; exact ⟨rfl, rfl⟩) dX7_mean_26
-- plan
noncomputable def k_X7_plan_87  (t1 : Int32) (t2 : Int32) (fi : Nat → Int32) (ga : Nat → Nat → Int32) : Option (Int32 × (Nat → Int32) × (Nat → Nat → Int32)) := gd t1 10 (some (((fi 39) + 1), (upd fi 39 ((fi 39) + 1)), (va_up ga 42 (upd (ga 42) (Int32.toNatClampNeg t1) t2))))
noncomputable def k_X7_plan_42 (a1 : Int32) (a2 : Int32) (fi : Nat → Int32) (ga : Nat → Nat → Int32) : Option (Int32 × (Nat → Int32) × (Nat → Nat → Int32)) := if (fi 39) = 10 then some ((-4), fi, ga) else gd (fi 39) 10 (b1 (k_X7_in a1 1 2) (fun r3 => if r3 = 0 then k_X7_plan_87 (fi 39) 0 fi (va_up ga 41 (upd (ga 41) (Int32.toNatClampNeg (fi 39)) a1)) else k_X7_plan_87 (fi 39) a2 fi (va_up ga 41 (upd (ga 41) (Int32.toNatClampNeg (fi 39)) a1))))
noncomputable def k_X7_plan (a1 : Int32) (a2 : Int32) (fi0 : Nat → Int32) (ga0 : Nat → Nat → Int32) : Option (Int32 × (Nat → Int32) × (Nat → Nat → Int32)) := if a1 = (-1) then some (0, (upd fi0 39 0), ga0) else b1 (k_X7_in a1 0 3) (fun r2 => if r2 = 0 then some ((-1), fi0, ga0) else b1 (k_X7_in a1 1 2) (fun r6 => if r6 = 0 then k_X7_plan_42 a1 a2 fi0 ga0 else b1 (k_X7_isMan a2 fi0) (fun r10 => if r10 = 0 then some ((-1), fi0, ga0) else k_X7_plan_42 a1 a2 fi0 ga0)))
set_option maxHeartbeats 4000000 in
set_option maxRecDepth 100000 in
theorem c_X7_plan {l : Launch} {D : va_G} {cA : Nat → ClassId} (h : Nat) (q : Nat → Nat) (fi0 : Nat → Int32) (fs : Nat → Int32) (ga0 : Nat → Nat → Int32) (gs : Nat → Nat → Int32) (pl : Nat → Int32) (it : Nat → Int64) (asd : Nat → Int64) (a1 : Int32) (a2 : Int32) (o : Int32 × (Nat → Int32) × (Nat → Nat → Int32)) (hf : k_X7_plan a1 a2 fi0 ga0 = some o) : CI l D cA yX7_plan cX7_plan 3 (some .int) 2 44 [.ref h, .int a1, .int a2] (Mw h q cA fi0 fs ga0 gs pl it asd) 0 0 (fun r w => r = o.1 ∧ w = (Mw h q cA o.2.1 fs o.2.2 gs pl it asd)) := by
  intro sz
  refine met_start (by decide) rfl ?_
  intro p e s m args below meth c ls hsz hargs C0 hname hP hD hS hl
  generalize hAe : va_A (Mw h q cA fi0 fs ga0 gs pl it asd) sz = A at C0 hD hS ⊢
  obtain ⟨hx, hb, hr, hml, hown, hts, hlk, hK, hA⟩ := id C0
  replace hl : lv_has ls 3 [(0, .ref h), (1, .int a1), (2, .int a2)] := hl
  obtain ⟨Q, hQ⟩ : ∃ Q : State → Prop, Q = QI below D A (fun r w => r = o.1 ∧ w = (Mw h q cA o.2.1 fs o.2.2 gs pl it asd)) args s 0 0 := ⟨_, rfl⟩
  refine cast (by rw [hQ]) (?_ : W p l e (RMx 2 44 0 0) s m args below meth c s.heap [] 0 0 Q (F0 m 0 ls []))
  have J87 : ∀ (t1 : Int32) (t2 : Int32) (fi : Nat → Int32) (ga : Nat → Nat → Int32), k_X7_plan_87 t1 t2 fi ga = some o → ∀ (H : Heap) (locs : List Loc), va_P D vwCl (Mw h q cA fi fs ga gs pl it asd) H → va_D A (Mw h q cA fi fs ga gs pl it asd) → va_S A s.heap H locs → ∀ ls : Array Slot, lv_has ls 3 [(0, .ref h)] → W p l e (RMx 2 44 0 0) s m args below meth c H locs 0 0 Q (F0 m 87 ls [.int t2, .int t1, .ref (q 42)]) := by
    intro  t1 t2 fi ga hf H locs hP hD hS ls hl
    unfold k_X7_plan_87 at hf
    obtain ⟨hi1, hf⟩ := gd_of hf
    refine va_iast hx hb hK hP hD hS 20 0 rfl rfl hi1 dX7_plan_87 (fun H locs hP hD hS => ?_)
    replace hP : va_P D vwCl (Mw h q cA fi fs (va_up ga 42 (upd (ga 42) (Int32.toNatClampNeg t1) t2)) gs pl it asd) H := hP
    replace hD : va_D A (Mw h q cA fi fs (va_up ga 42 (upd (ga 42) (Int32.toNatClampNeg t1) t2)) gs pl it asd) := hD
    refine lv_aload_n hx hb dX7_plan_88 rfl (lv_at hl 0 rfl) ?_
    refine lv_dup hx hb dX7_plan_89 rfl ?_
    refine va_get (D := D) (ci := 7) (v := .int (fi 39)) (C := RX7) (T := TX7) (N := 73) hx hb hts fw_7 hown hK hP 0 rfl rfl 39 (by decide) (hts _ m_fieldLink_M_129_M_plans_I) (fun _ h9 => h9) rfl dX7_plan_90 ?_
    refine lv_iconst (v := 1) hx hb dX7_plan_93 (by decide) ?_
    refine lv_iadd hx hb dX7_plan_94 ?_
    refine va_put (D := D) (ci := 7) (v := .int ((fi 39) + 1)) (ty := .int) (C := RX7) (T := TX7) (N := 73) hx hb hts fw_7 tyX7 tyX7_ok nmX7 hown hK hP hD hS 0 rfl rfl 39 (by decide) (hts _ m_fieldLink_M_129_M_plans_I) (fun _ h9 => h9) rfl (by decide +kernel) rfl rfl (Nat.le_of_ble_eq_true rfl) dX7_plan_95 (fun H locs hP hD hS => ?_)
    replace hP : va_P D vwCl (Mw h q cA (upd fi 39 ((fi 39) + 1)) fs (va_up ga 42 (upd (ga 42) (Int32.toNatClampNeg t1) t2)) gs pl it asd) H := hP
    replace hD : va_D A (Mw h q cA (upd fi 39 ((fi 39) + 1)) fs (va_up ga 42 (upd (ga 42) (Int32.toNatClampNeg t1) t2)) gs pl it asd) := hD
    refine lv_aload_n hx hb dX7_plan_98 rfl (lv_at hl 0 rfl) ?_
    refine va_get (D := D) (ci := 7) (v := .int ((fi 39) + 1)) (C := RX7) (T := TX7) (N := 73) hx hb hts fw_7 hown hK hP 0 rfl rfl 39 (by decide) (hts _ m_fieldLink_M_129_M_plans_I) (fun _ h9 => h9) rfl dX7_plan_99 ?_
    rw [hQ]
    exact ret_i C0 hP hD hS (by have e := Option.some.inj hf; rw [← e]; exact ⟨rfl, rfl⟩) dX7_plan_102
  have J42 : ∀ (fi : Nat → Int32) (ga : Nat → Nat → Int32), k_X7_plan_42 a1 a2 fi ga = some o → ∀ (H : Heap) (locs : List Loc), va_P D vwCl (Mw h q cA fi fs ga gs pl it asd) H → va_D A (Mw h q cA fi fs ga gs pl it asd) → va_S A s.heap H locs → ∀ ls : Array Slot, lv_has ls 3 [(0, .ref h), (1, .int a1), (2, .int a2)] → W p l e (RMx 2 44 0 0) s m args below meth c H locs 0 0 Q (F0 m 42 ls []) := by
    intro  fi ga hf H locs hP hD hS ls hl
    unfold k_X7_plan_42 at hf
    refine lv_aload_n hx hb dX7_plan_42 rfl (lv_at hl 0 rfl) ?_
    refine va_get (D := D) (ci := 7) (v := .int (fi 39)) (C := RX7) (T := TX7) (N := 73) hx hb hts fw_7 hown hK hP 0 rfl rfl 39 (by decide) (hts _ m_fieldLink_M_129_M_plans_I) (fun _ h9 => h9) rfl dX7_plan_43 ?_
    refine lv_bipush (v := 10) hx hb dX7_plan_46 (by decide) ?_
    refine lv_icmp_ne (tgt := 54) hx hb dX7_plan_48 (by decide) (fun c1 => ?_) (fun c1 => ?_)
    · replace hf := ie_of c1 hf
      refine lv_aload_n hx hb dX7_plan_54 rfl (lv_at hl 0 rfl) ?_
      refine va_get (D := D) (ci := 7) (v := .ref (q 41)) (C := RX7) (T := TX7) (N := 73) hx hb hts fw_7 hown hK hP 0 rfl rfl 41 (by decide) (hts _ m_fieldLink_M_135_M_planWhat_aI) (fun _ h9 => h9) rfl dX7_plan_55 ?_
      refine lv_aload_n hx hb dX7_plan_58 rfl (lv_at hl 0 rfl) ?_
      refine va_get (D := D) (ci := 7) (v := .int (fi 39)) (C := RX7) (T := TX7) (N := 73) hx hb hts fw_7 hown hK hP 0 rfl rfl 39 (by decide) (hts _ m_fieldLink_M_129_M_plans_I) (fun _ h9 => h9) rfl dX7_plan_59 ?_
      refine lv_iload_n hx hb dX7_plan_62 rfl (lv_at hl 1 rfl) ?_
      obtain ⟨hi2, hf⟩ := gd_of hf
      refine va_iast hx hb hK hP hD hS 19 0 rfl rfl hi2 dX7_plan_63 (fun H locs hP hD hS => ?_)
      replace hP : va_P D vwCl (Mw h q cA fi fs (va_up ga 41 (upd (ga 41) (Int32.toNatClampNeg (fi 39)) a1)) gs pl it asd) H := hP
      replace hD : va_D A (Mw h q cA fi fs (va_up ga 41 (upd (ga 41) (Int32.toNatClampNeg (fi 39)) a1)) gs pl it asd) := hD
      refine lv_aload_n hx hb dX7_plan_64 rfl (lv_at hl 0 rfl) ?_
      refine va_get (D := D) (ci := 7) (v := .ref (q 42)) (C := RX7) (T := TX7) (N := 73) hx hb hts fw_7 hown hK hP 0 rfl rfl 42 (by decide) (hts _ m_fieldLink_M_138_M_planMan_aI) (fun _ h9 => h9) rfl dX7_plan_65 ?_
      refine lv_aload_n hx hb dX7_plan_68 rfl (lv_at hl 0 rfl) ?_
      refine va_get (D := D) (ci := 7) (v := .int (fi 39)) (C := RX7) (T := TX7) (N := 73) hx hb hts fw_7 hown hK hP 0 rfl rfl 39 (by decide) (hts _ m_fieldLink_M_129_M_plans_I) (fun _ h9 => h9) rfl dX7_plan_69 ?_
      refine lv_aload_n hx hb dX7_plan_72 rfl (lv_at hl 0 rfl) ?_
      refine lv_iload_n hx hb dX7_plan_73 rfl (lv_at hl 1 rfl) ?_
      refine lv_iconst (v := 1) hx hb dX7_plan_74 (by decide) ?_
      refine lv_iconst (v := 2) hx hb dX7_plan_75 (by decide) ?_
      obtain ⟨r3q, hq4, hf⟩ := b1_of hf
      refine callVI (As := [.int a1, .int 1, .int 2]) (rest := [.int (fi 39), .ref (q 42)]) (wr := (Mw h q cA fi fs (va_up ga 41 (upd (ga 41) (Int32.toNatClampNeg (fi 39)) a1)) gs pl it asd)) C0 (c_X7_in h a1 1 2 _ hq4) lk_X7_237_X7_in rfl hP hD hS (List.Perm.refl _) 0 7 rfl rfl rfl hl.1 rfl rfl (Nat.le_of_ble_eq_true rfl) dX7_plan_76 ⟨Nat.zero_le _, Nat.zero_le _⟩ (fun r3 w H locs hw hP hD hS => ?_)
      obtain ⟨⟨e1, e2⟩, z5⟩ := hw
      replace e1 : r3 = r3q := e1
      subst e1
      subst e2
      replace hP : va_P D vwCl (Mw h q cA fi fs (va_up ga 41 (upd (ga 41) (Int32.toNatClampNeg (fi 39)) a1)) gs pl it asd) H := hP
      replace hD : va_D A (Mw h q cA fi fs (va_up ga 41 (upd (ga 41) (Int32.toNatClampNeg (fi 39)) a1)) gs pl it asd) := hD
      refine lv_if_eq (tgt := 86) hx hb dX7_plan_79 (by decide) (fun c6 => ?_) (fun c6 => ?_)
      · replace hf := it_of c6 hf
        refine lv_iconst (v := 0) hx hb dX7_plan_86 (by decide) ?_
        exact J87 (fi 39) 0 fi (va_up ga 41 (upd (ga 41) (Int32.toNatClampNeg (fi 39)) a1)) hf _ _ hP hD hS _ (lv_sub hl [0] rfl)
      · replace hf := ie_of c6 hf
        refine lv_iload_n hx hb dX7_plan_82 rfl (lv_at hl 2 rfl) ?_
        refine lv_goto (tgt := 87) hx hb dX7_plan_83 (by decide) ?_
        exact J87 (fi 39) a2 fi (va_up ga 41 (upd (ga 41) (Int32.toNatClampNeg (fi 39)) a1)) hf _ _ hP hD hS _ (lv_sub hl [0] rfl)
    · replace hf := it_of c1 hf
      refine lv_bipush (v := (-4)) hx hb dX7_plan_51 (by decide) ?_
      rw [hQ]
      exact ret_i C0 hP hD hS (by have e := Option.some.inj hf; rw [← e]; exact ⟨rfl, rfl⟩) dX7_plan_53
  unfold k_X7_plan at hf
  refine lv_iload_n hx hb dX7_plan_0 rfl (lv_at hl 1 rfl) ?_
  refine lv_iconst (v := (-1)) hx hb dX7_plan_1 (by decide) ?_
  refine lv_icmp_ne (tgt := 12) hx hb dX7_plan_2 (by decide) (fun c1 => ?_) (fun c1 => ?_)
  · replace hf := ie_of c1 hf
    refine lv_aload_n hx hb dX7_plan_12 rfl (lv_at hl 0 rfl) ?_
    refine lv_iload_n hx hb dX7_plan_13 rfl (lv_at hl 1 rfl) ?_
    refine lv_iconst (v := 0) hx hb dX7_plan_14 (by decide) ?_
    refine lv_iconst (v := 3) hx hb dX7_plan_15 (by decide) ?_
    obtain ⟨r2q, hq3, hf⟩ := b1_of hf
    refine callVI (As := [.int a1, .int 0, .int 3]) (rest := []) (wr := (Mw h q cA fi0 fs ga0 gs pl it asd)) C0 (c_X7_in h a1 0 3 _ hq3) lk_X7_237_X7_in rfl hP hD hS (List.Perm.refl _) 0 7 rfl rfl rfl hl.1 rfl rfl (Nat.le_of_ble_eq_true rfl) dX7_plan_16 ⟨Nat.zero_le _, Nat.zero_le _⟩ (fun r2 w H locs hw hP hD hS => ?_)
    obtain ⟨⟨e1, e2⟩, z4⟩ := hw
    replace e1 : r2 = r2q := e1
    subst e1
    subst e2
    replace hP : va_P D vwCl (Mw h q cA fi0 fs ga0 gs pl it asd) H := hP
    replace hD : va_D A (Mw h q cA fi0 fs ga0 gs pl it asd) := hD
    refine lv_if_eq (tgt := 40) hx hb dX7_plan_19 (by decide) (fun c5 => ?_) (fun c5 => ?_)
    · replace hf := it_of c5 hf
      refine lv_iconst (v := (-1)) hx hb dX7_plan_40 (by decide) ?_
      rw [hQ]
      exact ret_i C0 hP hD hS (by have e := Option.some.inj hf; rw [← e]; exact ⟨rfl, rfl⟩) dX7_plan_41
    · replace hf := ie_of c5 hf
      refine lv_aload_n hx hb dX7_plan_22 rfl (lv_at hl 0 rfl) ?_
      refine lv_iload_n hx hb dX7_plan_23 rfl (lv_at hl 1 rfl) ?_
      refine lv_iconst (v := 1) hx hb dX7_plan_24 (by decide) ?_
      refine lv_iconst (v := 2) hx hb dX7_plan_25 (by decide) ?_
      obtain ⟨r6q, hq7, hf⟩ := b1_of hf
      refine callVI (As := [.int a1, .int 1, .int 2]) (rest := []) (wr := (Mw h q cA fi0 fs ga0 gs pl it asd)) C0 (c_X7_in h a1 1 2 _ hq7) lk_X7_237_X7_in rfl hP hD hS (List.Perm.refl _) 0 7 rfl rfl rfl hl.1 rfl rfl (Nat.le_of_ble_eq_true rfl) dX7_plan_26 ⟨Nat.zero_le _, Nat.zero_le _⟩ (fun r6 w H locs hw hP hD hS => ?_)
      obtain ⟨⟨e1, e2⟩, z8⟩ := hw
      replace e1 : r6 = r6q := e1
      subst e1
      subst e2
      replace hP : va_P D vwCl (Mw h q cA fi0 fs ga0 gs pl it asd) H := hP
      replace hD : va_D A (Mw h q cA fi0 fs ga0 gs pl it asd) := hD
      refine lv_if_eq (tgt := 42) hx hb dX7_plan_29 (by decide) (fun c9 => ?_) (fun c9 => ?_)
      · replace hf := it_of c9 hf
        exact J42 fi0 ga0 hf _ _ hP hD hS _ (lv_sub hl [0, 1, 2] rfl)
      · replace hf := ie_of c9 hf
        refine lv_aload_n hx hb dX7_plan_32 rfl (lv_at hl 0 rfl) ?_
        refine lv_iload_n hx hb dX7_plan_33 rfl (lv_at hl 2 rfl) ?_
        obtain ⟨r10q, hq11, hf⟩ := b1_of hf
        refine callVI (As := [.int a2]) (rest := []) (wr := []) C0 (c_X7_isMan h q fi0 fs ga0 gs pl it asd a2 _ hq11) lk_X7_245_X7_isMan rfl hP hD hS perm_nil 0 7 rfl rfl rfl hl.1 rfl rfl (Nat.le_of_ble_eq_true rfl) dX7_plan_34 ⟨Nat.zero_le _, Nat.zero_le _⟩ (fun r10 w H locs hw hP hD hS => ?_)
        obtain ⟨⟨e1, e2⟩, z12⟩ := hw
        replace e1 : r10 = r10q := e1
        subst e1
        subst e2
        replace hP : va_P D vwCl (Mw h q cA fi0 fs ga0 gs pl it asd) H := hP.nil
        replace hD : va_D A (Mw h q cA fi0 fs ga0 gs pl it asd) := hD.nil
        refine lv_if_ne (tgt := 42) hx hb dX7_plan_37 (by decide) (fun c13 => ?_) (fun c13 => ?_)
        · replace hf := ie_of c13 hf
          exact J42 fi0 ga0 hf _ _ hP hD hS _ (lv_sub hl [0, 1, 2] rfl)
        · replace hf := it_of c13 hf
          refine lv_iconst (v := (-1)) hx hb dX7_plan_40 (by decide) ?_
          rw [hQ]
          exact ret_i C0 hP hD hS (by have e := Option.some.inj hf; rw [← e]; exact ⟨rfl, rfl⟩) dX7_plan_41
  · replace hf := it_of c1 hf
    refine lv_aload_n hx hb dX7_plan_5 rfl (lv_at hl 0 rfl) ?_
    refine lv_iconst (v := 0) hx hb dX7_plan_6 (by decide) ?_
    refine va_put (D := D) (ci := 7) (v := .int 0) (ty := .int) (C := RX7) (T := TX7) (N := 73) hx hb hts fw_7 tyX7 tyX7_ok nmX7 hown hK hP hD hS 0 rfl rfl 39 (by decide) (hts _ m_fieldLink_M_129_M_plans_I) (fun _ h9 => h9) rfl (by decide +kernel) rfl rfl (Nat.le_of_ble_eq_true rfl) dX7_plan_7 (fun H locs hP hD hS => ?_)
    replace hP : va_P D vwCl (Mw h q cA (upd fi0 39 0) fs ga0 gs pl it asd) H := hP
    replace hD : va_D A (Mw h q cA (upd fi0 39 0) fs ga0 gs pl it asd) := hD
    refine lv_iconst (v := 0) hx hb dX7_plan_10 (by decide) ?_
    rw [hQ]
    exact ret_i C0 hP hD hS (by have e := Option.some.inj hf; rw [← e]; exact ⟨rfl, rfl⟩) dX7_plan_11
-- goPlan
noncomputable def k_X7_goPlan_33 (a1 : Int32) (fi : Nat → Int32) (ga : Nat → Nat → Int32) (pl : Nat → Int32) : Option ((Nat → Int32) × (Nat → Nat → Int32) × (Nat → Int32)) := if a1 = 3 then some ((upd fi 2 0), ga, pl) else some (fi, ga, pl)
noncomputable def k_X7_goPlan_30 (a1 : Int32) (t1 : Int32) (t2 : Int32) (fi : Nat → Int32) (ga : Nat → Nat → Int32) (pl : Nat → Int32) : Option ((Nat → Int32) × (Nat → Nat → Int32) × (Nat → Int32)) := b1 (k_X7_goes t1 t2 fi) (fun fi_1 => k_X7_goPlan_33 a1 fi_1 ga pl)
noncomputable def k_X7_goPlan_8 (a1 : Int32) (a2 : Int32) (fi : Nat → Int32) (ga : Nat → Nat → Int32) (pl : Nat → Int32) : Option ((Nat → Int32) × (Nat → Nat → Int32) × (Nat → Int32)) := b1 (k_X7_in a1 1 2) (fun r1 => if r1 = 0 then k_X7_goPlan_33 a1 fi ga pl else if a1 = 1 then k_X7_goPlan_30 a1 a2 1 fi ga pl else k_X7_goPlan_30 a1 a2 0 fi ga pl)
noncomputable def k_X7_goPlan (a1 : Int32) (a2 : Int32) (fi0 : Nat → Int32) (fs : Nat → Int32) (ga0 : Nat → Nat → Int32) (pl0 : Nat → Int32) : Option ((Nat → Int32) × (Nat → Nat → Int32) × (Nat → Int32)) := if a1 = 0 then b3 (k_X7_goDay fi0 fs ga0 pl0) (fun fi_2 ga_3 pl_4 => k_X7_goPlan_8 a1 a2 fi_2 ga_3 pl_4) else k_X7_goPlan_8 a1 a2 fi0 ga0 pl0
set_option maxHeartbeats 4000000 in
set_option maxRecDepth 100000 in
theorem c_X7_goPlan {l : Launch} {D : va_G} {cA : Nat → ClassId} (h : Nat) (q : Nat → Nat) (fi0 : Nat → Int32) (fs : Nat → Int32) (ga0 : Nat → Nat → Int32) (gs : Nat → Nat → Int32) (pl0 : Nat → Int32) (it : Nat → Int64) (asd : Nat → Int64) (a1 : Int32) (a2 : Int32) (o : (Nat → Int32) × (Nat → Nat → Int32) × (Nat → Int32)) (hf : k_X7_goPlan a1 a2 fi0 fs ga0 pl0 = some o) : CV l D cA yX7_goPlan cX7_goPlan 3 none 7 162 [.ref h, .int a1, .int a2] (Mw h q cA fi0 fs ga0 gs pl0 it asd) 0 0 (fun w => w = (Mw h q cA o.1 fs o.2.1 gs o.2.2 it asd)) := by
  intro sz
  refine met_start (by decide) rfl ?_
  intro p e s m args below meth c ls hsz hargs C0 hname hP hD hS hl
  generalize hAe : va_A (Mw h q cA fi0 fs ga0 gs pl0 it asd) sz = A at C0 hD hS ⊢
  obtain ⟨hx, hb, hr, hml, hown, hts, hlk, hK, hA⟩ := id C0
  replace hl : lv_has ls 3 [(0, .ref h), (1, .int a1), (2, .int a2)] := hl
  obtain ⟨Q, hQ⟩ : ∃ Q : State → Prop, Q = QV below D A (fun w => w = (Mw h q cA o.1 fs o.2.1 gs o.2.2 it asd)) args s 0 0 := ⟨_, rfl⟩
  refine cast (by rw [hQ]) (?_ : W p l e (RMx 7 162 0 0) s m args below meth c s.heap [] 0 0 Q (F0 m 0 ls []))
  have J33 : ∀ (fi : Nat → Int32) (ga : Nat → Nat → Int32) (pl : Nat → Int32), k_X7_goPlan_33 a1 fi ga pl = some o → ∀ (H : Heap) (locs : List Loc), va_P D vwCl (Mw h q cA fi fs ga gs pl it asd) H → va_D A (Mw h q cA fi fs ga gs pl it asd) → va_S A s.heap H locs → ∀ ls : Array Slot, lv_has ls 3 [(0, .ref h), (1, .int a1)] → W p l e (RMx 7 162 0 0) s m args below meth c H locs 0 0 Q (F0 m 33 ls []) := by
    intro  fi ga pl hf H locs hP hD hS ls hl
    unfold k_X7_goPlan_33 at hf
    refine lv_iload_n hx hb dX7_goPlan_33 rfl (lv_at hl 1 rfl) ?_
    refine lv_iconst (v := 3) hx hb dX7_goPlan_34 (by decide) ?_
    refine lv_icmp_ne (tgt := 43) hx hb dX7_goPlan_35 (by decide) (fun c1 => ?_) (fun c1 => ?_)
    · replace hf := ie_of c1 hf
      rw [hQ]
      exact ret_v C0 hP hD hS (by have e := Option.some.inj hf; first | (rw [← e]; done) | (rw [← e]; exact rfl)) dX7_goPlan_43
    · replace hf := it_of c1 hf
      refine lv_aload_n hx hb dX7_goPlan_38 rfl (lv_at hl 0 rfl) ?_
      refine lv_iconst (v := 0) hx hb dX7_goPlan_39 (by decide) ?_
      refine va_put (D := D) (ci := 7) (v := .int 0) (ty := .int) (C := RX7) (T := TX7) (N := 73) hx hb hts fw_7 tyX7 tyX7_ok nmX7 hown hK hP hD hS 0 rfl rfl 2 (by decide) (hts _ m_fieldLink_M_16_M_fears_I) (fun _ h9 => h9) rfl (by decide +kernel) rfl rfl (Nat.le_of_ble_eq_true rfl) dX7_goPlan_40 (fun H locs hP hD hS => ?_)
      replace hP : va_P D vwCl (Mw h q cA (upd fi 2 0) fs ga gs pl it asd) H := hP
      replace hD : va_D A (Mw h q cA (upd fi 2 0) fs ga gs pl it asd) := hD
      rw [hQ]
      exact ret_v C0 hP hD hS (by have e := Option.some.inj hf; first | (rw [← e]; done) | (rw [← e]; exact rfl)) dX7_goPlan_43
  have J30 : ∀ (t1 : Int32) (t2 : Int32) (fi : Nat → Int32) (ga : Nat → Nat → Int32) (pl : Nat → Int32), k_X7_goPlan_30 a1 t1 t2 fi ga pl = some o → ∀ (H : Heap) (locs : List Loc), va_P D vwCl (Mw h q cA fi fs ga gs pl it asd) H → va_D A (Mw h q cA fi fs ga gs pl it asd) → va_S A s.heap H locs → ∀ ls : Array Slot, lv_has ls 3 [(0, .ref h), (1, .int a1)] → W p l e (RMx 7 162 0 0) s m args below meth c H locs 0 0 Q (F0 m 30 ls [.int t2, .int t1, .ref h]) := by
    intro  t1 t2 fi ga pl hf H locs hP hD hS ls hl
    unfold k_X7_goPlan_30 at hf
    obtain ⟨fi_1, hq2, hf⟩ := b1_of hf
    refine callVV (As := [.int t1, .int t2]) (rest := []) (wr := []) C0 (c_X7_goes h q fi fs ga gs pl it asd t1 t2 _ hq2) lk_X7_248_X7_goes rfl hP hD hS perm_nil 0 7 rfl rfl rfl hl.1 rfl rfl (Nat.le_of_ble_eq_true rfl) dX7_goPlan_30 ⟨Nat.zero_le _, Nat.zero_le _⟩ (fun w H locs hw hP hD hS => ?_)
    have e2 := hw
    subst e2
    replace hP : va_P D vwCl (Mw h q cA fi_1 fs ga gs pl it asd) H := hP.nil
    replace hD : va_D A (Mw h q cA fi_1 fs ga gs pl it asd) := hD.nil
    exact J33 fi_1 ga pl hf _ _ hP hD hS _ (lv_sub hl [0, 1] rfl)
  have J8 : ∀ (fi : Nat → Int32) (ga : Nat → Nat → Int32) (pl : Nat → Int32), k_X7_goPlan_8 a1 a2 fi ga pl = some o → ∀ (H : Heap) (locs : List Loc), va_P D vwCl (Mw h q cA fi fs ga gs pl it asd) H → va_D A (Mw h q cA fi fs ga gs pl it asd) → va_S A s.heap H locs → ∀ ls : Array Slot, lv_has ls 3 [(0, .ref h), (1, .int a1), (2, .int a2)] → W p l e (RMx 7 162 0 0) s m args below meth c H locs 0 0 Q (F0 m 8 ls []) := by
    intro  fi ga pl hf H locs hP hD hS ls hl
    unfold k_X7_goPlan_8 at hf
    refine lv_aload_n hx hb dX7_goPlan_8 rfl (lv_at hl 0 rfl) ?_
    refine lv_iload_n hx hb dX7_goPlan_9 rfl (lv_at hl 1 rfl) ?_
    refine lv_iconst (v := 1) hx hb dX7_goPlan_10 (by decide) ?_
    refine lv_iconst (v := 2) hx hb dX7_goPlan_11 (by decide) ?_
    obtain ⟨r1q, hq2, hf⟩ := b1_of hf
    refine callVI (As := [.int a1, .int 1, .int 2]) (rest := []) (wr := (Mw h q cA fi fs ga gs pl it asd)) C0 (c_X7_in h a1 1 2 _ hq2) lk_X7_237_X7_in rfl hP hD hS (List.Perm.refl _) 0 7 rfl rfl rfl hl.1 rfl rfl (Nat.le_of_ble_eq_true rfl) dX7_goPlan_12 ⟨Nat.zero_le _, Nat.zero_le _⟩ (fun r1 w H locs hw hP hD hS => ?_)
    obtain ⟨⟨e1, e2⟩, z3⟩ := hw
    replace e1 : r1 = r1q := e1
    subst e1
    subst e2
    replace hP : va_P D vwCl (Mw h q cA fi fs ga gs pl it asd) H := hP
    replace hD : va_D A (Mw h q cA fi fs ga gs pl it asd) := hD
    refine lv_if_eq (tgt := 33) hx hb dX7_goPlan_15 (by decide) (fun c4 => ?_) (fun c4 => ?_)
    · replace hf := it_of c4 hf
      exact J33 fi ga pl hf _ _ hP hD hS _ (lv_sub hl [0, 1] rfl)
    · replace hf := ie_of c4 hf
      refine lv_aload_n hx hb dX7_goPlan_18 rfl (lv_at hl 0 rfl) ?_
      refine lv_iload_n hx hb dX7_goPlan_19 rfl (lv_at hl 2 rfl) ?_
      refine lv_iload_n hx hb dX7_goPlan_20 rfl (lv_at hl 1 rfl) ?_
      refine lv_iconst (v := 1) hx hb dX7_goPlan_21 (by decide) ?_
      refine lv_icmp_ne (tgt := 29) hx hb dX7_goPlan_22 (by decide) (fun c5 => ?_) (fun c5 => ?_)
      · replace hf := ie_of c5 hf
        refine lv_iconst (v := 0) hx hb dX7_goPlan_29 (by decide) ?_
        exact J30 a2 0 fi ga pl hf _ _ hP hD hS _ (lv_sub hl [0, 1] rfl)
      · replace hf := it_of c5 hf
        refine lv_iconst (v := 1) hx hb dX7_goPlan_25 (by decide) ?_
        refine lv_goto (tgt := 30) hx hb dX7_goPlan_26 (by decide) ?_
        exact J30 a2 1 fi ga pl hf _ _ hP hD hS _ (lv_sub hl [0, 1] rfl)
  unfold k_X7_goPlan at hf
  refine lv_iload_n hx hb dX7_goPlan_0 rfl (lv_at hl 1 rfl) ?_
  refine lv_if_ne (tgt := 8) hx hb dX7_goPlan_1 (by decide) (fun c1 => ?_) (fun c1 => ?_)
  · replace hf := ie_of c1 hf
    exact J8 fi0 ga0 pl0 hf _ _ hP hD hS _ (lv_sub hl [0, 1, 2] rfl)
  · replace hf := it_of c1 hf
    refine lv_aload_n hx hb dX7_goPlan_4 rfl (lv_at hl 0 rfl) ?_
    obtain ⟨fi_2, ga_3, pl_4, hq5, hf⟩ := b3_of hf
    refine callVV (As := []) (rest := []) (wr := []) C0 (c_X7_goDay h q fi0 fs ga0 gs pl0 it asd _ hq5) lk_X7_332_X7_goDay rfl hP hD hS perm_nil 0 7 rfl rfl rfl hl.1 rfl rfl (Nat.le_of_ble_eq_true rfl) dX7_goPlan_5 ⟨Nat.zero_le _, Nat.zero_le _⟩ (fun w H locs hw hP hD hS => ?_)
    have e2 := hw
    subst e2
    replace hP : va_P D vwCl (Mw h q cA fi_2 fs ga_3 gs pl_4 it asd) H := hP.nil
    replace hD : va_D A (Mw h q cA fi_2 fs ga_3 gs pl_4 it asd) := hD.nil
    exact J8 fi_2 ga_3 pl_4 hf _ _ hP hD hS _ (lv_sub hl [0, 1, 2] rfl)
-- ends
noncomputable def k_X7_ends_63  (t0 : Int32) (fi : Nat → Int32) (fs : Nat → Int32) (ga : Nat → Nat → Int32) (gs : Nat → Nat → Int32) (pl : Nat → Int32) : Option (Int32 × (Nat → Int32) × (Nat → Int32) × (Nat → Nat → Int32) × (Nat → Nat → Int32) × (Nat → Int32)) := b3 (k_X7_putBack fi fs ga gs) (fun fi_1 fs_2 ga_3 => some (t0, fi_1, fs_2, ga_3, gs, pl))
noncomputable def k_X7_ends_18 (a1 : Int32) : Nat → Int32 → (Nat → Int32) → (Nat → Int32) → (Nat → Nat → Int32) → (Nat → Nat → Int32) → (Nat → Int32) → Option (Int32 × (Nat → Int32) × (Nat → Int32) × (Nat → Nat → Int32) × (Nat → Nat → Int32) × (Nat → Int32))
  | 0, _, _, _, _, _, _ => none
  | n + 1, x2, fi, fs, ga, gs, pl => if (fi 39) ≤ x2 then if a1 = 0 then k_X7_ends_63 (fi 2) fi fs ga gs pl else k_X7_ends_63 (fi 3) fi fs ga gs pl else gd x2 10 (gd x2 10 (b3 (k_X7_goPlan ((ga 41) (Int32.toNatClampNeg x2)) ((ga 42) (Int32.toNatClampNeg x2)) fi fs ga pl) (fun fi_5 ga_6 pl_7 => k_X7_ends_18 a1 n (x2 + 1) fi_5 fs ga_6 gs pl_7)))
noncomputable def k_X7_ends (a1 : Int32) (fi0 : Nat → Int32) (fs0 : Nat → Int32) (ga0 : Nat → Nat → Int32) (gs0 : Nat → Nat → Int32) (pl0 : Nat → Int32) : Option (Int32 × (Nat → Int32) × (Nat → Int32) × (Nat → Nat → Int32) × (Nat → Nat → Int32) × (Nat → Int32)) := b1 (k_X7_in a1 0 1) (fun r1 => if r1 = 0 then some ((-1), fi0, fs0, ga0, gs0, pl0) else b2 (k_X7_save fi0 fs0 ga0 gs0) (fun fs_5 gs_6 => k_X7_ends_18 a1 100000 0 fi0 fs_5 ga0 gs_6 pl0))
set_option maxHeartbeats 4000000 in
set_option maxRecDepth 100000 in
theorem c_X7_ends {l : Launch} {D : va_G} {cA : Nat → ClassId} (h : Nat) (q : Nat → Nat) (fi0 : Nat → Int32) (fs0 : Nat → Int32) (ga0 : Nat → Nat → Int32) (gs0 : Nat → Nat → Int32) (pl0 : Nat → Int32) (it : Nat → Int64) (asd : Nat → Int64) (a1 : Int32) (o : Int32 × (Nat → Int32) × (Nat → Int32) × (Nat → Nat → Int32) × (Nat → Nat → Int32) × (Nat → Int32)) (hf : k_X7_ends a1 fi0 fs0 ga0 gs0 pl0 = some o) : CI l D cA yX7_ends cX7_ends 3 (some .int) 8 184 [.ref h, .int a1] (Mw h q cA fi0 fs0 ga0 gs0 pl0 it asd) 0 0 (fun r w => r = o.1 ∧ w = (Mw h q cA o.2.1 o.2.2.1 o.2.2.2.1 o.2.2.2.2.1 o.2.2.2.2.2 it asd)) := by
  intro sz
  refine met_start (by decide) rfl ?_
  intro p e s m args below meth c ls hsz hargs C0 hname hP hD hS hl
  generalize hAe : va_A (Mw h q cA fi0 fs0 ga0 gs0 pl0 it asd) sz = A at C0 hD hS ⊢
  obtain ⟨hx, hb, hr, hml, hown, hts, hlk, hK, hA⟩ := id C0
  replace hl : lv_has ls 3 [(0, .ref h), (1, .int a1)] := hl
  obtain ⟨Q, hQ⟩ : ∃ Q : State → Prop, Q = QI below D A (fun r w => r = o.1 ∧ w = (Mw h q cA o.2.1 o.2.2.1 o.2.2.2.1 o.2.2.2.2.1 o.2.2.2.2.2 it asd)) args s 0 0 := ⟨_, rfl⟩
  refine cast (by rw [hQ]) (?_ : W p l e (RMx 8 184 0 0) s m args below meth c s.heap [] 0 0 Q (F0 m 0 ls []))
  have J63 : ∀ (t0 : Int32) (fi : Nat → Int32) (fs : Nat → Int32) (ga : Nat → Nat → Int32) (gs : Nat → Nat → Int32) (pl : Nat → Int32), k_X7_ends_63 t0 fi fs ga gs pl = some o → ∀ (H : Heap) (locs : List Loc), va_P D vwCl (Mw h q cA fi fs ga gs pl it asd) H → va_D A (Mw h q cA fi fs ga gs pl it asd) → va_S A s.heap H locs → ∀ ls : Array Slot, lv_has ls 3 [(0, .ref h)] → W p l e (RMx 8 184 0 0) s m args below meth c H locs 0 0 Q (F0 m 63 ls [.int t0]) := by
    intro  t0 fi fs ga gs pl hf H locs hP hD hS ls hl
    unfold k_X7_ends_63 at hf
    refine lv_istore_n (lv' := [(2, .int t0), (0, .ref h)]) hx hb dX7_ends_63 rfl hl (by decide) rfl (fun ls hl => ?_)
    refine lv_aload_n hx hb dX7_ends_64 rfl (lv_at hl 1 rfl) ?_
    obtain ⟨fi_1, fs_2, ga_3, hq4, hf⟩ := b3_of hf
    refine callVV (As := []) (rest := []) (wr := []) C0 (c_X7_putBack h q fi fs ga gs pl it asd _ hq4) lk_X7_345_X7_putBack rfl hP hD hS perm_nil 0 7 rfl rfl rfl hl.1 rfl rfl (Nat.le_of_ble_eq_true rfl) dX7_ends_65 ⟨Nat.zero_le _, Nat.zero_le _⟩ (fun w H locs hw hP hD hS => ?_)
    have e2 := hw
    subst e2
    replace hP : va_P D vwCl (Mw h q cA fi_1 fs_2 ga_3 gs pl it asd) H := hP.nil
    replace hD : va_D A (Mw h q cA fi_1 fs_2 ga_3 gs pl it asd) := hD.nil
    refine lv_iload_n hx hb dX7_ends_68 rfl (lv_at hl 0 rfl) ?_
    rw [hQ]
    exact ret_i C0 hP hD hS (by have e := Option.some.inj hf; rw [← e]; exact ⟨rfl, rfl⟩) dX7_ends_69
  have J18 : ∀ n : Nat, ∀ (x2 : Int32) (fi : Nat → Int32) (fs : Nat → Int32) (ga : Nat → Nat → Int32) (gs : Nat → Nat → Int32) (pl : Nat → Int32), k_X7_ends_18 a1 n x2 fi fs ga gs pl = some o → ∀ (H : Heap) (locs : List Loc), va_P D vwCl (Mw h q cA fi fs ga gs pl it asd) H → va_D A (Mw h q cA fi fs ga gs pl it asd) → va_S A s.heap H locs → ∀ ls : Array Slot, lv_has ls 3 [(0, .ref h), (1, .int a1), (2, .int x2)] → W p l e (RMx 8 184 0 0) s m args below meth c H locs 0 0 Q (F0 m 18 ls []) := by
    intro  n
    induction n with
    | zero =>
      intro x2 fi fs ga gs pl hf
      rw [k_X7_ends_18] at hf
      cases hf
    | succ n ih =>
      intro x2 fi fs ga gs pl hf H locs hP hD hS ls hl
      rw [k_X7_ends_18] at hf
      refine lv_iload_n hx hb dX7_ends_18 rfl (lv_at hl 2 rfl) ?_
      refine lv_aload_n hx hb dX7_ends_19 rfl (lv_at hl 0 rfl) ?_
      refine va_get (D := D) (ci := 7) (v := .int (fi 39)) (C := RX7) (T := TX7) (N := 73) hx hb hts fw_7 hown hK hP 0 rfl rfl 39 (by decide) (hts _ m_fieldLink_M_129_M_plans_I) (fun _ h9 => h9) rfl dX7_ends_20 ?_
      refine lv_icmp_ge (tgt := 48) hx hb dX7_ends_23 (by decide) (fun c1 => ?_) (fun c1 => ?_)
      · replace hf := it_of c1 hf
        refine lv_iload_n hx hb dX7_ends_48 rfl (lv_at hl 1 rfl) ?_
        refine lv_if_ne (tgt := 59) hx hb dX7_ends_49 (by decide) (fun c2 => ?_) (fun c2 => ?_)
        · replace hf := ie_of c2 hf
          refine lv_aload_n hx hb dX7_ends_59 rfl (lv_at hl 0 rfl) ?_
          refine va_get (D := D) (ci := 7) (v := .int (fi 3)) (C := RX7) (T := TX7) (N := 73) hx hb hts fw_7 hown hK hP 0 rfl rfl 3 (by decide) (hts _ m_fieldLink_M_19_M_truths_I) (fun _ h9 => h9) rfl dX7_ends_60 ?_
          exact J63 (fi 3) fi fs ga gs pl hf _ _ hP hD hS _ (lv_sub hl [0] rfl)
        · replace hf := it_of c2 hf
          refine lv_aload_n hx hb dX7_ends_52 rfl (lv_at hl 0 rfl) ?_
          refine va_get (D := D) (ci := 7) (v := .int (fi 2)) (C := RX7) (T := TX7) (N := 73) hx hb hts fw_7 hown hK hP 0 rfl rfl 2 (by decide) (hts _ m_fieldLink_M_16_M_fears_I) (fun _ h9 => h9) rfl dX7_ends_53 ?_
          refine lv_goto (tgt := 63) hx hb dX7_ends_56 (by decide) ?_
          exact J63 (fi 2) fi fs ga gs pl hf _ _ hP hD hS _ (lv_sub hl [0] rfl)
      · replace hf := ie_of c1 hf
        refine lv_aload_n hx hb dX7_ends_26 rfl (lv_at hl 0 rfl) ?_
        refine lv_aload_n hx hb dX7_ends_27 rfl (lv_at hl 0 rfl) ?_
        refine va_get (D := D) (ci := 7) (v := .ref (q 41)) (C := RX7) (T := TX7) (N := 73) hx hb hts fw_7 hown hK hP 0 rfl rfl 41 (by decide) (hts _ m_fieldLink_M_135_M_planWhat_aI) (fun _ h9 => h9) rfl dX7_ends_28 ?_
        refine lv_iload_n hx hb dX7_ends_31 rfl (lv_at hl 2 rfl) ?_
        obtain ⟨hi3, hf⟩ := gd_of hf
        refine va_iald hx hb hK hP 19 0 rfl rfl hi3 dX7_ends_32 ?_
        refine lv_aload_n hx hb dX7_ends_33 rfl (lv_at hl 0 rfl) ?_
        refine va_get (D := D) (ci := 7) (v := .ref (q 42)) (C := RX7) (T := TX7) (N := 73) hx hb hts fw_7 hown hK hP 0 rfl rfl 42 (by decide) (hts _ m_fieldLink_M_138_M_planMan_aI) (fun _ h9 => h9) rfl dX7_ends_34 ?_
        refine lv_iload_n hx hb dX7_ends_37 rfl (lv_at hl 2 rfl) ?_
        obtain ⟨hi4, hf⟩ := gd_of hf
        refine va_iald hx hb hK hP 20 0 rfl rfl hi4 dX7_ends_38 ?_
        obtain ⟨fi_5, ga_6, pl_7, hq8, hf⟩ := b3_of hf
        refine callVV (As := [.int ((ga 41) (Int32.toNatClampNeg x2)), .int ((ga 42) (Int32.toNatClampNeg x2))]) (rest := []) (wr := []) C0 (c_X7_goPlan h q fi fs ga gs pl it asd ((ga 41) (Int32.toNatClampNeg x2)) ((ga 42) (Int32.toNatClampNeg x2)) _ hq8) lk_X7_388_X7_goPlan rfl hP hD hS perm_nil 0 7 rfl rfl rfl hl.1 rfl rfl (Nat.le_of_ble_eq_true rfl) dX7_ends_39 ⟨Nat.zero_le _, Nat.zero_le _⟩ (fun w H locs hw hP hD hS => ?_)
        have e2 := hw
        subst e2
        replace hP : va_P D vwCl (Mw h q cA fi_5 fs ga_6 gs pl_7 it asd) H := hP.nil
        replace hD : va_D A (Mw h q cA fi_5 fs ga_6 gs pl_7 it asd) := hD.nil
        refine lv_iinc (v := (x2 + 1)) (lv' := [(2, .int (x2 + 1)), (0, .ref h), (1, .int a1)]) hx hb dX7_ends_42 hl (k := 2) rfl rfl (by decide) rfl (fun ls hl => ?_)
        refine lv_goto (tgt := 18) hx hb dX7_ends_45 (by decide) ?_
        exact ih (x2 + 1) fi_5 fs ga_6 gs pl_7 hf _ _ hP hD hS _ (lv_sub hl [1, 2, 0] rfl)
  unfold k_X7_ends at hf
  refine lv_aload_n hx hb dX7_ends_0 rfl (lv_at hl 0 rfl) ?_
  refine lv_iload_n hx hb dX7_ends_1 rfl (lv_at hl 1 rfl) ?_
  refine lv_iconst (v := 0) hx hb dX7_ends_2 (by decide) ?_
  refine lv_iconst (v := 1) hx hb dX7_ends_3 (by decide) ?_
  obtain ⟨r1q, hq2, hf⟩ := b1_of hf
  refine callVI (As := [.int a1, .int 0, .int 1]) (rest := []) (wr := (Mw h q cA fi0 fs0 ga0 gs0 pl0 it asd)) C0 (c_X7_in h a1 0 1 _ hq2) lk_X7_237_X7_in rfl hP hD hS (List.Perm.refl _) 0 7 rfl rfl rfl hl.1 rfl rfl (Nat.le_of_ble_eq_true rfl) dX7_ends_4 ⟨Nat.zero_le _, Nat.zero_le _⟩ (fun r1 w H locs hw hP hD hS => ?_)
  obtain ⟨⟨e1, e2⟩, z3⟩ := hw
  replace e1 : r1 = r1q := e1
  subst e1
  subst e2
  replace hP : va_P D vwCl (Mw h q cA fi0 fs0 ga0 gs0 pl0 it asd) H := hP
  replace hD : va_D A (Mw h q cA fi0 fs0 ga0 gs0 pl0 it asd) := hD
  refine lv_if_ne (tgt := 12) hx hb dX7_ends_7 (by decide) (fun c4 => ?_) (fun c4 => ?_)
  · replace hf := ie_of c4 hf
    refine lv_aload_n hx hb dX7_ends_12 rfl (lv_at hl 0 rfl) ?_
    obtain ⟨fs_5, gs_6, hq7, hf⟩ := b2_of hf
    refine callVV (As := []) (rest := []) (wr := []) C0 (c_X7_save h q fi0 fs0 ga0 gs0 pl0 it asd _ hq7) lk_X7_342_X7_save rfl hP hD hS perm_nil 0 7 rfl rfl rfl hl.1 rfl rfl (Nat.le_of_ble_eq_true rfl) dX7_ends_13 ⟨Nat.zero_le _, Nat.zero_le _⟩ (fun w H locs hw hP hD hS => ?_)
    have e2 := hw
    subst e2
    replace hP : va_P D vwCl (Mw h q cA fi0 fs_5 ga0 gs_6 pl0 it asd) H := hP.nil
    replace hD : va_D A (Mw h q cA fi0 fs_5 ga0 gs_6 pl0 it asd) := hD.nil
    refine lv_iconst (v := 0) hx hb dX7_ends_16 (by decide) ?_
    refine lv_istore_n (lv' := [(2, .int 0), (0, .ref h), (1, .int a1)]) hx hb dX7_ends_17 rfl hl (by decide) rfl (fun ls hl => ?_)
    exact J18 100000 0 fi0 fs_5 ga0 gs_6 pl0 hf _ _ hP hD hS _ (lv_sub hl [1, 2, 0] rfl)
  · replace hf := it_of c4 hf
    refine lv_iconst (v := (-1)) hx hb dX7_ends_10 (by decide) ?_
    rw [hQ]
    exact ret_i C0 hP hD hS (by have e := Option.some.inj hf; rw [← e]; exact ⟨rfl, rfl⟩) dX7_ends_11

-- X6 taken
noncomputable def k_X6_taken (a1 : Int32) (a2 : Int32) (nf : Nat → Int32) (ng : Nat → Nat → Int32) : Option Int32 := b1 (k_X6_isWithin a2 6) (fun r1 => if r1 = 0 then some (-2) else b1 (k_X1_has a1 nf) (fun r5 => if r5 = 0 then some (-11) else gd a1 6 (b1 (k_X6_isUnder ((ng 7) (Int32.toNatClampNeg a1)) a2) (fun r10 => if r10 = 0 then some (-12) else gd a1 6 (some ((ng 7) (Int32.toNatClampNeg a1)))))))
set_option maxHeartbeats 4000000 in
set_option maxRecDepth 100000 in
theorem c_X6_taken {l : Launch} {D : va_G} {cA : Nat → ClassId} (oo : Nat) (qn : Nat → Nat) (qk : Nat → Nat) (qt : Nat → Nat) (qx : Nat → Nat) (qa : Nat → Nat) (ts : Nat) (wa : Nat) (qc : Nat → Nat → Nat) (pf : Nat → Int32) (sp : Option Nat) (nf : Nat → Int32) (ng : Nat → Nat → Int32) (nc : Option Nat) (a1 : Int32) (a2 : Int32) (o : Int32) (hf : k_X6_taken a1 a2 nf ng = some o) : CI l D cA yX6_taken cX6_taken 3 (some .int) 2 43 [.ref oo, .int a1, .int a2] (List.flatten [(Po oo qn qk qt qx qa ts wa pf (chv qc sp)), (Cw qn cA (chv qc nc) nf ng)]) 0 0 (fun r w => r = o ∧ w = (List.flatten [(Po oo qn qk qt qx qa ts wa pf (chv qc sp)), (Cw qn cA (chv qc nc) nf ng)])) := by
  intro sz
  refine met_start (by decide) rfl ?_
  intro p e s m args below meth c ls hsz hargs C0 hname hP hD hS hl
  generalize hAe : va_A (List.flatten [(Po oo qn qk qt qx qa ts wa pf (chv qc sp)), (Cw qn cA (chv qc nc) nf ng)]) sz = A at C0 hD hS ⊢
  obtain ⟨hx, hb, hr, hml, hown, hts, hlk, hK, hA⟩ := id C0
  replace hl : lv_has ls 3 [(0, .ref oo), (1, .int a1), (2, .int a2)] := hl
  obtain ⟨Q, hQ⟩ : ∃ Q : State → Prop, Q = QI below D A (fun r w => r = o ∧ w = (List.flatten [(Po oo qn qk qt qx qa ts wa pf (chv qc sp)), (Cw qn cA (chv qc nc) nf ng)])) args s 0 0 := ⟨_, rfl⟩
  refine cast (by rw [hQ]) (?_ : W p l e (RMx 2 43 0 0) s m args below meth c s.heap [] 0 0 Q (F0 m 0 ls []))
  unfold k_X6_taken at hf
  refine lv_iload_n hx hb dX6_taken_0 rfl (lv_at hl 2 rfl) ?_
  refine lv_bipush (v := 6) hx hb dX6_taken_1 (by decide) ?_
  obtain ⟨r1q, hq2, hf⟩ := b1_of hf
  refine callSI (As := [.int a2, .int 6]) (rest := []) (wr := (List.flatten [(Po oo qn qk qt qx qa ts wa pf (chv qc sp)), (Cw qn cA (chv qc nc) nf ng)])) C0 (c_X6_isWithin a2 6 _ hq2) lk_X6_49_X6_isWithin rfl hP hD hS (List.Perm.refl _) hl.1 rfl rfl (Nat.le_of_ble_eq_true rfl) dX6_taken_3 ⟨Nat.zero_le _, Nat.zero_le _⟩ (fun r1 w H locs hw hP hD hS => ?_)
  obtain ⟨⟨e1, e2⟩, z3⟩ := hw
  replace e1 : r1 = r1q := e1
  subst e1
  subst e2
  replace hP : va_P D vwCl (List.flatten [(Po oo qn qk qt qx qa ts wa pf (chv qc sp)), (Cw qn cA (chv qc nc) nf ng)]) H := hP
  replace hD : va_D A (List.flatten [(Po oo qn qk qt qx qa ts wa pf (chv qc sp)), (Cw qn cA (chv qc nc) nf ng)]) := hD
  refine lv_if_ne (tgt := 12) hx hb dX6_taken_6 (by decide) (fun c4 => ?_) (fun c4 => ?_)
  · replace hf := ie_of c4 hf
    refine lv_aload_n hx hb dX6_taken_12 rfl (lv_at hl 0 rfl) ?_
    refine va_get (D := D) (ci := 6) (v := .ref (qn 0)) (C := RX6) (T := TX6) (N := 10) hx hb hts fw_6 hown hK hP 0 rfl rfl 0 (by decide) (hts _ m_fieldLink_P_12_P_now_LP_Cellar) (fun _ h9 => h9) rfl dX6_taken_13 ?_
    refine lv_iload_n hx hb dX6_taken_16 rfl (lv_at hl 1 rfl) ?_
    obtain ⟨r5q, hq6, hf⟩ := b1_of hf
    refine callVI (As := [.int a1]) (rest := []) (wr := segpick [(Po oo qn qk qt qx qa ts wa pf (chv qc sp)), (Cw qn cA (chv qc nc) nf ng)] [0]) C0 (c_X1_has qn qc nf ng nc a1 _ hq6) lk_X6_61_X1_has rfl hP hD hS (seg_out [(Po oo qn qk qt qx qa ts wa pf (chv qc sp)), (Cw qn cA (chv qc nc) nf ng)] [1] [0] 2 rfl (by decide)) 1 1 rfl rfl rfl hl.1 rfl rfl (Nat.le_of_ble_eq_true rfl) dX6_taken_17 ⟨Nat.zero_le _, Nat.zero_le _⟩ (fun r5 w H locs hw hP hD hS => ?_)
    obtain ⟨⟨e1, e2⟩, z7⟩ := hw
    replace e1 : r5 = r5q := e1
    subst e1
    subst e2
    replace hP : va_P D vwCl (List.flatten [(Po oo qn qk qt qx qa ts wa pf (chv qc sp)), (Cw qn cA (chv qc nc) nf ng)]) H := hP.perm (seg_out [(Po oo qn qk qt qx qa ts wa pf (chv qc sp)), (Cw qn cA (chv qc nc) nf ng)] [1] [0] 2 rfl (by decide)).symm
    replace hD : va_D A (List.flatten [(Po oo qn qk qt qx qa ts wa pf (chv qc sp)), (Cw qn cA (chv qc nc) nf ng)]) := hD.perm (seg_out [(Po oo qn qk qt qx qa ts wa pf (chv qc sp)), (Cw qn cA (chv qc nc) nf ng)] [1] [0] 2 rfl (by decide)).symm
    refine lv_if_ne (tgt := 26) hx hb dX6_taken_20 (by decide) (fun c8 => ?_) (fun c8 => ?_)
    · replace hf := ie_of c8 hf
      refine lv_aload_n hx hb dX6_taken_26 rfl (lv_at hl 0 rfl) ?_
      refine va_get (D := D) (ci := 6) (v := .ref (qn 0)) (C := RX6) (T := TX6) (N := 10) hx hb hts fw_6 hown hK hP 0 rfl rfl 0 (by decide) (hts _ m_fieldLink_P_12_P_now_LP_Cellar) (fun _ h9 => h9) rfl dX6_taken_27 ?_
      refine va_get (D := D) (ci := 1) (v := .ref (qn 7)) (C := RX1) (T := TX1) (N := 16) hx hb hts fw_1 hown hK hP 1 rfl rfl 7 (by decide) (hts _ m_fieldLink_P_65_P_Cellar_kind_aI) (fun _ h9 => h9) rfl dX6_taken_30 ?_
      refine lv_iload_n hx hb dX6_taken_33 rfl (lv_at hl 1 rfl) ?_
      obtain ⟨hi9, hf⟩ := gd_of hf
      refine va_iald hx hb hK hP 2 0 rfl rfl hi9 dX6_taken_34 ?_
      refine lv_iload_n hx hb dX6_taken_35 rfl (lv_at hl 2 rfl) ?_
      obtain ⟨r10q, hq11, hf⟩ := b1_of hf
      refine callSI (As := [.int ((ng 7) (Int32.toNatClampNeg a1)), .int a2]) (rest := []) (wr := (List.flatten [(Po oo qn qk qt qx qa ts wa pf (chv qc sp)), (Cw qn cA (chv qc nc) nf ng)])) C0 (c_X6_isUnder ((ng 7) (Int32.toNatClampNeg a1)) a2 _ hq11) lk_X6_250_X6_isUnder rfl hP hD hS (List.Perm.refl _) hl.1 rfl rfl (Nat.le_of_ble_eq_true rfl) dX6_taken_36 ⟨Nat.zero_le _, Nat.zero_le _⟩ (fun r10 w H locs hw hP hD hS => ?_)
      obtain ⟨⟨e1, e2⟩, z12⟩ := hw
      replace e1 : r10 = r10q := e1
      subst e1
      subst e2
      replace hP : va_P D vwCl (List.flatten [(Po oo qn qk qt qx qa ts wa pf (chv qc sp)), (Cw qn cA (chv qc nc) nf ng)]) H := hP
      replace hD : va_D A (List.flatten [(Po oo qn qk qt qx qa ts wa pf (chv qc sp)), (Cw qn cA (chv qc nc) nf ng)]) := hD
      refine lv_if_eq (tgt := 54) hx hb dX6_taken_39 (by decide) (fun c13 => ?_) (fun c13 => ?_)
      · replace hf := it_of c13 hf
        refine lv_bipush (v := (-12)) hx hb dX6_taken_54 (by decide) ?_
        rw [hQ]
        exact ret_i C0 hP hD hS (by have e := Option.some.inj hf; rw [← e]; exact ⟨rfl, rfl⟩) dX6_taken_56
      · replace hf := ie_of c13 hf
        refine lv_aload_n hx hb dX6_taken_42 rfl (lv_at hl 0 rfl) ?_
        refine va_get (D := D) (ci := 6) (v := .ref (qn 0)) (C := RX6) (T := TX6) (N := 10) hx hb hts fw_6 hown hK hP 0 rfl rfl 0 (by decide) (hts _ m_fieldLink_P_12_P_now_LP_Cellar) (fun _ h9 => h9) rfl dX6_taken_43 ?_
        refine va_get (D := D) (ci := 1) (v := .ref (qn 7)) (C := RX1) (T := TX1) (N := 16) hx hb hts fw_1 hown hK hP 1 rfl rfl 7 (by decide) (hts _ m_fieldLink_P_65_P_Cellar_kind_aI) (fun _ h9 => h9) rfl dX6_taken_46 ?_
        refine lv_iload_n hx hb dX6_taken_49 rfl (lv_at hl 1 rfl) ?_
        obtain ⟨hi14, hf⟩ := gd_of hf
        refine va_iald hx hb hK hP 2 0 rfl rfl hi14 dX6_taken_50 ?_
        refine lv_goto (tgt := 56) hx hb dX6_taken_51 (by decide) ?_
        rw [hQ]
        exact ret_i C0 hP hD hS (by have e := Option.some.inj hf; rw [← e]; exact ⟨rfl, rfl⟩) dX6_taken_56
    · replace hf := it_of c8 hf
      refine lv_bipush (v := (-11)) hx hb dX6_taken_23 (by decide) ?_
      rw [hQ]
      exact ret_i C0 hP hD hS (by have e := Option.some.inj hf; rw [← e]; exact ⟨rfl, rfl⟩) dX6_taken_25
  · replace hf := it_of c4 hf
    refine lv_bipush (v := (-2)) hx hb dX6_taken_9 (by decide) ?_
    rw [hQ]
    exact ret_i C0 hP hD hS (by have e := Option.some.inj hf; rw [← e]; exact ⟨rfl, rfl⟩) dX6_taken_11
-- X6 count
noncomputable def k_X6_count (a1 : Int32) (pf : Nat → Int32) (nf : Nat → Int32) (nhc : Int32) (npc : Int32) (nbc : Int32) (xf : Nat → Int32) (af : Nat → Int32) : Option Int32 := if a1 = 0 then some (nf 0) else if a1 = 1 then some (pf 7) else if a1 = 2 then some nhc else if a1 = 3 then some npc else if a1 = 4 then some nbc else if a1 = 5 then some (xf 0) else if a1 = 6 then some (af 0) else some (-2)
set_option maxHeartbeats 4000000 in
set_option maxRecDepth 100000 in
theorem c_X6_count {l : Launch} {D : va_G} {cA : Nat → ClassId} (oo : Nat) (qn : Nat → Nat) (qk : Nat → Nat) (qt : Nat → Nat) (qx : Nat → Nat) (qa : Nat → Nat) (ts : Nat) (wa : Nat) (qc : Nat → Nat → Nat) (pf : Nat → Int32) (sp : Option Nat) (nf : Nat → Int32) (ng : Nat → Nat → Int32) (nc : Option Nat) (nhc : Int32) (nha : Nat → Int32) (nhb : Nat → Int32) (npc : Int32) (npa : Nat → Int32) (npb : Nat → Int32) (nbc : Int32) (nba : Nat → Int32) (nbb : Nat → Int32) (xf : Nat → Int32) (xs : Nat → Int32) (xv : Value) (af : Nat → Int32) (ab : Nat → Int32) (a1 : Int32) (o : Int32) (hf : k_X6_count a1 pf nf nhc npc nbc xf af = some o) : CI l D cA yX6_count cX6_count 2 (some .int) 0 0 [.ref oo, .int a1] (List.flatten [(Po oo qn qk qt qx qa ts wa pf (chv qc sp)), (Cw qn cA (chv qc nc) nf ng), (Rw (qn 12) (qn 20) (qn 21) cA 5 nhc nha nhb), (Rw (qn 13) (qn 22) (qn 23) cA 10 npc npa npb), (Rw (qn 14) (qn 24) (qn 25) cA 8 nbc nba nbb), (Tw qx cA xf xs xv), (Aw qa cA af ab)]) 0 0 (fun r w => r = o ∧ w = (List.flatten [(Po oo qn qk qt qx qa ts wa pf (chv qc sp)), (Cw qn cA (chv qc nc) nf ng), (Rw (qn 12) (qn 20) (qn 21) cA 5 nhc nha nhb), (Rw (qn 13) (qn 22) (qn 23) cA 10 npc npa npb), (Rw (qn 14) (qn 24) (qn 25) cA 8 nbc nba nbb), (Tw qx cA xf xs xv), (Aw qa cA af ab)])) := by
  intro sz
  refine met_start (by decide) rfl ?_
  intro p e s m args below meth c ls hsz hargs C0 hname hP hD hS hl
  generalize hAe : va_A (List.flatten [(Po oo qn qk qt qx qa ts wa pf (chv qc sp)), (Cw qn cA (chv qc nc) nf ng), (Rw (qn 12) (qn 20) (qn 21) cA 5 nhc nha nhb), (Rw (qn 13) (qn 22) (qn 23) cA 10 npc npa npb), (Rw (qn 14) (qn 24) (qn 25) cA 8 nbc nba nbb), (Tw qx cA xf xs xv), (Aw qa cA af ab)]) sz = A at C0 hD hS ⊢
  obtain ⟨hx, hb, hr, hml, hown, hts, hlk, hK, hA⟩ := id C0
  replace hl : lv_has ls 2 [(0, .ref oo), (1, .int a1)] := hl
  obtain ⟨Q, hQ⟩ : ∃ Q : State → Prop, Q = QI below D A (fun r w => r = o ∧ w = (List.flatten [(Po oo qn qk qt qx qa ts wa pf (chv qc sp)), (Cw qn cA (chv qc nc) nf ng), (Rw (qn 12) (qn 20) (qn 21) cA 5 nhc nha nhb), (Rw (qn 13) (qn 22) (qn 23) cA 10 npc npa npb), (Rw (qn 14) (qn 24) (qn 25) cA 8 nbc nba nbb), (Tw qx cA xf xs xv), (Aw qa cA af ab)])) args s 0 0 := ⟨_, rfl⟩
  refine cast (by rw [hQ]) (?_ : W p l e (RMx 0 0 0 0) s m args below meth c s.heap [] 0 0 Q (F0 m 0 ls []))
  unfold k_X6_count at hf
  refine lv_iload_n hx hb dX6_count_0 rfl (lv_at hl 1 rfl) ?_
  by_cases c1 : a1 = 0
  · replace hf := it_of c1 hf
    refine lv_tableIn (off := 43) (tgt := 44) hx hb dX6_count_1 (by rw [c1]; decide) (by rw [c1]; decide) (by rw [c1]; decide) (by decide) ?_
    refine lv_aload_n hx hb dX6_count_44 rfl (lv_at hl 0 rfl) ?_
    refine va_get (D := D) (ci := 6) (v := .ref (qn 0)) (C := RX6) (T := TX6) (N := 10) hx hb hts fw_6 hown hK hP 0 rfl rfl 0 (by decide) (hts _ m_fieldLink_P_12_P_now_LP_Cellar) (fun _ h9 => h9) rfl dX6_count_45 ?_
    refine va_get (D := D) (ci := 1) (v := .int (nf 0)) (C := RX1) (T := TX1) (N := 16) hx hb hts fw_1 hown hK hP 1 rfl rfl 0 (by decide) (hts _ m_fieldLink_P_53_P_Cellar_men_I) (fun _ h9 => h9) rfl dX6_count_48 ?_
    rw [hQ]
    exact ret_i C0 hP hD hS (by have e := Option.some.inj hf; rw [← e]; exact ⟨rfl, rfl⟩) dX6_count_51
  · replace hf := ie_of c1 hf
    by_cases c2 : a1 = 1
    · replace hf := it_of c2 hf
      refine lv_tableIn (off := 51) (tgt := 52) hx hb dX6_count_1 (by rw [c2]; decide) (by rw [c2]; decide) (by rw [c2]; decide) (by decide) ?_
      refine lv_aload_n hx hb dX6_count_52 rfl (lv_at hl 0 rfl) ?_
      refine va_get (D := D) (ci := 6) (v := .int (pf 7)) (C := RX6) (T := TX6) (N := 10) hx hb hts fw_6 hown hK hP 0 rfl rfl 7 (by decide) (hts _ m_fieldLink_P_102_P_charters_I) (fun _ h9 => h9) rfl dX6_count_53 ?_
      rw [hQ]
      exact ret_i C0 hP hD hS (by have e := Option.some.inj hf; rw [← e]; exact ⟨rfl, rfl⟩) dX6_count_56
    · replace hf := ie_of c2 hf
      by_cases c3 : a1 = 2
      · replace hf := it_of c3 hf
        refine lv_tableIn (off := 56) (tgt := 57) hx hb dX6_count_1 (by rw [c3]; decide) (by rw [c3]; decide) (by rw [c3]; decide) (by decide) ?_
        refine lv_aload_n hx hb dX6_count_57 rfl (lv_at hl 0 rfl) ?_
        refine va_get (D := D) (ci := 6) (v := .ref (qn 0)) (C := RX6) (T := TX6) (N := 10) hx hb hts fw_6 hown hK hP 0 rfl rfl 0 (by decide) (hts _ m_fieldLink_P_12_P_now_LP_Cellar) (fun _ h9 => h9) rfl dX6_count_58 ?_
        refine va_get (D := D) (ci := 1) (v := .ref (qn 12)) (C := RX1) (T := TX1) (N := 16) hx hb hts fw_1 hown hK hP 1 rfl rfl 12 (by decide) (hts _ m_fieldLink_P_166_P_Cellar_heard_LP_Rows) (fun _ h9 => h9) rfl dX6_count_61 ?_
        refine va_get (D := D) (ci := 3) (v := .int nhc) (C := RX3) (T := TX3) (N := 3) hx hb hts fw_3 hown hK hP 7 rfl rfl 0 (by decide) (hts _ m_fieldLink_P_201_P_Rows_count_I) (fun _ h9 => h9) rfl dX6_count_64 ?_
        rw [hQ]
        exact ret_i C0 hP hD hS (by have e := Option.some.inj hf; rw [← e]; exact ⟨rfl, rfl⟩) dX6_count_67
      · replace hf := ie_of c3 hf
        by_cases c4 : a1 = 3
        · replace hf := it_of c4 hf
          refine lv_tableIn (off := 67) (tgt := 68) hx hb dX6_count_1 (by rw [c4]; decide) (by rw [c4]; decide) (by rw [c4]; decide) (by decide) ?_
          refine lv_aload_n hx hb dX6_count_68 rfl (lv_at hl 0 rfl) ?_
          refine va_get (D := D) (ci := 6) (v := .ref (qn 0)) (C := RX6) (T := TX6) (N := 10) hx hb hts fw_6 hown hK hP 0 rfl rfl 0 (by decide) (hts _ m_fieldLink_P_12_P_now_LP_Cellar) (fun _ h9 => h9) rfl dX6_count_69 ?_
          refine va_get (D := D) (ci := 1) (v := .ref (qn 13)) (C := RX1) (T := TX1) (N := 16) hx hb hts fw_1 hown hK hP 1 rfl rfl 13 (by decide) (hts _ m_fieldLink_P_198_P_Cellar_plan_LP_Rows) (fun _ h9 => h9) rfl dX6_count_72 ?_
          refine va_get (D := D) (ci := 3) (v := .int npc) (C := RX3) (T := TX3) (N := 3) hx hb hts fw_3 hown hK hP 10 rfl rfl 0 (by decide) (hts _ m_fieldLink_P_201_P_Rows_count_I) (fun _ h9 => h9) rfl dX6_count_75 ?_
          rw [hQ]
          exact ret_i C0 hP hD hS (by have e := Option.some.inj hf; rw [← e]; exact ⟨rfl, rfl⟩) dX6_count_78
        · replace hf := ie_of c4 hf
          by_cases c5 : a1 = 4
          · replace hf := it_of c5 hf
            refine lv_tableIn (off := 78) (tgt := 79) hx hb dX6_count_1 (by rw [c5]; decide) (by rw [c5]; decide) (by rw [c5]; decide) (by decide) ?_
            refine lv_aload_n hx hb dX6_count_79 rfl (lv_at hl 0 rfl) ?_
            refine va_get (D := D) (ci := 6) (v := .ref (qn 0)) (C := RX6) (T := TX6) (N := 10) hx hb hts fw_6 hown hK hP 0 rfl rfl 0 (by decide) (hts _ m_fieldLink_P_12_P_now_LP_Cellar) (fun _ h9 => h9) rfl dX6_count_80 ?_
            refine va_get (D := D) (ci := 1) (v := .ref (qn 14)) (C := RX1) (T := TX1) (N := 16) hx hb hts fw_1 hown hK hP 1 rfl rfl 14 (by decide) (hts _ m_fieldLink_P_214_P_Cellar_book_LP_Rows) (fun _ h9 => h9) rfl dX6_count_83 ?_
            refine va_get (D := D) (ci := 3) (v := .int nbc) (C := RX3) (T := TX3) (N := 3) hx hb hts fw_3 hown hK hP 13 rfl rfl 0 (by decide) (hts _ m_fieldLink_P_201_P_Rows_count_I) (fun _ h9 => h9) rfl dX6_count_86 ?_
            rw [hQ]
            exact ret_i C0 hP hD hS (by have e := Option.some.inj hf; rw [← e]; exact ⟨rfl, rfl⟩) dX6_count_89
          · replace hf := ie_of c5 hf
            by_cases c6 : a1 = 5
            · replace hf := it_of c6 hf
              refine lv_tableIn (off := 89) (tgt := 90) hx hb dX6_count_1 (by rw [c6]; decide) (by rw [c6]; decide) (by rw [c6]; decide) (by decide) ?_
              refine lv_aload_n hx hb dX6_count_90 rfl (lv_at hl 0 rfl) ?_
              refine va_get (D := D) (ci := 6) (v := .ref (qx 0)) (C := RX6) (T := TX6) (N := 10) hx hb hts fw_6 hown hK hP 0 rfl rfl 3 (by decide) (hts _ m_fieldLink_P_27_P_text_LP_Text) (fun _ h9 => h9) rfl dX6_count_91 ?_
              refine va_get (D := D) (ci := 5) (v := .int (xf 0)) (C := RX5) (T := TX5) (N := 4) hx hb hts fw_5 hown hK hP 16 rfl rfl 0 (by decide) (hts _ m_fieldLink_P_97_P_Text_length_I) (fun _ h9 => h9) rfl dX6_count_94 ?_
              rw [hQ]
              exact ret_i C0 hP hD hS (by have e := Option.some.inj hf; rw [← e]; exact ⟨rfl, rfl⟩) dX6_count_97
            · replace hf := ie_of c6 hf
              by_cases c7 : a1 = 6
              · replace hf := it_of c7 hf
                refine lv_tableIn (off := 97) (tgt := 98) hx hb dX6_count_1 (by rw [c7]; decide) (by rw [c7]; decide) (by rw [c7]; decide) (by decide) ?_
                refine lv_aload_n hx hb dX6_count_98 rfl (lv_at hl 0 rfl) ?_
                refine va_get (D := D) (ci := 6) (v := .ref (qa 0)) (C := RX6) (T := TX6) (N := 10) hx hb hts fw_6 hown hK hP 0 rfl rfl 4 (by decide) (hts _ m_fieldLink_P_34_P_acts_LP_Acts) (fun _ h9 => h9) rfl dX6_count_99 ?_
                refine va_get (D := D) (ci := 0) (v := .int (af 0)) (C := RX0) (T := TX0) (N := 5) hx hb hts fw_0 hown hK hP 18 rfl rfl 0 (by decide) (hts _ m_fieldLink_P_235_P_Acts_ran_I) (fun _ h9 => h9) rfl dX6_count_102 ?_
                rw [hQ]
                exact ret_i C0 hP hD hS (by have e := Option.some.inj hf; rw [← e]; exact ⟨rfl, rfl⟩) dX6_count_105
              · replace hf := ie_of c7 hf
                refine lv_tableOut (tgt := 106) hx hb dX6_count_1 (by have := lv_neT c1 (a := 0) (by decide); have := lv_neT c2 (a := 1) (by decide); have := lv_neT c3 (a := 2) (by decide); have := lv_neT c4 (a := 3) (by decide); have := lv_neT c5 (a := 4) (by decide); have := lv_neT c6 (a := 5) (by decide); have := lv_neT c7 (a := 6) (by decide); omega) (by decide) ?_
                refine lv_bipush (v := (-2)) hx hb dX6_count_106 (by decide) ?_
                rw [hQ]
                exact ret_i C0 hP hD hS (by have e := Option.some.inj hf; rw [← e]; exact ⟨rfl, rfl⟩) dX6_count_108
-- X6 tape
noncomputable def k_X6_tape_63 (a1 : Int32) (t1 : Int32) (t2 : Int32) (tpf : Nat → Nat → Int32) (tpi : Nat → Nat → Int64) : Option (Int32 × (Nat → Nat → Int32) × (Nat → Nat → Int64)) := gd a1 6 (b2 (k_X4_become t1 t2 (tpf (Int32.toNatClampNeg a1)) (tpi (Int32.toNatClampNeg a1))) (fun tpf_2 tpi_3 => some (1, (va_up tpf (Int32.toNatClampNeg a1) tpf_2), (va_up tpi (Int32.toNatClampNeg a1) tpi_3))))
noncomputable def k_X6_tape_46 (a1 : Int32) (a2 : Int32) (a3 : Int32) (tpf : Nat → Nat → Int32) (tpi : Nat → Nat → Int64) : Option (Int32 × (Nat → Nat → Int32) × (Nat → Nat → Int64)) := gd a1 6 (if a2 = (-1) then k_X6_tape_63 a1 a2 0 tpf tpi else k_X6_tape_63 a1 a2 a3 tpf tpi)
noncomputable def k_X6_tape_34 (a1 : Int32) (a2 : Int32) (a3 : Int32) (tpf : Nat → Nat → Int32) (tpi : Nat → Nat → Int64) : Option (Int32 × (Nat → Nat → Int32) × (Nat → Nat → Int64)) := if a2 = (-1) then k_X6_tape_46 a1 a2 a3 tpf tpi else if 0 ≤ a3 then k_X6_tape_46 a1 a2 a3 tpf tpi else some ((-14), tpf, tpi)
noncomputable def k_X6_tape (a1 : Int32) (a2 : Int32) (a3 : Int32) (tpf0 : Nat → Nat → Int32) (tpi0 : Nat → Nat → Int64) (pf : Nat → Int32) : Option (Int32 × (Nat → Nat → Int32) × (Nat → Nat → Int64)) := b1 (k_X6_isWithin a1 5) (fun r1 => if r1 = 0 then some ((-1), tpf0, tpi0) else if a2 < (-1) then some ((-2), tpf0, tpi0) else if 4 < a2 then some ((-2), tpf0, tpi0) else if a2 = (-1) then k_X6_tape_34 a1 a2 a3 tpf0 tpi0 else if a3 ≤ 60 then k_X6_tape_34 a1 a2 a3 tpf0 tpi0 else some ((-2), tpf0, tpi0))
set_option maxHeartbeats 4000000 in
set_option maxRecDepth 100000 in
theorem c_X6_tape {l : Launch} {D : va_G} {cA : Nat → ClassId} (oo : Nat) (qn : Nat → Nat) (qk : Nat → Nat) (qt : Nat → Nat) (qx : Nat → Nat) (qa : Nat → Nat) (ts : Nat) (wa : Nat) (qc : Nat → Nat → Nat) (qs : Nat → Nat → Nat) (tpf0 : Nat → Nat → Int32) (tpi0 : Nat → Nat → Int64) (pf : Nat → Int32) (sp : Option Nat) (a1 : Int32) (a2 : Int32) (a3 : Int32) (o : Int32 × (Nat → Nat → Int32) × (Nat → Nat → Int64)) (hf : k_X6_tape a1 a2 a3 tpf0 tpi0 pf = some o) : CI l D cA yX6_tape cX6_tape 4 (some .int) 1 23 [.ref oo, .int a1, .int a2, .int a3] (List.flatten [(Tps qs cA tpf0 tpi0), (Po oo qn qk qt qx qa ts wa pf (chv qc sp)), (TAw ts cA qs)]) 0 0 (fun r w => r = o.1 ∧ w = (List.flatten [(Tps qs cA o.2.1 o.2.2), (Po oo qn qk qt qx qa ts wa pf (chv qc sp)), (TAw ts cA qs)])) := by
  intro sz
  refine met_start (by decide) rfl ?_
  intro p e s m args below meth c ls hsz hargs C0 hname hP hD hS hl
  generalize hAe : va_A (List.flatten [(Tps qs cA tpf0 tpi0), (Po oo qn qk qt qx qa ts wa pf (chv qc sp)), (TAw ts cA qs)]) sz = A at C0 hD hS ⊢
  obtain ⟨hx, hb, hr, hml, hown, hts, hlk, hK, hA⟩ := id C0
  replace hl : lv_has ls 4 [(0, .ref oo), (1, .int a1), (2, .int a2), (3, .int a3)] := hl
  obtain ⟨Q, hQ⟩ : ∃ Q : State → Prop, Q = QI below D A (fun r w => r = o.1 ∧ w = (List.flatten [(Tps qs cA o.2.1 o.2.2), (Po oo qn qk qt qx qa ts wa pf (chv qc sp)), (TAw ts cA qs)])) args s 0 0 := ⟨_, rfl⟩
  refine cast (by rw [hQ]) (?_ : W p l e (RMx 1 23 0 0) s m args below meth c s.heap [] 0 0 Q (F0 m 0 ls []))
  have J63 : ∀ (t1 : Int32) (t2 : Int32) (tpf : Nat → Nat → Int32) (tpi : Nat → Nat → Int64), k_X6_tape_63 a1 t1 t2 tpf tpi = some o → ∀ (H : Heap) (locs : List Loc), va_P D vwCl (List.flatten [(Tps qs cA tpf tpi), (Po oo qn qk qt qx qa ts wa pf (chv qc sp)), (TAw ts cA qs)]) H → va_D A (List.flatten [(Tps qs cA tpf tpi), (Po oo qn qk qt qx qa ts wa pf (chv qc sp)), (TAw ts cA qs)]) → va_S A s.heap H locs → ∀ ls : Array Slot, lv_has ls 4 [] → W p l e (RMx 1 23 0 0) s m args below meth c H locs 0 0 Q (F0 m 63 ls [.int t2, .int t1, .ref (qs (Int32.toNatClampNeg a1) 0)]) := by
    intro  t1 t2 tpf tpi hf H locs hP hD hS ls hl
    unfold k_X6_tape_63 at hf
    obtain ⟨hj1, hf⟩ := gd_of hf
    obtain ⟨tpf_2, tpi_3, hq4, hf⟩ := b2_of hf
    refine callVV (As := [.int t1, .int t2]) (rest := []) (wr := segpick [(Tp (qs (Int32.toNatClampNeg a1)) cA (tpf (Int32.toNatClampNeg a1)) (tpi (Int32.toNatClampNeg a1))), (TpsR qs cA tpf tpi (Int32.toNatClampNeg a1)), (Po oo qn qk qt qx qa ts wa pf (chv qc sp)), (TAw ts cA qs)] [1, 2, 3]) C0 (c_X4_become (qs (Int32.toNatClampNeg a1)) (tpf (Int32.toNatClampNeg a1)) (tpi (Int32.toNatClampNeg a1)) t1 t2 _ hq4) lk_X6_253_X4_become rfl hP hD hS ((seg_split [] (Tps qs cA tpf tpi) (Tp (qs (Int32.toNatClampNeg a1)) cA (tpf (Int32.toNatClampNeg a1)) (tpi (Int32.toNatClampNeg a1))) (TpsR qs cA tpf tpi (Int32.toNatClampNeg a1)) [(Po oo qn qk qt qx qa ts wa pf (chv qc sp)), (TAw ts cA qs)] (tps_out (vp_lt hj1))).trans (seg_out [(Tp (qs (Int32.toNatClampNeg a1)) cA (tpf (Int32.toNatClampNeg a1)) (tpi (Int32.toNatClampNeg a1))), (TpsR qs cA tpf tpi (Int32.toNatClampNeg a1)), (Po oo qn qk qt qx qa ts wa pf (chv qc sp)), (TAw ts cA qs)] [0] [1, 2, 3] 4 rfl (by decide))) (2 * (Int32.toNatClampNeg a1) + 0) 4 (tps_at (vp_lt hj1) (by decide) _) rfl rfl hl.1 rfl rfl (Nat.le_of_ble_eq_true rfl) dX6_tape_63 ⟨Nat.zero_le _, Nat.zero_le _⟩ (fun w H locs hw hP hD hS => ?_)
    have e2 := hw
    subst e2
    replace hP : va_P D vwCl (List.flatten [(Tps qs cA (va_up tpf (Int32.toNatClampNeg a1) tpf_2) (va_up tpi (Int32.toNatClampNeg a1) tpi_3)), (Po oo qn qk qt qx qa ts wa pf (chv qc sp)), (TAw ts cA qs)]) H := hP.perm ((seg_out [(Tp (qs (Int32.toNatClampNeg a1)) cA tpf_2 tpi_3), (TpsR qs cA tpf tpi (Int32.toNatClampNeg a1)), (Po oo qn qk qt qx qa ts wa pf (chv qc sp)), (TAw ts cA qs)] [0] [1, 2, 3] 4 rfl (by decide)).symm.trans (seg_split [] (Tps qs cA (va_up tpf (Int32.toNatClampNeg a1) tpf_2) (va_up tpi (Int32.toNatClampNeg a1) tpi_3)) (Tp (qs (Int32.toNatClampNeg a1)) cA tpf_2 tpi_3) (TpsR qs cA tpf tpi (Int32.toNatClampNeg a1)) [(Po oo qn qk qt qx qa ts wa pf (chv qc sp)), (TAw ts cA qs)] (tps_in (vp_lt hj1))).symm)
    replace hD : va_D A (List.flatten [(Tps qs cA (va_up tpf (Int32.toNatClampNeg a1) tpf_2) (va_up tpi (Int32.toNatClampNeg a1) tpi_3)), (Po oo qn qk qt qx qa ts wa pf (chv qc sp)), (TAw ts cA qs)]) := hD.perm ((seg_out [(Tp (qs (Int32.toNatClampNeg a1)) cA tpf_2 tpi_3), (TpsR qs cA tpf tpi (Int32.toNatClampNeg a1)), (Po oo qn qk qt qx qa ts wa pf (chv qc sp)), (TAw ts cA qs)] [0] [1, 2, 3] 4 rfl (by decide)).symm.trans (seg_split [] (Tps qs cA (va_up tpf (Int32.toNatClampNeg a1) tpf_2) (va_up tpi (Int32.toNatClampNeg a1) tpi_3)) (Tp (qs (Int32.toNatClampNeg a1)) cA tpf_2 tpi_3) (TpsR qs cA tpf tpi (Int32.toNatClampNeg a1)) [(Po oo qn qk qt qx qa ts wa pf (chv qc sp)), (TAw ts cA qs)] (tps_in (vp_lt hj1))).symm)
    refine lv_iconst (v := 1) hx hb dX6_tape_66 (by decide) ?_
    rw [hQ]
    exact ret_i C0 hP hD hS (by have e := Option.some.inj hf; rw [← e]; exact ⟨rfl, rfl⟩) dX6_tape_67
  have J46 : ∀ (tpf : Nat → Nat → Int32) (tpi : Nat → Nat → Int64), k_X6_tape_46 a1 a2 a3 tpf tpi = some o → ∀ (H : Heap) (locs : List Loc), va_P D vwCl (List.flatten [(Tps qs cA tpf tpi), (Po oo qn qk qt qx qa ts wa pf (chv qc sp)), (TAw ts cA qs)]) H → va_D A (List.flatten [(Tps qs cA tpf tpi), (Po oo qn qk qt qx qa ts wa pf (chv qc sp)), (TAw ts cA qs)]) → va_S A s.heap H locs → ∀ ls : Array Slot, lv_has ls 4 [(0, .ref oo), (1, .int a1), (2, .int a2), (3, .int a3)] → W p l e (RMx 1 23 0 0) s m args below meth c H locs 0 0 Q (F0 m 46 ls []) := by
    intro  tpf tpi hf H locs hP hD hS ls hl
    unfold k_X6_tape_46 at hf
    refine lv_aload_n hx hb dX6_tape_46 rfl (lv_at hl 0 rfl) ?_
    refine va_get (D := D) (ci := 6) (v := .ref ts) (C := RX6) (T := TX6) (N := 10) hx hb hts fw_6 hown hK hP 12 rfl rfl 5 (by decide) (hts _ m_fieldLink_P_40_P_tapes_aLP_Tape) (fun _ h9 => h9) rfl dX6_tape_47 ?_
    refine lv_iload_n hx hb dX6_tape_50 rfl (lv_at hl 1 rfl) ?_
    obtain ⟨hi1, hf⟩ := gd_of hf
    refine va_aldq (C := RX4) hx hb hK hP 13 4 rfl rfl hi1 dX6_tape_51 ?_
    refine lv_iload_n hx hb dX6_tape_52 rfl (lv_at hl 2 rfl) ?_
    refine lv_iload_n hx hb dX6_tape_53 rfl (lv_at hl 2 rfl) ?_
    refine lv_iconst (v := (-1)) hx hb dX6_tape_54 (by decide) ?_
    refine lv_icmp_ne (tgt := 62) hx hb dX6_tape_55 (by decide) (fun c2 => ?_) (fun c2 => ?_)
    · replace hf := ie_of c2 hf
      refine lv_iload_n hx hb dX6_tape_62 rfl (lv_at hl 3 rfl) ?_
      exact J63 a2 a3 tpf tpi hf _ _ hP hD hS _ (lv_sub hl [] rfl)
    · replace hf := it_of c2 hf
      refine lv_iconst (v := 0) hx hb dX6_tape_58 (by decide) ?_
      refine lv_goto (tgt := 63) hx hb dX6_tape_59 (by decide) ?_
      exact J63 a2 0 tpf tpi hf _ _ hP hD hS _ (lv_sub hl [] rfl)
  have J34 : ∀ (tpf : Nat → Nat → Int32) (tpi : Nat → Nat → Int64), k_X6_tape_34 a1 a2 a3 tpf tpi = some o → ∀ (H : Heap) (locs : List Loc), va_P D vwCl (List.flatten [(Tps qs cA tpf tpi), (Po oo qn qk qt qx qa ts wa pf (chv qc sp)), (TAw ts cA qs)]) H → va_D A (List.flatten [(Tps qs cA tpf tpi), (Po oo qn qk qt qx qa ts wa pf (chv qc sp)), (TAw ts cA qs)]) → va_S A s.heap H locs → ∀ ls : Array Slot, lv_has ls 4 [(0, .ref oo), (1, .int a1), (2, .int a2), (3, .int a3)] → W p l e (RMx 1 23 0 0) s m args below meth c H locs 0 0 Q (F0 m 34 ls []) := by
    intro  tpf tpi hf H locs hP hD hS ls hl
    unfold k_X6_tape_34 at hf
    refine lv_iload_n hx hb dX6_tape_34 rfl (lv_at hl 2 rfl) ?_
    refine lv_iconst (v := (-1)) hx hb dX6_tape_35 (by decide) ?_
    refine lv_icmp_eq (tgt := 46) hx hb dX6_tape_36 (by decide) (fun c1 => ?_) (fun c1 => ?_)
    · replace hf := it_of c1 hf
      exact J46 tpf tpi hf _ _ hP hD hS _ (lv_sub hl [0, 1, 2, 3] rfl)
    · replace hf := ie_of c1 hf
      refine lv_iload_n hx hb dX6_tape_39 rfl (lv_at hl 3 rfl) ?_
      refine lv_if_ge (tgt := 46) hx hb dX6_tape_40 (by decide) (fun c2 => ?_) (fun c2 => ?_)
      · replace hf := it_of c2 hf
        exact J46 tpf tpi hf _ _ hP hD hS _ (lv_sub hl [0, 1, 2, 3] rfl)
      · replace hf := ie_of c2 hf
        refine lv_bipush (v := (-14)) hx hb dX6_tape_43 (by decide) ?_
        rw [hQ]
        exact ret_i C0 hP hD hS (by have e := Option.some.inj hf; rw [← e]; exact ⟨rfl, rfl⟩) dX6_tape_45
  unfold k_X6_tape at hf
  refine lv_iload_n hx hb dX6_tape_0 rfl (lv_at hl 1 rfl) ?_
  refine lv_iconst (v := 5) hx hb dX6_tape_1 (by decide) ?_
  obtain ⟨r1q, hq2, hf⟩ := b1_of hf
  refine callSI (As := [.int a1, .int 5]) (rest := []) (wr := (List.flatten [(Tps qs cA tpf0 tpi0), (Po oo qn qk qt qx qa ts wa pf (chv qc sp)), (TAw ts cA qs)])) C0 (c_X6_isWithin a1 5 _ hq2) lk_X6_49_X6_isWithin rfl hP hD hS (List.Perm.refl _) hl.1 rfl rfl (Nat.le_of_ble_eq_true rfl) dX6_tape_2 ⟨Nat.zero_le _, Nat.zero_le _⟩ (fun r1 w H locs hw hP hD hS => ?_)
  obtain ⟨⟨e1, e2⟩, z3⟩ := hw
  replace e1 : r1 = r1q := e1
  subst e1
  subst e2
  replace hP : va_P D vwCl (List.flatten [(Tps qs cA tpf0 tpi0), (Po oo qn qk qt qx qa ts wa pf (chv qc sp)), (TAw ts cA qs)]) H := hP
  replace hD : va_D A (List.flatten [(Tps qs cA tpf0 tpi0), (Po oo qn qk qt qx qa ts wa pf (chv qc sp)), (TAw ts cA qs)]) := hD
  refine lv_if_ne (tgt := 10) hx hb dX6_tape_5 (by decide) (fun c4 => ?_) (fun c4 => ?_)
  · replace hf := ie_of c4 hf
    refine lv_iload_n hx hb dX6_tape_10 rfl (lv_at hl 2 rfl) ?_
    refine lv_iconst (v := (-1)) hx hb dX6_tape_11 (by decide) ?_
    refine lv_icmp_lt (tgt := 31) hx hb dX6_tape_12 (by decide) (fun c5 => ?_) (fun c5 => ?_)
    · replace hf := it_of c5 hf
      refine lv_bipush (v := (-2)) hx hb dX6_tape_31 (by decide) ?_
      rw [hQ]
      exact ret_i C0 hP hD hS (by have e := Option.some.inj hf; rw [← e]; exact ⟨rfl, rfl⟩) dX6_tape_33
    · replace hf := ie_of c5 hf
      refine lv_iload_n hx hb dX6_tape_15 rfl (lv_at hl 2 rfl) ?_
      refine lv_iconst (v := 4) hx hb dX6_tape_16 (by decide) ?_
      refine lv_icmp_gt (tgt := 31) hx hb dX6_tape_17 (by decide) (fun c6 => ?_) (fun c6 => ?_)
      · replace hf := it_of c6 hf
        refine lv_bipush (v := (-2)) hx hb dX6_tape_31 (by decide) ?_
        rw [hQ]
        exact ret_i C0 hP hD hS (by have e := Option.some.inj hf; rw [← e]; exact ⟨rfl, rfl⟩) dX6_tape_33
      · replace hf := ie_of c6 hf
        refine lv_iload_n hx hb dX6_tape_20 rfl (lv_at hl 2 rfl) ?_
        refine lv_iconst (v := (-1)) hx hb dX6_tape_21 (by decide) ?_
        refine lv_icmp_eq (tgt := 34) hx hb dX6_tape_22 (by decide) (fun c7 => ?_) (fun c7 => ?_)
        · replace hf := it_of c7 hf
          exact J34 tpf0 tpi0 hf _ _ hP hD hS _ (lv_sub hl [0, 1, 2, 3] rfl)
        · replace hf := ie_of c7 hf
          refine lv_iload_n hx hb dX6_tape_25 rfl (lv_at hl 3 rfl) ?_
          refine lv_bipush (v := 60) hx hb dX6_tape_26 (by decide) ?_
          refine lv_icmp_le (tgt := 34) hx hb dX6_tape_28 (by decide) (fun c8 => ?_) (fun c8 => ?_)
          · replace hf := it_of c8 hf
            exact J34 tpf0 tpi0 hf _ _ hP hD hS _ (lv_sub hl [0, 1, 2, 3] rfl)
          · replace hf := ie_of c8 hf
            refine lv_bipush (v := (-2)) hx hb dX6_tape_31 (by decide) ?_
            rw [hQ]
            exact ret_i C0 hP hD hS (by have e := Option.some.inj hf; rw [← e]; exact ⟨rfl, rfl⟩) dX6_tape_33
  · replace hf := it_of c4 hf
    refine lv_iconst (v := (-1)) hx hb dX6_tape_8 (by decide) ?_
    rw [hQ]
    exact ret_i C0 hP hD hS (by have e := Option.some.inj hf; rw [← e]; exact ⟨rfl, rfl⟩) dX6_tape_9
-- X6 fitted
noncomputable def k_X6_fitted (a0 : Int32) (a1 : Int64) : Option Int64 := if a0 = 0 then some (Int32.toInt64 (Int8.toInt32 (Int32.toInt8 (Int64.toInt32 a1)))) else if a0 = 1 then some (Int32.toInt64 (Int16.toInt32 (Int32.toInt16 (Int64.toInt32 a1)))) else if a0 = 2 then some (Int32.toInt64 (Int64.toInt32 a1)) else if a0 = 3 then some a1 else if (lg_cmp a1 0) = 0 then some 0 else some 1
set_option maxHeartbeats 4000000 in
set_option maxRecDepth 100000 in
theorem c_X6_fitted {l : Launch} {D : va_G} {cA : Nat → ClassId}   (a0 : Int32) (a1 : Int64) (o : Int64) (hf : k_X6_fitted a0 a1 = some o) : CL l D cA yX6_fitted cX6_fitted 3 (some .long) 0 0 [.int a0, .long a1] ([] : va_W) 0 0 (fun r w => r = o ∧ w = ([] : va_W)) := by
  intro sz
  refine met_start (by decide) rfl ?_
  intro p e s m args below meth c ls hsz hargs C0 hname hP hD hS hl
  generalize hAe : va_A ([] : va_W) sz = A at C0 hD hS ⊢
  obtain ⟨hx, hb, hr, hml, hown, hts, hlk, hK, hA⟩ := id C0
  replace hl : lv_has ls 3 [(0, .int a0), (1, .long a1)] := hl
  obtain ⟨Q, hQ⟩ : ∃ Q : State → Prop, Q = QL below D A (fun r w => r = o ∧ w = ([] : va_W)) args s 0 0 := ⟨_, rfl⟩
  refine cast (by rw [hQ]) (?_ : W p l e (RMx 0 0 0 0) s m args below meth c s.heap [] 0 0 Q (F0 m 0 ls []))
  unfold k_X6_fitted at hf
  refine lv_iload_n hx hb dX6_fitted_0 rfl (lv_at hl 0 rfl) ?_
  by_cases c1 : a0 = 0
  · replace hf := it_of c1 hf
    refine lv_tableIn (off := 31) (tgt := 32) hx hb dX6_fitted_1 (by rw [c1]; decide) (by rw [c1]; decide) (by rw [c1]; decide) (by decide) ?_
    refine lv_lload_n hx hb dX6_fitted_32 rfl (lv_at hl 1 rfl) ?_
    refine lv_l2i (v := (Int64.toInt32 a1)) hx hb dX6_fitted_33 rfl ?_
    refine lv_i2b (v := (Int8.toInt32 (Int32.toInt8 (Int64.toInt32 a1)))) hx hb dX6_fitted_34 rfl ?_
    refine lv_i2l (v := (Int32.toInt64 (Int8.toInt32 (Int32.toInt8 (Int64.toInt32 a1))))) hx hb dX6_fitted_35 rfl ?_
    rw [hQ]
    exact ret_l C0 hP hD hS (by have e := Option.some.inj hf; rw [← e]; exact ⟨rfl, rfl⟩) dX6_fitted_36
  · replace hf := ie_of c1 hf
    by_cases c2 : a0 = 1
    · replace hf := it_of c2 hf
      refine lv_tableIn (off := 36) (tgt := 37) hx hb dX6_fitted_1 (by rw [c2]; decide) (by rw [c2]; decide) (by rw [c2]; decide) (by decide) ?_
      refine lv_lload_n hx hb dX6_fitted_37 rfl (lv_at hl 1 rfl) ?_
      refine lv_l2i (v := (Int64.toInt32 a1)) hx hb dX6_fitted_38 rfl ?_
      refine lv_i2s (v := (Int16.toInt32 (Int32.toInt16 (Int64.toInt32 a1)))) hx hb dX6_fitted_39 rfl ?_
      refine lv_i2l (v := (Int32.toInt64 (Int16.toInt32 (Int32.toInt16 (Int64.toInt32 a1))))) hx hb dX6_fitted_40 rfl ?_
      rw [hQ]
      exact ret_l C0 hP hD hS (by have e := Option.some.inj hf; rw [← e]; exact ⟨rfl, rfl⟩) dX6_fitted_41
    · replace hf := ie_of c2 hf
      by_cases c3 : a0 = 2
      · replace hf := it_of c3 hf
        refine lv_tableIn (off := 41) (tgt := 42) hx hb dX6_fitted_1 (by rw [c3]; decide) (by rw [c3]; decide) (by rw [c3]; decide) (by decide) ?_
        refine lv_lload_n hx hb dX6_fitted_42 rfl (lv_at hl 1 rfl) ?_
        refine lv_l2i (v := (Int64.toInt32 a1)) hx hb dX6_fitted_43 rfl ?_
        refine lv_i2l (v := (Int32.toInt64 (Int64.toInt32 a1))) hx hb dX6_fitted_44 rfl ?_
        rw [hQ]
        exact ret_l C0 hP hD hS (by have e := Option.some.inj hf; rw [← e]; exact ⟨rfl, rfl⟩) dX6_fitted_45
      · replace hf := ie_of c3 hf
        by_cases c4 : a0 = 3
        · replace hf := it_of c4 hf
          refine lv_tableIn (off := 45) (tgt := 46) hx hb dX6_fitted_1 (by rw [c4]; decide) (by rw [c4]; decide) (by rw [c4]; decide) (by decide) ?_
          refine lv_lload_n hx hb dX6_fitted_46 rfl (lv_at hl 1 rfl) ?_
          rw [hQ]
          exact ret_l C0 hP hD hS (by have e := Option.some.inj hf; rw [← e]; exact ⟨rfl, rfl⟩) dX6_fitted_47
        · replace hf := ie_of c4 hf
          refine lv_tableOut (tgt := 48) hx hb dX6_fitted_1 (by have := lv_neT c1 (a := 0) (by decide); have := lv_neT c2 (a := 1) (by decide); have := lv_neT c3 (a := 2) (by decide); have := lv_neT c4 (a := 3) (by decide); omega) (by decide) ?_
          refine lv_lload_n hx hb dX6_fitted_48 rfl (lv_at hl 1 rfl) ?_
          refine lv_lconst (v := 0) hx hb dX6_fitted_49 (by decide) ?_
          refine W.lcmp hx hb dX6_fitted_50 ?_
          refine lv_if_eq (tgt := 58) hx hb dX6_fitted_51 (by decide) (fun c5 => ?_) (fun c5 => ?_)
          · replace hf := it_of c5 hf
            refine lv_lconst (v := 0) hx hb dX6_fitted_58 (by decide) ?_
            rw [hQ]
            exact ret_l C0 hP hD hS (by have e := Option.some.inj hf; rw [← e]; exact ⟨rfl, rfl⟩) dX6_fitted_59
          · replace hf := ie_of c5 hf
            refine lv_lconst (v := 1) hx hb dX6_fitted_54 (by decide) ?_
            refine lv_goto (tgt := 59) hx hb dX6_fitted_55 (by decide) ?_
            rw [hQ]
            exact ret_l C0 hP hD hS (by have e := Option.some.inj hf; rw [← e]; exact ⟨rfl, rfl⟩) dX6_fitted_59
-- X6 item
noncomputable def k_X6_item (a1 : Int32) (a2 : Int32) (a3 : Int64) (tpf : Nat → Nat → Int32) (tpi0 : Nat → Nat → Int64) (pf : Nat → Int32) : Option (Int32 × (Nat → Nat → Int64)) := b1 (k_X6_isWithin a1 5) (fun r1 => if r1 = 0 then some ((-1), tpi0) else gd a1 6 (gd a1 6 (if (tpf (Int32.toNatClampNeg a1) 0) = (-1) then some ((-11), tpi0) else gd a1 6 (b1 (k_X6_isWithin a2 ((tpf (Int32.toNatClampNeg a1) 1) - 1)) (fun r9 => if r9 = 0 then some ((-13), tpi0) else gd a1 6 (gd a1 6 (b1 (k_X6_fitted (tpf (Int32.toNatClampNeg a1) 0) a3) (fun r15 => gd a1 6 (gd a2 60 (some (1, (va_up tpi0 (Int32.toNatClampNeg a1) (vp_updL (tpi0 (Int32.toNatClampNeg a1)) (Int32.toNatClampNeg a2) r15)))))))))))))
set_option maxHeartbeats 4000000 in
set_option maxRecDepth 100000 in
theorem c_X6_item {l : Launch} {D : va_G} {cA : Nat → ClassId} (oo : Nat) (qn : Nat → Nat) (qk : Nat → Nat) (qt : Nat → Nat) (qx : Nat → Nat) (qa : Nat → Nat) (ts : Nat) (wa : Nat) (qc : Nat → Nat → Nat) (qs : Nat → Nat → Nat) (tpf : Nat → Nat → Int32) (tpi0 : Nat → Nat → Int64) (pf : Nat → Int32) (sp : Option Nat) (a1 : Int32) (a2 : Int32) (a3 : Int64) (o : Int32 × (Nat → Nat → Int64)) (hf : k_X6_item a1 a2 a3 tpf tpi0 pf = some o) : CI l D cA yX6_item cX6_item 6 (some .int) 1 22 [.ref oo, .int a1, .int a2, .long a3] (List.flatten [(Tps qs cA tpf tpi0), (Po oo qn qk qt qx qa ts wa pf (chv qc sp)), (TAw ts cA qs)]) 0 0 (fun r w => r = o.1 ∧ w = (List.flatten [(Tps qs cA tpf o.2), (Po oo qn qk qt qx qa ts wa pf (chv qc sp)), (TAw ts cA qs)])) := by
  intro sz
  refine met_start (by decide) rfl ?_
  intro p e s m args below meth c ls hsz hargs C0 hname hP hD hS hl
  generalize hAe : va_A (List.flatten [(Tps qs cA tpf tpi0), (Po oo qn qk qt qx qa ts wa pf (chv qc sp)), (TAw ts cA qs)]) sz = A at C0 hD hS ⊢
  obtain ⟨hx, hb, hr, hml, hown, hts, hlk, hK, hA⟩ := id C0
  replace hl : lv_has ls 6 [(0, .ref oo), (1, .int a1), (2, .int a2), (3, .long a3)] := hl
  obtain ⟨Q, hQ⟩ : ∃ Q : State → Prop, Q = QI below D A (fun r w => r = o.1 ∧ w = (List.flatten [(Tps qs cA tpf o.2), (Po oo qn qk qt qx qa ts wa pf (chv qc sp)), (TAw ts cA qs)])) args s 0 0 := ⟨_, rfl⟩
  refine cast (by rw [hQ]) (?_ : W p l e (RMx 1 22 0 0) s m args below meth c s.heap [] 0 0 Q (F0 m 0 ls []))
  unfold k_X6_item at hf
  refine lv_iload_n hx hb dX6_item_0 rfl (lv_at hl 1 rfl) ?_
  refine lv_iconst (v := 5) hx hb dX6_item_1 (by decide) ?_
  obtain ⟨r1q, hq2, hf⟩ := b1_of hf
  refine callSI (As := [.int a1, .int 5]) (rest := []) (wr := (List.flatten [(Tps qs cA tpf tpi0), (Po oo qn qk qt qx qa ts wa pf (chv qc sp)), (TAw ts cA qs)])) C0 (c_X6_isWithin a1 5 _ hq2) lk_X6_49_X6_isWithin rfl hP hD hS (List.Perm.refl _) hl.1 rfl rfl (Nat.le_of_ble_eq_true rfl) dX6_item_2 ⟨Nat.zero_le _, Nat.zero_le _⟩ (fun r1 w H locs hw hP hD hS => ?_)
  obtain ⟨⟨e1, e2⟩, z3⟩ := hw
  replace e1 : r1 = r1q := e1
  subst e1
  subst e2
  replace hP : va_P D vwCl (List.flatten [(Tps qs cA tpf tpi0), (Po oo qn qk qt qx qa ts wa pf (chv qc sp)), (TAw ts cA qs)]) H := hP
  replace hD : va_D A (List.flatten [(Tps qs cA tpf tpi0), (Po oo qn qk qt qx qa ts wa pf (chv qc sp)), (TAw ts cA qs)]) := hD
  refine lv_if_ne (tgt := 10) hx hb dX6_item_5 (by decide) (fun c4 => ?_) (fun c4 => ?_)
  · replace hf := ie_of c4 hf
    refine lv_aload_n hx hb dX6_item_10 rfl (lv_at hl 0 rfl) ?_
    refine va_get (D := D) (ci := 6) (v := .ref ts) (C := RX6) (T := TX6) (N := 10) hx hb hts fw_6 hown hK hP 12 rfl rfl 5 (by decide) (hts _ m_fieldLink_P_40_P_tapes_aLP_Tape) (fun _ h9 => h9) rfl dX6_item_11 ?_
    refine lv_iload_n hx hb dX6_item_14 rfl (lv_at hl 1 rfl) ?_
    obtain ⟨hi5, hf⟩ := gd_of hf
    refine va_aldq (C := RX4) hx hb hK hP 13 4 rfl rfl hi5 dX6_item_15 ?_
    refine lv_astore (lv' := [(5, .ref (qs (Int32.toNatClampNeg a1) 0)), (0, .ref oo), (1, .int a1), (2, .int a2), (3, .long a3)]) hx hb dX6_item_16 hl (by decide) rfl (fun ls hl => ?_)
    refine lv_aload hx hb dX6_item_18 (lv_at hl 0 rfl) ?_
    obtain ⟨hj6, hf⟩ := gd_of hf
    refine va_get (D := D) (ci := 4) (v := .int (tpf (Int32.toNatClampNeg a1) 0)) (C := RX4) (T := TX4) (N := 3) hx hb hts fw_4 hown hK hP (2 * (Int32.toNatClampNeg a1) + 0) (tps_at (vp_lt hj6) (by decide) _) rfl 0 (by decide) (hts _ m_fieldLink_P_217_P_Tape_sort_I) (fun _ h9 => h9) rfl dX6_item_20 ?_
    refine lv_iconst (v := (-1)) hx hb dX6_item_23 (by decide) ?_
    refine lv_icmp_ne (tgt := 30) hx hb dX6_item_24 (by decide) (fun c7 => ?_) (fun c7 => ?_)
    · replace hf := ie_of c7 hf
      refine lv_iload_n hx hb dX6_item_30 rfl (lv_at hl 3 rfl) ?_
      refine lv_aload hx hb dX6_item_31 (lv_at hl 0 rfl) ?_
      obtain ⟨hj8, hf⟩ := gd_of hf
      refine va_get (D := D) (ci := 4) (v := .int (tpf (Int32.toNatClampNeg a1) 1)) (C := RX4) (T := TX4) (N := 3) hx hb hts fw_4 hown hK hP (2 * (Int32.toNatClampNeg a1) + 0) (tps_at (vp_lt hj8) (by decide) _) rfl 1 (by decide) (hts _ m_fieldLink_P_220_P_Tape_size_I) (fun _ h9 => h9) rfl dX6_item_33 ?_
      refine lv_iconst (v := 1) hx hb dX6_item_36 (by decide) ?_
      refine lv_isub hx hb dX6_item_37 ?_
      obtain ⟨r9q, hq10, hf⟩ := b1_of hf
      refine callSI (As := [.int a2, .int ((tpf (Int32.toNatClampNeg a1) 1) - 1)]) (rest := []) (wr := (List.flatten [(Tps qs cA tpf tpi0), (Po oo qn qk qt qx qa ts wa pf (chv qc sp)), (TAw ts cA qs)])) C0 (c_X6_isWithin a2 ((tpf (Int32.toNatClampNeg a1) 1) - 1) _ hq10) lk_X6_49_X6_isWithin rfl hP hD hS (List.Perm.refl _) hl.1 rfl rfl (Nat.le_of_ble_eq_true rfl) dX6_item_38 ⟨Nat.zero_le _, Nat.zero_le _⟩ (fun r9 w H locs hw hP hD hS => ?_)
      obtain ⟨⟨e1, e2⟩, z11⟩ := hw
      replace e1 : r9 = r9q := e1
      subst e1
      subst e2
      replace hP : va_P D vwCl (List.flatten [(Tps qs cA tpf tpi0), (Po oo qn qk qt qx qa ts wa pf (chv qc sp)), (TAw ts cA qs)]) H := hP
      replace hD : va_D A (List.flatten [(Tps qs cA tpf tpi0), (Po oo qn qk qt qx qa ts wa pf (chv qc sp)), (TAw ts cA qs)]) := hD
      refine lv_if_ne (tgt := 47) hx hb dX6_item_41 (by decide) (fun c12 => ?_) (fun c12 => ?_)
      · replace hf := ie_of c12 hf
        refine lv_aload hx hb dX6_item_47 (lv_at hl 0 rfl) ?_
        obtain ⟨hj13, hf⟩ := gd_of hf
        refine va_get (D := D) (ci := 4) (v := .ref (qs (Int32.toNatClampNeg a1) 1)) (C := RX4) (T := TX4) (N := 3) hx hb hts fw_4 hown hK hP (2 * (Int32.toNatClampNeg a1) + 0) (tps_at (vp_lt hj13) (by decide) _) rfl 2 (by decide) (hts _ m_fieldLink_P_223_P_Tape_items_aJ) (fun _ h9 => h9) rfl dX6_item_49 ?_
        refine lv_iload_n hx hb dX6_item_52 rfl (lv_at hl 3 rfl) ?_
        refine lv_aload hx hb dX6_item_53 (lv_at hl 0 rfl) ?_
        obtain ⟨hj14, hf⟩ := gd_of hf
        refine va_get (D := D) (ci := 4) (v := .int (tpf (Int32.toNatClampNeg a1) 0)) (C := RX4) (T := TX4) (N := 3) hx hb hts fw_4 hown hK hP (2 * (Int32.toNatClampNeg a1) + 0) (tps_at (vp_lt hj14) (by decide) _) rfl 0 (by decide) (hts _ m_fieldLink_P_217_P_Tape_sort_I) (fun _ h9 => h9) rfl dX6_item_55 ?_
        refine lv_lload_n hx hb dX6_item_58 rfl (lv_at hl 4 rfl) ?_
        obtain ⟨r15q, hq16, hf⟩ := b1_of hf
        refine callSL (As := [.int (tpf (Int32.toNatClampNeg a1) 0), .long a3]) (rest := [.int a2, .ref (qs (Int32.toNatClampNeg a1) 1)]) (wr := (List.flatten [(Tps qs cA tpf tpi0), (Po oo qn qk qt qx qa ts wa pf (chv qc sp)), (TAw ts cA qs)])) C0 (c_X6_fitted (tpf (Int32.toNatClampNeg a1) 0) a3 _ hq16) lk_X6_256_X6_fitted rfl hP hD hS (List.Perm.refl _) hl.1 rfl rfl (Nat.le_of_ble_eq_true rfl) dX6_item_59 ⟨Nat.zero_le _, Nat.zero_le _⟩ (fun r15 w H locs hw hP hD hS => ?_)
        obtain ⟨e1, e2⟩ := hw
        replace e1 : r15 = r15q := e1
        subst e1
        subst e2
        replace hP : va_P D vwCl (List.flatten [(Tps qs cA tpf tpi0), (Po oo qn qk qt qx qa ts wa pf (chv qc sp)), (TAw ts cA qs)]) H := hP
        replace hD : va_D A (List.flatten [(Tps qs cA tpf tpi0), (Po oo qn qk qt qx qa ts wa pf (chv qc sp)), (TAw ts cA qs)]) := hD
        obtain ⟨hj17, hf⟩ := gd_of hf
        obtain ⟨hi18, hf⟩ := gd_of hf
        refine va_last hx hb hK hP hD hS (2 * (Int32.toNatClampNeg a1) + 1) 2 (tps_at (vp_lt hj17) (by decide) _) rfl hi18 dX6_item_62 (fun H locs hP hD hS => ?_)
        replace hP : va_P D vwCl (List.flatten [(Tps qs cA tpf (va_up tpi0 (Int32.toNatClampNeg a1) (vp_updL (tpi0 (Int32.toNatClampNeg a1)) (Int32.toNatClampNeg a2) r15))), (Po oo qn qk qt qx qa ts wa pf (chv qc sp)), (TAw ts cA qs)]) H := cast (congrArg (fun z => va_P D vwCl z H) (tps_set (vp_lt hj17) _)) hP
        replace hD : va_D A (List.flatten [(Tps qs cA tpf (va_up tpi0 (Int32.toNatClampNeg a1) (vp_updL (tpi0 (Int32.toNatClampNeg a1)) (Int32.toNatClampNeg a2) r15))), (Po oo qn qk qt qx qa ts wa pf (chv qc sp)), (TAw ts cA qs)]) := cast (congrArg (fun z => va_D A z) (tps_set (vp_lt hj17) _)) hD
        refine lv_iconst (v := 1) hx hb dX6_item_63 (by decide) ?_
        rw [hQ]
        exact ret_i C0 hP hD hS (by have e := Option.some.inj hf; rw [← e]; exact ⟨rfl, rfl⟩) dX6_item_64
      · replace hf := it_of c12 hf
        refine lv_bipush (v := (-13)) hx hb dX6_item_44 (by decide) ?_
        rw [hQ]
        exact ret_i C0 hP hD hS (by have e := Option.some.inj hf; rw [← e]; exact ⟨rfl, rfl⟩) dX6_item_46
    · replace hf := it_of c7 hf
      refine lv_bipush (v := (-11)) hx hb dX6_item_27 (by decide) ?_
      rw [hQ]
      exact ret_i C0 hP hD hS (by have e := Option.some.inj hf; rw [← e]; exact ⟨rfl, rfl⟩) dX6_item_29
  · replace hf := it_of c4 hf
    refine lv_iconst (v := (-1)) hx hb dX6_item_8 (by decide) ?_
    rw [hQ]
    exact ret_i C0 hP hD hS (by have e := Option.some.inj hf; rw [← e]; exact ⟨rfl, rfl⟩) dX6_item_9
-- X6 read
noncomputable def k_X6_read (a1 : Int32) (a2 : Int32) (tpf : Nat → Nat → Int32) (tpi : Nat → Nat → Int64) (pf : Nat → Int32) : Option Int64 := b1 (k_X6_isWithin a1 5) (fun r1 => if r1 = 0 then some (-9223372036854775808) else gd a1 6 (gd a1 6 (b1 (k_X6_isWithin a2 ((tpf (Int32.toNatClampNeg a1) 1) - 1)) (fun r7 => if r7 = 0 then some (-9223372036854775808) else gd a1 6 (gd a1 6 (gd a2 60 (some ((tpi (Int32.toNatClampNeg a1)) (Int32.toNatClampNeg a2)))))))))
set_option maxHeartbeats 4000000 in
set_option maxRecDepth 100000 in
theorem c_X6_read {l : Launch} {D : va_G} {cA : Nat → ClassId} (oo : Nat) (qn : Nat → Nat) (qk : Nat → Nat) (qt : Nat → Nat) (qx : Nat → Nat) (qa : Nat → Nat) (ts : Nat) (wa : Nat) (qc : Nat → Nat → Nat) (qs : Nat → Nat → Nat) (tpf : Nat → Nat → Int32) (tpi : Nat → Nat → Int64) (pf : Nat → Int32) (sp : Option Nat) (a1 : Int32) (a2 : Int32) (o : Int64) (hf : k_X6_read a1 a2 tpf tpi pf = some o) : CL l D cA yX6_read cX6_read 4 (some .long) 1 21 [.ref oo, .int a1, .int a2] (List.flatten [(Tps qs cA tpf tpi), (Po oo qn qk qt qx qa ts wa pf (chv qc sp)), (TAw ts cA qs)]) 0 0 (fun r w => r = o ∧ w = (List.flatten [(Tps qs cA tpf tpi), (Po oo qn qk qt qx qa ts wa pf (chv qc sp)), (TAw ts cA qs)])) := by
  intro sz
  refine met_start (by decide) rfl ?_
  intro p e s m args below meth c ls hsz hargs C0 hname hP hD hS hl
  generalize hAe : va_A (List.flatten [(Tps qs cA tpf tpi), (Po oo qn qk qt qx qa ts wa pf (chv qc sp)), (TAw ts cA qs)]) sz = A at C0 hD hS ⊢
  obtain ⟨hx, hb, hr, hml, hown, hts, hlk, hK, hA⟩ := id C0
  replace hl : lv_has ls 4 [(0, .ref oo), (1, .int a1), (2, .int a2)] := hl
  obtain ⟨Q, hQ⟩ : ∃ Q : State → Prop, Q = QL below D A (fun r w => r = o ∧ w = (List.flatten [(Tps qs cA tpf tpi), (Po oo qn qk qt qx qa ts wa pf (chv qc sp)), (TAw ts cA qs)])) args s 0 0 := ⟨_, rfl⟩
  refine cast (by rw [hQ]) (?_ : W p l e (RMx 1 21 0 0) s m args below meth c s.heap [] 0 0 Q (F0 m 0 ls []))
  unfold k_X6_read at hf
  refine lv_iload_n hx hb dX6_read_0 rfl (lv_at hl 1 rfl) ?_
  refine lv_iconst (v := 5) hx hb dX6_read_1 (by decide) ?_
  obtain ⟨r1q, hq2, hf⟩ := b1_of hf
  refine callSI (As := [.int a1, .int 5]) (rest := []) (wr := (List.flatten [(Tps qs cA tpf tpi), (Po oo qn qk qt qx qa ts wa pf (chv qc sp)), (TAw ts cA qs)])) C0 (c_X6_isWithin a1 5 _ hq2) lk_X6_49_X6_isWithin rfl hP hD hS (List.Perm.refl _) hl.1 rfl rfl (Nat.le_of_ble_eq_true rfl) dX6_read_2 ⟨Nat.zero_le _, Nat.zero_le _⟩ (fun r1 w H locs hw hP hD hS => ?_)
  obtain ⟨⟨e1, e2⟩, z3⟩ := hw
  replace e1 : r1 = r1q := e1
  subst e1
  subst e2
  replace hP : va_P D vwCl (List.flatten [(Tps qs cA tpf tpi), (Po oo qn qk qt qx qa ts wa pf (chv qc sp)), (TAw ts cA qs)]) H := hP
  replace hD : va_D A (List.flatten [(Tps qs cA tpf tpi), (Po oo qn qk qt qx qa ts wa pf (chv qc sp)), (TAw ts cA qs)]) := hD
  refine lv_if_ne (tgt := 12) hx hb dX6_read_5 (by decide) (fun c4 => ?_) (fun c4 => ?_)
  · replace hf := ie_of c4 hf
    refine lv_aload_n hx hb dX6_read_12 rfl (lv_at hl 0 rfl) ?_
    refine va_get (D := D) (ci := 6) (v := .ref ts) (C := RX6) (T := TX6) (N := 10) hx hb hts fw_6 hown hK hP 12 rfl rfl 5 (by decide) (hts _ m_fieldLink_P_40_P_tapes_aLP_Tape) (fun _ h9 => h9) rfl dX6_read_13 ?_
    refine lv_iload_n hx hb dX6_read_16 rfl (lv_at hl 1 rfl) ?_
    obtain ⟨hi5, hf⟩ := gd_of hf
    refine va_aldq (C := RX4) hx hb hK hP 13 4 rfl rfl hi5 dX6_read_17 ?_
    refine lv_astore_n (lv' := [(3, .ref (qs (Int32.toNatClampNeg a1) 0)), (0, .ref oo), (1, .int a1), (2, .int a2)]) hx hb dX6_read_18 rfl hl (by decide) rfl (fun ls hl => ?_)
    refine lv_iload_n hx hb dX6_read_19 rfl (lv_at hl 3 rfl) ?_
    refine lv_aload_n hx hb dX6_read_20 rfl (lv_at hl 0 rfl) ?_
    obtain ⟨hj6, hf⟩ := gd_of hf
    refine va_get (D := D) (ci := 4) (v := .int (tpf (Int32.toNatClampNeg a1) 1)) (C := RX4) (T := TX4) (N := 3) hx hb hts fw_4 hown hK hP (2 * (Int32.toNatClampNeg a1) + 0) (tps_at (vp_lt hj6) (by decide) _) rfl 1 (by decide) (hts _ m_fieldLink_P_220_P_Tape_size_I) (fun _ h9 => h9) rfl dX6_read_21 ?_
    refine lv_iconst (v := 1) hx hb dX6_read_24 (by decide) ?_
    refine lv_isub hx hb dX6_read_25 ?_
    obtain ⟨r7q, hq8, hf⟩ := b1_of hf
    refine callSI (As := [.int a2, .int ((tpf (Int32.toNatClampNeg a1) 1) - 1)]) (rest := []) (wr := (List.flatten [(Tps qs cA tpf tpi), (Po oo qn qk qt qx qa ts wa pf (chv qc sp)), (TAw ts cA qs)])) C0 (c_X6_isWithin a2 ((tpf (Int32.toNatClampNeg a1) 1) - 1) _ hq8) lk_X6_49_X6_isWithin rfl hP hD hS (List.Perm.refl _) hl.1 rfl rfl (Nat.le_of_ble_eq_true rfl) dX6_read_26 ⟨Nat.zero_le _, Nat.zero_le _⟩ (fun r7 w H locs hw hP hD hS => ?_)
    obtain ⟨⟨e1, e2⟩, z9⟩ := hw
    replace e1 : r7 = r7q := e1
    subst e1
    subst e2
    replace hP : va_P D vwCl (List.flatten [(Tps qs cA tpf tpi), (Po oo qn qk qt qx qa ts wa pf (chv qc sp)), (TAw ts cA qs)]) H := hP
    replace hD : va_D A (List.flatten [(Tps qs cA tpf tpi), (Po oo qn qk qt qx qa ts wa pf (chv qc sp)), (TAw ts cA qs)]) := hD
    refine lv_if_eq (tgt := 41) hx hb dX6_read_29 (by decide) (fun c10 => ?_) (fun c10 => ?_)
    · replace hf := it_of c10 hf
      refine lv_ldc2 (v := (-9223372036854775808)) hx hb hown (hts _ m_constantLong_P_192_n9223372036854775808) dX6_read_41 ?_
      rw [hQ]
      exact ret_l C0 hP hD hS (by have e := Option.some.inj hf; rw [← e]; exact ⟨rfl, rfl⟩) dX6_read_44
    · replace hf := ie_of c10 hf
      refine lv_aload_n hx hb dX6_read_32 rfl (lv_at hl 0 rfl) ?_
      obtain ⟨hj11, hf⟩ := gd_of hf
      refine va_get (D := D) (ci := 4) (v := .ref (qs (Int32.toNatClampNeg a1) 1)) (C := RX4) (T := TX4) (N := 3) hx hb hts fw_4 hown hK hP (2 * (Int32.toNatClampNeg a1) + 0) (tps_at (vp_lt hj11) (by decide) _) rfl 2 (by decide) (hts _ m_fieldLink_P_223_P_Tape_items_aJ) (fun _ h9 => h9) rfl dX6_read_33 ?_
      refine lv_iload_n hx hb dX6_read_36 rfl (lv_at hl 3 rfl) ?_
      obtain ⟨hj12, hf⟩ := gd_of hf
      obtain ⟨hi13, hf⟩ := gd_of hf
      refine va_lald hx hb hK hP (2 * (Int32.toNatClampNeg a1) + 1) 2 (tps_at (vp_lt hj12) (by decide) _) rfl hi13 dX6_read_37 ?_
      refine lv_goto (tgt := 44) hx hb dX6_read_38 (by decide) ?_
      rw [hQ]
      exact ret_l C0 hP hD hS (by have e := Option.some.inj hf; rw [← e]; exact ⟨rfl, rfl⟩) dX6_read_44
  · replace hf := it_of c4 hf
    refine lv_ldc2 (v := (-9223372036854775808)) hx hb hown (hts _ m_constantLong_P_192_n9223372036854775808) dX6_read_8 ?_
    rw [hQ]
    exact ret_l C0 hP hD hS (by have e := Option.some.inj hf; rw [← e]; exact ⟨rfl, rfl⟩) dX6_read_11
-- X6 shift
noncomputable def k_X6_shift (a1 : Int32) (a2 : Int32) (a3 : Int32) (a4 : Int32) (a5 : Int32) (tpf : Nat → Nat → Int32) (tpi0 : Nat → Nat → Int64) (pf : Nat → Int32) : Option (Int32 × (Nat → Nat → Int64)) := b1 (k_X6_isWithin a1 5) (fun r1 => if r1 = 0 then some ((-1), tpi0) else b1 (k_X6_isWithin a3 5) (fun r5 => if r5 = 0 then some ((-1), tpi0) else gd a1 6 (gd a3 6 (gd a1 6 (if (tpf (Int32.toNatClampNeg a1) 0) = (-1) then some ((-11), tpi0) else gd a3 6 (if (tpf (Int32.toNatClampNeg a3) 0) = (-1) then some ((-11), tpi0) else gd a1 6 (gd a3 6 (if (tpf (Int32.toNatClampNeg a1) 0) = (tpf (Int32.toNatClampNeg a3) 0) then gd a1 6 (b1 (k_X4_hasRun a2 a5 (tpf (Int32.toNatClampNeg a1))) (fun r19 => if r19 = 0 then some ((-13), tpi0) else gd a3 6 (b1 (k_X4_hasRun a4 a5 (tpf (Int32.toNatClampNeg a3))) (fun r24 => if r24 = 0 then some ((-13), tpi0) else gd a1 6 (gd a3 6 (gd a1 6 (gd a3 6 (gcp a2 a4 a5 60 60 (some (a5, (va_up tpi0 (Int32.toNatClampNeg a3) (va_cpy (tpi0 (Int32.toNatClampNeg a1)) (tpi0 (Int32.toNatClampNeg a3)) (Int32.toNatClampNeg a2) (Int32.toNatClampNeg a4) (Int32.toNatClampNeg a5))))))))))))) else some ((-12), tpi0)))))))))
set_option maxHeartbeats 4000000 in
set_option maxRecDepth 100000 in
theorem c_X6_shift {l : Launch} {D : va_G} {cA : Nat → ClassId} (oo : Nat) (qn : Nat → Nat) (qk : Nat → Nat) (qt : Nat → Nat) (qx : Nat → Nat) (qa : Nat → Nat) (ts : Nat) (wa : Nat) (qc : Nat → Nat → Nat) (qs : Nat → Nat → Nat) (tpf : Nat → Nat → Int32) (tpi0 : Nat → Nat → Int64) (pf : Nat → Int32) (sp : Option Nat) (a1 : Int32) (a2 : Int32) (a3 : Int32) (a4 : Int32) (a5 : Int32) (o : Int32 × (Nat → Nat → Int64)) (hf : k_X6_shift a1 a2 a3 a4 a5 tpf tpi0 pf = some o) : CI l D cA yX6_shift cX6_shift 8 (some .int) 1 40 [.ref oo, .int a1, .int a2, .int a3, .int a4, .int a5] (List.flatten [(Tps qs cA tpf tpi0), (Po oo qn qk qt qx qa ts wa pf (chv qc sp)), (TAw ts cA qs)]) 0 0 (fun r w => r = o.1 ∧ w = (List.flatten [(Tps qs cA tpf o.2), (Po oo qn qk qt qx qa ts wa pf (chv qc sp)), (TAw ts cA qs)])) := by
  intro sz
  refine met_start (by decide) rfl ?_
  intro p e s m args below meth c ls hsz hargs C0 hname hP hD hS hl
  generalize hAe : va_A (List.flatten [(Tps qs cA tpf tpi0), (Po oo qn qk qt qx qa ts wa pf (chv qc sp)), (TAw ts cA qs)]) sz = A at C0 hD hS ⊢
  obtain ⟨hx, hb, hr, hml, hown, hts, hlk, hK, hA⟩ := id C0
  replace hl : lv_has ls 8 [(0, .ref oo), (1, .int a1), (2, .int a2), (3, .int a3), (4, .int a4), (5, .int a5)] := hl
  obtain ⟨Q, hQ⟩ : ∃ Q : State → Prop, Q = QI below D A (fun r w => r = o.1 ∧ w = (List.flatten [(Tps qs cA tpf o.2), (Po oo qn qk qt qx qa ts wa pf (chv qc sp)), (TAw ts cA qs)])) args s 0 0 := ⟨_, rfl⟩
  refine cast (by rw [hQ]) (?_ : W p l e (RMx 1 40 0 0) s m args below meth c s.heap [] 0 0 Q (F0 m 0 ls []))
  unfold k_X6_shift at hf
  refine lv_iload_n hx hb dX6_shift_0 rfl (lv_at hl 1 rfl) ?_
  refine lv_iconst (v := 5) hx hb dX6_shift_1 (by decide) ?_
  obtain ⟨r1q, hq2, hf⟩ := b1_of hf
  refine callSI (As := [.int a1, .int 5]) (rest := []) (wr := (List.flatten [(Tps qs cA tpf tpi0), (Po oo qn qk qt qx qa ts wa pf (chv qc sp)), (TAw ts cA qs)])) C0 (c_X6_isWithin a1 5 _ hq2) lk_X6_49_X6_isWithin rfl hP hD hS (List.Perm.refl _) hl.1 rfl rfl (Nat.le_of_ble_eq_true rfl) dX6_shift_2 ⟨Nat.zero_le _, Nat.zero_le _⟩ (fun r1 w H locs hw hP hD hS => ?_)
  obtain ⟨⟨e1, e2⟩, z3⟩ := hw
  replace e1 : r1 = r1q := e1
  subst e1
  subst e2
  replace hP : va_P D vwCl (List.flatten [(Tps qs cA tpf tpi0), (Po oo qn qk qt qx qa ts wa pf (chv qc sp)), (TAw ts cA qs)]) H := hP
  replace hD : va_D A (List.flatten [(Tps qs cA tpf tpi0), (Po oo qn qk qt qx qa ts wa pf (chv qc sp)), (TAw ts cA qs)]) := hD
  refine lv_if_eq (tgt := 16) hx hb dX6_shift_5 (by decide) (fun c4 => ?_) (fun c4 => ?_)
  · replace hf := it_of c4 hf
    refine lv_iconst (v := (-1)) hx hb dX6_shift_16 (by decide) ?_
    rw [hQ]
    exact ret_i C0 hP hD hS (by have e := Option.some.inj hf; rw [← e]; exact ⟨rfl, rfl⟩) dX6_shift_17
  · replace hf := ie_of c4 hf
    refine lv_iload_n hx hb dX6_shift_8 rfl (lv_at hl 3 rfl) ?_
    refine lv_iconst (v := 5) hx hb dX6_shift_9 (by decide) ?_
    obtain ⟨r5q, hq6, hf⟩ := b1_of hf
    refine callSI (As := [.int a3, .int 5]) (rest := []) (wr := (List.flatten [(Tps qs cA tpf tpi0), (Po oo qn qk qt qx qa ts wa pf (chv qc sp)), (TAw ts cA qs)])) C0 (c_X6_isWithin a3 5 _ hq6) lk_X6_49_X6_isWithin rfl hP hD hS (List.Perm.refl _) hl.1 rfl rfl (Nat.le_of_ble_eq_true rfl) dX6_shift_10 ⟨Nat.zero_le _, Nat.zero_le _⟩ (fun r5 w H locs hw hP hD hS => ?_)
    obtain ⟨⟨e1, e2⟩, z7⟩ := hw
    replace e1 : r5 = r5q := e1
    subst e1
    subst e2
    replace hP : va_P D vwCl (List.flatten [(Tps qs cA tpf tpi0), (Po oo qn qk qt qx qa ts wa pf (chv qc sp)), (TAw ts cA qs)]) H := hP
    replace hD : va_D A (List.flatten [(Tps qs cA tpf tpi0), (Po oo qn qk qt qx qa ts wa pf (chv qc sp)), (TAw ts cA qs)]) := hD
    refine lv_if_ne (tgt := 18) hx hb dX6_shift_13 (by decide) (fun c8 => ?_) (fun c8 => ?_)
    · replace hf := ie_of c8 hf
      refine lv_aload_n hx hb dX6_shift_18 rfl (lv_at hl 0 rfl) ?_
      refine va_get (D := D) (ci := 6) (v := .ref ts) (C := RX6) (T := TX6) (N := 10) hx hb hts fw_6 hown hK hP 12 rfl rfl 5 (by decide) (hts _ m_fieldLink_P_40_P_tapes_aLP_Tape) (fun _ h9 => h9) rfl dX6_shift_19 ?_
      refine lv_iload_n hx hb dX6_shift_22 rfl (lv_at hl 1 rfl) ?_
      obtain ⟨hi9, hf⟩ := gd_of hf
      refine va_aldq (C := RX4) hx hb hK hP 13 4 rfl rfl hi9 dX6_shift_23 ?_
      refine lv_astore (lv' := [(6, .ref (qs (Int32.toNatClampNeg a1) 0)), (0, .ref oo), (1, .int a1), (2, .int a2), (3, .int a3), (4, .int a4), (5, .int a5)]) hx hb dX6_shift_24 hl (by decide) rfl (fun ls hl => ?_)
      refine lv_aload_n hx hb dX6_shift_26 rfl (lv_at hl 1 rfl) ?_
      refine va_get (D := D) (ci := 6) (v := .ref ts) (C := RX6) (T := TX6) (N := 10) hx hb hts fw_6 hown hK hP 12 rfl rfl 5 (by decide) (hts _ m_fieldLink_P_40_P_tapes_aLP_Tape) (fun _ h9 => h9) rfl dX6_shift_27 ?_
      refine lv_iload_n hx hb dX6_shift_30 rfl (lv_at hl 4 rfl) ?_
      obtain ⟨hi10, hf⟩ := gd_of hf
      refine va_aldq (C := RX4) hx hb hK hP 13 4 rfl rfl hi10 dX6_shift_31 ?_
      refine lv_astore (lv' := [(7, .ref (qs (Int32.toNatClampNeg a3) 0)), (6, .ref (qs (Int32.toNatClampNeg a1) 0)), (0, .ref oo), (1, .int a1), (2, .int a2), (3, .int a3), (4, .int a4), (5, .int a5)]) hx hb dX6_shift_32 hl (by decide) rfl (fun ls hl => ?_)
      refine lv_aload hx hb dX6_shift_34 (lv_at hl 1 rfl) ?_
      obtain ⟨hj11, hf⟩ := gd_of hf
      refine va_get (D := D) (ci := 4) (v := .int (tpf (Int32.toNatClampNeg a1) 0)) (C := RX4) (T := TX4) (N := 3) hx hb hts fw_4 hown hK hP (2 * (Int32.toNatClampNeg a1) + 0) (tps_at (vp_lt hj11) (by decide) _) rfl 0 (by decide) (hts _ m_fieldLink_P_217_P_Tape_sort_I) (fun _ h9 => h9) rfl dX6_shift_36 ?_
      refine lv_iconst (v := (-1)) hx hb dX6_shift_39 (by decide) ?_
      refine lv_icmp_eq (tgt := 52) hx hb dX6_shift_40 (by decide) (fun c12 => ?_) (fun c12 => ?_)
      · replace hf := it_of c12 hf
        refine lv_bipush (v := (-11)) hx hb dX6_shift_52 (by decide) ?_
        rw [hQ]
        exact ret_i C0 hP hD hS (by have e := Option.some.inj hf; rw [← e]; exact ⟨rfl, rfl⟩) dX6_shift_54
      · replace hf := ie_of c12 hf
        refine lv_aload hx hb dX6_shift_43 (lv_at hl 0 rfl) ?_
        obtain ⟨hj13, hf⟩ := gd_of hf
        refine va_get (D := D) (ci := 4) (v := .int (tpf (Int32.toNatClampNeg a3) 0)) (C := RX4) (T := TX4) (N := 3) hx hb hts fw_4 hown hK hP (2 * (Int32.toNatClampNeg a3) + 0) (tps_at (vp_lt hj13) (by decide) _) rfl 0 (by decide) (hts _ m_fieldLink_P_217_P_Tape_sort_I) (fun _ h9 => h9) rfl dX6_shift_45 ?_
        refine lv_iconst (v := (-1)) hx hb dX6_shift_48 (by decide) ?_
        refine lv_icmp_ne (tgt := 55) hx hb dX6_shift_49 (by decide) (fun c14 => ?_) (fun c14 => ?_)
        · replace hf := ie_of c14 hf
          refine lv_aload hx hb dX6_shift_55 (lv_at hl 1 rfl) ?_
          obtain ⟨hj15, hf⟩ := gd_of hf
          refine va_get (D := D) (ci := 4) (v := .int (tpf (Int32.toNatClampNeg a1) 0)) (C := RX4) (T := TX4) (N := 3) hx hb hts fw_4 hown hK hP (2 * (Int32.toNatClampNeg a1) + 0) (tps_at (vp_lt hj15) (by decide) _) rfl 0 (by decide) (hts _ m_fieldLink_P_217_P_Tape_sort_I) (fun _ h9 => h9) rfl dX6_shift_57 ?_
          refine lv_aload hx hb dX6_shift_60 (lv_at hl 0 rfl) ?_
          obtain ⟨hj16, hf⟩ := gd_of hf
          refine va_get (D := D) (ci := 4) (v := .int (tpf (Int32.toNatClampNeg a3) 0)) (C := RX4) (T := TX4) (N := 3) hx hb hts fw_4 hown hK hP (2 * (Int32.toNatClampNeg a3) + 0) (tps_at (vp_lt hj16) (by decide) _) rfl 0 (by decide) (hts _ m_fieldLink_P_217_P_Tape_sort_I) (fun _ h9 => h9) rfl dX6_shift_62 ?_
          refine lv_icmp_eq (tgt := 71) hx hb dX6_shift_65 (by decide) (fun c17 => ?_) (fun c17 => ?_)
          · replace hf := it_of c17 hf
            refine lv_aload hx hb dX6_shift_71 (lv_at hl 1 rfl) ?_
            refine lv_iload_n hx hb dX6_shift_73 rfl (lv_at hl 4 rfl) ?_
            refine lv_iload hx hb dX6_shift_74 (lv_at hl 7 rfl) ?_
            obtain ⟨hj18, hf⟩ := gd_of hf
            obtain ⟨r19q, hq20, hf⟩ := b1_of hf
            refine callVI (As := [.int a2, .int a5]) (rest := []) (wr := segpick [(Tp (qs (Int32.toNatClampNeg a1)) cA (tpf (Int32.toNatClampNeg a1)) (tpi0 (Int32.toNatClampNeg a1))), (TpsR qs cA tpf tpi0 (Int32.toNatClampNeg a1)), (Po oo qn qk qt qx qa ts wa pf (chv qc sp)), (TAw ts cA qs)] [1, 2, 3]) C0 (c_X4_hasRun (qs (Int32.toNatClampNeg a1)) (tpf (Int32.toNatClampNeg a1)) (tpi0 (Int32.toNatClampNeg a1)) a2 a5 _ hq20) lk_X6_260_X4_hasRun rfl hP hD hS ((seg_split [] (Tps qs cA tpf tpi0) (Tp (qs (Int32.toNatClampNeg a1)) cA (tpf (Int32.toNatClampNeg a1)) (tpi0 (Int32.toNatClampNeg a1))) (TpsR qs cA tpf tpi0 (Int32.toNatClampNeg a1)) [(Po oo qn qk qt qx qa ts wa pf (chv qc sp)), (TAw ts cA qs)] (tps_out (vp_lt hj18))).trans (seg_out [(Tp (qs (Int32.toNatClampNeg a1)) cA (tpf (Int32.toNatClampNeg a1)) (tpi0 (Int32.toNatClampNeg a1))), (TpsR qs cA tpf tpi0 (Int32.toNatClampNeg a1)), (Po oo qn qk qt qx qa ts wa pf (chv qc sp)), (TAw ts cA qs)] [0] [1, 2, 3] 4 rfl (by decide))) (2 * (Int32.toNatClampNeg a1) + 0) 4 (tps_at (vp_lt hj18) (by decide) _) rfl rfl hl.1 rfl rfl (Nat.le_of_ble_eq_true rfl) dX6_shift_76 ⟨Nat.zero_le _, Nat.zero_le _⟩ (fun r19 w H locs hw hP hD hS => ?_)
            obtain ⟨⟨e1, e2⟩, z21⟩ := hw
            replace e1 : r19 = r19q := e1
            subst e1
            subst e2
            replace hP : va_P D vwCl (List.flatten [(Tps qs cA tpf tpi0), (Po oo qn qk qt qx qa ts wa pf (chv qc sp)), (TAw ts cA qs)]) H := hP.perm ((seg_out [(Tp (qs (Int32.toNatClampNeg a1)) cA (tpf (Int32.toNatClampNeg a1)) (tpi0 (Int32.toNatClampNeg a1))), (TpsR qs cA tpf tpi0 (Int32.toNatClampNeg a1)), (Po oo qn qk qt qx qa ts wa pf (chv qc sp)), (TAw ts cA qs)] [0] [1, 2, 3] 4 rfl (by decide)).symm.trans (seg_split [] (Tps qs cA tpf tpi0) (Tp (qs (Int32.toNatClampNeg a1)) cA (tpf (Int32.toNatClampNeg a1)) (tpi0 (Int32.toNatClampNeg a1))) (TpsR qs cA tpf tpi0 (Int32.toNatClampNeg a1)) [(Po oo qn qk qt qx qa ts wa pf (chv qc sp)), (TAw ts cA qs)] (tps_out (vp_lt hj18))).symm)
            replace hD : va_D A (List.flatten [(Tps qs cA tpf tpi0), (Po oo qn qk qt qx qa ts wa pf (chv qc sp)), (TAw ts cA qs)]) := hD.perm ((seg_out [(Tp (qs (Int32.toNatClampNeg a1)) cA (tpf (Int32.toNatClampNeg a1)) (tpi0 (Int32.toNatClampNeg a1))), (TpsR qs cA tpf tpi0 (Int32.toNatClampNeg a1)), (Po oo qn qk qt qx qa ts wa pf (chv qc sp)), (TAw ts cA qs)] [0] [1, 2, 3] 4 rfl (by decide)).symm.trans (seg_split [] (Tps qs cA tpf tpi0) (Tp (qs (Int32.toNatClampNeg a1)) cA (tpf (Int32.toNatClampNeg a1)) (tpi0 (Int32.toNatClampNeg a1))) (TpsR qs cA tpf tpi0 (Int32.toNatClampNeg a1)) [(Po oo qn qk qt qx qa ts wa pf (chv qc sp)), (TAw ts cA qs)] (tps_out (vp_lt hj18))).symm)
            refine lv_if_eq (tgt := 94) hx hb dX6_shift_79 (by decide) (fun c22 => ?_) (fun c22 => ?_)
            · replace hf := it_of c22 hf
              refine lv_bipush (v := (-13)) hx hb dX6_shift_94 (by decide) ?_
              rw [hQ]
              exact ret_i C0 hP hD hS (by have e := Option.some.inj hf; rw [← e]; exact ⟨rfl, rfl⟩) dX6_shift_96
            · replace hf := ie_of c22 hf
              refine lv_aload hx hb dX6_shift_82 (lv_at hl 0 rfl) ?_
              refine lv_iload hx hb dX6_shift_84 (lv_at hl 6 rfl) ?_
              refine lv_iload hx hb dX6_shift_86 (lv_at hl 7 rfl) ?_
              obtain ⟨hj23, hf⟩ := gd_of hf
              obtain ⟨r24q, hq25, hf⟩ := b1_of hf
              refine callVI (As := [.int a4, .int a5]) (rest := []) (wr := segpick [(Tp (qs (Int32.toNatClampNeg a3)) cA (tpf (Int32.toNatClampNeg a3)) (tpi0 (Int32.toNatClampNeg a3))), (TpsR qs cA tpf tpi0 (Int32.toNatClampNeg a3)), (Po oo qn qk qt qx qa ts wa pf (chv qc sp)), (TAw ts cA qs)] [1, 2, 3]) C0 (c_X4_hasRun (qs (Int32.toNatClampNeg a3)) (tpf (Int32.toNatClampNeg a3)) (tpi0 (Int32.toNatClampNeg a3)) a4 a5 _ hq25) lk_X6_260_X4_hasRun rfl hP hD hS ((seg_split [] (Tps qs cA tpf tpi0) (Tp (qs (Int32.toNatClampNeg a3)) cA (tpf (Int32.toNatClampNeg a3)) (tpi0 (Int32.toNatClampNeg a3))) (TpsR qs cA tpf tpi0 (Int32.toNatClampNeg a3)) [(Po oo qn qk qt qx qa ts wa pf (chv qc sp)), (TAw ts cA qs)] (tps_out (vp_lt hj23))).trans (seg_out [(Tp (qs (Int32.toNatClampNeg a3)) cA (tpf (Int32.toNatClampNeg a3)) (tpi0 (Int32.toNatClampNeg a3))), (TpsR qs cA tpf tpi0 (Int32.toNatClampNeg a3)), (Po oo qn qk qt qx qa ts wa pf (chv qc sp)), (TAw ts cA qs)] [0] [1, 2, 3] 4 rfl (by decide))) (2 * (Int32.toNatClampNeg a3) + 0) 4 (tps_at (vp_lt hj23) (by decide) _) rfl rfl hl.1 rfl rfl (Nat.le_of_ble_eq_true rfl) dX6_shift_88 ⟨Nat.zero_le _, Nat.zero_le _⟩ (fun r24 w H locs hw hP hD hS => ?_)
              obtain ⟨⟨e1, e2⟩, z26⟩ := hw
              replace e1 : r24 = r24q := e1
              subst e1
              subst e2
              replace hP : va_P D vwCl (List.flatten [(Tps qs cA tpf tpi0), (Po oo qn qk qt qx qa ts wa pf (chv qc sp)), (TAw ts cA qs)]) H := hP.perm ((seg_out [(Tp (qs (Int32.toNatClampNeg a3)) cA (tpf (Int32.toNatClampNeg a3)) (tpi0 (Int32.toNatClampNeg a3))), (TpsR qs cA tpf tpi0 (Int32.toNatClampNeg a3)), (Po oo qn qk qt qx qa ts wa pf (chv qc sp)), (TAw ts cA qs)] [0] [1, 2, 3] 4 rfl (by decide)).symm.trans (seg_split [] (Tps qs cA tpf tpi0) (Tp (qs (Int32.toNatClampNeg a3)) cA (tpf (Int32.toNatClampNeg a3)) (tpi0 (Int32.toNatClampNeg a3))) (TpsR qs cA tpf tpi0 (Int32.toNatClampNeg a3)) [(Po oo qn qk qt qx qa ts wa pf (chv qc sp)), (TAw ts cA qs)] (tps_out (vp_lt hj23))).symm)
              replace hD : va_D A (List.flatten [(Tps qs cA tpf tpi0), (Po oo qn qk qt qx qa ts wa pf (chv qc sp)), (TAw ts cA qs)]) := hD.perm ((seg_out [(Tp (qs (Int32.toNatClampNeg a3)) cA (tpf (Int32.toNatClampNeg a3)) (tpi0 (Int32.toNatClampNeg a3))), (TpsR qs cA tpf tpi0 (Int32.toNatClampNeg a3)), (Po oo qn qk qt qx qa ts wa pf (chv qc sp)), (TAw ts cA qs)] [0] [1, 2, 3] 4 rfl (by decide)).symm.trans (seg_split [] (Tps qs cA tpf tpi0) (Tp (qs (Int32.toNatClampNeg a3)) cA (tpf (Int32.toNatClampNeg a3)) (tpi0 (Int32.toNatClampNeg a3))) (TpsR qs cA tpf tpi0 (Int32.toNatClampNeg a3)) [(Po oo qn qk qt qx qa ts wa pf (chv qc sp)), (TAw ts cA qs)] (tps_out (vp_lt hj23))).symm)
              refine lv_if_ne (tgt := 97) hx hb dX6_shift_91 (by decide) (fun c27 => ?_) (fun c27 => ?_)
              · replace hf := ie_of c27 hf
                refine lv_aload hx hb dX6_shift_97 (lv_at hl 1 rfl) ?_
                obtain ⟨hj28, hf⟩ := gd_of hf
                refine va_get (D := D) (ci := 4) (v := .ref (qs (Int32.toNatClampNeg a1) 1)) (C := RX4) (T := TX4) (N := 3) hx hb hts fw_4 hown hK hP (2 * (Int32.toNatClampNeg a1) + 0) (tps_at (vp_lt hj28) (by decide) _) rfl 2 (by decide) (hts _ m_fieldLink_P_223_P_Tape_items_aJ) (fun _ h9 => h9) rfl dX6_shift_99 ?_
                refine lv_iload_n hx hb dX6_shift_102 rfl (lv_at hl 4 rfl) ?_
                refine lv_aload hx hb dX6_shift_103 (lv_at hl 0 rfl) ?_
                obtain ⟨hj29, hf⟩ := gd_of hf
                refine va_get (D := D) (ci := 4) (v := .ref (qs (Int32.toNatClampNeg a3) 1)) (C := RX4) (T := TX4) (N := 3) hx hb hts fw_4 hown hK hP (2 * (Int32.toNatClampNeg a3) + 0) (tps_at (vp_lt hj29) (by decide) _) rfl 2 (by decide) (hts _ m_fieldLink_P_223_P_Tape_items_aJ) (fun _ h9 => h9) rfl dX6_shift_105 ?_
                refine lv_iload hx hb dX6_shift_108 (lv_at hl 6 rfl) ?_
                refine lv_iload hx hb dX6_shift_110 (lv_at hl 7 rfl) ?_
                obtain ⟨hj30, hf⟩ := gd_of hf
                obtain ⟨hj31, hf⟩ := gd_of hf
                obtain ⟨⟨hc321, hc322, hc323, hc324, hc325⟩, hf⟩ := gcp_of hf
                refine va_copyl (ty := .long) hx hb (by rw [hml]; exact hl.1.symm) hown (hts _ m_methodLink_P_263_java_lang_System_arraycopy_Ljava_lang_ObjectILjava_lang_ObjectII_V) (hts _ m_native_java_lang_System_arraycopy_Ljava_lang_ObjectILjava_lang_ObjectII_V) (hts _ m_static_java_lang_System_arraycopy_Ljava_lang_ObjectILjava_lang_ObjectII_V) (hts _ m_initialized_java_lang_System) hK hP hD hS (2 * (Int32.toNatClampNeg a1) + 1) (2 * (Int32.toNatClampNeg a3) + 1) 2 2 (tps_at (vp_lt hj30) (by decide) _) (tps_at (vp_lt hj31) (by decide) _) rfl rfl rfl hc321 hc322 hc323 hc324 hc325 (fun _ _ => rfl) (Nat.le_of_ble_eq_true rfl) (Nat.le_of_ble_eq_true rfl) dX6_shift_112 (fun H locs hP hD hS => ?_)
                replace hP : va_P D vwCl (List.flatten [(Tps qs cA tpf (va_up tpi0 (Int32.toNatClampNeg a3) (va_cpy (tpi0 (Int32.toNatClampNeg a1)) (tpi0 (Int32.toNatClampNeg a3)) (Int32.toNatClampNeg a2) (Int32.toNatClampNeg a4) (Int32.toNatClampNeg a5)))), (Po oo qn qk qt qx qa ts wa pf (chv qc sp)), (TAw ts cA qs)]) H := cast (congrArg (fun z => va_P D vwCl z H) (tps_set (vp_lt hj31) _)) hP
                replace hD : va_D A (List.flatten [(Tps qs cA tpf (va_up tpi0 (Int32.toNatClampNeg a3) (va_cpy (tpi0 (Int32.toNatClampNeg a1)) (tpi0 (Int32.toNatClampNeg a3)) (Int32.toNatClampNeg a2) (Int32.toNatClampNeg a4) (Int32.toNatClampNeg a5)))), (Po oo qn qk qt qx qa ts wa pf (chv qc sp)), (TAw ts cA qs)]) := cast (congrArg (fun z => va_D A z) (tps_set (vp_lt hj31) _)) hD
                refine lv_iload hx hb dX6_shift_115 (lv_at hl 7 rfl) ?_
                rw [hQ]
                exact ret_i C0 hP hD hS (by have e := Option.some.inj hf; rw [← e]; exact ⟨rfl, rfl⟩) dX6_shift_117
              · replace hf := it_of c27 hf
                refine lv_bipush (v := (-13)) hx hb dX6_shift_94 (by decide) ?_
                rw [hQ]
                exact ret_i C0 hP hD hS (by have e := Option.some.inj hf; rw [← e]; exact ⟨rfl, rfl⟩) dX6_shift_96
          · replace hf := ie_of c17 hf
            refine lv_bipush (v := (-12)) hx hb dX6_shift_68 (by decide) ?_
            rw [hQ]
            exact ret_i C0 hP hD hS (by have e := Option.some.inj hf; rw [← e]; exact ⟨rfl, rfl⟩) dX6_shift_70
        · replace hf := it_of c14 hf
          refine lv_bipush (v := (-11)) hx hb dX6_shift_52 (by decide) ?_
          rw [hQ]
          exact ret_i C0 hP hD hS (by have e := Option.some.inj hf; rw [← e]; exact ⟨rfl, rfl⟩) dX6_shift_54
    · replace hf := it_of c8 hf
      refine lv_iconst (v := (-1)) hx hb dX6_shift_16 (by decide) ?_
      rw [hQ]
      exact ret_i C0 hP hD hS (by have e := Option.some.inj hf; rw [← e]; exact ⟨rfl, rfl⟩) dX6_shift_17

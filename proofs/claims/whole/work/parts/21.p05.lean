-- X6 steady
noncomputable def k_X6_steady (a1 : Int32) (a2 : Int32) (nf : Nat → Int32) (ng0 : Nat → Nat → Int32) : Option (Int32 × (Nat → Nat → Int32)) := b1 (k_X1_has a1 nf) (fun r1 => if r1 = 0 then some ((-1), ng0) else b1 (k_X6_isWithin a2 20) (fun r5 => if r5 = 0 then some ((-2), ng0) else gd a1 6 (gd a1 6 (some (((ng0 9) (Int32.toNatClampNeg a1)), (va_up ng0 9 (upd (ng0 9) (Int32.toNatClampNeg a1) a2)))))))
set_option maxHeartbeats 4000000 in
set_option maxRecDepth 100000 in
theorem c_X6_steady {l : Launch} {D : va_G} {cA : Nat → ClassId} (oo : Nat) (qn : Nat → Nat) (qk : Nat → Nat) (qt : Nat → Nat) (qx : Nat → Nat) (qa : Nat → Nat) (ts : Nat) (wa : Nat) (qc : Nat → Nat → Nat) (pf : Nat → Int32) (sp : Option Nat) (nf : Nat → Int32) (ng0 : Nat → Nat → Int32) (nc : Option Nat) (a1 : Int32) (a2 : Int32) (o : Int32 × (Nat → Nat → Int32)) (hf : k_X6_steady a1 a2 nf ng0 = some o) : CI l D cA yX6_steady cX6_steady 4 (some .int) 1 21 [.ref oo, .int a1, .int a2] (List.flatten [(Po oo qn qk qt qx qa ts wa pf (chv qc sp)), (Cw qn cA (chv qc nc) nf ng0)]) 0 0 (fun r w => r = o.1 ∧ w = (List.flatten [(Po oo qn qk qt qx qa ts wa pf (chv qc sp)), (Cw qn cA (chv qc nc) nf o.2)])) := by
  intro sz
  refine met_start (by decide) rfl ?_
  intro p e s m args below meth c ls hsz hargs C0 hname hP hD hS hl
  generalize hAe : va_A (List.flatten [(Po oo qn qk qt qx qa ts wa pf (chv qc sp)), (Cw qn cA (chv qc nc) nf ng0)]) sz = A at C0 hD hS ⊢
  obtain ⟨hx, hb, hr, hml, hown, hts, hlk, hK, hA⟩ := id C0
  replace hl : lv_has ls 4 [(0, .ref oo), (1, .int a1), (2, .int a2)] := hl
  obtain ⟨Q, hQ⟩ : ∃ Q : State → Prop, Q = QI below D A (fun r w => r = o.1 ∧ w = (List.flatten [(Po oo qn qk qt qx qa ts wa pf (chv qc sp)), (Cw qn cA (chv qc nc) nf o.2)])) args s 0 0 := ⟨_, rfl⟩
  refine cast (by rw [hQ]) (?_ : W p l e (RMx 1 21 0 0) s m args below meth c s.heap [] 0 0 Q (F0 m 0 ls []))
  unfold k_X6_steady at hf
  refine lv_aload_n hx hb dX6_steady_0 rfl (lv_at hl 0 rfl) ?_
  refine va_get (D := D) (ci := 6) (v := .ref (qn 0)) (C := RX6) (T := TX6) (N := 10) hx hb hts fw_6 hown hK hP 0 rfl rfl 0 (by decide) (hts _ m_fieldLink_P_12_P_now_LP_Cellar) (fun _ h9 => h9) rfl dX6_steady_1 ?_
  refine lv_iload_n hx hb dX6_steady_4 rfl (lv_at hl 1 rfl) ?_
  obtain ⟨r1q, hq2, hf⟩ := b1_of hf
  refine callVI (As := [.int a1]) (rest := []) (wr := segpick [(Po oo qn qk qt qx qa ts wa pf (chv qc sp)), (Cw qn cA (chv qc nc) nf ng0)] [0]) C0 (c_X1_has qn qc nf ng0 nc a1 _ hq2) lk_X6_61_X1_has rfl hP hD hS (seg_out [(Po oo qn qk qt qx qa ts wa pf (chv qc sp)), (Cw qn cA (chv qc nc) nf ng0)] [1] [0] 2 rfl (by decide)) 1 1 rfl rfl rfl hl.1 rfl rfl (Nat.le_of_ble_eq_true rfl) dX6_steady_5 ⟨Nat.zero_le _, Nat.zero_le _⟩ (fun r1 w H locs hw hP hD hS => ?_)
  obtain ⟨⟨e1, e2⟩, z3⟩ := hw
  replace e1 : r1 = r1q := e1
  subst e1
  subst e2
  replace hP : va_P D vwCl (List.flatten [(Po oo qn qk qt qx qa ts wa pf (chv qc sp)), (Cw qn cA (chv qc nc) nf ng0)]) H := hP.perm (seg_out [(Po oo qn qk qt qx qa ts wa pf (chv qc sp)), (Cw qn cA (chv qc nc) nf ng0)] [1] [0] 2 rfl (by decide)).symm
  replace hD : va_D A (List.flatten [(Po oo qn qk qt qx qa ts wa pf (chv qc sp)), (Cw qn cA (chv qc nc) nf ng0)]) := hD.perm (seg_out [(Po oo qn qk qt qx qa ts wa pf (chv qc sp)), (Cw qn cA (chv qc nc) nf ng0)] [1] [0] 2 rfl (by decide)).symm
  refine lv_if_ne (tgt := 13) hx hb dX6_steady_8 (by decide) (fun c4 => ?_) (fun c4 => ?_)
  · replace hf := ie_of c4 hf
    refine lv_iload_n hx hb dX6_steady_13 rfl (lv_at hl 2 rfl) ?_
    refine lv_bipush (v := 20) hx hb dX6_steady_14 (by decide) ?_
    obtain ⟨r5q, hq6, hf⟩ := b1_of hf
    refine callSI (As := [.int a2, .int 20]) (rest := []) (wr := (List.flatten [(Po oo qn qk qt qx qa ts wa pf (chv qc sp)), (Cw qn cA (chv qc nc) nf ng0)])) C0 (c_X6_isWithin a2 20 _ hq6) lk_X6_49_X6_isWithin rfl hP hD hS (List.Perm.refl _) hl.1 rfl rfl (Nat.le_of_ble_eq_true rfl) dX6_steady_16 ⟨Nat.zero_le _, Nat.zero_le _⟩ (fun r5 w H locs hw hP hD hS => ?_)
    obtain ⟨⟨e1, e2⟩, z7⟩ := hw
    replace e1 : r5 = r5q := e1
    subst e1
    subst e2
    replace hP : va_P D vwCl (List.flatten [(Po oo qn qk qt qx qa ts wa pf (chv qc sp)), (Cw qn cA (chv qc nc) nf ng0)]) H := hP
    replace hD : va_D A (List.flatten [(Po oo qn qk qt qx qa ts wa pf (chv qc sp)), (Cw qn cA (chv qc nc) nf ng0)]) := hD
    refine lv_if_ne (tgt := 25) hx hb dX6_steady_19 (by decide) (fun c8 => ?_) (fun c8 => ?_)
    · replace hf := ie_of c8 hf
      refine lv_aload_n hx hb dX6_steady_25 rfl (lv_at hl 0 rfl) ?_
      refine va_get (D := D) (ci := 6) (v := .ref (qn 0)) (C := RX6) (T := TX6) (N := 10) hx hb hts fw_6 hown hK hP 0 rfl rfl 0 (by decide) (hts _ m_fieldLink_P_12_P_now_LP_Cellar) (fun _ h9 => h9) rfl dX6_steady_26 ?_
      refine va_get (D := D) (ci := 1) (v := .ref (qn 9)) (C := RX1) (T := TX1) (N := 16) hx hb hts fw_1 hown hK hP 1 rfl rfl 9 (by decide) (hts _ m_fieldLink_P_71_P_Cellar_nerve_aI) (fun _ h9 => h9) rfl dX6_steady_29 ?_
      refine lv_iload_n hx hb dX6_steady_32 rfl (lv_at hl 1 rfl) ?_
      obtain ⟨hi9, hf⟩ := gd_of hf
      refine va_iald hx hb hK hP 4 0 rfl rfl hi9 dX6_steady_33 ?_
      refine lv_istore_n (lv' := [(3, .int ((ng0 9) (Int32.toNatClampNeg a1))), (0, .ref oo), (1, .int a1), (2, .int a2)]) hx hb dX6_steady_34 rfl hl (by decide) rfl (fun ls hl => ?_)
      refine lv_aload_n hx hb dX6_steady_35 rfl (lv_at hl 1 rfl) ?_
      refine va_get (D := D) (ci := 6) (v := .ref (qn 0)) (C := RX6) (T := TX6) (N := 10) hx hb hts fw_6 hown hK hP 0 rfl rfl 0 (by decide) (hts _ m_fieldLink_P_12_P_now_LP_Cellar) (fun _ h9 => h9) rfl dX6_steady_36 ?_
      refine va_get (D := D) (ci := 1) (v := .ref (qn 9)) (C := RX1) (T := TX1) (N := 16) hx hb hts fw_1 hown hK hP 1 rfl rfl 9 (by decide) (hts _ m_fieldLink_P_71_P_Cellar_nerve_aI) (fun _ h9 => h9) rfl dX6_steady_39 ?_
      refine lv_iload_n hx hb dX6_steady_42 rfl (lv_at hl 2 rfl) ?_
      refine lv_iload_n hx hb dX6_steady_43 rfl (lv_at hl 3 rfl) ?_
      obtain ⟨hi10, hf⟩ := gd_of hf
      refine va_iast hx hb hK hP hD hS 4 0 rfl rfl hi10 dX6_steady_44 (fun H locs hP hD hS => ?_)
      replace hP : va_P D vwCl (List.flatten [(Po oo qn qk qt qx qa ts wa pf (chv qc sp)), (Cw qn cA (chv qc nc) nf (va_up ng0 9 (upd (ng0 9) (Int32.toNatClampNeg a1) a2)))]) H := hP
      replace hD : va_D A (List.flatten [(Po oo qn qk qt qx qa ts wa pf (chv qc sp)), (Cw qn cA (chv qc nc) nf (va_up ng0 9 (upd (ng0 9) (Int32.toNatClampNeg a1) a2)))]) := hD
      refine lv_iload_n hx hb dX6_steady_45 rfl (lv_at hl 0 rfl) ?_
      rw [hQ]
      exact ret_i C0 hP hD hS (by have e := Option.some.inj hf; rw [← e]; exact ⟨rfl, rfl⟩) dX6_steady_46
    · replace hf := it_of c8 hf
      refine lv_bipush (v := (-2)) hx hb dX6_steady_22 (by decide) ?_
      rw [hQ]
      exact ret_i C0 hP hD hS (by have e := Option.some.inj hf; rw [← e]; exact ⟨rfl, rfl⟩) dX6_steady_24
  · replace hf := it_of c4 hf
    refine lv_iconst (v := (-1)) hx hb dX6_steady_11 (by decide) ?_
    rw [hQ]
    exact ret_i C0 hP hD hS (by have e := Option.some.inj hf; rw [← e]; exact ⟨rfl, rfl⟩) dX6_steady_12
-- X6 change
noncomputable def k_X6_change (a1 : Int32) (a2 : Int32) (nf0 : Nat → Int32) : Option (Int32 × (Nat → Int32)) := b1 (k_X1_has a1 nf0) (fun r1 => if r1 = 0 then some ((-1), nf0) else b1 (k_X1_isUp a1 nf0) (fun r5 => b1 (k_X1_put a1 a2 nf0) (fun nf_8 => if r5 = 0 then some (0, nf_8) else some (1, nf_8))))
set_option maxHeartbeats 4000000 in
set_option maxRecDepth 100000 in
theorem c_X6_change {l : Launch} {D : va_G} {cA : Nat → ClassId} (oo : Nat) (qn : Nat → Nat) (qk : Nat → Nat) (qt : Nat → Nat) (qx : Nat → Nat) (qa : Nat → Nat) (ts : Nat) (wa : Nat) (qc : Nat → Nat → Nat) (pf : Nat → Int32) (sp : Option Nat) (nf0 : Nat → Int32) (ng : Nat → Nat → Int32) (nc : Option Nat) (a1 : Int32) (a2 : Int32) (o : Int32 × (Nat → Int32)) (hf : k_X6_change a1 a2 nf0 = some o) : CI l D cA yX6_change cX6_change 4 (some .int) 1 22 [.ref oo, .int a1, .int a2] (List.flatten [(Po oo qn qk qt qx qa ts wa pf (chv qc sp)), (Cw qn cA (chv qc nc) nf0 ng)]) 0 0 (fun r w => r = o.1 ∧ w = (List.flatten [(Po oo qn qk qt qx qa ts wa pf (chv qc sp)), (Cw qn cA (chv qc nc) o.2 ng)])) := by
  intro sz
  refine met_start (by decide) rfl ?_
  intro p e s m args below meth c ls hsz hargs C0 hname hP hD hS hl
  generalize hAe : va_A (List.flatten [(Po oo qn qk qt qx qa ts wa pf (chv qc sp)), (Cw qn cA (chv qc nc) nf0 ng)]) sz = A at C0 hD hS ⊢
  obtain ⟨hx, hb, hr, hml, hown, hts, hlk, hK, hA⟩ := id C0
  replace hl : lv_has ls 4 [(0, .ref oo), (1, .int a1), (2, .int a2)] := hl
  obtain ⟨Q, hQ⟩ : ∃ Q : State → Prop, Q = QI below D A (fun r w => r = o.1 ∧ w = (List.flatten [(Po oo qn qk qt qx qa ts wa pf (chv qc sp)), (Cw qn cA (chv qc nc) o.2 ng)])) args s 0 0 := ⟨_, rfl⟩
  refine cast (by rw [hQ]) (?_ : W p l e (RMx 1 22 0 0) s m args below meth c s.heap [] 0 0 Q (F0 m 0 ls []))
  unfold k_X6_change at hf
  refine lv_aload_n hx hb dX6_change_0 rfl (lv_at hl 0 rfl) ?_
  refine va_get (D := D) (ci := 6) (v := .ref (qn 0)) (C := RX6) (T := TX6) (N := 10) hx hb hts fw_6 hown hK hP 0 rfl rfl 0 (by decide) (hts _ m_fieldLink_P_12_P_now_LP_Cellar) (fun _ h9 => h9) rfl dX6_change_1 ?_
  refine lv_iload_n hx hb dX6_change_4 rfl (lv_at hl 1 rfl) ?_
  obtain ⟨r1q, hq2, hf⟩ := b1_of hf
  refine callVI (As := [.int a1]) (rest := []) (wr := segpick [(Po oo qn qk qt qx qa ts wa pf (chv qc sp)), (Cw qn cA (chv qc nc) nf0 ng)] [0]) C0 (c_X1_has qn qc nf0 ng nc a1 _ hq2) lk_X6_61_X1_has rfl hP hD hS (seg_out [(Po oo qn qk qt qx qa ts wa pf (chv qc sp)), (Cw qn cA (chv qc nc) nf0 ng)] [1] [0] 2 rfl (by decide)) 1 1 rfl rfl rfl hl.1 rfl rfl (Nat.le_of_ble_eq_true rfl) dX6_change_5 ⟨Nat.zero_le _, Nat.zero_le _⟩ (fun r1 w H locs hw hP hD hS => ?_)
  obtain ⟨⟨e1, e2⟩, z3⟩ := hw
  replace e1 : r1 = r1q := e1
  subst e1
  subst e2
  replace hP : va_P D vwCl (List.flatten [(Po oo qn qk qt qx qa ts wa pf (chv qc sp)), (Cw qn cA (chv qc nc) nf0 ng)]) H := hP.perm (seg_out [(Po oo qn qk qt qx qa ts wa pf (chv qc sp)), (Cw qn cA (chv qc nc) nf0 ng)] [1] [0] 2 rfl (by decide)).symm
  replace hD : va_D A (List.flatten [(Po oo qn qk qt qx qa ts wa pf (chv qc sp)), (Cw qn cA (chv qc nc) nf0 ng)]) := hD.perm (seg_out [(Po oo qn qk qt qx qa ts wa pf (chv qc sp)), (Cw qn cA (chv qc nc) nf0 ng)] [1] [0] 2 rfl (by decide)).symm
  refine lv_if_ne (tgt := 13) hx hb dX6_change_8 (by decide) (fun c4 => ?_) (fun c4 => ?_)
  · replace hf := ie_of c4 hf
    refine lv_aload_n hx hb dX6_change_13 rfl (lv_at hl 0 rfl) ?_
    refine va_get (D := D) (ci := 6) (v := .ref (qn 0)) (C := RX6) (T := TX6) (N := 10) hx hb hts fw_6 hown hK hP 0 rfl rfl 0 (by decide) (hts _ m_fieldLink_P_12_P_now_LP_Cellar) (fun _ h9 => h9) rfl dX6_change_14 ?_
    refine lv_iload_n hx hb dX6_change_17 rfl (lv_at hl 1 rfl) ?_
    obtain ⟨r5q, hq6, hf⟩ := b1_of hf
    refine callVI (As := [.int a1]) (rest := []) (wr := segpick [(Po oo qn qk qt qx qa ts wa pf (chv qc sp)), (Cw qn cA (chv qc nc) nf0 ng)] [0]) C0 (c_X1_isUp qn qc nf0 ng nc a1 _ hq6) lk_X6_74_X1_isUp rfl hP hD hS (seg_out [(Po oo qn qk qt qx qa ts wa pf (chv qc sp)), (Cw qn cA (chv qc nc) nf0 ng)] [1] [0] 2 rfl (by decide)) 1 1 rfl rfl rfl hl.1 rfl rfl (Nat.le_of_ble_eq_true rfl) dX6_change_18 ⟨Nat.zero_le _, Nat.zero_le _⟩ (fun r5 w H locs hw hP hD hS => ?_)
    obtain ⟨⟨e1, e2⟩, z7⟩ := hw
    replace e1 : r5 = r5q := e1
    subst e1
    subst e2
    replace hP : va_P D vwCl (List.flatten [(Po oo qn qk qt qx qa ts wa pf (chv qc sp)), (Cw qn cA (chv qc nc) nf0 ng)]) H := hP.perm (seg_out [(Po oo qn qk qt qx qa ts wa pf (chv qc sp)), (Cw qn cA (chv qc nc) nf0 ng)] [1] [0] 2 rfl (by decide)).symm
    replace hD : va_D A (List.flatten [(Po oo qn qk qt qx qa ts wa pf (chv qc sp)), (Cw qn cA (chv qc nc) nf0 ng)]) := hD.perm (seg_out [(Po oo qn qk qt qx qa ts wa pf (chv qc sp)), (Cw qn cA (chv qc nc) nf0 ng)] [1] [0] 2 rfl (by decide)).symm
    refine lv_istore_n (lv' := [(3, .int r5), (0, .ref oo), (1, .int a1), (2, .int a2)]) hx hb dX6_change_21 rfl hl (by decide) rfl (fun ls hl => ?_)
    refine lv_aload_n hx hb dX6_change_22 rfl (lv_at hl 1 rfl) ?_
    refine va_get (D := D) (ci := 6) (v := .ref (qn 0)) (C := RX6) (T := TX6) (N := 10) hx hb hts fw_6 hown hK hP 0 rfl rfl 0 (by decide) (hts _ m_fieldLink_P_12_P_now_LP_Cellar) (fun _ h9 => h9) rfl dX6_change_23 ?_
    refine lv_iload_n hx hb dX6_change_26 rfl (lv_at hl 2 rfl) ?_
    refine lv_iload_n hx hb dX6_change_27 rfl (lv_at hl 3 rfl) ?_
    obtain ⟨nf_8, hq9, hf⟩ := b1_of hf
    refine callVV (As := [.int a1, .int a2]) (rest := []) (wr := segpick [(Po oo qn qk qt qx qa ts wa pf (chv qc sp)), (Cw qn cA (chv qc nc) nf0 ng)] [0]) C0 (c_X1_put qn qc nf0 ng nc a1 a2 _ hq9) lk_X6_87_X1_put rfl hP hD hS (seg_out [(Po oo qn qk qt qx qa ts wa pf (chv qc sp)), (Cw qn cA (chv qc nc) nf0 ng)] [1] [0] 2 rfl (by decide)) 1 1 rfl rfl rfl hl.1 rfl rfl (Nat.le_of_ble_eq_true rfl) dX6_change_28 ⟨Nat.zero_le _, Nat.zero_le _⟩ (fun w H locs hw hP hD hS => ?_)
    have e2 := hw
    subst e2
    replace hP : va_P D vwCl (List.flatten [(Po oo qn qk qt qx qa ts wa pf (chv qc sp)), (Cw qn cA (chv qc nc) nf_8 ng)]) H := hP.perm (seg_out [(Po oo qn qk qt qx qa ts wa pf (chv qc sp)), (Cw qn cA (chv qc nc) nf_8 ng)] [1] [0] 2 rfl (by decide)).symm
    replace hD : va_D A (List.flatten [(Po oo qn qk qt qx qa ts wa pf (chv qc sp)), (Cw qn cA (chv qc nc) nf_8 ng)]) := hD.perm (seg_out [(Po oo qn qk qt qx qa ts wa pf (chv qc sp)), (Cw qn cA (chv qc nc) nf_8 ng)] [1] [0] 2 rfl (by decide)).symm
    refine lv_iload_n hx hb dX6_change_31 rfl (lv_at hl 0 rfl) ?_
    refine lv_if_eq (tgt := 39) hx hb dX6_change_32 (by decide) (fun c10 => ?_) (fun c10 => ?_)
    · replace hf := it_of c10 hf
      refine lv_iconst (v := 0) hx hb dX6_change_39 (by decide) ?_
      rw [hQ]
      exact ret_i C0 hP hD hS (by have e := Option.some.inj hf; rw [← e]; exact ⟨rfl, rfl⟩) dX6_change_40
    · replace hf := ie_of c10 hf
      refine lv_iconst (v := 1) hx hb dX6_change_35 (by decide) ?_
      refine lv_goto (tgt := 40) hx hb dX6_change_36 (by decide) ?_
      rw [hQ]
      exact ret_i C0 hP hD hS (by have e := Option.some.inj hf; rw [← e]; exact ⟨rfl, rfl⟩) dX6_change_40
  · replace hf := it_of c4 hf
    refine lv_iconst (v := (-1)) hx hb dX6_change_11 (by decide) ?_
    rw [hQ]
    exact ret_i C0 hP hD hS (by have e := Option.some.inj hf; rw [← e]; exact ⟨rfl, rfl⟩) dX6_change_12
-- X6 fear
noncomputable def k_X6_fear (a1 : Int32) (nf0 : Nat → Int32) : Option (Int32 × (Nat → Int32)) := b1 (k_X6_isWithin a1 9999) (fun r1 => if r1 = 0 then some ((-2), nf0) else some ((nf0 2), (upd nf0 2 a1)))
set_option maxHeartbeats 4000000 in
set_option maxRecDepth 100000 in
theorem c_X6_fear {l : Launch} {D : va_G} {cA : Nat → ClassId} (oo : Nat) (qn : Nat → Nat) (qk : Nat → Nat) (qt : Nat → Nat) (qx : Nat → Nat) (qa : Nat → Nat) (ts : Nat) (wa : Nat) (qc : Nat → Nat → Nat) (pf : Nat → Int32) (sp : Option Nat) (nf0 : Nat → Int32) (ng : Nat → Nat → Int32) (nc : Option Nat) (a1 : Int32) (o : Int32 × (Nat → Int32)) (hf : k_X6_fear a1 nf0 = some o) : CI l D cA yX6_fear cX6_fear 3 (some .int) 1 21 [.ref oo, .int a1] (List.flatten [(Po oo qn qk qt qx qa ts wa pf (chv qc sp)), (Cw qn cA (chv qc nc) nf0 ng)]) 0 0 (fun r w => r = o.1 ∧ w = (List.flatten [(Po oo qn qk qt qx qa ts wa pf (chv qc sp)), (Cw qn cA (chv qc nc) o.2 ng)])) := by
  intro sz
  refine met_start (by decide) rfl ?_
  intro p e s m args below meth c ls hsz hargs C0 hname hP hD hS hl
  generalize hAe : va_A (List.flatten [(Po oo qn qk qt qx qa ts wa pf (chv qc sp)), (Cw qn cA (chv qc nc) nf0 ng)]) sz = A at C0 hD hS ⊢
  obtain ⟨hx, hb, hr, hml, hown, hts, hlk, hK, hA⟩ := id C0
  replace hl : lv_has ls 3 [(0, .ref oo), (1, .int a1)] := hl
  obtain ⟨Q, hQ⟩ : ∃ Q : State → Prop, Q = QI below D A (fun r w => r = o.1 ∧ w = (List.flatten [(Po oo qn qk qt qx qa ts wa pf (chv qc sp)), (Cw qn cA (chv qc nc) o.2 ng)])) args s 0 0 := ⟨_, rfl⟩
  refine cast (by rw [hQ]) (?_ : W p l e (RMx 1 21 0 0) s m args below meth c s.heap [] 0 0 Q (F0 m 0 ls []))
  unfold k_X6_fear at hf
  refine lv_iload_n hx hb dX6_fear_0 rfl (lv_at hl 1 rfl) ?_
  refine lv_sipush (v := 9999) hx hb dX6_fear_1 (by decide) ?_
  obtain ⟨r1q, hq2, hf⟩ := b1_of hf
  refine callSI (As := [.int a1, .int 9999]) (rest := []) (wr := (List.flatten [(Po oo qn qk qt qx qa ts wa pf (chv qc sp)), (Cw qn cA (chv qc nc) nf0 ng)])) C0 (c_X6_isWithin a1 9999 _ hq2) lk_X6_49_X6_isWithin rfl hP hD hS (List.Perm.refl _) hl.1 rfl rfl (Nat.le_of_ble_eq_true rfl) dX6_fear_4 ⟨Nat.zero_le _, Nat.zero_le _⟩ (fun r1 w H locs hw hP hD hS => ?_)
  obtain ⟨⟨e1, e2⟩, z3⟩ := hw
  replace e1 : r1 = r1q := e1
  subst e1
  subst e2
  replace hP : va_P D vwCl (List.flatten [(Po oo qn qk qt qx qa ts wa pf (chv qc sp)), (Cw qn cA (chv qc nc) nf0 ng)]) H := hP
  replace hD : va_D A (List.flatten [(Po oo qn qk qt qx qa ts wa pf (chv qc sp)), (Cw qn cA (chv qc nc) nf0 ng)]) := hD
  refine lv_if_ne (tgt := 13) hx hb dX6_fear_7 (by decide) (fun c4 => ?_) (fun c4 => ?_)
  · replace hf := ie_of c4 hf
    refine lv_aload_n hx hb dX6_fear_13 rfl (lv_at hl 0 rfl) ?_
    refine va_get (D := D) (ci := 6) (v := .ref (qn 0)) (C := RX6) (T := TX6) (N := 10) hx hb hts fw_6 hown hK hP 0 rfl rfl 0 (by decide) (hts _ m_fieldLink_P_12_P_now_LP_Cellar) (fun _ h9 => h9) rfl dX6_fear_14 ?_
    refine va_get (D := D) (ci := 1) (v := .int (nf0 2)) (C := RX1) (T := TX1) (N := 16) hx hb hts fw_1 hown hK hP 1 rfl rfl 2 (by decide) (hts _ m_fieldLink_P_91_P_Cellar_fear_I) (fun _ h9 => h9) rfl dX6_fear_17 ?_
    refine lv_istore_n (lv' := [(2, .int (nf0 2)), (0, .ref oo), (1, .int a1)]) hx hb dX6_fear_20 rfl hl (by decide) rfl (fun ls hl => ?_)
    refine lv_aload_n hx hb dX6_fear_21 rfl (lv_at hl 1 rfl) ?_
    refine va_get (D := D) (ci := 6) (v := .ref (qn 0)) (C := RX6) (T := TX6) (N := 10) hx hb hts fw_6 hown hK hP 0 rfl rfl 0 (by decide) (hts _ m_fieldLink_P_12_P_now_LP_Cellar) (fun _ h9 => h9) rfl dX6_fear_22 ?_
    refine lv_iload_n hx hb dX6_fear_25 rfl (lv_at hl 2 rfl) ?_
    refine va_put (D := D) (ci := 1) (v := .int a1) (ty := .int) (C := RX1) (T := TX1) (N := 16) hx hb hts fw_1 tyX1 tyX1_ok nmX1 hown hK hP hD hS 1 rfl rfl 2 (by decide) (hts _ m_fieldLink_P_91_P_Cellar_fear_I) (fun _ h9 => h9) rfl (by decide +kernel) rfl rfl (Nat.le_of_ble_eq_true rfl) dX6_fear_26 (fun H locs hP hD hS => ?_)
    replace hP : va_P D vwCl (List.flatten [(Po oo qn qk qt qx qa ts wa pf (chv qc sp)), (Cw qn cA (chv qc nc) (upd nf0 2 a1) ng)]) H := hP
    replace hD : va_D A (List.flatten [(Po oo qn qk qt qx qa ts wa pf (chv qc sp)), (Cw qn cA (chv qc nc) (upd nf0 2 a1) ng)]) := hD
    refine lv_iload_n hx hb dX6_fear_29 rfl (lv_at hl 0 rfl) ?_
    rw [hQ]
    exact ret_i C0 hP hD hS (by have e := Option.some.inj hf; rw [← e]; exact ⟨rfl, rfl⟩) dX6_fear_30
  · replace hf := it_of c4 hf
    refine lv_bipush (v := (-2)) hx hb dX6_fear_10 (by decide) ?_
    rw [hQ]
    exact ret_i C0 hP hD hS (by have e := Option.some.inj hf; rw [← e]; exact ⟨rfl, rfl⟩) dX6_fear_12
-- X6 row
noncomputable def k_X6_row (a1 : Int32) (a2 : Int32) (a3 : Int32) (nf : Nat → Int32) (ng0 : Nat → Nat → Int32) : Option (Int32 × (Nat → Nat → Int32)) := b1 (k_X1_has a1 nf) (fun r1 => if r1 = 0 then some ((-1), ng0) else b1 (k_X6_isWithin a2 3) (fun r5 => if r5 = 0 then some ((-1), ng0) else b1 (k_X6_isWithin a3 9) (fun r9 => if r9 = 0 then some ((-2), ng0) else gd a1 6 (if ((ng0 7) (Int32.toNatClampNeg a1)) = 6 then gd ((a1 * 4) + a2) 24 (gd ((a1 * 4) + a2) 24 (some (((ng0 11) (Int32.toNatClampNeg ((a1 * 4) + a2))), (va_up ng0 11 (upd (ng0 11) (Int32.toNatClampNeg ((a1 * 4) + a2)) a3))))) else some ((-3), ng0)))))
set_option maxHeartbeats 4000000 in
set_option maxRecDepth 100000 in
theorem c_X6_row {l : Launch} {D : va_G} {cA : Nat → ClassId} (oo : Nat) (qn : Nat → Nat) (qk : Nat → Nat) (qt : Nat → Nat) (qx : Nat → Nat) (qa : Nat → Nat) (ts : Nat) (wa : Nat) (qc : Nat → Nat → Nat) (pf : Nat → Int32) (sp : Option Nat) (nf : Nat → Int32) (ng0 : Nat → Nat → Int32) (nc : Option Nat) (a1 : Int32) (a2 : Int32) (a3 : Int32) (o : Int32 × (Nat → Nat → Int32)) (hf : k_X6_row a1 a2 a3 nf ng0 = some o) : CI l D cA yX6_row cX6_row 6 (some .int) 1 21 [.ref oo, .int a1, .int a2, .int a3] (List.flatten [(Po oo qn qk qt qx qa ts wa pf (chv qc sp)), (Cw qn cA (chv qc nc) nf ng0)]) 0 0 (fun r w => r = o.1 ∧ w = (List.flatten [(Po oo qn qk qt qx qa ts wa pf (chv qc sp)), (Cw qn cA (chv qc nc) nf o.2)])) := by
  intro sz
  refine met_start (by decide) rfl ?_
  intro p e s m args below meth c ls hsz hargs C0 hname hP hD hS hl
  generalize hAe : va_A (List.flatten [(Po oo qn qk qt qx qa ts wa pf (chv qc sp)), (Cw qn cA (chv qc nc) nf ng0)]) sz = A at C0 hD hS ⊢
  obtain ⟨hx, hb, hr, hml, hown, hts, hlk, hK, hA⟩ := id C0
  replace hl : lv_has ls 6 [(0, .ref oo), (1, .int a1), (2, .int a2), (3, .int a3)] := hl
  obtain ⟨Q, hQ⟩ : ∃ Q : State → Prop, Q = QI below D A (fun r w => r = o.1 ∧ w = (List.flatten [(Po oo qn qk qt qx qa ts wa pf (chv qc sp)), (Cw qn cA (chv qc nc) nf o.2)])) args s 0 0 := ⟨_, rfl⟩
  refine cast (by rw [hQ]) (?_ : W p l e (RMx 1 21 0 0) s m args below meth c s.heap [] 0 0 Q (F0 m 0 ls []))
  unfold k_X6_row at hf
  refine lv_aload_n hx hb dX6_row_0 rfl (lv_at hl 0 rfl) ?_
  refine va_get (D := D) (ci := 6) (v := .ref (qn 0)) (C := RX6) (T := TX6) (N := 10) hx hb hts fw_6 hown hK hP 0 rfl rfl 0 (by decide) (hts _ m_fieldLink_P_12_P_now_LP_Cellar) (fun _ h9 => h9) rfl dX6_row_1 ?_
  refine lv_iload_n hx hb dX6_row_4 rfl (lv_at hl 1 rfl) ?_
  obtain ⟨r1q, hq2, hf⟩ := b1_of hf
  refine callVI (As := [.int a1]) (rest := []) (wr := segpick [(Po oo qn qk qt qx qa ts wa pf (chv qc sp)), (Cw qn cA (chv qc nc) nf ng0)] [0]) C0 (c_X1_has qn qc nf ng0 nc a1 _ hq2) lk_X6_61_X1_has rfl hP hD hS (seg_out [(Po oo qn qk qt qx qa ts wa pf (chv qc sp)), (Cw qn cA (chv qc nc) nf ng0)] [1] [0] 2 rfl (by decide)) 1 1 rfl rfl rfl hl.1 rfl rfl (Nat.le_of_ble_eq_true rfl) dX6_row_5 ⟨Nat.zero_le _, Nat.zero_le _⟩ (fun r1 w H locs hw hP hD hS => ?_)
  obtain ⟨⟨e1, e2⟩, z3⟩ := hw
  replace e1 : r1 = r1q := e1
  subst e1
  subst e2
  replace hP : va_P D vwCl (List.flatten [(Po oo qn qk qt qx qa ts wa pf (chv qc sp)), (Cw qn cA (chv qc nc) nf ng0)]) H := hP.perm (seg_out [(Po oo qn qk qt qx qa ts wa pf (chv qc sp)), (Cw qn cA (chv qc nc) nf ng0)] [1] [0] 2 rfl (by decide)).symm
  replace hD : va_D A (List.flatten [(Po oo qn qk qt qx qa ts wa pf (chv qc sp)), (Cw qn cA (chv qc nc) nf ng0)]) := hD.perm (seg_out [(Po oo qn qk qt qx qa ts wa pf (chv qc sp)), (Cw qn cA (chv qc nc) nf ng0)] [1] [0] 2 rfl (by decide)).symm
  refine lv_if_eq (tgt := 19) hx hb dX6_row_8 (by decide) (fun c4 => ?_) (fun c4 => ?_)
  · replace hf := it_of c4 hf
    refine lv_iconst (v := (-1)) hx hb dX6_row_19 (by decide) ?_
    rw [hQ]
    exact ret_i C0 hP hD hS (by have e := Option.some.inj hf; rw [← e]; exact ⟨rfl, rfl⟩) dX6_row_20
  · replace hf := ie_of c4 hf
    refine lv_iload_n hx hb dX6_row_11 rfl (lv_at hl 2 rfl) ?_
    refine lv_iconst (v := 3) hx hb dX6_row_12 (by decide) ?_
    obtain ⟨r5q, hq6, hf⟩ := b1_of hf
    refine callSI (As := [.int a2, .int 3]) (rest := []) (wr := (List.flatten [(Po oo qn qk qt qx qa ts wa pf (chv qc sp)), (Cw qn cA (chv qc nc) nf ng0)])) C0 (c_X6_isWithin a2 3 _ hq6) lk_X6_49_X6_isWithin rfl hP hD hS (List.Perm.refl _) hl.1 rfl rfl (Nat.le_of_ble_eq_true rfl) dX6_row_13 ⟨Nat.zero_le _, Nat.zero_le _⟩ (fun r5 w H locs hw hP hD hS => ?_)
    obtain ⟨⟨e1, e2⟩, z7⟩ := hw
    replace e1 : r5 = r5q := e1
    subst e1
    subst e2
    replace hP : va_P D vwCl (List.flatten [(Po oo qn qk qt qx qa ts wa pf (chv qc sp)), (Cw qn cA (chv qc nc) nf ng0)]) H := hP
    replace hD : va_D A (List.flatten [(Po oo qn qk qt qx qa ts wa pf (chv qc sp)), (Cw qn cA (chv qc nc) nf ng0)]) := hD
    refine lv_if_ne (tgt := 21) hx hb dX6_row_16 (by decide) (fun c8 => ?_) (fun c8 => ?_)
    · replace hf := ie_of c8 hf
      refine lv_iload_n hx hb dX6_row_21 rfl (lv_at hl 3 rfl) ?_
      refine lv_bipush (v := 9) hx hb dX6_row_22 (by decide) ?_
      obtain ⟨r9q, hq10, hf⟩ := b1_of hf
      refine callSI (As := [.int a3, .int 9]) (rest := []) (wr := (List.flatten [(Po oo qn qk qt qx qa ts wa pf (chv qc sp)), (Cw qn cA (chv qc nc) nf ng0)])) C0 (c_X6_isWithin a3 9 _ hq10) lk_X6_49_X6_isWithin rfl hP hD hS (List.Perm.refl _) hl.1 rfl rfl (Nat.le_of_ble_eq_true rfl) dX6_row_24 ⟨Nat.zero_le _, Nat.zero_le _⟩ (fun r9 w H locs hw hP hD hS => ?_)
      obtain ⟨⟨e1, e2⟩, z11⟩ := hw
      replace e1 : r9 = r9q := e1
      subst e1
      subst e2
      replace hP : va_P D vwCl (List.flatten [(Po oo qn qk qt qx qa ts wa pf (chv qc sp)), (Cw qn cA (chv qc nc) nf ng0)]) H := hP
      replace hD : va_D A (List.flatten [(Po oo qn qk qt qx qa ts wa pf (chv qc sp)), (Cw qn cA (chv qc nc) nf ng0)]) := hD
      refine lv_if_ne (tgt := 33) hx hb dX6_row_27 (by decide) (fun c12 => ?_) (fun c12 => ?_)
      · replace hf := ie_of c12 hf
        refine lv_aload_n hx hb dX6_row_33 rfl (lv_at hl 0 rfl) ?_
        refine va_get (D := D) (ci := 6) (v := .ref (qn 0)) (C := RX6) (T := TX6) (N := 10) hx hb hts fw_6 hown hK hP 0 rfl rfl 0 (by decide) (hts _ m_fieldLink_P_12_P_now_LP_Cellar) (fun _ h9 => h9) rfl dX6_row_34 ?_
        refine va_get (D := D) (ci := 1) (v := .ref (qn 7)) (C := RX1) (T := TX1) (N := 16) hx hb hts fw_1 hown hK hP 1 rfl rfl 7 (by decide) (hts _ m_fieldLink_P_65_P_Cellar_kind_aI) (fun _ h9 => h9) rfl dX6_row_37 ?_
        refine lv_iload_n hx hb dX6_row_40 rfl (lv_at hl 1 rfl) ?_
        obtain ⟨hi13, hf⟩ := gd_of hf
        refine va_iald hx hb hK hP 2 0 rfl rfl hi13 dX6_row_41 ?_
        refine lv_bipush (v := 6) hx hb dX6_row_42 (by decide) ?_
        refine lv_icmp_eq (tgt := 50) hx hb dX6_row_44 (by decide) (fun c14 => ?_) (fun c14 => ?_)
        · replace hf := it_of c14 hf
          refine lv_iload_n hx hb dX6_row_50 rfl (lv_at hl 1 rfl) ?_
          refine lv_iconst (v := 4) hx hb dX6_row_51 (by decide) ?_
          refine lv_imul hx hb dX6_row_52 ?_
          refine lv_iload_n hx hb dX6_row_53 rfl (lv_at hl 2 rfl) ?_
          refine lv_iadd hx hb dX6_row_54 ?_
          refine lv_istore (lv' := [(4, .int ((a1 * 4) + a2)), (0, .ref oo), (1, .int a1), (2, .int a2), (3, .int a3)]) hx hb dX6_row_55 hl (by decide) rfl (fun ls hl => ?_)
          refine lv_aload_n hx hb dX6_row_57 rfl (lv_at hl 1 rfl) ?_
          refine va_get (D := D) (ci := 6) (v := .ref (qn 0)) (C := RX6) (T := TX6) (N := 10) hx hb hts fw_6 hown hK hP 0 rfl rfl 0 (by decide) (hts _ m_fieldLink_P_12_P_now_LP_Cellar) (fun _ h9 => h9) rfl dX6_row_58 ?_
          refine va_get (D := D) (ci := 1) (v := .ref (qn 11)) (C := RX1) (T := TX1) (N := 16) hx hb hts fw_1 hown hK hP 1 rfl rfl 11 (by decide) (hts _ m_fieldLink_P_94_P_Cellar_rows_aI) (fun _ h9 => h9) rfl dX6_row_61 ?_
          refine lv_iload hx hb dX6_row_64 (lv_at hl 0 rfl) ?_
          obtain ⟨hi15, hf⟩ := gd_of hf
          refine va_iald hx hb hK hP 6 0 rfl rfl hi15 dX6_row_66 ?_
          refine lv_istore (lv' := [(5, .int ((ng0 11) (Int32.toNatClampNeg ((a1 * 4) + a2)))), (4, .int ((a1 * 4) + a2)), (0, .ref oo), (1, .int a1), (2, .int a2), (3, .int a3)]) hx hb dX6_row_67 hl (by decide) rfl (fun ls hl => ?_)
          refine lv_aload_n hx hb dX6_row_69 rfl (lv_at hl 2 rfl) ?_
          refine va_get (D := D) (ci := 6) (v := .ref (qn 0)) (C := RX6) (T := TX6) (N := 10) hx hb hts fw_6 hown hK hP 0 rfl rfl 0 (by decide) (hts _ m_fieldLink_P_12_P_now_LP_Cellar) (fun _ h9 => h9) rfl dX6_row_70 ?_
          refine va_get (D := D) (ci := 1) (v := .ref (qn 11)) (C := RX1) (T := TX1) (N := 16) hx hb hts fw_1 hown hK hP 1 rfl rfl 11 (by decide) (hts _ m_fieldLink_P_94_P_Cellar_rows_aI) (fun _ h9 => h9) rfl dX6_row_73 ?_
          refine lv_iload hx hb dX6_row_76 (lv_at hl 1 rfl) ?_
          refine lv_iload_n hx hb dX6_row_78 rfl (lv_at hl 5 rfl) ?_
          obtain ⟨hi16, hf⟩ := gd_of hf
          refine va_iast hx hb hK hP hD hS 6 0 rfl rfl hi16 dX6_row_79 (fun H locs hP hD hS => ?_)
          replace hP : va_P D vwCl (List.flatten [(Po oo qn qk qt qx qa ts wa pf (chv qc sp)), (Cw qn cA (chv qc nc) nf (va_up ng0 11 (upd (ng0 11) (Int32.toNatClampNeg ((a1 * 4) + a2)) a3)))]) H := hP
          replace hD : va_D A (List.flatten [(Po oo qn qk qt qx qa ts wa pf (chv qc sp)), (Cw qn cA (chv qc nc) nf (va_up ng0 11 (upd (ng0 11) (Int32.toNatClampNeg ((a1 * 4) + a2)) a3)))]) := hD
          refine lv_iload hx hb dX6_row_80 (lv_at hl 0 rfl) ?_
          rw [hQ]
          exact ret_i C0 hP hD hS (by have e := Option.some.inj hf; rw [← e]; exact ⟨rfl, rfl⟩) dX6_row_82
        · replace hf := ie_of c14 hf
          refine lv_bipush (v := (-3)) hx hb dX6_row_47 (by decide) ?_
          rw [hQ]
          exact ret_i C0 hP hD hS (by have e := Option.some.inj hf; rw [← e]; exact ⟨rfl, rfl⟩) dX6_row_49
      · replace hf := it_of c12 hf
        refine lv_bipush (v := (-2)) hx hb dX6_row_30 (by decide) ?_
        rw [hQ]
        exact ret_i C0 hP hD hS (by have e := Option.some.inj hf; rw [← e]; exact ⟨rfl, rfl⟩) dX6_row_32
    · replace hf := it_of c8 hf
      refine lv_iconst (v := (-1)) hx hb dX6_row_19 (by decide) ?_
      rw [hQ]
      exact ret_i C0 hP hD hS (by have e := Option.some.inj hf; rw [← e]; exact ⟨rfl, rfl⟩) dX6_row_20
-- X6 feed
noncomputable def k_X6_feed (a1 : Int32) (xf0 : Nat → Int32) (xs0 : Nat → Int32) : Option (Int32 × (Nat → Int32) × (Nat → Int32)) := b1 (k_X6_isWithin a1 127) (fun r1 => if r1 = 0 then some ((-2), xf0, xs0) else if (xf0 0) < 100 then b3 (k_X5_add a1 xf0 xs0) (fun r6 xf_7 xs_8 => some (r6, xf_7, xs_8)) else some ((-4), xf0, xs0))
set_option maxHeartbeats 4000000 in
set_option maxRecDepth 100000 in
theorem c_X6_feed {l : Launch} {D : va_G} {cA : Nat → ClassId} (oo : Nat) (qn : Nat → Nat) (qk : Nat → Nat) (qt : Nat → Nat) (qx : Nat → Nat) (qa : Nat → Nat) (ts : Nat) (wa : Nat) (qc : Nat → Nat → Nat) (pf : Nat → Int32) (sp : Option Nat) (xf0 : Nat → Int32) (xs0 : Nat → Int32) (xv : Value) (a1 : Int32) (o : Int32 × (Nat → Int32) × (Nat → Int32)) (hf : k_X6_feed a1 xf0 xs0 = some o) : CI l D cA yX6_feed cX6_feed 2 (some .int) 1 21 [.ref oo, .int a1] (List.flatten [(Po oo qn qk qt qx qa ts wa pf (chv qc sp)), (Tw qx cA xf0 xs0 xv)]) 0 0 (fun r w => r = o.1 ∧ w = (List.flatten [(Po oo qn qk qt qx qa ts wa pf (chv qc sp)), (Tw qx cA o.2.1 o.2.2 xv)])) := by
  intro sz
  refine met_start (by decide) rfl ?_
  intro p e s m args below meth c ls hsz hargs C0 hname hP hD hS hl
  generalize hAe : va_A (List.flatten [(Po oo qn qk qt qx qa ts wa pf (chv qc sp)), (Tw qx cA xf0 xs0 xv)]) sz = A at C0 hD hS ⊢
  obtain ⟨hx, hb, hr, hml, hown, hts, hlk, hK, hA⟩ := id C0
  replace hl : lv_has ls 2 [(0, .ref oo), (1, .int a1)] := hl
  obtain ⟨Q, hQ⟩ : ∃ Q : State → Prop, Q = QI below D A (fun r w => r = o.1 ∧ w = (List.flatten [(Po oo qn qk qt qx qa ts wa pf (chv qc sp)), (Tw qx cA o.2.1 o.2.2 xv)])) args s 0 0 := ⟨_, rfl⟩
  refine cast (by rw [hQ]) (?_ : W p l e (RMx 1 21 0 0) s m args below meth c s.heap [] 0 0 Q (F0 m 0 ls []))
  unfold k_X6_feed at hf
  refine lv_iload_n hx hb dX6_feed_0 rfl (lv_at hl 1 rfl) ?_
  refine lv_bipush (v := 127) hx hb dX6_feed_1 (by decide) ?_
  obtain ⟨r1q, hq2, hf⟩ := b1_of hf
  refine callSI (As := [.int a1, .int 127]) (rest := []) (wr := (List.flatten [(Po oo qn qk qt qx qa ts wa pf (chv qc sp)), (Tw qx cA xf0 xs0 xv)])) C0 (c_X6_isWithin a1 127 _ hq2) lk_X6_49_X6_isWithin rfl hP hD hS (List.Perm.refl _) hl.1 rfl rfl (Nat.le_of_ble_eq_true rfl) dX6_feed_3 ⟨Nat.zero_le _, Nat.zero_le _⟩ (fun r1 w H locs hw hP hD hS => ?_)
  obtain ⟨⟨e1, e2⟩, z3⟩ := hw
  replace e1 : r1 = r1q := e1
  subst e1
  subst e2
  replace hP : va_P D vwCl (List.flatten [(Po oo qn qk qt qx qa ts wa pf (chv qc sp)), (Tw qx cA xf0 xs0 xv)]) H := hP
  replace hD : va_D A (List.flatten [(Po oo qn qk qt qx qa ts wa pf (chv qc sp)), (Tw qx cA xf0 xs0 xv)]) := hD
  refine lv_if_ne (tgt := 12) hx hb dX6_feed_6 (by decide) (fun c4 => ?_) (fun c4 => ?_)
  · replace hf := ie_of c4 hf
    refine lv_aload_n hx hb dX6_feed_12 rfl (lv_at hl 0 rfl) ?_
    refine va_get (D := D) (ci := 6) (v := .ref (qx 0)) (C := RX6) (T := TX6) (N := 10) hx hb hts fw_6 hown hK hP 0 rfl rfl 3 (by decide) (hts _ m_fieldLink_P_27_P_text_LP_Text) (fun _ h9 => h9) rfl dX6_feed_13 ?_
    refine va_get (D := D) (ci := 5) (v := .int (xf0 0)) (C := RX5) (T := TX5) (N := 4) hx hb hts fw_5 hown hK hP 1 rfl rfl 0 (by decide) (hts _ m_fieldLink_P_97_P_Text_length_I) (fun _ h9 => h9) rfl dX6_feed_16 ?_
    refine lv_bipush (v := 100) hx hb dX6_feed_19 (by decide) ?_
    refine lv_icmp_lt (tgt := 29) hx hb dX6_feed_21 (by decide) (fun c5 => ?_) (fun c5 => ?_)
    · replace hf := it_of c5 hf
      refine lv_aload_n hx hb dX6_feed_29 rfl (lv_at hl 0 rfl) ?_
      refine va_get (D := D) (ci := 6) (v := .ref (qx 0)) (C := RX6) (T := TX6) (N := 10) hx hb hts fw_6 hown hK hP 0 rfl rfl 3 (by decide) (hts _ m_fieldLink_P_27_P_text_LP_Text) (fun _ h9 => h9) rfl dX6_feed_30 ?_
      refine lv_iload_n hx hb dX6_feed_33 rfl (lv_at hl 1 rfl) ?_
      obtain ⟨r6q, xf_7, xs_8, hq9, hf⟩ := b3_of hf
      refine callVI (As := [.int a1]) (rest := []) (wr := segpick [(Po oo qn qk qt qx qa ts wa pf (chv qc sp)), (Tw qx cA xf0 xs0 xv)] [0]) C0 (c_X5_add qx xv xf0 xs0 a1 _ hq9) lk_X6_100_X5_add rfl hP hD hS (seg_out [(Po oo qn qk qt qx qa ts wa pf (chv qc sp)), (Tw qx cA xf0 xs0 xv)] [1] [0] 2 rfl (by decide)) 1 5 rfl rfl rfl hl.1 rfl rfl (Nat.le_of_ble_eq_true rfl) dX6_feed_34 ⟨Nat.zero_le _, Nat.zero_le _⟩ (fun r6 w H locs hw hP hD hS => ?_)
      obtain ⟨e1, e2⟩ := hw
      replace e1 : r6 = r6q := e1
      subst e1
      subst e2
      replace hP : va_P D vwCl (List.flatten [(Po oo qn qk qt qx qa ts wa pf (chv qc sp)), (Tw qx cA xf_7 xs_8 xv)]) H := hP.perm (seg_out [(Po oo qn qk qt qx qa ts wa pf (chv qc sp)), (Tw qx cA xf_7 xs_8 xv)] [1] [0] 2 rfl (by decide)).symm
      replace hD : va_D A (List.flatten [(Po oo qn qk qt qx qa ts wa pf (chv qc sp)), (Tw qx cA xf_7 xs_8 xv)]) := hD.perm (seg_out [(Po oo qn qk qt qx qa ts wa pf (chv qc sp)), (Tw qx cA xf_7 xs_8 xv)] [1] [0] 2 rfl (by decide)).symm
      rw [hQ]
      exact ret_i C0 hP hD hS (by have e := Option.some.inj hf; rw [← e]; exact ⟨rfl, rfl⟩) dX6_feed_37
    · replace hf := ie_of c5 hf
      refine lv_bipush (v := (-4)) hx hb dX6_feed_24 (by decide) ?_
      refine lv_goto (tgt := 37) hx hb dX6_feed_26 (by decide) ?_
      rw [hQ]
      exact ret_i C0 hP hD hS (by have e := Option.some.inj hf; rw [← e]; exact ⟨rfl, rfl⟩) dX6_feed_37
  · replace hf := it_of c4 hf
    refine lv_bipush (v := (-2)) hx hb dX6_feed_9 (by decide) ?_
    rw [hQ]
    exact ret_i C0 hP hD hS (by have e := Option.some.inj hf; rw [← e]; exact ⟨rfl, rfl⟩) dX6_feed_11
-- X6 hushed
noncomputable def k_X6_hushed_7 (cn : Nat) (cf : Nat → Nat → Int32) (cg : Nat → Nat → Nat → Int32) : Nat → Int32 → (Nat → Int32) → (Nat → Nat → Int32) → Option Nat → (Nat → Int32) → Option (Int32 × (Nat → Int32) × (Nat → Nat → Int32) × Option Nat × (Nat → Int32))
  | 0, _, _, _, _, _ => none
  | n + 1, x2, tf, tg, tc, tv => if 60 < x2 then some ((-5), tf, tg, tc, tv) else b2 (k_X1_sound tf tg tc tv cn cf cg) (fun r2 tv_3 => if r2 = 0 then some (x2, tf, tg, tc, tv_3) else b2 (k_X1_passDay r2 1000000 tf tg tc cn cf) (fun tf_6 tg_7 => k_X6_hushed_7 cn cf cg n (x2 + 1) tf_6 tg_7 tc tv_3))
noncomputable def k_X6_hushed (nf : Nat → Int32) (ng : Nat → Nat → Int32) (nc : Option Nat) (tf0 : Nat → Int32) (tg0 : Nat → Nat → Int32) (tc0 : Option Nat) (tv0 : Nat → Int32) (cn : Nat) (cf : Nat → Nat → Int32) (cg : Nat → Nat → Nat → Int32) : Option (Int32 × (Nat → Int32) × (Nat → Nat → Int32) × Option Nat × (Nat → Int32)) := b3 (k_X6_begin nf ng nc tf0 tg0 tc0) (fun tf_1 tg_2 tc_3 => k_X6_hushed_7 cn cf cg 100000 0 tf_1 tg_2 tc_3 tv0)
set_option maxHeartbeats 4000000 in
set_option maxRecDepth 100000 in
theorem c_X6_hushed {l : Launch} {D : va_G} {cA : Nat → ClassId} (oo : Nat) (qn : Nat → Nat) (qk : Nat → Nat) (qt : Nat → Nat) (qx : Nat → Nat) (qa : Nat → Nat) (ts : Nat) (wa : Nat) (qc : Nat → Nat → Nat) (pf : Nat → Int32) (sp : Option Nat) (nf : Nat → Int32) (ng : Nat → Nat → Int32) (nc : Option Nat) (tf0 : Nat → Int32) (tg0 : Nat → Nat → Int32) (tc0 : Option Nat) (tv0 : Nat → Int32) (cn : Nat) (cf : Nat → Nat → Int32) (cg : Nat → Nat → Nat → Int32)  (o : Int32 × (Nat → Int32) × (Nat → Nat → Int32) × Option Nat × (Nat → Int32)) (hf : k_X6_hushed nf ng nc tf0 tg0 tc0 tv0 cn cf cg = some o) : CI l D cA yX6_hushed cX6_hushed 4 (some .int) 4 96 [.ref oo] (List.flatten [(Po oo qn qk qt qx qa ts wa pf (chv qc sp)), (Cw qn cA (chv qc nc) nf ng), (Cw qt cA (chv qc tc0) tf0 tg0), (Vw (qt 15) cA tv0), (chPool cn qc cA cf cg)]) 0 0 (fun r w => r = o.1 ∧ w = (List.flatten [(Po oo qn qk qt qx qa ts wa pf (chv qc sp)), (Cw qn cA (chv qc nc) nf ng), (Cw qt cA (chv qc o.2.2.2.1) o.2.1 o.2.2.1), (Vw (qt 15) cA o.2.2.2.2), (chPool cn qc cA cf cg)])) := by
  intro sz
  refine met_start (by decide) rfl ?_
  intro p e s m args below meth c ls hsz hargs C0 hname hP hD hS hl
  generalize hAe : va_A (List.flatten [(Po oo qn qk qt qx qa ts wa pf (chv qc sp)), (Cw qn cA (chv qc nc) nf ng), (Cw qt cA (chv qc tc0) tf0 tg0), (Vw (qt 15) cA tv0), (chPool cn qc cA cf cg)]) sz = A at C0 hD hS ⊢
  obtain ⟨hx, hb, hr, hml, hown, hts, hlk, hK, hA⟩ := id C0
  replace hl : lv_has ls 4 [(0, .ref oo)] := hl
  obtain ⟨Q, hQ⟩ : ∃ Q : State → Prop, Q = QI below D A (fun r w => r = o.1 ∧ w = (List.flatten [(Po oo qn qk qt qx qa ts wa pf (chv qc sp)), (Cw qn cA (chv qc nc) nf ng), (Cw qt cA (chv qc o.2.2.2.1) o.2.1 o.2.2.1), (Vw (qt 15) cA o.2.2.2.2), (chPool cn qc cA cf cg)])) args s 0 0 := ⟨_, rfl⟩
  refine cast (by rw [hQ]) (?_ : W p l e (RMx 4 96 0 0) s m args below meth c s.heap [] 0 0 Q (F0 m 0 ls []))
  have J7 : ∀ n : Nat, ∀ (x2 : Int32) (tf : Nat → Int32) (tg : Nat → Nat → Int32) (tc : Option Nat) (tv : Nat → Int32), k_X6_hushed_7 cn cf cg n x2 tf tg tc tv = some o → ∀ (H : Heap) (locs : List Loc), va_P D vwCl (List.flatten [(Po oo qn qk qt qx qa ts wa pf (chv qc sp)), (Cw qn cA (chv qc nc) nf ng), (Cw qt cA (chv qc tc) tf tg), (Vw (qt 15) cA tv), (chPool cn qc cA cf cg)]) H → va_D A (List.flatten [(Po oo qn qk qt qx qa ts wa pf (chv qc sp)), (Cw qn cA (chv qc nc) nf ng), (Cw qt cA (chv qc tc) tf tg), (Vw (qt 15) cA tv), (chPool cn qc cA cf cg)]) → va_S A s.heap H locs → ∀ ls : Array Slot, lv_has ls 4 [(1, .ref (qt 0)), (2, .int x2)] → W p l e (RMx 4 96 0 0) s m args below meth c H locs 0 0 Q (F0 m 7 ls []) := by
    intro  n
    induction n with
    | zero =>
      intro x2 tf tg tc tv hf
      rw [k_X6_hushed_7] at hf
      cases hf
    | succ n ih =>
      intro x2 tf tg tc tv hf H locs hP hD hS ls hl
      rw [k_X6_hushed_7] at hf
      refine lv_iload_n hx hb dX6_hushed_7 rfl (lv_at hl 1 rfl) ?_
      refine lv_bipush (v := 60) hx hb dX6_hushed_8 (by decide) ?_
      refine lv_icmp_gt (tgt := 37) hx hb dX6_hushed_10 (by decide) (fun c1 => ?_) (fun c1 => ?_)
      · replace hf := it_of c1 hf
        refine lv_bipush (v := (-5)) hx hb dX6_hushed_37 (by decide) ?_
        rw [hQ]
        exact ret_i C0 hP hD hS (by have e := Option.some.inj hf; rw [← e]; exact ⟨rfl, rfl⟩) dX6_hushed_39
      · replace hf := ie_of c1 hf
        refine lv_aload_n hx hb dX6_hushed_13 rfl (lv_at hl 0 rfl) ?_
        obtain ⟨r2q, tv_3, hq4, hf⟩ := b2_of hf
        refine callVI (As := []) (rest := []) (wr := segpick [(Po oo qn qk qt qx qa ts wa pf (chv qc sp)), (Cw qn cA (chv qc nc) nf ng), (Cw qt cA (chv qc tc) tf tg), (Vw (qt 15) cA tv), (chPool cn qc cA cf cg)] [0, 1]) C0 (c_X1_sound qt qc tf tg tc tv cn cf cg _ hq4) lk_X6_132_X1_sound rfl hP hD hS (seg_out [(Po oo qn qk qt qx qa ts wa pf (chv qc sp)), (Cw qn cA (chv qc nc) nf ng), (Cw qt cA (chv qc tc) tf tg), (Vw (qt 15) cA tv), (chPool cn qc cA cf cg)] [2, 3, 4] [0, 1] 5 rfl (by decide)) 7 1 rfl rfl rfl hl.1 rfl rfl (Nat.le_of_ble_eq_true rfl) dX6_hushed_14 ⟨Nat.zero_le _, Nat.zero_le _⟩ (fun r2 w H locs hw hP hD hS => ?_)
        obtain ⟨e1, e2⟩ := hw
        replace e1 : r2 = r2q := e1
        subst e1
        subst e2
        replace hP : va_P D vwCl (List.flatten [(Po oo qn qk qt qx qa ts wa pf (chv qc sp)), (Cw qn cA (chv qc nc) nf ng), (Cw qt cA (chv qc tc) tf tg), (Vw (qt 15) cA tv_3), (chPool cn qc cA cf cg)]) H := hP.perm (seg_out [(Po oo qn qk qt qx qa ts wa pf (chv qc sp)), (Cw qn cA (chv qc nc) nf ng), (Cw qt cA (chv qc tc) tf tg), (Vw (qt 15) cA tv_3), (chPool cn qc cA cf cg)] [2, 3, 4] [0, 1] 5 rfl (by decide)).symm
        replace hD : va_D A (List.flatten [(Po oo qn qk qt qx qa ts wa pf (chv qc sp)), (Cw qn cA (chv qc nc) nf ng), (Cw qt cA (chv qc tc) tf tg), (Vw (qt 15) cA tv_3), (chPool cn qc cA cf cg)]) := hD.perm (seg_out [(Po oo qn qk qt qx qa ts wa pf (chv qc sp)), (Cw qn cA (chv qc nc) nf ng), (Cw qt cA (chv qc tc) tf tg), (Vw (qt 15) cA tv_3), (chPool cn qc cA cf cg)] [2, 3, 4] [0, 1] 5 rfl (by decide)).symm
        refine lv_istore_n (lv' := [(3, .int r2), (1, .ref (qt 0)), (2, .int x2)]) hx hb dX6_hushed_17 rfl hl (by decide) rfl (fun ls hl => ?_)
        refine lv_iload_n hx hb dX6_hushed_18 rfl (lv_at hl 0 rfl) ?_
        refine lv_if_ne (tgt := 24) hx hb dX6_hushed_19 (by decide) (fun c5 => ?_) (fun c5 => ?_)
        · replace hf := ie_of c5 hf
          refine lv_aload_n hx hb dX6_hushed_24 rfl (lv_at hl 1 rfl) ?_
          refine lv_iload_n hx hb dX6_hushed_25 rfl (lv_at hl 0 rfl) ?_
          refine lv_ldc (v := 1000000) hx hb hown (hts _ m_constant_P_155_1000000) dX6_hushed_26 ?_
          obtain ⟨tf_6, tg_7, hq8, hf⟩ := b2_of hf
          refine callVV (As := [.int r2, .int 1000000]) (rest := []) (wr := segpick [(Po oo qn qk qt qx qa ts wa pf (chv qc sp)), (Cw qn cA (chv qc nc) nf ng), (Cw qt cA (chv qc tc) tf tg), (Vw (qt 15) cA tv_3), (chPool cn qc cA cf cg)] [0, 1, 3]) C0 (c_X1_passDay qt qc tf tg tc cn cf cg r2 1000000 _ hq8) lk_X6_272_X1_passDay rfl hP hD hS (seg_out [(Po oo qn qk qt qx qa ts wa pf (chv qc sp)), (Cw qn cA (chv qc nc) nf ng), (Cw qt cA (chv qc tc) tf tg), (Vw (qt 15) cA tv_3), (chPool cn qc cA cf cg)] [2, 4] [0, 1, 3] 5 rfl (by decide)) 7 1 rfl rfl rfl hl.1 rfl rfl (Nat.le_of_ble_eq_true rfl) dX6_hushed_28 ⟨Nat.zero_le _, Nat.zero_le _⟩ (fun w H locs hw hP hD hS => ?_)
          have e2 := hw
          subst e2
          replace hP : va_P D vwCl (List.flatten [(Po oo qn qk qt qx qa ts wa pf (chv qc sp)), (Cw qn cA (chv qc nc) nf ng), (Cw qt cA (chv qc tc) tf_6 tg_7), (Vw (qt 15) cA tv_3), (chPool cn qc cA cf cg)]) H := hP.perm (seg_out [(Po oo qn qk qt qx qa ts wa pf (chv qc sp)), (Cw qn cA (chv qc nc) nf ng), (Cw qt cA (chv qc tc) tf_6 tg_7), (Vw (qt 15) cA tv_3), (chPool cn qc cA cf cg)] [2, 4] [0, 1, 3] 5 rfl (by decide)).symm
          replace hD : va_D A (List.flatten [(Po oo qn qk qt qx qa ts wa pf (chv qc sp)), (Cw qn cA (chv qc nc) nf ng), (Cw qt cA (chv qc tc) tf_6 tg_7), (Vw (qt 15) cA tv_3), (chPool cn qc cA cf cg)]) := hD.perm (seg_out [(Po oo qn qk qt qx qa ts wa pf (chv qc sp)), (Cw qn cA (chv qc nc) nf ng), (Cw qt cA (chv qc tc) tf_6 tg_7), (Vw (qt 15) cA tv_3), (chPool cn qc cA cf cg)] [2, 4] [0, 1, 3] 5 rfl (by decide)).symm
          refine lv_iinc (v := (x2 + 1)) (lv' := [(2, .int (x2 + 1)), (3, .int r2), (1, .ref (qt 0))]) hx hb dX6_hushed_31 hl (k := 2) rfl rfl (by decide) rfl (fun ls hl => ?_)
          refine lv_goto (tgt := 7) hx hb dX6_hushed_34 (by decide) ?_
          exact ih (x2 + 1) tf_6 tg_7 tc tv_3 hf _ _ hP hD hS _ (lv_sub hl [2, 0] rfl)
        · replace hf := it_of c5 hf
          refine lv_iload_n hx hb dX6_hushed_22 rfl (lv_at hl 2 rfl) ?_
          rw [hQ]
          exact ret_i C0 hP hD hS (by have e := Option.some.inj hf; rw [← e]; exact ⟨rfl, rfl⟩) dX6_hushed_23
  unfold k_X6_hushed at hf
  refine lv_aload_n hx hb dX6_hushed_0 rfl (lv_at hl 0 rfl) ?_
  obtain ⟨tf_1, tg_2, tc_3, hq4, hf⟩ := b3_of hf
  refine callVR (As := []) (rest := []) (wr := segpick [(Po oo qn qk qt qx qa ts wa pf (chv qc sp)), (Cw qn cA (chv qc nc) nf ng), (Cw qt cA (chv qc tc0) tf0 tg0), (Vw (qt 15) cA tv0), (chPool cn qc cA cf cg)] [3, 4]) C0 (c_X6_begin oo qn qk qt qx qa ts wa qc pf sp nf ng nc tf0 tg0 tc0 _ hq4) lk_X6_151_X6_begin rfl hP hD hS (seg_out [(Po oo qn qk qt qx qa ts wa pf (chv qc sp)), (Cw qn cA (chv qc nc) nf ng), (Cw qt cA (chv qc tc0) tf0 tg0), (Vw (qt 15) cA tv0), (chPool cn qc cA cf cg)] [0, 1, 2] [3, 4] 5 rfl (by decide)) 0 6 rfl rfl rfl hl.1 rfl rfl (Nat.le_of_ble_eq_true rfl) dX6_hushed_1 ⟨Nat.zero_le _, Nat.zero_le _⟩ (fun rhq4_ w H locs hw hP hD hS => ?_)
  obtain ⟨e1, e2⟩ := hw
  subst e1
  subst e2
  replace hP : va_P D vwCl (List.flatten [(Po oo qn qk qt qx qa ts wa pf (chv qc sp)), (Cw qn cA (chv qc nc) nf ng), (Cw qt cA (chv qc tc_3) tf_1 tg_2), (Vw (qt 15) cA tv0), (chPool cn qc cA cf cg)]) H := hP.perm (seg_out [(Po oo qn qk qt qx qa ts wa pf (chv qc sp)), (Cw qn cA (chv qc nc) nf ng), (Cw qt cA (chv qc tc_3) tf_1 tg_2), (Vw (qt 15) cA tv0), (chPool cn qc cA cf cg)] [0, 1, 2] [3, 4] 5 rfl (by decide)).symm
  replace hD : va_D A (List.flatten [(Po oo qn qk qt qx qa ts wa pf (chv qc sp)), (Cw qn cA (chv qc nc) nf ng), (Cw qt cA (chv qc tc_3) tf_1 tg_2), (Vw (qt 15) cA tv0), (chPool cn qc cA cf cg)]) := hD.perm (seg_out [(Po oo qn qk qt qx qa ts wa pf (chv qc sp)), (Cw qn cA (chv qc nc) nf ng), (Cw qt cA (chv qc tc_3) tf_1 tg_2), (Vw (qt 15) cA tv0), (chPool cn qc cA cf cg)] [0, 1, 2] [3, 4] 5 rfl (by decide)).symm
  refine lv_astore_n (lv' := [(1, .ref (qt 0)), (0, .ref oo)]) hx hb dX6_hushed_4 rfl hl (by decide) rfl (fun ls hl => ?_)
  refine lv_iconst (v := 0) hx hb dX6_hushed_5 (by decide) ?_
  refine lv_istore_n (lv' := [(2, .int 0), (1, .ref (qt 0)), (0, .ref oo)]) hx hb dX6_hushed_6 rfl hl (by decide) rfl (fun ls hl => ?_)
  exact J7 100000 0 tf_1 tg_2 tc_3 tv0 hf _ _ hP hD hS _ (lv_sub hl [1, 0] rfl)
-- X6 apart
noncomputable def k_X6_apart_4 (a1 : Int32) (nf : Nat → Int32) (wt : Nat → Int32) : Nat → Int32 → Int32 → Option Int32
  | 0, _, _ => none
  | n + 1, x2, x3 => if (nf 0) ≤ x3 then nm (if 0 ≤ x2 then x2 else 0 - x2) (fun mm2 => some mm2) else if ((a1 >>> (x3 &&& 31)) &&& 1) = 0 then gd x3 6 (k_X6_apart_4 a1 nf wt n (x2 + (-(wt (Int32.toNatClampNeg x3)))) (x3 + 1)) else gd x3 6 (k_X6_apart_4 a1 nf wt n (x2 + (wt (Int32.toNatClampNeg x3))) (x3 + 1))
noncomputable def k_X6_apart (a1 : Int32) (nf : Nat → Int32) (wt : Nat → Int32) : Option Int32 := k_X6_apart_4 a1 nf wt 100000 0 0
set_option maxHeartbeats 4000000 in
set_option maxRecDepth 100000 in
theorem c_X6_apart {l : Launch} {D : va_G} {cA : Nat → ClassId} (oo : Nat) (qn : Nat → Nat) (qk : Nat → Nat) (qt : Nat → Nat) (qx : Nat → Nat) (qa : Nat → Nat) (ts : Nat) (wa : Nat) (qc : Nat → Nat → Nat) (pf : Nat → Int32) (sp : Option Nat) (nf : Nat → Int32) (ng : Nat → Nat → Int32) (nc : Option Nat) (wt : Nat → Int32) (a1 : Int32) (o : Int32) (hf : k_X6_apart a1 nf wt = some o) : CI l D cA yX6_apart cX6_apart 4 (some .int) 1 21 [.ref oo, .int a1] (List.flatten [(Po oo qn qk qt qx qa ts wa pf (chv qc sp)), (Cw qn cA (chv qc nc) nf ng), (Vw wa cA wt)]) 0 0 (fun r w => r = o ∧ w = (List.flatten [(Po oo qn qk qt qx qa ts wa pf (chv qc sp)), (Cw qn cA (chv qc nc) nf ng), (Vw wa cA wt)])) := by
  intro sz
  refine met_start (by decide) rfl ?_
  intro p e s m args below meth c ls hsz hargs C0 hname hP hD hS hl
  generalize hAe : va_A (List.flatten [(Po oo qn qk qt qx qa ts wa pf (chv qc sp)), (Cw qn cA (chv qc nc) nf ng), (Vw wa cA wt)]) sz = A at C0 hD hS ⊢
  obtain ⟨hx, hb, hr, hml, hown, hts, hlk, hK, hA⟩ := id C0
  replace hl : lv_has ls 4 [(0, .ref oo), (1, .int a1)] := hl
  obtain ⟨Q, hQ⟩ : ∃ Q : State → Prop, Q = QI below D A (fun r w => r = o ∧ w = (List.flatten [(Po oo qn qk qt qx qa ts wa pf (chv qc sp)), (Cw qn cA (chv qc nc) nf ng), (Vw wa cA wt)])) args s 0 0 := ⟨_, rfl⟩
  refine cast (by rw [hQ]) (?_ : W p l e (RMx 1 21 0 0) s m args below meth c s.heap [] 0 0 Q (F0 m 0 ls []))
  have J4 : ∀ n : Nat, ∀ (x2 : Int32) (x3 : Int32), k_X6_apart_4 a1 nf wt n x2 x3 = some o → ∀ (H : Heap) (locs : List Loc), va_P D vwCl (List.flatten [(Po oo qn qk qt qx qa ts wa pf (chv qc sp)), (Cw qn cA (chv qc nc) nf ng), (Vw wa cA wt)]) H → va_D A (List.flatten [(Po oo qn qk qt qx qa ts wa pf (chv qc sp)), (Cw qn cA (chv qc nc) nf ng), (Vw wa cA wt)]) → va_S A s.heap H locs → ∀ ls : Array Slot, lv_has ls 4 [(0, .ref oo), (1, .int a1), (2, .int x2), (3, .int x3)] → W p l e (RMx 1 21 0 0) s m args below meth c H locs 0 0 Q (F0 m 4 ls []) := by
    intro  n
    induction n with
    | zero =>
      intro x2 x3 hf
      rw [k_X6_apart_4] at hf
      cases hf
    | succ n ih =>
      intro x2 x3 hf H locs hP hD hS ls hl
      rw [k_X6_apart_4] at hf
      refine lv_iload_n hx hb dX6_apart_4 rfl (lv_at hl 3 rfl) ?_
      refine lv_aload_n hx hb dX6_apart_5 rfl (lv_at hl 0 rfl) ?_
      refine va_get (D := D) (ci := 6) (v := .ref (qn 0)) (C := RX6) (T := TX6) (N := 10) hx hb hts fw_6 hown hK hP 0 rfl rfl 0 (by decide) (hts _ m_fieldLink_P_12_P_now_LP_Cellar) (fun _ h9 => h9) rfl dX6_apart_6 ?_
      refine va_get (D := D) (ci := 1) (v := .int (nf 0)) (C := RX1) (T := TX1) (N := 16) hx hb hts fw_1 hown hK hP 1 rfl rfl 0 (by decide) (hts _ m_fieldLink_P_53_P_Cellar_men_I) (fun _ h9 => h9) rfl dX6_apart_9 ?_
      refine lv_icmp_ge (tgt := 48) hx hb dX6_apart_12 (by decide) (fun c1 => ?_) (fun c1 => ?_)
      · replace hf := it_of c1 hf
        refine lv_iload_n hx hb dX6_apart_48 rfl (lv_at hl 2 rfl) ?_
        refine va_mabs hx hb (by rw [hml]; exact hl.1.symm) hown (hts _ m_methodLink_P_281_java_lang_Math_abs_I_I) (hts _ m_static_java_lang_Math_abs_I_I) (hts _ m_initialized_java_lang_Math) (hts _ m_code_java_lang_Math_abs_I_I) (Nat.le_of_ble_eq_true rfl) (Nat.le_of_ble_eq_true rfl) (Nat.zero_le _) (Nat.zero_le _) dX6_apart_49 ?_
        refine lv_topi (fun mm2 emm2 => ?_)
        replace hf := nm_i emm2 hf
        rw [hQ]
        exact ret_i C0 hP hD hS (by have e := Option.some.inj hf; rw [← e]; exact ⟨rfl, rfl⟩) dX6_apart_52
      · replace hf := ie_of c1 hf
        refine lv_iload_n hx hb dX6_apart_15 rfl (lv_at hl 2 rfl) ?_
        refine lv_iload_n hx hb dX6_apart_16 rfl (lv_at hl 1 rfl) ?_
        refine lv_iload_n hx hb dX6_apart_17 rfl (lv_at hl 3 rfl) ?_
        refine lv_ishr hx hb dX6_apart_18 ?_
        refine lv_iconst (v := 1) hx hb dX6_apart_19 (by decide) ?_
        refine lv_iand hx hb dX6_apart_20 ?_
        refine lv_if_eq (tgt := 33) hx hb dX6_apart_21 (by decide) (fun c3 => ?_) (fun c3 => ?_)
        · replace hf := it_of c3 hf
          refine lv_aload_n hx hb dX6_apart_33 rfl (lv_at hl 0 rfl) ?_
          refine va_get (D := D) (ci := 6) (v := .ref wa) (C := RX6) (T := TX6) (N := 10) hx hb hts fw_6 hown hK hP 0 rfl rfl 6 (by decide) (hts _ m_fieldLink_P_44_P_watched_aI) (fun _ h9 => h9) rfl dX6_apart_34 ?_
          refine lv_iload_n hx hb dX6_apart_37 rfl (lv_at hl 3 rfl) ?_
          obtain ⟨hi4, hf⟩ := gd_of hf
          refine va_iald hx hb hK hP 7 0 rfl rfl hi4 dX6_apart_38 ?_
          refine lv_ineg hx hb dX6_apart_39 ?_
          refine lv_iadd hx hb dX6_apart_40 ?_
          refine lv_istore_n (lv' := [(2, .int (x2 + (-(wt (Int32.toNatClampNeg x3))))), (0, .ref oo), (1, .int a1), (3, .int x3)]) hx hb dX6_apart_41 rfl hl (by decide) rfl (fun ls hl => ?_)
          refine lv_iinc (v := (x3 + 1)) (lv' := [(3, .int (x3 + 1)), (2, .int (x2 + (-(wt (Int32.toNatClampNeg x3))))), (0, .ref oo), (1, .int a1)]) hx hb dX6_apart_42 hl (k := 3) rfl rfl (by decide) rfl (fun ls hl => ?_)
          refine lv_goto (tgt := 4) hx hb dX6_apart_45 (by decide) ?_
          exact ih (x2 + (-(wt (Int32.toNatClampNeg x3)))) (x3 + 1) hf _ _ hP hD hS _ (lv_sub hl [2, 3, 1, 0] rfl)
        · replace hf := ie_of c3 hf
          refine lv_aload_n hx hb dX6_apart_24 rfl (lv_at hl 0 rfl) ?_
          refine va_get (D := D) (ci := 6) (v := .ref wa) (C := RX6) (T := TX6) (N := 10) hx hb hts fw_6 hown hK hP 0 rfl rfl 6 (by decide) (hts _ m_fieldLink_P_44_P_watched_aI) (fun _ h9 => h9) rfl dX6_apart_25 ?_
          refine lv_iload_n hx hb dX6_apart_28 rfl (lv_at hl 3 rfl) ?_
          obtain ⟨hi5, hf⟩ := gd_of hf
          refine va_iald hx hb hK hP 7 0 rfl rfl hi5 dX6_apart_29 ?_
          refine lv_goto (tgt := 40) hx hb dX6_apart_30 (by decide) ?_
          refine lv_iadd hx hb dX6_apart_40 ?_
          refine lv_istore_n (lv' := [(2, .int (x2 + (wt (Int32.toNatClampNeg x3)))), (0, .ref oo), (1, .int a1), (3, .int x3)]) hx hb dX6_apart_41 rfl hl (by decide) rfl (fun ls hl => ?_)
          refine lv_iinc (v := (x3 + 1)) (lv' := [(3, .int (x3 + 1)), (2, .int (x2 + (wt (Int32.toNatClampNeg x3)))), (0, .ref oo), (1, .int a1)]) hx hb dX6_apart_42 hl (k := 3) rfl rfl (by decide) rfl (fun ls hl => ?_)
          refine lv_goto (tgt := 4) hx hb dX6_apart_45 (by decide) ?_
          exact ih (x2 + (wt (Int32.toNatClampNeg x3))) (x3 + 1) hf _ _ hP hD hS _ (lv_sub hl [2, 3, 1, 0] rfl)
  unfold k_X6_apart at hf
  refine lv_iconst (v := 0) hx hb dX6_apart_0 (by decide) ?_
  refine lv_istore_n (lv' := [(2, .int 0), (0, .ref oo), (1, .int a1)]) hx hb dX6_apart_1 rfl hl (by decide) rfl (fun ls hl => ?_)
  refine lv_iconst (v := 0) hx hb dX6_apart_2 (by decide) ?_
  refine lv_istore_n (lv' := [(3, .int 0), (2, .int 0), (0, .ref oo), (1, .int a1)]) hx hb dX6_apart_3 rfl hl (by decide) rfl (fun ls hl => ?_)
  exact J4 100000 0 0 hf _ _ hP hD hS _ (lv_sub hl [2, 3, 1, 0] rfl)
-- X6 watch
noncomputable def k_X6_watch_107 (nf : Nat → Int32) (kc80 : Int32 → Int32 → Int32 → Int32 → (Nat → Int32) → (Nat → Int32) → Option (Int32 × (Nat → Int32) × (Nat → Int32))) (x1 : Int32) (x2 : Int32) (x3 : Int32) (x4 : Int32) (t0 : Int32) (nv : Nat → Int32) (wt : Nat → Int32) : Option (Int32 × (Nat → Int32) × (Nat → Int32)) := if t0 = 0 then kc80 x1 x2 x3 (x4 + 1) nv wt else if x3 = 0 then kc80 x1 x2 x4 (x4 + 1) nv wt else b1 (k_X6_apart x4 nf wt) (fun r3 => b1 (k_X6_apart x3 nf wt) (fun r5 => if r5 ≤ r3 then kc80 x1 x2 x3 (x4 + 1) nv wt else kc80 x1 x2 x4 (x4 + 1) nv wt))
noncomputable def k_X6_watch_106 (nf : Nat → Int32) (kc80 : Int32 → Int32 → Int32 → Int32 → (Nat → Int32) → (Nat → Int32) → Option (Int32 × (Nat → Int32) × (Nat → Int32))) (x1 : Int32) (x2 : Int32) (x3 : Int32) (x4 : Int32) (nv : Nat → Int32) (wt : Nat → Int32) : Option (Int32 × (Nat → Int32) × (Nat → Int32)) := k_X6_watch_107 nf kc80 x1 x2 x3 x4 0 nv wt
noncomputable def k_X6_watch_80 (nf : Nat → Int32) : Nat → Int32 → Int32 → Int32 → Int32 → (Nat → Int32) → (Nat → Int32) → Option (Int32 × (Nat → Int32) × (Nat → Int32))
  | 0, _, _, _, _, _, _ => none
  | n + 1, x1, x2, x3, x4, nv, wt => if x1 < x4 then some (x3, nv, wt) else if (x4 &&& (x1 ^^^ (-1))) = 0 then if (x4 &&& x2) = 0 then k_X6_watch_106 nf (k_X6_watch_80 nf n) x1 x2 x3 x4 nv wt else k_X6_watch_107 nf (k_X6_watch_80 nf n) x1 x2 x3 x4 1 nv wt else k_X6_watch_106 nf (k_X6_watch_80 nf n) x1 x2 x3 x4 nv wt
noncomputable def k_X6_watch_45  (kc2 : Int32 → (Nat → Int32) → (Nat → Int32) → Option (Int32 × (Nat → Int32) × (Nat → Int32))) (x1 : Int32) (t1 : Int32) (t2 : Int32) (nv : Nat → Int32) (wt : Nat → Int32) : Option (Int32 × (Nat → Int32) × (Nat → Int32)) := gd t1 6 (kc2 (x1 + 1) nv (upd wt (Int32.toNatClampNeg t1) t2))
noncomputable def k_X6_watch_2 (nf : Nat → Int32) (ng : Nat → Nat → Int32) (nc : Option Nat) (cn : Nat) (cf : Nat → Nat → Int32) (cg : Nat → Nat → Nat → Int32) : Nat → Int32 → (Nat → Int32) → (Nat → Int32) → Option (Int32 × (Nat → Int32) × (Nat → Int32))
  | 0, _, _, _ => none
  | n + 1, x1, nv, wt => if (nf 0) ≤ x1 then b1 (k_X1_all nf) (fun r2 => k_X6_watch_80 nf 100000 (r2 &&& ((nf 1) ^^^ (-1))) ((r2 &&& ((nf 1) ^^^ (-1))) &&& (-(r2 &&& ((nf 1) ^^^ (-1))))) 0 ((r2 &&& ((nf 1) ^^^ (-1))) &&& (-(r2 &&& ((nf 1) ^^^ (-1))))) nv wt) else b1 (k_X1_isUp x1 nf) (fun r4 => if r4 = 0 then b2 (k_X1_noise x1 nf ng nc nv cn cf cg) (fun r8 nv_9 => nm (if 0 < r8 then r8 else 0) (fun mm11 => k_X6_watch_45 (k_X6_watch_2 nf ng nc cn cf cg n) x1 x1 mm11 nv_9 wt)) else k_X6_watch_45 (k_X6_watch_2 nf ng nc cn cf cg n) x1 x1 0 nv wt)
noncomputable def k_X6_watch (nf : Nat → Int32) (ng : Nat → Nat → Int32) (nc : Option Nat) (nv0 : Nat → Int32) (wt0 : Nat → Int32) (cn : Nat) (cf : Nat → Nat → Int32) (cg : Nat → Nat → Nat → Int32) : Option (Int32 × (Nat → Int32) × (Nat → Int32)) := k_X6_watch_2 nf ng nc cn cf cg 100000 0 nv0 wt0
set_option maxHeartbeats 4000000 in
set_option maxRecDepth 100000 in
theorem c_X6_watch {l : Launch} {D : va_G} {cA : Nat → ClassId} (oo : Nat) (qn : Nat → Nat) (qk : Nat → Nat) (qt : Nat → Nat) (qx : Nat → Nat) (qa : Nat → Nat) (ts : Nat) (wa : Nat) (qc : Nat → Nat → Nat) (pf : Nat → Int32) (sp : Option Nat) (nf : Nat → Int32) (ng : Nat → Nat → Int32) (nc : Option Nat) (nv0 : Nat → Int32) (wt0 : Nat → Int32) (cn : Nat) (cf : Nat → Nat → Int32) (cg : Nat → Nat → Nat → Int32)  (o : Int32 × (Nat → Int32) × (Nat → Int32)) (hf : k_X6_watch nf ng nc nv0 wt0 cn cf cg = some o) : CI l D cA yX6_watch cX6_watch 6 (some .int) 3 74 [.ref oo] (List.flatten [(Po oo qn qk qt qx qa ts wa pf (chv qc sp)), (Cw qn cA (chv qc nc) nf ng), (Vw (qn 15) cA nv0), (Vw wa cA wt0), (chPool cn qc cA cf cg)]) 0 0 (fun r w => r = o.1 ∧ w = (List.flatten [(Po oo qn qk qt qx qa ts wa pf (chv qc sp)), (Cw qn cA (chv qc nc) nf ng), (Vw (qn 15) cA o.2.1), (Vw wa cA o.2.2), (chPool cn qc cA cf cg)])) := by
  intro sz
  refine met_start (by decide) rfl ?_
  intro p e s m args below meth c ls hsz hargs C0 hname hP hD hS hl
  generalize hAe : va_A (List.flatten [(Po oo qn qk qt qx qa ts wa pf (chv qc sp)), (Cw qn cA (chv qc nc) nf ng), (Vw (qn 15) cA nv0), (Vw wa cA wt0), (chPool cn qc cA cf cg)]) sz = A at C0 hD hS ⊢
  obtain ⟨hx, hb, hr, hml, hown, hts, hlk, hK, hA⟩ := id C0
  replace hl : lv_has ls 6 [(0, .ref oo)] := hl
  obtain ⟨Q, hQ⟩ : ∃ Q : State → Prop, Q = QI below D A (fun r w => r = o.1 ∧ w = (List.flatten [(Po oo qn qk qt qx qa ts wa pf (chv qc sp)), (Cw qn cA (chv qc nc) nf ng), (Vw (qn 15) cA o.2.1), (Vw wa cA o.2.2), (chPool cn qc cA cf cg)])) args s 0 0 := ⟨_, rfl⟩
  refine cast (by rw [hQ]) (?_ : W p l e (RMx 3 74 0 0) s m args below meth c s.heap [] 0 0 Q (F0 m 0 ls []))
  have J107 : ∀ (kc80 : Int32 → Int32 → Int32 → Int32 → (Nat → Int32) → (Nat → Int32) → Option (Int32 × (Nat → Int32) × (Nat → Int32))) (hkc80 : ∀ (x1 : Int32) (x2 : Int32) (x3 : Int32) (x4 : Int32) (nv : Nat → Int32) (wt : Nat → Int32), kc80 x1 x2 x3 x4 nv wt = some o → ∀ (H : Heap) (locs : List Loc), va_P D vwCl (List.flatten [(Po oo qn qk qt qx qa ts wa pf (chv qc sp)), (Cw qn cA (chv qc nc) nf ng), (Vw (qn 15) cA nv), (Vw wa cA wt), (chPool cn qc cA cf cg)]) H → va_D A (List.flatten [(Po oo qn qk qt qx qa ts wa pf (chv qc sp)), (Cw qn cA (chv qc nc) nf ng), (Vw (qn 15) cA nv), (Vw wa cA wt), (chPool cn qc cA cf cg)]) → va_S A s.heap H locs → ∀ ls : Array Slot, lv_has ls 6 [(0, .ref oo), (1, .int x1), (2, .int x2), (3, .int x3), (4, .int x4)] → W p l e (RMx 3 74 0 0) s m args below meth c H locs 0 0 Q (F0 m 80 ls [])), ∀ (x1 : Int32) (x2 : Int32) (x3 : Int32) (x4 : Int32) (t0 : Int32) (nv : Nat → Int32) (wt : Nat → Int32), k_X6_watch_107 nf kc80 x1 x2 x3 x4 t0 nv wt = some o → ∀ (H : Heap) (locs : List Loc), va_P D vwCl (List.flatten [(Po oo qn qk qt qx qa ts wa pf (chv qc sp)), (Cw qn cA (chv qc nc) nf ng), (Vw (qn 15) cA nv), (Vw wa cA wt), (chPool cn qc cA cf cg)]) H → va_D A (List.flatten [(Po oo qn qk qt qx qa ts wa pf (chv qc sp)), (Cw qn cA (chv qc nc) nf ng), (Vw (qn 15) cA nv), (Vw wa cA wt), (chPool cn qc cA cf cg)]) → va_S A s.heap H locs → ∀ ls : Array Slot, lv_has ls 6 [(0, .ref oo), (1, .int x1), (2, .int x2), (3, .int x3), (4, .int x4)] → W p l e (RMx 3 74 0 0) s m args below meth c H locs 0 0 Q (F0 m 107 ls [.int t0]) := by
    intro kc80 hkc80 x1 x2 x3 x4 t0 nv wt hf H locs hP hD hS ls hl
    unfold k_X6_watch_107 at hf
    refine lv_istore (lv' := [(5, .int t0), (0, .ref oo), (1, .int x1), (2, .int x2), (3, .int x3), (4, .int x4)]) hx hb dX6_watch_107 hl (by decide) rfl (fun ls hl => ?_)
    refine lv_iload hx hb dX6_watch_109 (lv_at hl 0 rfl) ?_
    refine lv_if_eq (tgt := 135) hx hb dX6_watch_111 (by decide) (fun c1 => ?_) (fun c1 => ?_)
    · replace hf := it_of c1 hf
      refine lv_iinc (v := (x4 + 1)) (lv' := [(4, .int (x4 + 1)), (5, .int t0), (0, .ref oo), (1, .int x1), (2, .int x2), (3, .int x3)]) hx hb dX6_watch_135 hl (k := 5) rfl rfl (by decide) rfl (fun ls hl => ?_)
      refine lv_goto (tgt := 80) hx hb dX6_watch_138 (by decide) ?_
      exact hkc80 x1 x2 x3 (x4 + 1) nv wt hf _ _ hP hD hS _ (lv_sub hl [2, 3, 4, 5, 0] rfl)
    · replace hf := ie_of c1 hf
      refine lv_iload_n hx hb dX6_watch_114 rfl (lv_at hl 4 rfl) ?_
      refine lv_if_eq (tgt := 132) hx hb dX6_watch_115 (by decide) (fun c2 => ?_) (fun c2 => ?_)
      · replace hf := it_of c2 hf
        refine lv_iload hx hb dX6_watch_132 (lv_at hl 5 rfl) ?_
        refine lv_istore_n (lv' := [(3, .int x4), (5, .int t0), (0, .ref oo), (1, .int x1), (2, .int x2), (4, .int x4)]) hx hb dX6_watch_134 rfl hl (by decide) rfl (fun ls hl => ?_)
        refine lv_iinc (v := (x4 + 1)) (lv' := [(4, .int (x4 + 1)), (3, .int x4), (5, .int t0), (0, .ref oo), (1, .int x1), (2, .int x2)]) hx hb dX6_watch_135 hl (k := 5) rfl rfl (by decide) rfl (fun ls hl => ?_)
        refine lv_goto (tgt := 80) hx hb dX6_watch_138 (by decide) ?_
        exact hkc80 x1 x2 x4 (x4 + 1) nv wt hf _ _ hP hD hS _ (lv_sub hl [3, 4, 5, 1, 0] rfl)
      · replace hf := ie_of c2 hf
        refine lv_aload_n hx hb dX6_watch_118 rfl (lv_at hl 1 rfl) ?_
        refine lv_iload hx hb dX6_watch_119 (lv_at hl 5 rfl) ?_
        obtain ⟨r3q, hq4, hf⟩ := b1_of hf
        refine callVI (As := [.int x4]) (rest := []) (wr := segpick [(Po oo qn qk qt qx qa ts wa pf (chv qc sp)), (Cw qn cA (chv qc nc) nf ng), (Vw (qn 15) cA nv), (Vw wa cA wt), (chPool cn qc cA cf cg)] [2, 4]) C0 (c_X6_apart oo qn qk qt qx qa ts wa qc pf sp nf ng nc wt x4 _ hq4) lk_X6_144_X6_apart rfl hP hD hS (seg_out [(Po oo qn qk qt qx qa ts wa pf (chv qc sp)), (Cw qn cA (chv qc nc) nf ng), (Vw (qn 15) cA nv), (Vw wa cA wt), (chPool cn qc cA cf cg)] [0, 1, 3] [2, 4] 5 rfl (by decide)) 0 6 rfl rfl rfl hl.1 rfl rfl (Nat.le_of_ble_eq_true rfl) dX6_watch_121 ⟨Nat.zero_le _, Nat.zero_le _⟩ (fun r3 w H locs hw hP hD hS => ?_)
        obtain ⟨e1, e2⟩ := hw
        replace e1 : r3 = r3q := e1
        subst e1
        subst e2
        replace hP : va_P D vwCl (List.flatten [(Po oo qn qk qt qx qa ts wa pf (chv qc sp)), (Cw qn cA (chv qc nc) nf ng), (Vw (qn 15) cA nv), (Vw wa cA wt), (chPool cn qc cA cf cg)]) H := hP.perm (seg_out [(Po oo qn qk qt qx qa ts wa pf (chv qc sp)), (Cw qn cA (chv qc nc) nf ng), (Vw (qn 15) cA nv), (Vw wa cA wt), (chPool cn qc cA cf cg)] [0, 1, 3] [2, 4] 5 rfl (by decide)).symm
        replace hD : va_D A (List.flatten [(Po oo qn qk qt qx qa ts wa pf (chv qc sp)), (Cw qn cA (chv qc nc) nf ng), (Vw (qn 15) cA nv), (Vw wa cA wt), (chPool cn qc cA cf cg)]) := hD.perm (seg_out [(Po oo qn qk qt qx qa ts wa pf (chv qc sp)), (Cw qn cA (chv qc nc) nf ng), (Vw (qn 15) cA nv), (Vw wa cA wt), (chPool cn qc cA cf cg)] [0, 1, 3] [2, 4] 5 rfl (by decide)).symm
        refine lv_aload_n hx hb dX6_watch_124 rfl (lv_at hl 1 rfl) ?_
        refine lv_iload_n hx hb dX6_watch_125 rfl (lv_at hl 4 rfl) ?_
        obtain ⟨r5q, hq6, hf⟩ := b1_of hf
        refine callVI (As := [.int x3]) (rest := [.int r3]) (wr := segpick [(Po oo qn qk qt qx qa ts wa pf (chv qc sp)), (Cw qn cA (chv qc nc) nf ng), (Vw (qn 15) cA nv), (Vw wa cA wt), (chPool cn qc cA cf cg)] [2, 4]) C0 (c_X6_apart oo qn qk qt qx qa ts wa qc pf sp nf ng nc wt x3 _ hq6) lk_X6_144_X6_apart rfl hP hD hS (seg_out [(Po oo qn qk qt qx qa ts wa pf (chv qc sp)), (Cw qn cA (chv qc nc) nf ng), (Vw (qn 15) cA nv), (Vw wa cA wt), (chPool cn qc cA cf cg)] [0, 1, 3] [2, 4] 5 rfl (by decide)) 0 6 rfl rfl rfl hl.1 rfl rfl (Nat.le_of_ble_eq_true rfl) dX6_watch_126 ⟨Nat.zero_le _, Nat.zero_le _⟩ (fun r5 w H locs hw hP hD hS => ?_)
        obtain ⟨e1, e2⟩ := hw
        replace e1 : r5 = r5q := e1
        subst e1
        subst e2
        replace hP : va_P D vwCl (List.flatten [(Po oo qn qk qt qx qa ts wa pf (chv qc sp)), (Cw qn cA (chv qc nc) nf ng), (Vw (qn 15) cA nv), (Vw wa cA wt), (chPool cn qc cA cf cg)]) H := hP.perm (seg_out [(Po oo qn qk qt qx qa ts wa pf (chv qc sp)), (Cw qn cA (chv qc nc) nf ng), (Vw (qn 15) cA nv), (Vw wa cA wt), (chPool cn qc cA cf cg)] [0, 1, 3] [2, 4] 5 rfl (by decide)).symm
        replace hD : va_D A (List.flatten [(Po oo qn qk qt qx qa ts wa pf (chv qc sp)), (Cw qn cA (chv qc nc) nf ng), (Vw (qn 15) cA nv), (Vw wa cA wt), (chPool cn qc cA cf cg)]) := hD.perm (seg_out [(Po oo qn qk qt qx qa ts wa pf (chv qc sp)), (Cw qn cA (chv qc nc) nf ng), (Vw (qn 15) cA nv), (Vw wa cA wt), (chPool cn qc cA cf cg)] [0, 1, 3] [2, 4] 5 rfl (by decide)).symm
        refine lv_icmp_ge (tgt := 135) hx hb dX6_watch_129 (by decide) (fun c7 => ?_) (fun c7 => ?_)
        · replace hf := it_of c7 hf
          refine lv_iinc (v := (x4 + 1)) (lv' := [(4, .int (x4 + 1)), (5, .int t0), (0, .ref oo), (1, .int x1), (2, .int x2), (3, .int x3)]) hx hb dX6_watch_135 hl (k := 5) rfl rfl (by decide) rfl (fun ls hl => ?_)
          refine lv_goto (tgt := 80) hx hb dX6_watch_138 (by decide) ?_
          exact hkc80 x1 x2 x3 (x4 + 1) nv wt hf _ _ hP hD hS _ (lv_sub hl [2, 3, 4, 5, 0] rfl)
        · replace hf := ie_of c7 hf
          refine lv_iload hx hb dX6_watch_132 (lv_at hl 5 rfl) ?_
          refine lv_istore_n (lv' := [(3, .int x4), (5, .int t0), (0, .ref oo), (1, .int x1), (2, .int x2), (4, .int x4)]) hx hb dX6_watch_134 rfl hl (by decide) rfl (fun ls hl => ?_)
          refine lv_iinc (v := (x4 + 1)) (lv' := [(4, .int (x4 + 1)), (3, .int x4), (5, .int t0), (0, .ref oo), (1, .int x1), (2, .int x2)]) hx hb dX6_watch_135 hl (k := 5) rfl rfl (by decide) rfl (fun ls hl => ?_)
          refine lv_goto (tgt := 80) hx hb dX6_watch_138 (by decide) ?_
          exact hkc80 x1 x2 x4 (x4 + 1) nv wt hf _ _ hP hD hS _ (lv_sub hl [3, 4, 5, 1, 0] rfl)
  have J106 : ∀ (kc80 : Int32 → Int32 → Int32 → Int32 → (Nat → Int32) → (Nat → Int32) → Option (Int32 × (Nat → Int32) × (Nat → Int32))) (hkc80 : ∀ (x1 : Int32) (x2 : Int32) (x3 : Int32) (x4 : Int32) (nv : Nat → Int32) (wt : Nat → Int32), kc80 x1 x2 x3 x4 nv wt = some o → ∀ (H : Heap) (locs : List Loc), va_P D vwCl (List.flatten [(Po oo qn qk qt qx qa ts wa pf (chv qc sp)), (Cw qn cA (chv qc nc) nf ng), (Vw (qn 15) cA nv), (Vw wa cA wt), (chPool cn qc cA cf cg)]) H → va_D A (List.flatten [(Po oo qn qk qt qx qa ts wa pf (chv qc sp)), (Cw qn cA (chv qc nc) nf ng), (Vw (qn 15) cA nv), (Vw wa cA wt), (chPool cn qc cA cf cg)]) → va_S A s.heap H locs → ∀ ls : Array Slot, lv_has ls 6 [(0, .ref oo), (1, .int x1), (2, .int x2), (3, .int x3), (4, .int x4)] → W p l e (RMx 3 74 0 0) s m args below meth c H locs 0 0 Q (F0 m 80 ls [])), ∀ (x1 : Int32) (x2 : Int32) (x3 : Int32) (x4 : Int32) (nv : Nat → Int32) (wt : Nat → Int32), k_X6_watch_106 nf kc80 x1 x2 x3 x4 nv wt = some o → ∀ (H : Heap) (locs : List Loc), va_P D vwCl (List.flatten [(Po oo qn qk qt qx qa ts wa pf (chv qc sp)), (Cw qn cA (chv qc nc) nf ng), (Vw (qn 15) cA nv), (Vw wa cA wt), (chPool cn qc cA cf cg)]) H → va_D A (List.flatten [(Po oo qn qk qt qx qa ts wa pf (chv qc sp)), (Cw qn cA (chv qc nc) nf ng), (Vw (qn 15) cA nv), (Vw wa cA wt), (chPool cn qc cA cf cg)]) → va_S A s.heap H locs → ∀ ls : Array Slot, lv_has ls 6 [(0, .ref oo), (1, .int x1), (2, .int x2), (3, .int x3), (4, .int x4)] → W p l e (RMx 3 74 0 0) s m args below meth c H locs 0 0 Q (F0 m 106 ls []) := by
    intro kc80 hkc80 x1 x2 x3 x4 nv wt hf H locs hP hD hS ls hl
    unfold k_X6_watch_106 at hf
    refine lv_iconst (v := 0) hx hb dX6_watch_106 (by decide) ?_
    exact J107 _ hkc80 x1 x2 x3 x4 0 nv wt hf _ _ hP hD hS _ (lv_sub hl [0, 1, 2, 3, 4] rfl)
  have J80 : ∀ n : Nat, ∀ (x1 : Int32) (x2 : Int32) (x3 : Int32) (x4 : Int32) (nv : Nat → Int32) (wt : Nat → Int32), k_X6_watch_80 nf n x1 x2 x3 x4 nv wt = some o → ∀ (H : Heap) (locs : List Loc), va_P D vwCl (List.flatten [(Po oo qn qk qt qx qa ts wa pf (chv qc sp)), (Cw qn cA (chv qc nc) nf ng), (Vw (qn 15) cA nv), (Vw wa cA wt), (chPool cn qc cA cf cg)]) H → va_D A (List.flatten [(Po oo qn qk qt qx qa ts wa pf (chv qc sp)), (Cw qn cA (chv qc nc) nf ng), (Vw (qn 15) cA nv), (Vw wa cA wt), (chPool cn qc cA cf cg)]) → va_S A s.heap H locs → ∀ ls : Array Slot, lv_has ls 6 [(0, .ref oo), (1, .int x1), (2, .int x2), (3, .int x3), (4, .int x4)] → W p l e (RMx 3 74 0 0) s m args below meth c H locs 0 0 Q (F0 m 80 ls []) := by
    intro  n
    induction n with
    | zero =>
      intro x1 x2 x3 x4 nv wt hf
      rw [k_X6_watch_80] at hf
      cases hf
    | succ n ih =>
      intro x1 x2 x3 x4 nv wt hf H locs hP hD hS ls hl
      rw [k_X6_watch_80] at hf
      refine lv_iload hx hb dX6_watch_80 (lv_at hl 4 rfl) ?_
      refine lv_iload_n hx hb dX6_watch_82 rfl (lv_at hl 1 rfl) ?_
      refine lv_icmp_gt (tgt := 141) hx hb dX6_watch_83 (by decide) (fun c1 => ?_) (fun c1 => ?_)
      · replace hf := it_of c1 hf
        refine lv_iload_n hx hb dX6_watch_141 rfl (lv_at hl 3 rfl) ?_
        rw [hQ]
        exact ret_i C0 hP hD hS (by have e := Option.some.inj hf; rw [← e]; exact ⟨rfl, rfl⟩) dX6_watch_142
      · replace hf := ie_of c1 hf
        refine lv_iload hx hb dX6_watch_86 (lv_at hl 4 rfl) ?_
        refine lv_iload_n hx hb dX6_watch_88 rfl (lv_at hl 1 rfl) ?_
        refine lv_iconst (v := (-1)) hx hb dX6_watch_89 (by decide) ?_
        refine lv_ixor hx hb dX6_watch_90 ?_
        refine lv_iand hx hb dX6_watch_91 ?_
        refine lv_if_ne (tgt := 106) hx hb dX6_watch_92 (by decide) (fun c2 => ?_) (fun c2 => ?_)
        · replace hf := ie_of c2 hf
          exact J106 _ ih x1 x2 x3 x4 nv wt hf _ _ hP hD hS _ (lv_sub hl [0, 1, 2, 3, 4] rfl)
        · replace hf := it_of c2 hf
          refine lv_iload hx hb dX6_watch_95 (lv_at hl 4 rfl) ?_
          refine lv_iload_n hx hb dX6_watch_97 rfl (lv_at hl 2 rfl) ?_
          refine lv_iand hx hb dX6_watch_98 ?_
          refine lv_if_eq (tgt := 106) hx hb dX6_watch_99 (by decide) (fun c3 => ?_) (fun c3 => ?_)
          · replace hf := it_of c3 hf
            exact J106 _ ih x1 x2 x3 x4 nv wt hf _ _ hP hD hS _ (lv_sub hl [0, 1, 2, 3, 4] rfl)
          · replace hf := ie_of c3 hf
            refine lv_iconst (v := 1) hx hb dX6_watch_102 (by decide) ?_
            refine lv_goto (tgt := 107) hx hb dX6_watch_103 (by decide) ?_
            exact J107 _ ih x1 x2 x3 x4 1 nv wt hf _ _ hP hD hS _ (lv_sub hl [0, 1, 2, 3, 4] rfl)
  have J45 : ∀ (kc2 : Int32 → (Nat → Int32) → (Nat → Int32) → Option (Int32 × (Nat → Int32) × (Nat → Int32))) (hkc2 : ∀ (x1 : Int32) (nv : Nat → Int32) (wt : Nat → Int32), kc2 x1 nv wt = some o → ∀ (H : Heap) (locs : List Loc), va_P D vwCl (List.flatten [(Po oo qn qk qt qx qa ts wa pf (chv qc sp)), (Cw qn cA (chv qc nc) nf ng), (Vw (qn 15) cA nv), (Vw wa cA wt), (chPool cn qc cA cf cg)]) H → va_D A (List.flatten [(Po oo qn qk qt qx qa ts wa pf (chv qc sp)), (Cw qn cA (chv qc nc) nf ng), (Vw (qn 15) cA nv), (Vw wa cA wt), (chPool cn qc cA cf cg)]) → va_S A s.heap H locs → ∀ ls : Array Slot, lv_has ls 6 [(0, .ref oo), (1, .int x1)] → W p l e (RMx 3 74 0 0) s m args below meth c H locs 0 0 Q (F0 m 2 ls [])), ∀ (x1 : Int32) (t1 : Int32) (t2 : Int32) (nv : Nat → Int32) (wt : Nat → Int32), k_X6_watch_45 kc2 x1 t1 t2 nv wt = some o → ∀ (H : Heap) (locs : List Loc), va_P D vwCl (List.flatten [(Po oo qn qk qt qx qa ts wa pf (chv qc sp)), (Cw qn cA (chv qc nc) nf ng), (Vw (qn 15) cA nv), (Vw wa cA wt), (chPool cn qc cA cf cg)]) H → va_D A (List.flatten [(Po oo qn qk qt qx qa ts wa pf (chv qc sp)), (Cw qn cA (chv qc nc) nf ng), (Vw (qn 15) cA nv), (Vw wa cA wt), (chPool cn qc cA cf cg)]) → va_S A s.heap H locs → ∀ ls : Array Slot, lv_has ls 6 [(0, .ref oo), (1, .int x1)] → W p l e (RMx 3 74 0 0) s m args below meth c H locs 0 0 Q (F0 m 45 ls [.int t2, .int t1, .ref wa]) := by
    intro kc2 hkc2 x1 t1 t2 nv wt hf H locs hP hD hS ls hl
    unfold k_X6_watch_45 at hf
    obtain ⟨hi1, hf⟩ := gd_of hf
    refine va_iast hx hb hK hP hD hS 8 0 rfl rfl hi1 dX6_watch_45 (fun H locs hP hD hS => ?_)
    replace hP : va_P D vwCl (List.flatten [(Po oo qn qk qt qx qa ts wa pf (chv qc sp)), (Cw qn cA (chv qc nc) nf ng), (Vw (qn 15) cA nv), (Vw wa cA (upd wt (Int32.toNatClampNeg t1) t2)), (chPool cn qc cA cf cg)]) H := hP
    replace hD : va_D A (List.flatten [(Po oo qn qk qt qx qa ts wa pf (chv qc sp)), (Cw qn cA (chv qc nc) nf ng), (Vw (qn 15) cA nv), (Vw wa cA (upd wt (Int32.toNatClampNeg t1) t2)), (chPool cn qc cA cf cg)]) := hD
    refine lv_iinc (v := (x1 + 1)) (lv' := [(1, .int (x1 + 1)), (0, .ref oo)]) hx hb dX6_watch_46 hl (k := 1) rfl rfl (by decide) rfl (fun ls hl => ?_)
    refine lv_goto (tgt := 2) hx hb dX6_watch_49 (by decide) ?_
    exact hkc2 (x1 + 1) nv (upd wt (Int32.toNatClampNeg t1) t2) hf _ _ hP hD hS _ (lv_sub hl [1, 0] rfl)
  have J2 : ∀ n : Nat, ∀ (x1 : Int32) (nv : Nat → Int32) (wt : Nat → Int32), k_X6_watch_2 nf ng nc cn cf cg n x1 nv wt = some o → ∀ (H : Heap) (locs : List Loc), va_P D vwCl (List.flatten [(Po oo qn qk qt qx qa ts wa pf (chv qc sp)), (Cw qn cA (chv qc nc) nf ng), (Vw (qn 15) cA nv), (Vw wa cA wt), (chPool cn qc cA cf cg)]) H → va_D A (List.flatten [(Po oo qn qk qt qx qa ts wa pf (chv qc sp)), (Cw qn cA (chv qc nc) nf ng), (Vw (qn 15) cA nv), (Vw wa cA wt), (chPool cn qc cA cf cg)]) → va_S A s.heap H locs → ∀ ls : Array Slot, lv_has ls 6 [(0, .ref oo), (1, .int x1)] → W p l e (RMx 3 74 0 0) s m args below meth c H locs 0 0 Q (F0 m 2 ls []) := by
    intro  n
    induction n with
    | zero =>
      intro x1 nv wt hf
      rw [k_X6_watch_2] at hf
      cases hf
    | succ n ih =>
      intro x1 nv wt hf H locs hP hD hS ls hl
      rw [k_X6_watch_2] at hf
      refine lv_iload_n hx hb dX6_watch_2 rfl (lv_at hl 1 rfl) ?_
      refine lv_aload_n hx hb dX6_watch_3 rfl (lv_at hl 0 rfl) ?_
      refine va_get (D := D) (ci := 6) (v := .ref (qn 0)) (C := RX6) (T := TX6) (N := 10) hx hb hts fw_6 hown hK hP 0 rfl rfl 0 (by decide) (hts _ m_fieldLink_P_12_P_now_LP_Cellar) (fun _ h9 => h9) rfl dX6_watch_4 ?_
      refine va_get (D := D) (ci := 1) (v := .int (nf 0)) (C := RX1) (T := TX1) (N := 16) hx hb hts fw_1 hown hK hP 1 rfl rfl 0 (by decide) (hts _ m_fieldLink_P_53_P_Cellar_men_I) (fun _ h9 => h9) rfl dX6_watch_7 ?_
      refine lv_icmp_ge (tgt := 52) hx hb dX6_watch_10 (by decide) (fun c1 => ?_) (fun c1 => ?_)
      · replace hf := it_of c1 hf
        refine lv_aload_n hx hb dX6_watch_52 rfl (lv_at hl 0 rfl) ?_
        refine va_get (D := D) (ci := 6) (v := .ref (qn 0)) (C := RX6) (T := TX6) (N := 10) hx hb hts fw_6 hown hK hP 0 rfl rfl 0 (by decide) (hts _ m_fieldLink_P_12_P_now_LP_Cellar) (fun _ h9 => h9) rfl dX6_watch_53 ?_
        obtain ⟨r2q, hq3, hf⟩ := b1_of hf
        refine callVI (As := []) (rest := []) (wr := segpick [(Po oo qn qk qt qx qa ts wa pf (chv qc sp)), (Cw qn cA (chv qc nc) nf ng), (Vw (qn 15) cA nv), (Vw wa cA wt), (chPool cn qc cA cf cg)] [0, 2, 3, 4]) C0 (c_X1_all qn qc nf ng nc _ hq3) lk_X6_275_X1_all rfl hP hD hS (seg_out [(Po oo qn qk qt qx qa ts wa pf (chv qc sp)), (Cw qn cA (chv qc nc) nf ng), (Vw (qn 15) cA nv), (Vw wa cA wt), (chPool cn qc cA cf cg)] [1] [0, 2, 3, 4] 5 rfl (by decide)) 1 1 rfl rfl rfl hl.1 rfl rfl (Nat.le_of_ble_eq_true rfl) dX6_watch_56 ⟨Nat.zero_le _, Nat.zero_le _⟩ (fun r2 w H locs hw hP hD hS => ?_)
        obtain ⟨e1, e2⟩ := hw
        replace e1 : r2 = r2q := e1
        subst e1
        subst e2
        replace hP : va_P D vwCl (List.flatten [(Po oo qn qk qt qx qa ts wa pf (chv qc sp)), (Cw qn cA (chv qc nc) nf ng), (Vw (qn 15) cA nv), (Vw wa cA wt), (chPool cn qc cA cf cg)]) H := hP.perm (seg_out [(Po oo qn qk qt qx qa ts wa pf (chv qc sp)), (Cw qn cA (chv qc nc) nf ng), (Vw (qn 15) cA nv), (Vw wa cA wt), (chPool cn qc cA cf cg)] [1] [0, 2, 3, 4] 5 rfl (by decide)).symm
        replace hD : va_D A (List.flatten [(Po oo qn qk qt qx qa ts wa pf (chv qc sp)), (Cw qn cA (chv qc nc) nf ng), (Vw (qn 15) cA nv), (Vw wa cA wt), (chPool cn qc cA cf cg)]) := hD.perm (seg_out [(Po oo qn qk qt qx qa ts wa pf (chv qc sp)), (Cw qn cA (chv qc nc) nf ng), (Vw (qn 15) cA nv), (Vw wa cA wt), (chPool cn qc cA cf cg)] [1] [0, 2, 3, 4] 5 rfl (by decide)).symm
        refine lv_aload_n hx hb dX6_watch_59 rfl (lv_at hl 0 rfl) ?_
        refine va_get (D := D) (ci := 6) (v := .ref (qn 0)) (C := RX6) (T := TX6) (N := 10) hx hb hts fw_6 hown hK hP 0 rfl rfl 0 (by decide) (hts _ m_fieldLink_P_12_P_now_LP_Cellar) (fun _ h9 => h9) rfl dX6_watch_60 ?_
        refine va_get (D := D) (ci := 1) (v := .int (nf 1)) (C := RX1) (T := TX1) (N := 16) hx hb hts fw_1 hown hK hP 1 rfl rfl 1 (by decide) (hts _ m_fieldLink_P_135_P_Cellar_up_I) (fun _ h9 => h9) rfl dX6_watch_63 ?_
        refine lv_iconst (v := (-1)) hx hb dX6_watch_66 (by decide) ?_
        refine lv_ixor hx hb dX6_watch_67 ?_
        refine lv_iand hx hb dX6_watch_68 ?_
        refine lv_istore_n (lv' := [(1, .int (r2 &&& ((nf 1) ^^^ (-1)))), (0, .ref oo)]) hx hb dX6_watch_69 rfl hl (by decide) rfl (fun ls hl => ?_)
        refine lv_iload_n hx hb dX6_watch_70 rfl (lv_at hl 0 rfl) ?_
        refine lv_iload_n hx hb dX6_watch_71 rfl (lv_at hl 0 rfl) ?_
        refine lv_ineg hx hb dX6_watch_72 ?_
        refine lv_iand hx hb dX6_watch_73 ?_
        refine lv_istore_n (lv' := [(2, .int ((r2 &&& ((nf 1) ^^^ (-1))) &&& (-(r2 &&& ((nf 1) ^^^ (-1)))))), (1, .int (r2 &&& ((nf 1) ^^^ (-1)))), (0, .ref oo)]) hx hb dX6_watch_74 rfl hl (by decide) rfl (fun ls hl => ?_)
        refine lv_iconst (v := 0) hx hb dX6_watch_75 (by decide) ?_
        refine lv_istore_n (lv' := [(3, .int 0), (2, .int ((r2 &&& ((nf 1) ^^^ (-1))) &&& (-(r2 &&& ((nf 1) ^^^ (-1)))))), (1, .int (r2 &&& ((nf 1) ^^^ (-1)))), (0, .ref oo)]) hx hb dX6_watch_76 rfl hl (by decide) rfl (fun ls hl => ?_)
        refine lv_iload_n hx hb dX6_watch_77 rfl (lv_at hl 1 rfl) ?_
        refine lv_istore (lv' := [(4, .int ((r2 &&& ((nf 1) ^^^ (-1))) &&& (-(r2 &&& ((nf 1) ^^^ (-1)))))), (3, .int 0), (2, .int ((r2 &&& ((nf 1) ^^^ (-1))) &&& (-(r2 &&& ((nf 1) ^^^ (-1)))))), (1, .int (r2 &&& ((nf 1) ^^^ (-1)))), (0, .ref oo)]) hx hb dX6_watch_78 hl (by decide) rfl (fun ls hl => ?_)
        exact J80 100000 (r2 &&& ((nf 1) ^^^ (-1))) ((r2 &&& ((nf 1) ^^^ (-1))) &&& (-(r2 &&& ((nf 1) ^^^ (-1))))) 0 ((r2 &&& ((nf 1) ^^^ (-1))) &&& (-(r2 &&& ((nf 1) ^^^ (-1))))) nv wt hf _ _ hP hD hS _ (lv_sub hl [4, 3, 2, 1, 0] rfl)
      · replace hf := ie_of c1 hf
        refine lv_aload_n hx hb dX6_watch_13 rfl (lv_at hl 0 rfl) ?_
        refine va_get (D := D) (ci := 6) (v := .ref wa) (C := RX6) (T := TX6) (N := 10) hx hb hts fw_6 hown hK hP 0 rfl rfl 6 (by decide) (hts _ m_fieldLink_P_44_P_watched_aI) (fun _ h9 => h9) rfl dX6_watch_14 ?_
        refine lv_iload_n hx hb dX6_watch_17 rfl (lv_at hl 1 rfl) ?_
        refine lv_aload_n hx hb dX6_watch_18 rfl (lv_at hl 0 rfl) ?_
        refine va_get (D := D) (ci := 6) (v := .ref (qn 0)) (C := RX6) (T := TX6) (N := 10) hx hb hts fw_6 hown hK hP 0 rfl rfl 0 (by decide) (hts _ m_fieldLink_P_12_P_now_LP_Cellar) (fun _ h9 => h9) rfl dX6_watch_19 ?_
        refine lv_iload_n hx hb dX6_watch_22 rfl (lv_at hl 1 rfl) ?_
        obtain ⟨r4q, hq5, hf⟩ := b1_of hf
        refine callVI (As := [.int x1]) (rest := [.int x1, .ref wa]) (wr := segpick [(Po oo qn qk qt qx qa ts wa pf (chv qc sp)), (Cw qn cA (chv qc nc) nf ng), (Vw (qn 15) cA nv), (Vw wa cA wt), (chPool cn qc cA cf cg)] [0, 2, 3, 4]) C0 (c_X1_isUp qn qc nf ng nc x1 _ hq5) lk_X6_74_X1_isUp rfl hP hD hS (seg_out [(Po oo qn qk qt qx qa ts wa pf (chv qc sp)), (Cw qn cA (chv qc nc) nf ng), (Vw (qn 15) cA nv), (Vw wa cA wt), (chPool cn qc cA cf cg)] [1] [0, 2, 3, 4] 5 rfl (by decide)) 1 1 rfl rfl rfl hl.1 rfl rfl (Nat.le_of_ble_eq_true rfl) dX6_watch_23 ⟨Nat.zero_le _, Nat.zero_le _⟩ (fun r4 w H locs hw hP hD hS => ?_)
        obtain ⟨⟨e1, e2⟩, z6⟩ := hw
        replace e1 : r4 = r4q := e1
        subst e1
        subst e2
        replace hP : va_P D vwCl (List.flatten [(Po oo qn qk qt qx qa ts wa pf (chv qc sp)), (Cw qn cA (chv qc nc) nf ng), (Vw (qn 15) cA nv), (Vw wa cA wt), (chPool cn qc cA cf cg)]) H := hP.perm (seg_out [(Po oo qn qk qt qx qa ts wa pf (chv qc sp)), (Cw qn cA (chv qc nc) nf ng), (Vw (qn 15) cA nv), (Vw wa cA wt), (chPool cn qc cA cf cg)] [1] [0, 2, 3, 4] 5 rfl (by decide)).symm
        replace hD : va_D A (List.flatten [(Po oo qn qk qt qx qa ts wa pf (chv qc sp)), (Cw qn cA (chv qc nc) nf ng), (Vw (qn 15) cA nv), (Vw wa cA wt), (chPool cn qc cA cf cg)]) := hD.perm (seg_out [(Po oo qn qk qt qx qa ts wa pf (chv qc sp)), (Cw qn cA (chv qc nc) nf ng), (Vw (qn 15) cA nv), (Vw wa cA wt), (chPool cn qc cA cf cg)] [1] [0, 2, 3, 4] 5 rfl (by decide)).symm
        refine lv_if_eq (tgt := 33) hx hb dX6_watch_26 (by decide) (fun c7 => ?_) (fun c7 => ?_)
        · replace hf := it_of c7 hf
          refine lv_iconst (v := 0) hx hb dX6_watch_33 (by decide) ?_
          refine lv_aload_n hx hb dX6_watch_34 rfl (lv_at hl 0 rfl) ?_
          refine va_get (D := D) (ci := 6) (v := .ref (qn 0)) (C := RX6) (T := TX6) (N := 10) hx hb hts fw_6 hown hK hP 0 rfl rfl 0 (by decide) (hts _ m_fieldLink_P_12_P_now_LP_Cellar) (fun _ h9 => h9) rfl dX6_watch_35 ?_
          refine lv_iload_n hx hb dX6_watch_38 rfl (lv_at hl 1 rfl) ?_
          obtain ⟨r8q, nv_9, hq10, hf⟩ := b2_of hf
          refine callVI (As := [.int x1]) (rest := [.int 0, .int x1, .ref wa]) (wr := segpick [(Po oo qn qk qt qx qa ts wa pf (chv qc sp)), (Cw qn cA (chv qc nc) nf ng), (Vw (qn 15) cA nv), (Vw wa cA wt), (chPool cn qc cA cf cg)] [0, 3]) C0 (c_X1_noise qn qc nf ng nc nv cn cf cg x1 _ hq10) lk_X6_80_X1_noise rfl hP hD hS (seg_out [(Po oo qn qk qt qx qa ts wa pf (chv qc sp)), (Cw qn cA (chv qc nc) nf ng), (Vw (qn 15) cA nv), (Vw wa cA wt), (chPool cn qc cA cf cg)] [1, 2, 4] [0, 3] 5 rfl (by decide)) 1 1 rfl rfl rfl hl.1 rfl rfl (Nat.le_of_ble_eq_true rfl) dX6_watch_39 ⟨Nat.zero_le _, Nat.zero_le _⟩ (fun r8 w H locs hw hP hD hS => ?_)
          obtain ⟨e1, e2⟩ := hw
          replace e1 : r8 = r8q := e1
          subst e1
          subst e2
          replace hP : va_P D vwCl (List.flatten [(Po oo qn qk qt qx qa ts wa pf (chv qc sp)), (Cw qn cA (chv qc nc) nf ng), (Vw (qn 15) cA nv_9), (Vw wa cA wt), (chPool cn qc cA cf cg)]) H := hP.perm (seg_out [(Po oo qn qk qt qx qa ts wa pf (chv qc sp)), (Cw qn cA (chv qc nc) nf ng), (Vw (qn 15) cA nv_9), (Vw wa cA wt), (chPool cn qc cA cf cg)] [1, 2, 4] [0, 3] 5 rfl (by decide)).symm
          replace hD : va_D A (List.flatten [(Po oo qn qk qt qx qa ts wa pf (chv qc sp)), (Cw qn cA (chv qc nc) nf ng), (Vw (qn 15) cA nv_9), (Vw wa cA wt), (chPool cn qc cA cf cg)]) := hD.perm (seg_out [(Po oo qn qk qt qx qa ts wa pf (chv qc sp)), (Cw qn cA (chv qc nc) nf ng), (Vw (qn 15) cA nv_9), (Vw wa cA wt), (chPool cn qc cA cf cg)] [1, 2, 4] [0, 3] 5 rfl (by decide)).symm
          refine va_mmax hx hb (by rw [hml]; exact hl.1.symm) hown (hts _ m_methodLink_P_278_java_lang_Math_max_II_I) (hts _ m_static_java_lang_Math_max_II_I) (hts _ m_initialized_java_lang_Math) (hts _ m_code_java_lang_Math_max_II_I) (Nat.le_of_ble_eq_true rfl) (Nat.le_of_ble_eq_true rfl) (Nat.zero_le _) (Nat.zero_le _) dX6_watch_42 ?_
          refine lv_topi (fun mm11 emm11 => ?_)
          replace hf := nm_i emm11 hf
          exact J45 _ ih x1 x1 mm11 nv_9 wt hf _ _ hP hD hS _ (lv_sub hl [0, 1] rfl)
        · replace hf := ie_of c7 hf
          refine lv_iconst (v := 0) hx hb dX6_watch_29 (by decide) ?_
          refine lv_goto (tgt := 45) hx hb dX6_watch_30 (by decide) ?_
          exact J45 _ ih x1 x1 0 nv wt hf _ _ hP hD hS _ (lv_sub hl [0, 1] rfl)
  unfold k_X6_watch at hf
  refine lv_iconst (v := 0) hx hb dX6_watch_0 (by decide) ?_
  refine lv_istore_n (lv' := [(1, .int 0), (0, .ref oo)]) hx hb dX6_watch_1 rfl hl (by decide) rfl (fun ls hl => ?_)
  exact J2 100000 0 nv0 wt0 hf _ _ hP hD hS _ (lv_sub hl [1, 0] rfl)
-- X6 told
noncomputable def k_X6_told (a1 : Int32) (nf : Nat → Int32) (ng : Nat → Nat → Int32) (nc : Option Nat) (nv0 : Nat → Int32) (tf0 : Nat → Int32) (tg0 : Nat → Nat → Int32) (tc0 : Option Nat) (tv0 : Nat → Int32) (wt0 : Nat → Int32) (cn : Nat) (cf : Nat → Nat → Int32) (cg : Nat → Nat → Nat → Int32) : Option (Int32 × (Nat → Int32) × (Nat → Int32) × (Nat → Nat → Int32) × Option Nat × (Nat → Int32) × (Nat → Int32)) := if a1 = 0 then some ((nf 5), nv0, tf0, tg0, tc0, tv0, wt0) else if a1 = 1 then b1 (k_X1_calm nc cn cf) (fun r3 => some (r3, nv0, tf0, tg0, tc0, tv0, wt0)) else if a1 = 2 then some ((nf 2), nv0, tf0, tg0, tc0, tv0, wt0) else if a1 = 3 then some ((nf 3), nv0, tf0, tg0, tc0, tv0, wt0) else if a1 = 4 then some ((nf 4), nv0, tf0, tg0, tc0, tv0, wt0) else if a1 = 5 then b2 (k_X1_sound nf ng nc nv0 cn cf cg) (fun r9 nv_10 => some (r9, nv_10, tf0, tg0, tc0, tv0, wt0)) else if a1 = 6 then some ((nf 1), nv0, tf0, tg0, tc0, tv0, wt0) else if a1 = 7 then b5 (k_X6_hushed nf ng nc tf0 tg0 tc0 tv0 cn cf cg) (fun r14 tf_15 tg_16 tc_17 tv_18 => some (r14, nv0, tf_15, tg_16, tc_17, tv_18, wt0)) else if a1 = 8 then b3 (k_X6_watch nf ng nc nv0 wt0 cn cf cg) (fun r21 nv_22 wt_23 => b1 (k_X6_apart r21 nf wt_23) (fun r25 => some (r25, nv_22, tf0, tg0, tc0, tv0, wt_23))) else if a1 = 9 then b3 (k_X6_watch nf ng nc nv0 wt0 cn cf cg) (fun r28 nv_29 wt_30 => some (r28, nv_29, tf0, tg0, tc0, tv0, wt_30)) else some ((-1), nv0, tf0, tg0, tc0, tv0, wt0)
set_option maxHeartbeats 4000000 in
set_option maxRecDepth 100000 in
theorem c_X6_told {l : Launch} {D : va_G} {cA : Nat → ClassId} (oo : Nat) (qn : Nat → Nat) (qk : Nat → Nat) (qt : Nat → Nat) (qx : Nat → Nat) (qa : Nat → Nat) (ts : Nat) (wa : Nat) (qc : Nat → Nat → Nat) (pf : Nat → Int32) (sp : Option Nat) (nf : Nat → Int32) (ng : Nat → Nat → Int32) (nc : Option Nat) (nv0 : Nat → Int32) (tf0 : Nat → Int32) (tg0 : Nat → Nat → Int32) (tc0 : Option Nat) (tv0 : Nat → Int32) (wt0 : Nat → Int32) (cn : Nat) (cf : Nat → Nat → Int32) (cg : Nat → Nat → Nat → Int32) (a1 : Int32) (o : Int32 × (Nat → Int32) × (Nat → Int32) × (Nat → Nat → Int32) × Option Nat × (Nat → Int32) × (Nat → Int32)) (hf : k_X6_told a1 nf ng nc nv0 tf0 tg0 tc0 tv0 wt0 cn cf cg = some o) : CI l D cA yX6_told cX6_told 2 (some .int) 5 119 [.ref oo, .int a1] (List.flatten [(Po oo qn qk qt qx qa ts wa pf (chv qc sp)), (Cw qn cA (chv qc nc) nf ng), (Vw (qn 15) cA nv0), (Cw qt cA (chv qc tc0) tf0 tg0), (Vw (qt 15) cA tv0), (Vw wa cA wt0), (chPool cn qc cA cf cg)]) 0 0 (fun r w => r = o.1 ∧ w = (List.flatten [(Po oo qn qk qt qx qa ts wa pf (chv qc sp)), (Cw qn cA (chv qc nc) nf ng), (Vw (qn 15) cA o.2.1), (Cw qt cA (chv qc o.2.2.2.2.1) o.2.2.1 o.2.2.2.1), (Vw (qt 15) cA o.2.2.2.2.2.1), (Vw wa cA o.2.2.2.2.2.2), (chPool cn qc cA cf cg)])) := by
  intro sz
  refine met_start (by decide) rfl ?_
  intro p e s m args below meth c ls hsz hargs C0 hname hP hD hS hl
  generalize hAe : va_A (List.flatten [(Po oo qn qk qt qx qa ts wa pf (chv qc sp)), (Cw qn cA (chv qc nc) nf ng), (Vw (qn 15) cA nv0), (Cw qt cA (chv qc tc0) tf0 tg0), (Vw (qt 15) cA tv0), (Vw wa cA wt0), (chPool cn qc cA cf cg)]) sz = A at C0 hD hS ⊢
  obtain ⟨hx, hb, hr, hml, hown, hts, hlk, hK, hA⟩ := id C0
  replace hl : lv_has ls 2 [(0, .ref oo), (1, .int a1)] := hl
  obtain ⟨Q, hQ⟩ : ∃ Q : State → Prop, Q = QI below D A (fun r w => r = o.1 ∧ w = (List.flatten [(Po oo qn qk qt qx qa ts wa pf (chv qc sp)), (Cw qn cA (chv qc nc) nf ng), (Vw (qn 15) cA o.2.1), (Cw qt cA (chv qc o.2.2.2.2.1) o.2.2.1 o.2.2.2.1), (Vw (qt 15) cA o.2.2.2.2.2.1), (Vw wa cA o.2.2.2.2.2.2), (chPool cn qc cA cf cg)])) args s 0 0 := ⟨_, rfl⟩
  refine cast (by rw [hQ]) (?_ : W p l e (RMx 5 119 0 0) s m args below meth c s.heap [] 0 0 Q (F0 m 0 ls []))
  unfold k_X6_told at hf
  refine lv_iload_n hx hb dX6_told_0 rfl (lv_at hl 1 rfl) ?_
  by_cases c1 : a1 = 0
  · replace hf := it_of c1 hf
    refine lv_tableIn (off := 55) (tgt := 56) hx hb dX6_told_1 (by rw [c1]; decide) (by rw [c1]; decide) (by rw [c1]; decide) (by decide) ?_
    refine lv_aload_n hx hb dX6_told_56 rfl (lv_at hl 0 rfl) ?_
    refine va_get (D := D) (ci := 6) (v := .ref (qn 0)) (C := RX6) (T := TX6) (N := 10) hx hb hts fw_6 hown hK hP 0 rfl rfl 0 (by decide) (hts _ m_fieldLink_P_12_P_now_LP_Cellar) (fun _ h9 => h9) rfl dX6_told_57 ?_
    refine va_get (D := D) (ci := 1) (v := .int (nf 5)) (C := RX1) (T := TX1) (N := 16) hx hb hts fw_1 hown hK hP 1 rfl rfl 5 (by decide) (hts _ m_fieldLink_P_119_P_Cellar_day_I) (fun _ h9 => h9) rfl dX6_told_60 ?_
    rw [hQ]
    exact ret_i C0 hP hD hS (by have e := Option.some.inj hf; rw [← e]; exact ⟨rfl, rfl⟩) dX6_told_63
  · replace hf := ie_of c1 hf
    by_cases c2 : a1 = 1
    · replace hf := it_of c2 hf
      refine lv_tableIn (off := 63) (tgt := 64) hx hb dX6_told_1 (by rw [c2]; decide) (by rw [c2]; decide) (by rw [c2]; decide) (by decide) ?_
      refine lv_aload_n hx hb dX6_told_64 rfl (lv_at hl 0 rfl) ?_
      refine va_get (D := D) (ci := 6) (v := .ref (qn 0)) (C := RX6) (T := TX6) (N := 10) hx hb hts fw_6 hown hK hP 0 rfl rfl 0 (by decide) (hts _ m_fieldLink_P_12_P_now_LP_Cellar) (fun _ h9 => h9) rfl dX6_told_65 ?_
      obtain ⟨r3q, hq4, hf⟩ := b1_of hf
      refine callVI (As := []) (rest := []) (wr := segpick [(Po oo qn qk qt qx qa ts wa pf (chv qc sp)), (Cw qn cA (chv qc nc) nf ng), (Vw (qn 15) cA nv0), (Cw qt cA (chv qc tc0) tf0 tg0), (Vw (qt 15) cA tv0), (Vw wa cA wt0), (chPool cn qc cA cf cg)] [0, 2, 3, 4, 5]) C0 (c_X1_calm qn qc nf ng nc cn cf cg _ hq4) lk_X6_122_X1_calm rfl hP hD hS (seg_out [(Po oo qn qk qt qx qa ts wa pf (chv qc sp)), (Cw qn cA (chv qc nc) nf ng), (Vw (qn 15) cA nv0), (Cw qt cA (chv qc tc0) tf0 tg0), (Vw (qt 15) cA tv0), (Vw wa cA wt0), (chPool cn qc cA cf cg)] [1, 6] [0, 2, 3, 4, 5] 7 rfl (by decide)) 1 1 rfl rfl rfl hl.1 rfl rfl (Nat.le_of_ble_eq_true rfl) dX6_told_68 ⟨Nat.zero_le _, Nat.zero_le _⟩ (fun r3 w H locs hw hP hD hS => ?_)
      obtain ⟨e1, e2⟩ := hw
      replace e1 : r3 = r3q := e1
      subst e1
      subst e2
      replace hP : va_P D vwCl (List.flatten [(Po oo qn qk qt qx qa ts wa pf (chv qc sp)), (Cw qn cA (chv qc nc) nf ng), (Vw (qn 15) cA nv0), (Cw qt cA (chv qc tc0) tf0 tg0), (Vw (qt 15) cA tv0), (Vw wa cA wt0), (chPool cn qc cA cf cg)]) H := hP.perm (seg_out [(Po oo qn qk qt qx qa ts wa pf (chv qc sp)), (Cw qn cA (chv qc nc) nf ng), (Vw (qn 15) cA nv0), (Cw qt cA (chv qc tc0) tf0 tg0), (Vw (qt 15) cA tv0), (Vw wa cA wt0), (chPool cn qc cA cf cg)] [1, 6] [0, 2, 3, 4, 5] 7 rfl (by decide)).symm
      replace hD : va_D A (List.flatten [(Po oo qn qk qt qx qa ts wa pf (chv qc sp)), (Cw qn cA (chv qc nc) nf ng), (Vw (qn 15) cA nv0), (Cw qt cA (chv qc tc0) tf0 tg0), (Vw (qt 15) cA tv0), (Vw wa cA wt0), (chPool cn qc cA cf cg)]) := hD.perm (seg_out [(Po oo qn qk qt qx qa ts wa pf (chv qc sp)), (Cw qn cA (chv qc nc) nf ng), (Vw (qn 15) cA nv0), (Cw qt cA (chv qc tc0) tf0 tg0), (Vw (qt 15) cA tv0), (Vw wa cA wt0), (chPool cn qc cA cf cg)] [1, 6] [0, 2, 3, 4, 5] 7 rfl (by decide)).symm
      rw [hQ]
      exact ret_i C0 hP hD hS (by have e := Option.some.inj hf; rw [← e]; exact ⟨rfl, rfl⟩) dX6_told_71
    · replace hf := ie_of c2 hf
      by_cases c5 : a1 = 2
      · replace hf := it_of c5 hf
        refine lv_tableIn (off := 71) (tgt := 72) hx hb dX6_told_1 (by rw [c5]; decide) (by rw [c5]; decide) (by rw [c5]; decide) (by decide) ?_
        refine lv_aload_n hx hb dX6_told_72 rfl (lv_at hl 0 rfl) ?_
        refine va_get (D := D) (ci := 6) (v := .ref (qn 0)) (C := RX6) (T := TX6) (N := 10) hx hb hts fw_6 hown hK hP 0 rfl rfl 0 (by decide) (hts _ m_fieldLink_P_12_P_now_LP_Cellar) (fun _ h9 => h9) rfl dX6_told_73 ?_
        refine va_get (D := D) (ci := 1) (v := .int (nf 2)) (C := RX1) (T := TX1) (N := 16) hx hb hts fw_1 hown hK hP 1 rfl rfl 2 (by decide) (hts _ m_fieldLink_P_91_P_Cellar_fear_I) (fun _ h9 => h9) rfl dX6_told_76 ?_
        rw [hQ]
        exact ret_i C0 hP hD hS (by have e := Option.some.inj hf; rw [← e]; exact ⟨rfl, rfl⟩) dX6_told_79
      · replace hf := ie_of c5 hf
        by_cases c6 : a1 = 3
        · replace hf := it_of c6 hf
          refine lv_tableIn (off := 79) (tgt := 80) hx hb dX6_told_1 (by rw [c6]; decide) (by rw [c6]; decide) (by rw [c6]; decide) (by decide) ?_
          refine lv_aload_n hx hb dX6_told_80 rfl (lv_at hl 0 rfl) ?_
          refine va_get (D := D) (ci := 6) (v := .ref (qn 0)) (C := RX6) (T := TX6) (N := 10) hx hb hts fw_6 hown hK hP 0 rfl rfl 0 (by decide) (hts _ m_fieldLink_P_12_P_now_LP_Cellar) (fun _ h9 => h9) rfl dX6_told_81 ?_
          refine va_get (D := D) (ci := 1) (v := .int (nf 3)) (C := RX1) (T := TX1) (N := 16) hx hb hts fw_1 hown hK hP 1 rfl rfl 3 (by decide) (hts _ m_fieldLink_P_126_P_Cellar_truths_I) (fun _ h9 => h9) rfl dX6_told_84 ?_
          rw [hQ]
          exact ret_i C0 hP hD hS (by have e := Option.some.inj hf; rw [← e]; exact ⟨rfl, rfl⟩) dX6_told_87
        · replace hf := ie_of c6 hf
          by_cases c7 : a1 = 4
          · replace hf := it_of c7 hf
            refine lv_tableIn (off := 87) (tgt := 88) hx hb dX6_told_1 (by rw [c7]; decide) (by rw [c7]; decide) (by rw [c7]; decide) (by decide) ?_
            refine lv_aload_n hx hb dX6_told_88 rfl (lv_at hl 0 rfl) ?_
            refine va_get (D := D) (ci := 6) (v := .ref (qn 0)) (C := RX6) (T := TX6) (N := 10) hx hb hts fw_6 hown hK hP 0 rfl rfl 0 (by decide) (hts _ m_fieldLink_P_12_P_now_LP_Cellar) (fun _ h9 => h9) rfl dX6_told_89 ?_
            refine va_get (D := D) (ci := 1) (v := .int (nf 4)) (C := RX1) (T := TX1) (N := 16) hx hb hts fw_1 hown hK hP 1 rfl rfl 4 (by decide) (hts _ m_fieldLink_P_129_P_Cellar_silences_I) (fun _ h9 => h9) rfl dX6_told_92 ?_
            rw [hQ]
            exact ret_i C0 hP hD hS (by have e := Option.some.inj hf; rw [← e]; exact ⟨rfl, rfl⟩) dX6_told_95
          · replace hf := ie_of c7 hf
            by_cases c8 : a1 = 5
            · replace hf := it_of c8 hf
              refine lv_tableIn (off := 95) (tgt := 96) hx hb dX6_told_1 (by rw [c8]; decide) (by rw [c8]; decide) (by rw [c8]; decide) (by decide) ?_
              refine lv_aload_n hx hb dX6_told_96 rfl (lv_at hl 0 rfl) ?_
              refine va_get (D := D) (ci := 6) (v := .ref (qn 0)) (C := RX6) (T := TX6) (N := 10) hx hb hts fw_6 hown hK hP 0 rfl rfl 0 (by decide) (hts _ m_fieldLink_P_12_P_now_LP_Cellar) (fun _ h9 => h9) rfl dX6_told_97 ?_
              obtain ⟨r9q, nv_10, hq11, hf⟩ := b2_of hf
              refine callVI (As := []) (rest := []) (wr := segpick [(Po oo qn qk qt qx qa ts wa pf (chv qc sp)), (Cw qn cA (chv qc nc) nf ng), (Vw (qn 15) cA nv0), (Cw qt cA (chv qc tc0) tf0 tg0), (Vw (qt 15) cA tv0), (Vw wa cA wt0), (chPool cn qc cA cf cg)] [0, 3, 4, 5]) C0 (c_X1_sound qn qc nf ng nc nv0 cn cf cg _ hq11) lk_X6_132_X1_sound rfl hP hD hS (seg_out [(Po oo qn qk qt qx qa ts wa pf (chv qc sp)), (Cw qn cA (chv qc nc) nf ng), (Vw (qn 15) cA nv0), (Cw qt cA (chv qc tc0) tf0 tg0), (Vw (qt 15) cA tv0), (Vw wa cA wt0), (chPool cn qc cA cf cg)] [1, 2, 6] [0, 3, 4, 5] 7 rfl (by decide)) 1 1 rfl rfl rfl hl.1 rfl rfl (Nat.le_of_ble_eq_true rfl) dX6_told_100 ⟨Nat.zero_le _, Nat.zero_le _⟩ (fun r9 w H locs hw hP hD hS => ?_)
              obtain ⟨e1, e2⟩ := hw
              replace e1 : r9 = r9q := e1
              subst e1
              subst e2
              replace hP : va_P D vwCl (List.flatten [(Po oo qn qk qt qx qa ts wa pf (chv qc sp)), (Cw qn cA (chv qc nc) nf ng), (Vw (qn 15) cA nv_10), (Cw qt cA (chv qc tc0) tf0 tg0), (Vw (qt 15) cA tv0), (Vw wa cA wt0), (chPool cn qc cA cf cg)]) H := hP.perm (seg_out [(Po oo qn qk qt qx qa ts wa pf (chv qc sp)), (Cw qn cA (chv qc nc) nf ng), (Vw (qn 15) cA nv_10), (Cw qt cA (chv qc tc0) tf0 tg0), (Vw (qt 15) cA tv0), (Vw wa cA wt0), (chPool cn qc cA cf cg)] [1, 2, 6] [0, 3, 4, 5] 7 rfl (by decide)).symm
              replace hD : va_D A (List.flatten [(Po oo qn qk qt qx qa ts wa pf (chv qc sp)), (Cw qn cA (chv qc nc) nf ng), (Vw (qn 15) cA nv_10), (Cw qt cA (chv qc tc0) tf0 tg0), (Vw (qt 15) cA tv0), (Vw wa cA wt0), (chPool cn qc cA cf cg)]) := hD.perm (seg_out [(Po oo qn qk qt qx qa ts wa pf (chv qc sp)), (Cw qn cA (chv qc nc) nf ng), (Vw (qn 15) cA nv_10), (Cw qt cA (chv qc tc0) tf0 tg0), (Vw (qt 15) cA tv0), (Vw wa cA wt0), (chPool cn qc cA cf cg)] [1, 2, 6] [0, 3, 4, 5] 7 rfl (by decide)).symm
              rw [hQ]
              exact ret_i C0 hP hD hS (by have e := Option.some.inj hf; rw [← e]; exact ⟨rfl, rfl⟩) dX6_told_103
            · replace hf := ie_of c8 hf
              by_cases c12 : a1 = 6
              · replace hf := it_of c12 hf
                refine lv_tableIn (off := 103) (tgt := 104) hx hb dX6_told_1 (by rw [c12]; decide) (by rw [c12]; decide) (by rw [c12]; decide) (by decide) ?_
                refine lv_aload_n hx hb dX6_told_104 rfl (lv_at hl 0 rfl) ?_
                refine va_get (D := D) (ci := 6) (v := .ref (qn 0)) (C := RX6) (T := TX6) (N := 10) hx hb hts fw_6 hown hK hP 0 rfl rfl 0 (by decide) (hts _ m_fieldLink_P_12_P_now_LP_Cellar) (fun _ h9 => h9) rfl dX6_told_105 ?_
                refine va_get (D := D) (ci := 1) (v := .int (nf 1)) (C := RX1) (T := TX1) (N := 16) hx hb hts fw_1 hown hK hP 1 rfl rfl 1 (by decide) (hts _ m_fieldLink_P_135_P_Cellar_up_I) (fun _ h9 => h9) rfl dX6_told_108 ?_
                rw [hQ]
                exact ret_i C0 hP hD hS (by have e := Option.some.inj hf; rw [← e]; exact ⟨rfl, rfl⟩) dX6_told_111
              · replace hf := ie_of c12 hf
                by_cases c13 : a1 = 7
                · replace hf := it_of c13 hf
                  refine lv_tableIn (off := 111) (tgt := 112) hx hb dX6_told_1 (by rw [c13]; decide) (by rw [c13]; decide) (by rw [c13]; decide) (by decide) ?_
                  refine lv_aload_n hx hb dX6_told_112 rfl (lv_at hl 0 rfl) ?_
                  obtain ⟨r14q, tf_15, tg_16, tc_17, tv_18, hq19, hf⟩ := b5_of hf
                  refine callVI (As := []) (rest := []) (wr := segpick [(Po oo qn qk qt qx qa ts wa pf (chv qc sp)), (Cw qn cA (chv qc nc) nf ng), (Vw (qn 15) cA nv0), (Cw qt cA (chv qc tc0) tf0 tg0), (Vw (qt 15) cA tv0), (Vw wa cA wt0), (chPool cn qc cA cf cg)] [2, 5]) C0 (c_X6_hushed oo qn qk qt qx qa ts wa qc pf sp nf ng nc tf0 tg0 tc0 tv0 cn cf cg _ hq19) lk_X6_138_X6_hushed rfl hP hD hS (seg_out [(Po oo qn qk qt qx qa ts wa pf (chv qc sp)), (Cw qn cA (chv qc nc) nf ng), (Vw (qn 15) cA nv0), (Cw qt cA (chv qc tc0) tf0 tg0), (Vw (qt 15) cA tv0), (Vw wa cA wt0), (chPool cn qc cA cf cg)] [0, 1, 3, 4, 6] [2, 5] 7 rfl (by decide)) 0 6 rfl rfl rfl hl.1 rfl rfl (Nat.le_of_ble_eq_true rfl) dX6_told_113 ⟨Nat.zero_le _, Nat.zero_le _⟩ (fun r14 w H locs hw hP hD hS => ?_)
                  obtain ⟨e1, e2⟩ := hw
                  replace e1 : r14 = r14q := e1
                  subst e1
                  subst e2
                  replace hP : va_P D vwCl (List.flatten [(Po oo qn qk qt qx qa ts wa pf (chv qc sp)), (Cw qn cA (chv qc nc) nf ng), (Vw (qn 15) cA nv0), (Cw qt cA (chv qc tc_17) tf_15 tg_16), (Vw (qt 15) cA tv_18), (Vw wa cA wt0), (chPool cn qc cA cf cg)]) H := hP.perm (seg_out [(Po oo qn qk qt qx qa ts wa pf (chv qc sp)), (Cw qn cA (chv qc nc) nf ng), (Vw (qn 15) cA nv0), (Cw qt cA (chv qc tc_17) tf_15 tg_16), (Vw (qt 15) cA tv_18), (Vw wa cA wt0), (chPool cn qc cA cf cg)] [0, 1, 3, 4, 6] [2, 5] 7 rfl (by decide)).symm
                  replace hD : va_D A (List.flatten [(Po oo qn qk qt qx qa ts wa pf (chv qc sp)), (Cw qn cA (chv qc nc) nf ng), (Vw (qn 15) cA nv0), (Cw qt cA (chv qc tc_17) tf_15 tg_16), (Vw (qt 15) cA tv_18), (Vw wa cA wt0), (chPool cn qc cA cf cg)]) := hD.perm (seg_out [(Po oo qn qk qt qx qa ts wa pf (chv qc sp)), (Cw qn cA (chv qc nc) nf ng), (Vw (qn 15) cA nv0), (Cw qt cA (chv qc tc_17) tf_15 tg_16), (Vw (qt 15) cA tv_18), (Vw wa cA wt0), (chPool cn qc cA cf cg)] [0, 1, 3, 4, 6] [2, 5] 7 rfl (by decide)).symm
                  rw [hQ]
                  exact ret_i C0 hP hD hS (by have e := Option.some.inj hf; rw [← e]; exact ⟨rfl, rfl⟩) dX6_told_116
                · replace hf := ie_of c13 hf
                  by_cases c20 : a1 = 8
                  · replace hf := it_of c20 hf
                    refine lv_tableIn (off := 116) (tgt := 117) hx hb dX6_told_1 (by rw [c20]; decide) (by rw [c20]; decide) (by rw [c20]; decide) (by decide) ?_
                    refine lv_aload_n hx hb dX6_told_117 rfl (lv_at hl 0 rfl) ?_
                    refine lv_aload_n hx hb dX6_told_118 rfl (lv_at hl 0 rfl) ?_
                    obtain ⟨r21q, nv_22, wt_23, hq24, hf⟩ := b3_of hf
                    refine callVI (As := []) (rest := [.ref oo]) (wr := segpick [(Po oo qn qk qt qx qa ts wa pf (chv qc sp)), (Cw qn cA (chv qc nc) nf ng), (Vw (qn 15) cA nv0), (Cw qt cA (chv qc tc0) tf0 tg0), (Vw (qt 15) cA tv0), (Vw wa cA wt0), (chPool cn qc cA cf cg)] [3, 4]) C0 (c_X6_watch oo qn qk qt qx qa ts wa qc pf sp nf ng nc nv0 wt0 cn cf cg _ hq24) lk_X6_141_X6_watch rfl hP hD hS (seg_out [(Po oo qn qk qt qx qa ts wa pf (chv qc sp)), (Cw qn cA (chv qc nc) nf ng), (Vw (qn 15) cA nv0), (Cw qt cA (chv qc tc0) tf0 tg0), (Vw (qt 15) cA tv0), (Vw wa cA wt0), (chPool cn qc cA cf cg)] [0, 1, 2, 5, 6] [3, 4] 7 rfl (by decide)) 0 6 rfl rfl rfl hl.1 rfl rfl (Nat.le_of_ble_eq_true rfl) dX6_told_119 ⟨Nat.zero_le _, Nat.zero_le _⟩ (fun r21 w H locs hw hP hD hS => ?_)
                    obtain ⟨e1, e2⟩ := hw
                    replace e1 : r21 = r21q := e1
                    subst e1
                    subst e2
                    replace hP : va_P D vwCl (List.flatten [(Po oo qn qk qt qx qa ts wa pf (chv qc sp)), (Cw qn cA (chv qc nc) nf ng), (Vw (qn 15) cA nv_22), (Cw qt cA (chv qc tc0) tf0 tg0), (Vw (qt 15) cA tv0), (Vw wa cA wt_23), (chPool cn qc cA cf cg)]) H := hP.perm (seg_out [(Po oo qn qk qt qx qa ts wa pf (chv qc sp)), (Cw qn cA (chv qc nc) nf ng), (Vw (qn 15) cA nv_22), (Cw qt cA (chv qc tc0) tf0 tg0), (Vw (qt 15) cA tv0), (Vw wa cA wt_23), (chPool cn qc cA cf cg)] [0, 1, 2, 5, 6] [3, 4] 7 rfl (by decide)).symm
                    replace hD : va_D A (List.flatten [(Po oo qn qk qt qx qa ts wa pf (chv qc sp)), (Cw qn cA (chv qc nc) nf ng), (Vw (qn 15) cA nv_22), (Cw qt cA (chv qc tc0) tf0 tg0), (Vw (qt 15) cA tv0), (Vw wa cA wt_23), (chPool cn qc cA cf cg)]) := hD.perm (seg_out [(Po oo qn qk qt qx qa ts wa pf (chv qc sp)), (Cw qn cA (chv qc nc) nf ng), (Vw (qn 15) cA nv_22), (Cw qt cA (chv qc tc0) tf0 tg0), (Vw (qt 15) cA tv0), (Vw wa cA wt_23), (chPool cn qc cA cf cg)] [0, 1, 2, 5, 6] [3, 4] 7 rfl (by decide)).symm
                    obtain ⟨r25q, hq26, hf⟩ := b1_of hf
                    refine callVI (As := [.int r21]) (rest := []) (wr := segpick [(Po oo qn qk qt qx qa ts wa pf (chv qc sp)), (Cw qn cA (chv qc nc) nf ng), (Vw (qn 15) cA nv_22), (Cw qt cA (chv qc tc0) tf0 tg0), (Vw (qt 15) cA tv0), (Vw wa cA wt_23), (chPool cn qc cA cf cg)] [2, 3, 4, 6]) C0 (c_X6_apart oo qn qk qt qx qa ts wa qc pf sp nf ng nc wt_23 r21 _ hq26) lk_X6_144_X6_apart rfl hP hD hS (seg_out [(Po oo qn qk qt qx qa ts wa pf (chv qc sp)), (Cw qn cA (chv qc nc) nf ng), (Vw (qn 15) cA nv_22), (Cw qt cA (chv qc tc0) tf0 tg0), (Vw (qt 15) cA tv0), (Vw wa cA wt_23), (chPool cn qc cA cf cg)] [0, 1, 5] [2, 3, 4, 6] 7 rfl (by decide)) 0 6 rfl rfl rfl hl.1 rfl rfl (Nat.le_of_ble_eq_true rfl) dX6_told_122 ⟨Nat.zero_le _, Nat.zero_le _⟩ (fun r25 w H locs hw hP hD hS => ?_)
                    obtain ⟨e1, e2⟩ := hw
                    replace e1 : r25 = r25q := e1
                    subst e1
                    subst e2
                    replace hP : va_P D vwCl (List.flatten [(Po oo qn qk qt qx qa ts wa pf (chv qc sp)), (Cw qn cA (chv qc nc) nf ng), (Vw (qn 15) cA nv_22), (Cw qt cA (chv qc tc0) tf0 tg0), (Vw (qt 15) cA tv0), (Vw wa cA wt_23), (chPool cn qc cA cf cg)]) H := hP.perm (seg_out [(Po oo qn qk qt qx qa ts wa pf (chv qc sp)), (Cw qn cA (chv qc nc) nf ng), (Vw (qn 15) cA nv_22), (Cw qt cA (chv qc tc0) tf0 tg0), (Vw (qt 15) cA tv0), (Vw wa cA wt_23), (chPool cn qc cA cf cg)] [0, 1, 5] [2, 3, 4, 6] 7 rfl (by decide)).symm
                    replace hD : va_D A (List.flatten [(Po oo qn qk qt qx qa ts wa pf (chv qc sp)), (Cw qn cA (chv qc nc) nf ng), (Vw (qn 15) cA nv_22), (Cw qt cA (chv qc tc0) tf0 tg0), (Vw (qt 15) cA tv0), (Vw wa cA wt_23), (chPool cn qc cA cf cg)]) := hD.perm (seg_out [(Po oo qn qk qt qx qa ts wa pf (chv qc sp)), (Cw qn cA (chv qc nc) nf ng), (Vw (qn 15) cA nv_22), (Cw qt cA (chv qc tc0) tf0 tg0), (Vw (qt 15) cA tv0), (Vw wa cA wt_23), (chPool cn qc cA cf cg)] [0, 1, 5] [2, 3, 4, 6] 7 rfl (by decide)).symm
                    rw [hQ]
                    exact ret_i C0 hP hD hS (by have e := Option.some.inj hf; rw [← e]; exact ⟨rfl, rfl⟩) dX6_told_125
                  · replace hf := ie_of c20 hf
                    by_cases c27 : a1 = 9
                    · replace hf := it_of c27 hf
                      refine lv_tableIn (off := 125) (tgt := 126) hx hb dX6_told_1 (by rw [c27]; decide) (by rw [c27]; decide) (by rw [c27]; decide) (by decide) ?_
                      refine lv_aload_n hx hb dX6_told_126 rfl (lv_at hl 0 rfl) ?_
                      obtain ⟨r28q, nv_29, wt_30, hq31, hf⟩ := b3_of hf
                      refine callVI (As := []) (rest := []) (wr := segpick [(Po oo qn qk qt qx qa ts wa pf (chv qc sp)), (Cw qn cA (chv qc nc) nf ng), (Vw (qn 15) cA nv0), (Cw qt cA (chv qc tc0) tf0 tg0), (Vw (qt 15) cA tv0), (Vw wa cA wt0), (chPool cn qc cA cf cg)] [3, 4]) C0 (c_X6_watch oo qn qk qt qx qa ts wa qc pf sp nf ng nc nv0 wt0 cn cf cg _ hq31) lk_X6_141_X6_watch rfl hP hD hS (seg_out [(Po oo qn qk qt qx qa ts wa pf (chv qc sp)), (Cw qn cA (chv qc nc) nf ng), (Vw (qn 15) cA nv0), (Cw qt cA (chv qc tc0) tf0 tg0), (Vw (qt 15) cA tv0), (Vw wa cA wt0), (chPool cn qc cA cf cg)] [0, 1, 2, 5, 6] [3, 4] 7 rfl (by decide)) 0 6 rfl rfl rfl hl.1 rfl rfl (Nat.le_of_ble_eq_true rfl) dX6_told_127 ⟨Nat.zero_le _, Nat.zero_le _⟩ (fun r28 w H locs hw hP hD hS => ?_)
                      obtain ⟨e1, e2⟩ := hw
                      replace e1 : r28 = r28q := e1
                      subst e1
                      subst e2
                      replace hP : va_P D vwCl (List.flatten [(Po oo qn qk qt qx qa ts wa pf (chv qc sp)), (Cw qn cA (chv qc nc) nf ng), (Vw (qn 15) cA nv_29), (Cw qt cA (chv qc tc0) tf0 tg0), (Vw (qt 15) cA tv0), (Vw wa cA wt_30), (chPool cn qc cA cf cg)]) H := hP.perm (seg_out [(Po oo qn qk qt qx qa ts wa pf (chv qc sp)), (Cw qn cA (chv qc nc) nf ng), (Vw (qn 15) cA nv_29), (Cw qt cA (chv qc tc0) tf0 tg0), (Vw (qt 15) cA tv0), (Vw wa cA wt_30), (chPool cn qc cA cf cg)] [0, 1, 2, 5, 6] [3, 4] 7 rfl (by decide)).symm
                      replace hD : va_D A (List.flatten [(Po oo qn qk qt qx qa ts wa pf (chv qc sp)), (Cw qn cA (chv qc nc) nf ng), (Vw (qn 15) cA nv_29), (Cw qt cA (chv qc tc0) tf0 tg0), (Vw (qt 15) cA tv0), (Vw wa cA wt_30), (chPool cn qc cA cf cg)]) := hD.perm (seg_out [(Po oo qn qk qt qx qa ts wa pf (chv qc sp)), (Cw qn cA (chv qc nc) nf ng), (Vw (qn 15) cA nv_29), (Cw qt cA (chv qc tc0) tf0 tg0), (Vw (qt 15) cA tv0), (Vw wa cA wt_30), (chPool cn qc cA cf cg)] [0, 1, 2, 5, 6] [3, 4] 7 rfl (by decide)).symm
                      rw [hQ]
                      exact ret_i C0 hP hD hS (by have e := Option.some.inj hf; rw [← e]; exact ⟨rfl, rfl⟩) dX6_told_130
                    · replace hf := ie_of c27 hf
                      refine lv_tableOut (tgt := 131) hx hb dX6_told_1 (by have := lv_neT c1 (a := 0) (by decide); have := lv_neT c2 (a := 1) (by decide); have := lv_neT c5 (a := 2) (by decide); have := lv_neT c6 (a := 3) (by decide); have := lv_neT c7 (a := 4) (by decide); have := lv_neT c8 (a := 5) (by decide); have := lv_neT c12 (a := 6) (by decide); have := lv_neT c13 (a := 7) (by decide); have := lv_neT c20 (a := 8) (by decide); have := lv_neT c27 (a := 9) (by decide); omega) (by decide) ?_
                      refine lv_iconst (v := (-1)) hx hb dX6_told_131 (by decide) ?_
                      rw [hQ]
                      exact ret_i C0 hP hD hS (by have e := Option.some.inj hf; rw [← e]; exact ⟨rfl, rfl⟩) dX6_told_132
-- X6 pass
noncomputable def k_X6_pass (a1 : Int32) (nf0 : Nat → Int32) (ng0 : Nat → Nat → Int32) (nc : Option Nat) (nv0 : Nat → Int32) (cn : Nat) (cf : Nat → Nat → Int32) (cg : Nat → Nat → Nat → Int32) : Option (Int32 × (Nat → Int32) × (Nat → Nat → Int32) × (Nat → Int32)) := b1 (k_X6_isWithin a1 60) (fun r1 => if r1 = 0 then some ((-2), nf0, ng0, nv0) else if ((nf0 5) + a1) ≤ 9999 then b3 (k_X1_passDays a1 9999 nf0 ng0 nc nv0 cn cf cg) (fun nf_6 ng_7 nv_8 => some ((nf_6 5), nf_6, ng_7, nv_8)) else some ((-3), nf0, ng0, nv0))
set_option maxHeartbeats 4000000 in
set_option maxRecDepth 100000 in
theorem c_X6_pass {l : Launch} {D : va_G} {cA : Nat → ClassId} (oo : Nat) (qn : Nat → Nat) (qk : Nat → Nat) (qt : Nat → Nat) (qx : Nat → Nat) (qa : Nat → Nat) (ts : Nat) (wa : Nat) (qc : Nat → Nat → Nat) (pf : Nat → Int32) (sp : Option Nat) (nf0 : Nat → Int32) (ng0 : Nat → Nat → Int32) (nc : Option Nat) (nv0 : Nat → Int32) (cn : Nat) (cf : Nat → Nat → Int32) (cg : Nat → Nat → Nat → Int32) (a1 : Int32) (o : Int32 × (Nat → Int32) × (Nat → Nat → Int32) × (Nat → Int32)) (hf : k_X6_pass a1 nf0 ng0 nc nv0 cn cf cg = some o) : CI l D cA yX6_pass cX6_pass 2 (some .int) 5 119 [.ref oo, .int a1] (List.flatten [(Po oo qn qk qt qx qa ts wa pf (chv qc sp)), (Cw qn cA (chv qc nc) nf0 ng0), (Vw (qn 15) cA nv0), (chPool cn qc cA cf cg)]) 0 0 (fun r w => r = o.1 ∧ w = (List.flatten [(Po oo qn qk qt qx qa ts wa pf (chv qc sp)), (Cw qn cA (chv qc nc) o.2.1 o.2.2.1), (Vw (qn 15) cA o.2.2.2), (chPool cn qc cA cf cg)])) := by
  intro sz
  refine met_start (by decide) rfl ?_
  intro p e s m args below meth c ls hsz hargs C0 hname hP hD hS hl
  generalize hAe : va_A (List.flatten [(Po oo qn qk qt qx qa ts wa pf (chv qc sp)), (Cw qn cA (chv qc nc) nf0 ng0), (Vw (qn 15) cA nv0), (chPool cn qc cA cf cg)]) sz = A at C0 hD hS ⊢
  obtain ⟨hx, hb, hr, hml, hown, hts, hlk, hK, hA⟩ := id C0
  replace hl : lv_has ls 2 [(0, .ref oo), (1, .int a1)] := hl
  obtain ⟨Q, hQ⟩ : ∃ Q : State → Prop, Q = QI below D A (fun r w => r = o.1 ∧ w = (List.flatten [(Po oo qn qk qt qx qa ts wa pf (chv qc sp)), (Cw qn cA (chv qc nc) o.2.1 o.2.2.1), (Vw (qn 15) cA o.2.2.2), (chPool cn qc cA cf cg)])) args s 0 0 := ⟨_, rfl⟩
  refine cast (by rw [hQ]) (?_ : W p l e (RMx 5 119 0 0) s m args below meth c s.heap [] 0 0 Q (F0 m 0 ls []))
  unfold k_X6_pass at hf
  refine lv_iload_n hx hb dX6_pass_0 rfl (lv_at hl 1 rfl) ?_
  refine lv_bipush (v := 60) hx hb dX6_pass_1 (by decide) ?_
  obtain ⟨r1q, hq2, hf⟩ := b1_of hf
  refine callSI (As := [.int a1, .int 60]) (rest := []) (wr := (List.flatten [(Po oo qn qk qt qx qa ts wa pf (chv qc sp)), (Cw qn cA (chv qc nc) nf0 ng0), (Vw (qn 15) cA nv0), (chPool cn qc cA cf cg)])) C0 (c_X6_isWithin a1 60 _ hq2) lk_X6_49_X6_isWithin rfl hP hD hS (List.Perm.refl _) hl.1 rfl rfl (Nat.le_of_ble_eq_true rfl) dX6_pass_3 ⟨Nat.zero_le _, Nat.zero_le _⟩ (fun r1 w H locs hw hP hD hS => ?_)
  obtain ⟨⟨e1, e2⟩, z3⟩ := hw
  replace e1 : r1 = r1q := e1
  subst e1
  subst e2
  replace hP : va_P D vwCl (List.flatten [(Po oo qn qk qt qx qa ts wa pf (chv qc sp)), (Cw qn cA (chv qc nc) nf0 ng0), (Vw (qn 15) cA nv0), (chPool cn qc cA cf cg)]) H := hP
  replace hD : va_D A (List.flatten [(Po oo qn qk qt qx qa ts wa pf (chv qc sp)), (Cw qn cA (chv qc nc) nf0 ng0), (Vw (qn 15) cA nv0), (chPool cn qc cA cf cg)]) := hD
  refine lv_if_ne (tgt := 12) hx hb dX6_pass_6 (by decide) (fun c4 => ?_) (fun c4 => ?_)
  · replace hf := ie_of c4 hf
    refine lv_aload_n hx hb dX6_pass_12 rfl (lv_at hl 0 rfl) ?_
    refine va_get (D := D) (ci := 6) (v := .ref (qn 0)) (C := RX6) (T := TX6) (N := 10) hx hb hts fw_6 hown hK hP 0 rfl rfl 0 (by decide) (hts _ m_fieldLink_P_12_P_now_LP_Cellar) (fun _ h9 => h9) rfl dX6_pass_13 ?_
    refine va_get (D := D) (ci := 1) (v := .int (nf0 5)) (C := RX1) (T := TX1) (N := 16) hx hb hts fw_1 hown hK hP 1 rfl rfl 5 (by decide) (hts _ m_fieldLink_P_119_P_Cellar_day_I) (fun _ h9 => h9) rfl dX6_pass_16 ?_
    refine lv_iload_n hx hb dX6_pass_19 rfl (lv_at hl 1 rfl) ?_
    refine lv_iadd hx hb dX6_pass_20 ?_
    refine lv_sipush (v := 9999) hx hb dX6_pass_21 (by decide) ?_
    refine lv_icmp_le (tgt := 30) hx hb dX6_pass_24 (by decide) (fun c5 => ?_) (fun c5 => ?_)
    · replace hf := it_of c5 hf
      refine lv_aload_n hx hb dX6_pass_30 rfl (lv_at hl 0 rfl) ?_
      refine va_get (D := D) (ci := 6) (v := .ref (qn 0)) (C := RX6) (T := TX6) (N := 10) hx hb hts fw_6 hown hK hP 0 rfl rfl 0 (by decide) (hts _ m_fieldLink_P_12_P_now_LP_Cellar) (fun _ h9 => h9) rfl dX6_pass_31 ?_
      refine lv_iload_n hx hb dX6_pass_34 rfl (lv_at hl 1 rfl) ?_
      refine lv_sipush (v := 9999) hx hb dX6_pass_35 (by decide) ?_
      obtain ⟨nf_6, ng_7, nv_8, hq9, hf⟩ := b3_of hf
      refine callVV (As := [.int a1, .int 9999]) (rest := []) (wr := segpick [(Po oo qn qk qt qx qa ts wa pf (chv qc sp)), (Cw qn cA (chv qc nc) nf0 ng0), (Vw (qn 15) cA nv0), (chPool cn qc cA cf cg)] [0]) C0 (c_X1_passDays qn qc nf0 ng0 nc nv0 cn cf cg a1 9999 _ hq9) lk_X6_147_X1_passDays rfl hP hD hS (seg_out [(Po oo qn qk qt qx qa ts wa pf (chv qc sp)), (Cw qn cA (chv qc nc) nf0 ng0), (Vw (qn 15) cA nv0), (chPool cn qc cA cf cg)] [1, 2, 3] [0] 4 rfl (by decide)) 1 1 rfl rfl rfl hl.1 rfl rfl (Nat.le_of_ble_eq_true rfl) dX6_pass_38 ⟨Nat.zero_le _, Nat.zero_le _⟩ (fun w H locs hw hP hD hS => ?_)
      have e2 := hw
      subst e2
      replace hP : va_P D vwCl (List.flatten [(Po oo qn qk qt qx qa ts wa pf (chv qc sp)), (Cw qn cA (chv qc nc) nf_6 ng_7), (Vw (qn 15) cA nv_8), (chPool cn qc cA cf cg)]) H := hP.perm (seg_out [(Po oo qn qk qt qx qa ts wa pf (chv qc sp)), (Cw qn cA (chv qc nc) nf_6 ng_7), (Vw (qn 15) cA nv_8), (chPool cn qc cA cf cg)] [1, 2, 3] [0] 4 rfl (by decide)).symm
      replace hD : va_D A (List.flatten [(Po oo qn qk qt qx qa ts wa pf (chv qc sp)), (Cw qn cA (chv qc nc) nf_6 ng_7), (Vw (qn 15) cA nv_8), (chPool cn qc cA cf cg)]) := hD.perm (seg_out [(Po oo qn qk qt qx qa ts wa pf (chv qc sp)), (Cw qn cA (chv qc nc) nf_6 ng_7), (Vw (qn 15) cA nv_8), (chPool cn qc cA cf cg)] [1, 2, 3] [0] 4 rfl (by decide)).symm
      refine lv_aload_n hx hb dX6_pass_41 rfl (lv_at hl 0 rfl) ?_
      refine va_get (D := D) (ci := 6) (v := .ref (qn 0)) (C := RX6) (T := TX6) (N := 10) hx hb hts fw_6 hown hK hP 0 rfl rfl 0 (by decide) (hts _ m_fieldLink_P_12_P_now_LP_Cellar) (fun _ h9 => h9) rfl dX6_pass_42 ?_
      refine va_get (D := D) (ci := 1) (v := .int (nf_6 5)) (C := RX1) (T := TX1) (N := 16) hx hb hts fw_1 hown hK hP 1 rfl rfl 5 (by decide) (hts _ m_fieldLink_P_119_P_Cellar_day_I) (fun _ h9 => h9) rfl dX6_pass_45 ?_
      rw [hQ]
      exact ret_i C0 hP hD hS (by have e := Option.some.inj hf; rw [← e]; exact ⟨rfl, rfl⟩) dX6_pass_48
    · replace hf := ie_of c5 hf
      refine lv_bipush (v := (-3)) hx hb dX6_pass_27 (by decide) ?_
      rw [hQ]
      exact ret_i C0 hP hD hS (by have e := Option.some.inj hf; rw [← e]; exact ⟨rfl, rfl⟩) dX6_pass_29
  · replace hf := it_of c4 hf
    refine lv_bipush (v := (-2)) hx hb dX6_pass_9 (by decide) ?_
    rw [hQ]
    exact ret_i C0 hP hD hS (by have e := Option.some.inj hf; rw [← e]; exact ⟨rfl, rfl⟩) dX6_pass_11
-- X6 on
noncomputable def k_X6_on (a1 : Int32) (a2 : Int32) (nf : Nat → Int32) (ng : Nat → Nat → Int32) (nc : Option Nat) (tf0 : Nat → Int32) (tg0 : Nat → Nat → Int32) (tc0 : Option Nat) (tv0 : Nat → Int32) (cn : Nat) (cf : Nat → Nat → Int32) (cg : Nat → Nat → Nat → Int32) : Option (Int32 × (Nat → Int32) × (Nat → Nat → Int32) × Option Nat × (Nat → Int32)) := b1 (k_X6_isWithin a2 3) (fun r1 => if r1 = 0 then some ((-1), tf0, tg0, tc0, tv0) else b1 (k_X6_isWithin a1 60) (fun r5 => if r5 = 0 then some ((-2), tf0, tg0, tc0, tv0) else b3 (k_X6_begin nf ng nc tf0 tg0 tc0) (fun tf_9 tg_10 tc_11 => b3 (k_X1_passDays a1 1000000 tf_9 tg_10 tc_11 tv0 cn cf cg) (fun tf_13 tg_14 tv_15 => if a2 = 0 then some ((tf_13 2), tf_13, tg_14, tc_11, tv_15) else if a2 = 1 then some ((tf_13 3), tf_13, tg_14, tc_11, tv_15) else if a2 = 2 then some ((tf_13 4), tf_13, tg_14, tc_11, tv_15) else b2 (k_X1_sound tf_13 tg_14 tc_11 tv_15 cn cf cg) (fun r20 tv_21 => some (r20, tf_13, tg_14, tc_11, tv_21))))))
set_option maxHeartbeats 4000000 in
set_option maxRecDepth 100000 in
theorem c_X6_on {l : Launch} {D : va_G} {cA : Nat → ClassId} (oo : Nat) (qn : Nat → Nat) (qk : Nat → Nat) (qt : Nat → Nat) (qx : Nat → Nat) (qa : Nat → Nat) (ts : Nat) (wa : Nat) (qc : Nat → Nat → Nat) (pf : Nat → Int32) (sp : Option Nat) (nf : Nat → Int32) (ng : Nat → Nat → Int32) (nc : Option Nat) (tf0 : Nat → Int32) (tg0 : Nat → Nat → Int32) (tc0 : Option Nat) (tv0 : Nat → Int32) (cn : Nat) (cf : Nat → Nat → Int32) (cg : Nat → Nat → Nat → Int32) (a1 : Int32) (a2 : Int32) (o : Int32 × (Nat → Int32) × (Nat → Nat → Int32) × Option Nat × (Nat → Int32)) (hf : k_X6_on a1 a2 nf ng nc tf0 tg0 tc0 tv0 cn cf cg = some o) : CI l D cA yX6_on cX6_on 4 (some .int) 5 119 [.ref oo, .int a1, .int a2] (List.flatten [(Po oo qn qk qt qx qa ts wa pf (chv qc sp)), (Cw qn cA (chv qc nc) nf ng), (Cw qt cA (chv qc tc0) tf0 tg0), (Vw (qt 15) cA tv0), (chPool cn qc cA cf cg)]) 0 0 (fun r w => r = o.1 ∧ w = (List.flatten [(Po oo qn qk qt qx qa ts wa pf (chv qc sp)), (Cw qn cA (chv qc nc) nf ng), (Cw qt cA (chv qc o.2.2.2.1) o.2.1 o.2.2.1), (Vw (qt 15) cA o.2.2.2.2), (chPool cn qc cA cf cg)])) := by
  intro sz
  refine met_start (by decide) rfl ?_
  intro p e s m args below meth c ls hsz hargs C0 hname hP hD hS hl
  generalize hAe : va_A (List.flatten [(Po oo qn qk qt qx qa ts wa pf (chv qc sp)), (Cw qn cA (chv qc nc) nf ng), (Cw qt cA (chv qc tc0) tf0 tg0), (Vw (qt 15) cA tv0), (chPool cn qc cA cf cg)]) sz = A at C0 hD hS ⊢
  obtain ⟨hx, hb, hr, hml, hown, hts, hlk, hK, hA⟩ := id C0
  replace hl : lv_has ls 4 [(0, .ref oo), (1, .int a1), (2, .int a2)] := hl
  obtain ⟨Q, hQ⟩ : ∃ Q : State → Prop, Q = QI below D A (fun r w => r = o.1 ∧ w = (List.flatten [(Po oo qn qk qt qx qa ts wa pf (chv qc sp)), (Cw qn cA (chv qc nc) nf ng), (Cw qt cA (chv qc o.2.2.2.1) o.2.1 o.2.2.1), (Vw (qt 15) cA o.2.2.2.2), (chPool cn qc cA cf cg)])) args s 0 0 := ⟨_, rfl⟩
  refine cast (by rw [hQ]) (?_ : W p l e (RMx 5 119 0 0) s m args below meth c s.heap [] 0 0 Q (F0 m 0 ls []))
  unfold k_X6_on at hf
  refine lv_iload_n hx hb dX6_on_0 rfl (lv_at hl 2 rfl) ?_
  refine lv_iconst (v := 3) hx hb dX6_on_1 (by decide) ?_
  obtain ⟨r1q, hq2, hf⟩ := b1_of hf
  refine callSI (As := [.int a2, .int 3]) (rest := []) (wr := (List.flatten [(Po oo qn qk qt qx qa ts wa pf (chv qc sp)), (Cw qn cA (chv qc nc) nf ng), (Cw qt cA (chv qc tc0) tf0 tg0), (Vw (qt 15) cA tv0), (chPool cn qc cA cf cg)])) C0 (c_X6_isWithin a2 3 _ hq2) lk_X6_49_X6_isWithin rfl hP hD hS (List.Perm.refl _) hl.1 rfl rfl (Nat.le_of_ble_eq_true rfl) dX6_on_2 ⟨Nat.zero_le _, Nat.zero_le _⟩ (fun r1 w H locs hw hP hD hS => ?_)
  obtain ⟨⟨e1, e2⟩, z3⟩ := hw
  replace e1 : r1 = r1q := e1
  subst e1
  subst e2
  replace hP : va_P D vwCl (List.flatten [(Po oo qn qk qt qx qa ts wa pf (chv qc sp)), (Cw qn cA (chv qc nc) nf ng), (Cw qt cA (chv qc tc0) tf0 tg0), (Vw (qt 15) cA tv0), (chPool cn qc cA cf cg)]) H := hP
  replace hD : va_D A (List.flatten [(Po oo qn qk qt qx qa ts wa pf (chv qc sp)), (Cw qn cA (chv qc nc) nf ng), (Cw qt cA (chv qc tc0) tf0 tg0), (Vw (qt 15) cA tv0), (chPool cn qc cA cf cg)]) := hD
  refine lv_if_ne (tgt := 10) hx hb dX6_on_5 (by decide) (fun c4 => ?_) (fun c4 => ?_)
  · replace hf := ie_of c4 hf
    refine lv_iload_n hx hb dX6_on_10 rfl (lv_at hl 1 rfl) ?_
    refine lv_bipush (v := 60) hx hb dX6_on_11 (by decide) ?_
    obtain ⟨r5q, hq6, hf⟩ := b1_of hf
    refine callSI (As := [.int a1, .int 60]) (rest := []) (wr := (List.flatten [(Po oo qn qk qt qx qa ts wa pf (chv qc sp)), (Cw qn cA (chv qc nc) nf ng), (Cw qt cA (chv qc tc0) tf0 tg0), (Vw (qt 15) cA tv0), (chPool cn qc cA cf cg)])) C0 (c_X6_isWithin a1 60 _ hq6) lk_X6_49_X6_isWithin rfl hP hD hS (List.Perm.refl _) hl.1 rfl rfl (Nat.le_of_ble_eq_true rfl) dX6_on_13 ⟨Nat.zero_le _, Nat.zero_le _⟩ (fun r5 w H locs hw hP hD hS => ?_)
    obtain ⟨⟨e1, e2⟩, z7⟩ := hw
    replace e1 : r5 = r5q := e1
    subst e1
    subst e2
    replace hP : va_P D vwCl (List.flatten [(Po oo qn qk qt qx qa ts wa pf (chv qc sp)), (Cw qn cA (chv qc nc) nf ng), (Cw qt cA (chv qc tc0) tf0 tg0), (Vw (qt 15) cA tv0), (chPool cn qc cA cf cg)]) H := hP
    replace hD : va_D A (List.flatten [(Po oo qn qk qt qx qa ts wa pf (chv qc sp)), (Cw qn cA (chv qc nc) nf ng), (Cw qt cA (chv qc tc0) tf0 tg0), (Vw (qt 15) cA tv0), (chPool cn qc cA cf cg)]) := hD
    refine lv_if_ne (tgt := 22) hx hb dX6_on_16 (by decide) (fun c8 => ?_) (fun c8 => ?_)
    · replace hf := ie_of c8 hf
      refine lv_aload_n hx hb dX6_on_22 rfl (lv_at hl 0 rfl) ?_
      obtain ⟨tf_9, tg_10, tc_11, hq12, hf⟩ := b3_of hf
      refine callVR (As := []) (rest := []) (wr := segpick [(Po oo qn qk qt qx qa ts wa pf (chv qc sp)), (Cw qn cA (chv qc nc) nf ng), (Cw qt cA (chv qc tc0) tf0 tg0), (Vw (qt 15) cA tv0), (chPool cn qc cA cf cg)] [3, 4]) C0 (c_X6_begin oo qn qk qt qx qa ts wa qc pf sp nf ng nc tf0 tg0 tc0 _ hq12) lk_X6_151_X6_begin rfl hP hD hS (seg_out [(Po oo qn qk qt qx qa ts wa pf (chv qc sp)), (Cw qn cA (chv qc nc) nf ng), (Cw qt cA (chv qc tc0) tf0 tg0), (Vw (qt 15) cA tv0), (chPool cn qc cA cf cg)] [0, 1, 2] [3, 4] 5 rfl (by decide)) 0 6 rfl rfl rfl hl.1 rfl rfl (Nat.le_of_ble_eq_true rfl) dX6_on_23 ⟨Nat.zero_le _, Nat.zero_le _⟩ (fun rhq12_ w H locs hw hP hD hS => ?_)
      obtain ⟨e1, e2⟩ := hw
      subst e1
      subst e2
      replace hP : va_P D vwCl (List.flatten [(Po oo qn qk qt qx qa ts wa pf (chv qc sp)), (Cw qn cA (chv qc nc) nf ng), (Cw qt cA (chv qc tc_11) tf_9 tg_10), (Vw (qt 15) cA tv0), (chPool cn qc cA cf cg)]) H := hP.perm (seg_out [(Po oo qn qk qt qx qa ts wa pf (chv qc sp)), (Cw qn cA (chv qc nc) nf ng), (Cw qt cA (chv qc tc_11) tf_9 tg_10), (Vw (qt 15) cA tv0), (chPool cn qc cA cf cg)] [0, 1, 2] [3, 4] 5 rfl (by decide)).symm
      replace hD : va_D A (List.flatten [(Po oo qn qk qt qx qa ts wa pf (chv qc sp)), (Cw qn cA (chv qc nc) nf ng), (Cw qt cA (chv qc tc_11) tf_9 tg_10), (Vw (qt 15) cA tv0), (chPool cn qc cA cf cg)]) := hD.perm (seg_out [(Po oo qn qk qt qx qa ts wa pf (chv qc sp)), (Cw qn cA (chv qc nc) nf ng), (Cw qt cA (chv qc tc_11) tf_9 tg_10), (Vw (qt 15) cA tv0), (chPool cn qc cA cf cg)] [0, 1, 2] [3, 4] 5 rfl (by decide)).symm
      refine lv_astore_n (lv' := [(3, .ref (qt 0)), (0, .ref oo), (1, .int a1), (2, .int a2)]) hx hb dX6_on_26 rfl hl (by decide) rfl (fun ls hl => ?_)
      refine lv_aload_n hx hb dX6_on_27 rfl (lv_at hl 0 rfl) ?_
      refine lv_iload_n hx hb dX6_on_28 rfl (lv_at hl 2 rfl) ?_
      refine lv_ldc (v := 1000000) hx hb hown (hts _ m_constant_P_155_1000000) dX6_on_29 ?_
      obtain ⟨tf_13, tg_14, tv_15, hq16, hf⟩ := b3_of hf
      refine callVV (As := [.int a1, .int 1000000]) (rest := []) (wr := segpick [(Po oo qn qk qt qx qa ts wa pf (chv qc sp)), (Cw qn cA (chv qc nc) nf ng), (Cw qt cA (chv qc tc_11) tf_9 tg_10), (Vw (qt 15) cA tv0), (chPool cn qc cA cf cg)] [0, 1]) C0 (c_X1_passDays qt qc tf_9 tg_10 tc_11 tv0 cn cf cg a1 1000000 _ hq16) lk_X6_147_X1_passDays rfl hP hD hS (seg_out [(Po oo qn qk qt qx qa ts wa pf (chv qc sp)), (Cw qn cA (chv qc nc) nf ng), (Cw qt cA (chv qc tc_11) tf_9 tg_10), (Vw (qt 15) cA tv0), (chPool cn qc cA cf cg)] [2, 3, 4] [0, 1] 5 rfl (by decide)) 7 1 rfl rfl rfl hl.1 rfl rfl (Nat.le_of_ble_eq_true rfl) dX6_on_31 ⟨Nat.zero_le _, Nat.zero_le _⟩ (fun w H locs hw hP hD hS => ?_)
      have e2 := hw
      subst e2
      replace hP : va_P D vwCl (List.flatten [(Po oo qn qk qt qx qa ts wa pf (chv qc sp)), (Cw qn cA (chv qc nc) nf ng), (Cw qt cA (chv qc tc_11) tf_13 tg_14), (Vw (qt 15) cA tv_15), (chPool cn qc cA cf cg)]) H := hP.perm (seg_out [(Po oo qn qk qt qx qa ts wa pf (chv qc sp)), (Cw qn cA (chv qc nc) nf ng), (Cw qt cA (chv qc tc_11) tf_13 tg_14), (Vw (qt 15) cA tv_15), (chPool cn qc cA cf cg)] [2, 3, 4] [0, 1] 5 rfl (by decide)).symm
      replace hD : va_D A (List.flatten [(Po oo qn qk qt qx qa ts wa pf (chv qc sp)), (Cw qn cA (chv qc nc) nf ng), (Cw qt cA (chv qc tc_11) tf_13 tg_14), (Vw (qt 15) cA tv_15), (chPool cn qc cA cf cg)]) := hD.perm (seg_out [(Po oo qn qk qt qx qa ts wa pf (chv qc sp)), (Cw qn cA (chv qc nc) nf ng), (Cw qt cA (chv qc tc_11) tf_13 tg_14), (Vw (qt 15) cA tv_15), (chPool cn qc cA cf cg)] [2, 3, 4] [0, 1] 5 rfl (by decide)).symm
      refine lv_iload_n hx hb dX6_on_34 rfl (lv_at hl 3 rfl) ?_
      by_cases c17 : a2 = 0
      · replace hf := it_of c17 hf
        refine lv_tableIn (off := 25) (tgt := 60) hx hb dX6_on_35 (by rw [c17]; decide) (by rw [c17]; decide) (by rw [c17]; decide) (by decide) ?_
        refine lv_aload_n hx hb dX6_on_60 rfl (lv_at hl 0 rfl) ?_
        refine va_get (D := D) (ci := 1) (v := .int (tf_13 2)) (C := RX1) (T := TX1) (N := 16) hx hb hts fw_1 hown hK hP 7 rfl rfl 2 (by decide) (hts _ m_fieldLink_P_91_P_Cellar_fear_I) (fun _ h9 => h9) rfl dX6_on_61 ?_
        rw [hQ]
        exact ret_i C0 hP hD hS (by have e := Option.some.inj hf; rw [← e]; exact ⟨rfl, rfl⟩) dX6_on_64
      · replace hf := ie_of c17 hf
        by_cases c18 : a2 = 1
        · replace hf := it_of c18 hf
          refine lv_tableIn (off := 30) (tgt := 65) hx hb dX6_on_35 (by rw [c18]; decide) (by rw [c18]; decide) (by rw [c18]; decide) (by decide) ?_
          refine lv_aload_n hx hb dX6_on_65 rfl (lv_at hl 0 rfl) ?_
          refine va_get (D := D) (ci := 1) (v := .int (tf_13 3)) (C := RX1) (T := TX1) (N := 16) hx hb hts fw_1 hown hK hP 7 rfl rfl 3 (by decide) (hts _ m_fieldLink_P_126_P_Cellar_truths_I) (fun _ h9 => h9) rfl dX6_on_66 ?_
          rw [hQ]
          exact ret_i C0 hP hD hS (by have e := Option.some.inj hf; rw [← e]; exact ⟨rfl, rfl⟩) dX6_on_69
        · replace hf := ie_of c18 hf
          by_cases c19 : a2 = 2
          · replace hf := it_of c19 hf
            refine lv_tableIn (off := 35) (tgt := 70) hx hb dX6_on_35 (by rw [c19]; decide) (by rw [c19]; decide) (by rw [c19]; decide) (by decide) ?_
            refine lv_aload_n hx hb dX6_on_70 rfl (lv_at hl 0 rfl) ?_
            refine va_get (D := D) (ci := 1) (v := .int (tf_13 4)) (C := RX1) (T := TX1) (N := 16) hx hb hts fw_1 hown hK hP 7 rfl rfl 4 (by decide) (hts _ m_fieldLink_P_129_P_Cellar_silences_I) (fun _ h9 => h9) rfl dX6_on_71 ?_
            rw [hQ]
            exact ret_i C0 hP hD hS (by have e := Option.some.inj hf; rw [← e]; exact ⟨rfl, rfl⟩) dX6_on_74
          · replace hf := ie_of c19 hf
            refine lv_tableOut (tgt := 75) hx hb dX6_on_35 (by have := lv_neT c17 (a := 0) (by decide); have := lv_neT c18 (a := 1) (by decide); have := lv_neT c19 (a := 2) (by decide); omega) (by decide) ?_
            refine lv_aload_n hx hb dX6_on_75 rfl (lv_at hl 0 rfl) ?_
            obtain ⟨r20q, tv_21, hq22, hf⟩ := b2_of hf
            refine callVI (As := []) (rest := []) (wr := segpick [(Po oo qn qk qt qx qa ts wa pf (chv qc sp)), (Cw qn cA (chv qc nc) nf ng), (Cw qt cA (chv qc tc_11) tf_13 tg_14), (Vw (qt 15) cA tv_15), (chPool cn qc cA cf cg)] [0, 1]) C0 (c_X1_sound qt qc tf_13 tg_14 tc_11 tv_15 cn cf cg _ hq22) lk_X6_132_X1_sound rfl hP hD hS (seg_out [(Po oo qn qk qt qx qa ts wa pf (chv qc sp)), (Cw qn cA (chv qc nc) nf ng), (Cw qt cA (chv qc tc_11) tf_13 tg_14), (Vw (qt 15) cA tv_15), (chPool cn qc cA cf cg)] [2, 3, 4] [0, 1] 5 rfl (by decide)) 7 1 rfl rfl rfl hl.1 rfl rfl (Nat.le_of_ble_eq_true rfl) dX6_on_76 ⟨Nat.zero_le _, Nat.zero_le _⟩ (fun r20 w H locs hw hP hD hS => ?_)
            obtain ⟨e1, e2⟩ := hw
            replace e1 : r20 = r20q := e1
            subst e1
            subst e2
            replace hP : va_P D vwCl (List.flatten [(Po oo qn qk qt qx qa ts wa pf (chv qc sp)), (Cw qn cA (chv qc nc) nf ng), (Cw qt cA (chv qc tc_11) tf_13 tg_14), (Vw (qt 15) cA tv_21), (chPool cn qc cA cf cg)]) H := hP.perm (seg_out [(Po oo qn qk qt qx qa ts wa pf (chv qc sp)), (Cw qn cA (chv qc nc) nf ng), (Cw qt cA (chv qc tc_11) tf_13 tg_14), (Vw (qt 15) cA tv_21), (chPool cn qc cA cf cg)] [2, 3, 4] [0, 1] 5 rfl (by decide)).symm
            replace hD : va_D A (List.flatten [(Po oo qn qk qt qx qa ts wa pf (chv qc sp)), (Cw qn cA (chv qc nc) nf ng), (Cw qt cA (chv qc tc_11) tf_13 tg_14), (Vw (qt 15) cA tv_21), (chPool cn qc cA cf cg)]) := hD.perm (seg_out [(Po oo qn qk qt qx qa ts wa pf (chv qc sp)), (Cw qn cA (chv qc nc) nf ng), (Cw qt cA (chv qc tc_11) tf_13 tg_14), (Vw (qt 15) cA tv_21), (chPool cn qc cA cf cg)] [2, 3, 4] [0, 1] 5 rfl (by decide)).symm
            rw [hQ]
            exact ret_i C0 hP hD hS (by have e := Option.some.inj hf; rw [← e]; exact ⟨rfl, rfl⟩) dX6_on_79
    · replace hf := it_of c8 hf
      refine lv_bipush (v := (-2)) hx hb dX6_on_19 (by decide) ?_
      rw [hQ]
      exact ret_i C0 hP hD hS (by have e := Option.some.inj hf; rw [← e]; exact ⟨rfl, rfl⟩) dX6_on_21
  · replace hf := it_of c4 hf
    refine lv_iconst (v := (-1)) hx hb dX6_on_8 (by decide) ?_
    rw [hQ]
    exact ret_i C0 hP hD hS (by have e := Option.some.inj hf; rw [← e]; exact ⟨rfl, rfl⟩) dX6_on_9

-- X6 likelyNumbers
noncomputable def k_X6_likelyNumbers_4 (a1 : Int32) (nf : Nat → Int32) (ng : Nat → Nat → Int32) (nc : Option Nat) (nhc : Int32) (nha : Nat → Int32) (nhb : Nat → Int32) (cn : Nat) (cf : Nat → Nat → Int32) (cg : Nat → Nat → Nat → Int32) : Nat → Int32 → Int32 → (Nat → Int32) → (Nat → Nat → Int32) → Option Nat → (Nat → Int32) → Option (Int32 × (Nat → Int32) × (Nat → Nat → Int32) × Option Nat × (Nat → Int32))
  | 0, _, _, _, _, _, _ => none
  | n + 1, x2, x3, tf, tg, tc, tv => if 9 < x3 then some (x2, tf, tg, tc, tv) else b3 (k_X6_begin nf ng nc tf tg tc) (fun tf_2 tg_3 tc_4 => gd a1 6 (b4 (k_X6_isAsHeard nhc nha nhb tf_2 (va_up tg_3 8 (upd (tg_3 8) (Int32.toNatClampNeg a1) x3)) tc_4 tv cn cf cg) (fun r7 tf_8 tg_9 tv_10 => if r7 = 0 then k_X6_likelyNumbers_4 a1 nf ng nc nhc nha nhb cn cf cg n x2 (x3 + 1) tf_8 tg_9 tc_4 tv_10 else k_X6_likelyNumbers_4 a1 nf ng nc nhc nha nhb cn cf cg n (x2 ||| (1 <<< (x3 &&& 31))) (x3 + 1) tf_8 tg_9 tc_4 tv_10)))
noncomputable def k_X6_likelyNumbers (a1 : Int32) (nf : Nat → Int32) (ng : Nat → Nat → Int32) (nc : Option Nat) (nhc : Int32) (nha : Nat → Int32) (nhb : Nat → Int32) (tf0 : Nat → Int32) (tg0 : Nat → Nat → Int32) (tc0 : Option Nat) (tv0 : Nat → Int32) (cn : Nat) (cf : Nat → Nat → Int32) (cg : Nat → Nat → Nat → Int32) : Option (Int32 × (Nat → Int32) × (Nat → Nat → Int32) × Option Nat × (Nat → Int32)) := k_X6_likelyNumbers_4 a1 nf ng nc nhc nha nhb cn cf cg 100000 0 0 tf0 tg0 tc0 tv0
set_option maxHeartbeats 4000000 in
set_option maxRecDepth 100000 in
theorem c_X6_likelyNumbers {l : Launch} {D : va_G} {cA : Nat → ClassId} (o : Nat) (qn : Nat → Nat) (qk : Nat → Nat) (qt : Nat → Nat) (qx : Nat → Nat) (qa : Nat → Nat) (ts : Nat) (wa : Nat) (qc : Nat → Nat → Nat) (pf : Nat → Int32) (sp : Option Nat) (nf : Nat → Int32) (ng : Nat → Nat → Int32) (nc : Option Nat) (nhc : Int32) (nha : Nat → Int32) (nhb : Nat → Int32) (tf0 : Nat → Int32) (tg0 : Nat → Nat → Int32) (tc0 : Option Nat) (tv0 : Nat → Int32) (cn : Nat) (cf : Nat → Nat → Int32) (cg : Nat → Nat → Nat → Int32) (a1 : Int32) (o : Int32 × (Nat → Int32) × (Nat → Nat → Int32) × Option Nat × (Nat → Int32)) (hf : k_X6_likelyNumbers a1 nf ng nc nhc nha nhb tf0 tg0 tc0 tv0 cn cf cg = some o) : CI l D cA yX6_likelyNumbers cX6_likelyNumbers 5 (some .int) 5 121 [.ref o, .int a1] (List.flatten [(Po o qn qk qt qx qa ts wa pf (chv qc sp)), (Cw qn cA (chv qc nc) nf ng), (Rw (qn 12) (qn 20) (qn 21) cA 5 nhc nha nhb), (Cw qt cA (chv qc tc0) tf0 tg0), (Vw (qt 15) cA tv0), (chPool cn qc cA cf cg)]) 0 0 (fun r w => r = o.1 ∧ w = (List.flatten [(Po o qn qk qt qx qa ts wa pf (chv qc sp)), (Cw qn cA (chv qc nc) nf ng), (Rw (qn 12) (qn 20) (qn 21) cA 5 nhc nha nhb), (Cw qt cA (chv qc o.2.2.2.1) o.2.1 o.2.2.1), (Vw (qt 15) cA o.2.2.2.2), (chPool cn qc cA cf cg)])) := by
  intro sz
  refine met_start (by decide) rfl ?_
  intro p e s m args below meth c ls hsz hargs C0 hname hP hD hS hl
  generalize hAe : va_A (List.flatten [(Po o qn qk qt qx qa ts wa pf (chv qc sp)), (Cw qn cA (chv qc nc) nf ng), (Rw (qn 12) (qn 20) (qn 21) cA 5 nhc nha nhb), (Cw qt cA (chv qc tc0) tf0 tg0), (Vw (qt 15) cA tv0), (chPool cn qc cA cf cg)]) sz = A at C0 hD hS ⊢
  obtain ⟨hx, hb, hr, hml, hown, hts, hlk, hK, hA⟩ := id C0
  replace hl : lv_has ls 5 [(0, .ref o), (1, .int a1)] := hl
  obtain ⟨Q, hQ⟩ : ∃ Q : State → Prop, Q = QI below D A (fun r w => r = o.1 ∧ w = (List.flatten [(Po o qn qk qt qx qa ts wa pf (chv qc sp)), (Cw qn cA (chv qc nc) nf ng), (Rw (qn 12) (qn 20) (qn 21) cA 5 nhc nha nhb), (Cw qt cA (chv qc o.2.2.2.1) o.2.1 o.2.2.1), (Vw (qt 15) cA o.2.2.2.2), (chPool cn qc cA cf cg)])) args s 0 0 := ⟨_, rfl⟩
  refine cast (by rw [hQ]) (?_ : W p l e (RMx 5 121 0 0) s m args below meth c s.heap [] 0 0 Q (F0 m 0 ls []))
  have J4 : ∀ n : Nat, ∀ (x2 : Int32) (x3 : Int32) (tf : Nat → Int32) (tg : Nat → Nat → Int32) (tc : Option Nat) (tv : Nat → Int32), k_X6_likelyNumbers_4 a1 nf ng nc nhc nha nhb cn cf cg n x2 x3 tf tg tc tv = some o → ∀ (H : Heap) (locs : List Loc), va_P D vwCl (List.flatten [(Po o qn qk qt qx qa ts wa pf (chv qc sp)), (Cw qn cA (chv qc nc) nf ng), (Rw (qn 12) (qn 20) (qn 21) cA 5 nhc nha nhb), (Cw qt cA (chv qc tc) tf tg), (Vw (qt 15) cA tv), (chPool cn qc cA cf cg)]) H → va_D A (List.flatten [(Po o qn qk qt qx qa ts wa pf (chv qc sp)), (Cw qn cA (chv qc nc) nf ng), (Rw (qn 12) (qn 20) (qn 21) cA 5 nhc nha nhb), (Cw qt cA (chv qc tc) tf tg), (Vw (qt 15) cA tv), (chPool cn qc cA cf cg)]) → va_S A s.heap H locs → ∀ ls : Array Slot, lv_has ls 5 [(0, .ref o), (1, .int a1), (2, .int x2), (3, .int x3)] → W p l e (RMx 5 121 0 0) s m args below meth c H locs 0 0 Q (F0 m 4 ls []) := by
    intro  n
    induction n with
    | zero =>
      intro x2 x3 tf tg tc tv hf
      rw [k_X6_likelyNumbers_4] at hf
      cases hf
    | succ n ih =>
      intro x2 x3 tf tg tc tv hf H locs hP hD hS ls hl
      rw [k_X6_likelyNumbers_4] at hf
      refine lv_iload_n hx hb dX6_likelyNumbers_4 rfl (lv_at hl 3 rfl) ?_
      refine lv_bipush (v := 9) hx hb dX6_likelyNumbers_5 (by decide) ?_
      refine lv_icmp_gt (tgt := 45) hx hb dX6_likelyNumbers_7 (by decide) (fun c1 => ?_) (fun c1 => ?_)
      · replace hf := it_of c1 hf
        refine lv_iload_n hx hb dX6_likelyNumbers_45 rfl (lv_at hl 2 rfl) ?_
        rw [hQ]
        exact ret_i C0 hP hD hS (by have e := Option.some.inj hf; rw [← e]; exact ⟨rfl, rfl⟩) dX6_likelyNumbers_46
      · replace hf := ie_of c1 hf
        refine lv_aload_n hx hb dX6_likelyNumbers_10 rfl (lv_at hl 0 rfl) ?_
        obtain ⟨tf_2, tg_3, tc_4, hq5, hf⟩ := b3_of hf
        refine callVR (As := []) (rest := []) (wr := segpick [(Po o qn qk qt qx qa ts wa pf (chv qc sp)), (Cw qn cA (chv qc nc) nf ng), (Rw (qn 12) (qn 20) (qn 21) cA 5 nhc nha nhb), (Cw qt cA (chv qc tc) tf tg), (Vw (qt 15) cA tv), (chPool cn qc cA cf cg)] [2, 4, 5]) C0 (c_X6_begin o qn qk qt qx qa ts wa qc pf sp nf ng nc tf tg tc _ hq5) lk_X6_153_X6_begin rfl hP hD hS (seg_out [(Po o qn qk qt qx qa ts wa pf (chv qc sp)), (Cw qn cA (chv qc nc) nf ng), (Rw (qn 12) (qn 20) (qn 21) cA 5 nhc nha nhb), (Cw qt cA (chv qc tc) tf tg), (Vw (qt 15) cA tv), (chPool cn qc cA cf cg)] [0, 1, 3] [2, 4, 5] (by decide)) 0 6 rfl rfl rfl hl.1 rfl rfl (Nat.le_of_ble_eq_true rfl) dX6_likelyNumbers_11 ⟨Nat.zero_le _, Nat.zero_le _⟩ (fun rhq5_ w H locs hw hP hD hS => ?_)
        obtain ⟨e1, e2⟩ := hw
        subst e1
        subst e2
        replace hP : va_P D vwCl (List.flatten [(Po o qn qk qt qx qa ts wa pf (chv qc sp)), (Cw qn cA (chv qc nc) nf ng), (Rw (qn 12) (qn 20) (qn 21) cA 5 nhc nha nhb), (Cw qt cA (chv qc tc_4) tf_2 tg_3), (Vw (qt 15) cA tv), (chPool cn qc cA cf cg)]) H := hP.perm (seg_out [(Po o qn qk qt qx qa ts wa pf (chv qc sp)), (Cw qn cA (chv qc nc) nf ng), (Rw (qn 12) (qn 20) (qn 21) cA 5 nhc nha nhb), (Cw qt cA (chv qc tc_4) tf_2 tg_3), (Vw (qt 15) cA tv), (chPool cn qc cA cf cg)] [0, 1, 3] [2, 4, 5] (by decide)).symm
        replace hD : va_D A (List.flatten [(Po o qn qk qt qx qa ts wa pf (chv qc sp)), (Cw qn cA (chv qc nc) nf ng), (Rw (qn 12) (qn 20) (qn 21) cA 5 nhc nha nhb), (Cw qt cA (chv qc tc_4) tf_2 tg_3), (Vw (qt 15) cA tv), (chPool cn qc cA cf cg)]) := hD.perm (seg_out [(Po o qn qk qt qx qa ts wa pf (chv qc sp)), (Cw qn cA (chv qc nc) nf ng), (Rw (qn 12) (qn 20) (qn 21) cA 5 nhc nha nhb), (Cw qt cA (chv qc tc_4) tf_2 tg_3), (Vw (qt 15) cA tv), (chPool cn qc cA cf cg)] [0, 1, 3] [2, 4, 5] (by decide)).symm
        refine lv_astore (lv' := [(4, .ref (qt 0)), (0, .ref o), (1, .int a1), (2, .int x2), (3, .int x3)]) hx hb dX6_likelyNumbers_14 hl (by decide) rfl (fun ls hl => ?_)
        refine lv_aload hx hb dX6_likelyNumbers_16 (lv_at hl 0 rfl) ?_
        refine va_get (D := D) (ci := 1) (v := .ref (qt 8)) (C := RX1) (T := TX1) (N := 16) hx hb hts fw_1 hown hK hP 10 rfl rfl 8 (by decide) (hts _ m_fieldLink_P_70_P_Cellar_v_aI) (fun _ h9 => h9) rfl dX6_likelyNumbers_18 ?_
        refine lv_iload_n hx hb dX6_likelyNumbers_21 rfl (lv_at hl 2 rfl) ?_
        refine lv_iload_n hx hb dX6_likelyNumbers_22 rfl (lv_at hl 4 rfl) ?_
        obtain ⟨hi6, hf⟩ := gd_of hf
        refine va_iast hx hb hK hP hD hS 12 0 rfl rfl hi6 dX6_likelyNumbers_23 (fun H locs hP hD hS => ?_)
        replace hP : va_P D vwCl (List.flatten [(Po o qn qk qt qx qa ts wa pf (chv qc sp)), (Cw qn cA (chv qc nc) nf ng), (Rw (qn 12) (qn 20) (qn 21) cA 5 nhc nha nhb), (Cw qt cA (chv qc tc_4) tf_2 (va_up tg_3 8 (upd (tg_3 8) (Int32.toNatClampNeg a1) x3))), (Vw (qt 15) cA tv), (chPool cn qc cA cf cg)]) H := hP
        replace hD : va_D A (List.flatten [(Po o qn qk qt qx qa ts wa pf (chv qc sp)), (Cw qn cA (chv qc nc) nf ng), (Rw (qn 12) (qn 20) (qn 21) cA 5 nhc nha nhb), (Cw qt cA (chv qc tc_4) tf_2 (va_up tg_3 8 (upd (tg_3 8) (Int32.toNatClampNeg a1) x3))), (Vw (qt 15) cA tv), (chPool cn qc cA cf cg)]) := hD
        refine lv_aload_n hx hb dX6_likelyNumbers_24 rfl (lv_at hl 1 rfl) ?_
        refine lv_aload hx hb dX6_likelyNumbers_25 (lv_at hl 0 rfl) ?_
        obtain ⟨r7q, tf_8, tg_9, tv_10, hq11, hf⟩ := b4_of hf
        refine callVI (As := [.ref (qt 0)]) (rest := []) (wr := []) C0 (c_X6_isAsHeard o qn qk qt qx qa ts wa qc pf sp nf ng nc nhc nha nhb tf_2 (va_up tg_3 8 (upd (tg_3 8) (Int32.toNatClampNeg a1) x3)) tc_4 tv cn cf cg _ hq11) lk_X6_284_X6_isAsHeard rfl hP hD hS perm_nil 0 6 rfl rfl rfl hl.1 rfl rfl (Nat.le_of_ble_eq_true rfl) dX6_likelyNumbers_27 ⟨Nat.zero_le _, Nat.zero_le _⟩ (fun r7 w H locs hw hP hD hS => ?_)
        obtain ⟨⟨e1, e2⟩, z12⟩ := hw
        replace e1 : r7 = r7q := e1
        subst e1
        subst e2
        replace hP : va_P D vwCl (List.flatten [(Po o qn qk qt qx qa ts wa pf (chv qc sp)), (Cw qn cA (chv qc nc) nf ng), (Rw (qn 12) (qn 20) (qn 21) cA 5 nhc nha nhb), (Cw qt cA (chv qc tc_4) tf_8 tg_9), (Vw (qt 15) cA tv_10), (chPool cn qc cA cf cg)]) H := hP.nil
        replace hD : va_D A (List.flatten [(Po o qn qk qt qx qa ts wa pf (chv qc sp)), (Cw qn cA (chv qc nc) nf ng), (Rw (qn 12) (qn 20) (qn 21) cA 5 nhc nha nhb), (Cw qt cA (chv qc tc_4) tf_8 tg_9), (Vw (qt 15) cA tv_10), (chPool cn qc cA cf cg)]) := hD.nil
        refine lv_if_eq (tgt := 39) hx hb dX6_likelyNumbers_30 (by decide) (fun c13 => ?_) (fun c13 => ?_)
        · replace hf := it_of c13 hf
          refine lv_iinc (v := (x3 + 1)) (lv' := [(3, .int (x3 + 1)), (4, .ref (qt 0)), (0, .ref o), (1, .int a1), (2, .int x2)]) hx hb dX6_likelyNumbers_39 hl (k := 4) rfl rfl (by decide) rfl (fun ls hl => ?_)
          refine lv_goto (tgt := 4) hx hb dX6_likelyNumbers_42 (by decide) ?_
          exact ih x2 (x3 + 1) tf_8 tg_9 tc_4 tv_10 hf _ _ hP hD hS _ (lv_sub hl [2, 3, 4, 0] rfl)
        · replace hf := ie_of c13 hf
          refine lv_iload_n hx hb dX6_likelyNumbers_33 rfl (lv_at hl 3 rfl) ?_
          refine lv_iconst (v := 1) hx hb dX6_likelyNumbers_34 (by decide) ?_
          refine lv_iload_n hx hb dX6_likelyNumbers_35 rfl (lv_at hl 4 rfl) ?_
          refine lv_ishl hx hb dX6_likelyNumbers_36 ?_
          refine lv_ior hx hb dX6_likelyNumbers_37 ?_
          refine lv_istore_n (lv' := [(2, .int (x2 ||| (1 <<< (x3 &&& 31)))), (4, .ref (qt 0)), (0, .ref o), (1, .int a1), (3, .int x3)]) hx hb dX6_likelyNumbers_38 rfl hl (by decide) rfl (fun ls hl => ?_)
          refine lv_iinc (v := (x3 + 1)) (lv' := [(3, .int (x3 + 1)), (2, .int (x2 ||| (1 <<< (x3 &&& 31)))), (4, .ref (qt 0)), (0, .ref o), (1, .int a1)]) hx hb dX6_likelyNumbers_39 hl (k := 4) rfl rfl (by decide) rfl (fun ls hl => ?_)
          refine lv_goto (tgt := 4) hx hb dX6_likelyNumbers_42 (by decide) ?_
          exact ih (x2 ||| (1 <<< (x3 &&& 31))) (x3 + 1) tf_8 tg_9 tc_4 tv_10 hf _ _ hP hD hS _ (lv_sub hl [3, 4, 1, 0] rfl)
  unfold k_X6_likelyNumbers at hf
  refine lv_iconst (v := 0) hx hb dX6_likelyNumbers_0 (by decide) ?_
  refine lv_istore_n (lv' := [(2, .int 0), (0, .ref o), (1, .int a1)]) hx hb dX6_likelyNumbers_1 rfl hl (by decide) rfl (fun ls hl => ?_)
  refine lv_iconst (v := 0) hx hb dX6_likelyNumbers_2 (by decide) ?_
  refine lv_istore_n (lv' := [(3, .int 0), (2, .int 0), (0, .ref o), (1, .int a1)]) hx hb dX6_likelyNumbers_3 rfl hl (by decide) rfl (fun ls hl => ?_)
  exact J4 100000 0 0 tf0 tg0 tc0 tv0 hf _ _ hP hD hS _ (lv_sub hl [2, 3, 1, 0] rfl)
-- X6 leastOf
noncomputable def k_X6_leastOf_2 (a0 : Int32) : Nat → Int32 → Option Int32
  | 0, _ => none
  | n + 1, x1 => if 9 < x1 then some (-5) else if ((a0 >>> (x1 &&& 31)) &&& 1) = 0 then k_X6_leastOf_2 a0 n (x1 + 1) else some x1
noncomputable def k_X6_leastOf (a0 : Int32) : Option Int32 := k_X6_leastOf_2 a0 100000 0
set_option maxHeartbeats 4000000 in
set_option maxRecDepth 100000 in
theorem c_X6_leastOf {l : Launch} {D : va_G} {cA : Nat → ClassId}   (a0 : Int32) (o : Int32) (hf : k_X6_leastOf a0 = some o) : CI l D cA yX6_leastOf cX6_leastOf 2 (some .int) 0 0 [.int a0] ([] : va_W) 0 0 (fun r w => r = o ∧ w = ([] : va_W)) := by
  intro sz
  refine met_start (by decide) rfl ?_
  intro p e s m args below meth c ls hsz hargs C0 hname hP hD hS hl
  generalize hAe : va_A ([] : va_W) sz = A at C0 hD hS ⊢
  obtain ⟨hx, hb, hr, hml, hown, hts, hlk, hK, hA⟩ := id C0
  replace hl : lv_has ls 2 [(0, .int a0)] := hl
  obtain ⟨Q, hQ⟩ : ∃ Q : State → Prop, Q = QI below D A (fun r w => r = o ∧ w = ([] : va_W)) args s 0 0 := ⟨_, rfl⟩
  refine cast (by rw [hQ]) (?_ : W p l e (RMx 0 0 0 0) s m args below meth c s.heap [] 0 0 Q (F0 m 0 ls []))
  have J2 : ∀ n : Nat, ∀ (x1 : Int32), k_X6_leastOf_2 a0 n x1 = some o → ∀ (H : Heap) (locs : List Loc), va_P D vwCl ([] : va_W) H → va_D A ([] : va_W) → va_S A s.heap H locs → ∀ ls : Array Slot, lv_has ls 2 [(0, .int a0), (1, .int x1)] → W p l e (RMx 0 0 0 0) s m args below meth c H locs 0 0 Q (F0 m 2 ls []) := by
    intro  n
    induction n with
    | zero =>
      intro x1 hf
      rw [k_X6_leastOf_2] at hf
      cases hf
    | succ n ih =>
      intro x1 hf H locs hP hD hS ls hl
      rw [k_X6_leastOf_2] at hf
      refine lv_iload_n hx hb dX6_leastOf_2 rfl (lv_at hl 1 rfl) ?_
      refine lv_bipush (v := 9) hx hb dX6_leastOf_3 (by decide) ?_
      refine lv_icmp_gt (tgt := 24) hx hb dX6_leastOf_5 (by decide) (fun c1 => ?_) (fun c1 => ?_)
      · replace hf := it_of c1 hf
        refine lv_bipush (v := (-5)) hx hb dX6_leastOf_24 (by decide) ?_
        rw [hQ]
        exact ret_i C0 hP hD hS (by have e := Option.some.inj hf; rw [← e]; exact ⟨rfl, rfl⟩) dX6_leastOf_26
      · replace hf := ie_of c1 hf
        refine lv_iload_n hx hb dX6_leastOf_8 rfl (lv_at hl 0 rfl) ?_
        refine lv_iload_n hx hb dX6_leastOf_9 rfl (lv_at hl 1 rfl) ?_
        refine lv_ishr hx hb dX6_leastOf_10 ?_
        refine lv_iconst (v := 1) hx hb dX6_leastOf_11 (by decide) ?_
        refine lv_iand hx hb dX6_leastOf_12 ?_
        refine lv_if_eq (tgt := 18) hx hb dX6_leastOf_13 (by decide) (fun c2 => ?_) (fun c2 => ?_)
        · replace hf := it_of c2 hf
          refine lv_iinc (v := (x1 + 1)) (lv' := [(1, .int (x1 + 1)), (0, .int a0)]) hx hb dX6_leastOf_18 hl (k := 1) rfl rfl (by decide) rfl (fun ls hl => ?_)
          refine lv_goto (tgt := 2) hx hb dX6_leastOf_21 (by decide) ?_
          exact ih (x1 + 1) hf _ _ hP hD hS _ (lv_sub hl [1, 0] rfl)
        · replace hf := ie_of c2 hf
          refine lv_iload_n hx hb dX6_leastOf_16 rfl (lv_at hl 1 rfl) ?_
          rw [hQ]
          exact ret_i C0 hP hD hS (by have e := Option.some.inj hf; rw [← e]; exact ⟨rfl, rfl⟩) dX6_leastOf_17
  unfold k_X6_leastOf at hf
  refine lv_iconst (v := 0) hx hb dX6_leastOf_0 (by decide) ?_
  refine lv_istore_n (lv' := [(1, .int 0), (0, .int a0)]) hx hb dX6_leastOf_1 rfl hl (by decide) rfl (fun ls hl => ?_)
  exact J2 100000 0 hf _ _ hP hD hS _ (lv_sub hl [1, 0] rfl)
-- X6 lowest
noncomputable def k_X6_lowest_13 (a0 : Int32) (a1 : Int32) : Nat → Int32 → Int32 → Option Int64
  | 0, _, _ => none
  | n + 1, x3, x4 => if x4 ≤ 1 then some (Int32.toInt64 x3) else gz x4 (if (a0 - a0 / x4 * x4) = 0 then gz x4 (if (a1 - a1 / x4 * x4) = 0 then gz x4 (some (Int32.toInt64 (x3 / x4))) else k_X6_lowest_13 a0 a1 n x3 (x4 + (-1))) else k_X6_lowest_13 a0 a1 n x3 (x4 + (-1)))
noncomputable def k_X6_lowest (a0 : Int32) (a1 : Int32) (a2 : Int32) : Option Int64 := if a2 = 0 then k_X6_lowest_13 a0 a1 100000 a0 a1 else k_X6_lowest_13 a0 a1 100000 a1 a1
set_option maxHeartbeats 4000000 in
set_option maxRecDepth 100000 in
theorem c_X6_lowest {l : Launch} {D : va_G} {cA : Nat → ClassId}   (a0 : Int32) (a1 : Int32) (a2 : Int32) (o : Int64) (hf : k_X6_lowest a0 a1 a2 = some o) : CL l D cA yX6_lowest cX6_lowest 5 (some .long) 0 0 [.int a0, .int a1, .int a2] ([] : va_W) 0 0 (fun r w => r = o ∧ w = ([] : va_W)) := by
  intro sz
  refine met_start (by decide) rfl ?_
  intro p e s m args below meth c ls hsz hargs C0 hname hP hD hS hl
  generalize hAe : va_A ([] : va_W) sz = A at C0 hD hS ⊢
  obtain ⟨hx, hb, hr, hml, hown, hts, hlk, hK, hA⟩ := id C0
  replace hl : lv_has ls 5 [(0, .int a0), (1, .int a1), (2, .int a2)] := hl
  obtain ⟨Q, hQ⟩ : ∃ Q : State → Prop, Q = QL below D A (fun r w => r = o ∧ w = ([] : va_W)) args s 0 0 := ⟨_, rfl⟩
  refine cast (by rw [hQ]) (?_ : W p l e (RMx 0 0 0 0) s m args below meth c s.heap [] 0 0 Q (F0 m 0 ls []))
  have J13 : ∀ n : Nat, ∀ (x3 : Int32) (x4 : Int32), k_X6_lowest_13 a0 a1 n x3 x4 = some o → ∀ (H : Heap) (locs : List Loc), va_P D vwCl ([] : va_W) H → va_D A ([] : va_W) → va_S A s.heap H locs → ∀ ls : Array Slot, lv_has ls 5 [(0, .int a0), (1, .int a1), (3, .int x3), (4, .int x4)] → W p l e (RMx 0 0 0 0) s m args below meth c H locs 0 0 Q (F0 m 13 ls []) := by
    intro  n
    induction n with
    | zero =>
      intro x3 x4 hf
      rw [k_X6_lowest_13] at hf
      cases hf
    | succ n ih =>
      intro x3 x4 hf H locs hP hD hS ls hl
      rw [k_X6_lowest_13] at hf
      refine lv_iload hx hb dX6_lowest_13 (lv_at hl 3 rfl) ?_
      refine lv_iconst (v := 1) hx hb dX6_lowest_15 (by decide) ?_
      refine lv_icmp_le (tgt := 45) hx hb dX6_lowest_16 (by decide) (fun c1 => ?_) (fun c1 => ?_)
      · replace hf := it_of c1 hf
        refine lv_iload_n hx hb dX6_lowest_45 rfl (lv_at hl 2 rfl) ?_
        refine lv_i2l (v := (Int32.toInt64 x3)) hx hb dX6_lowest_46 rfl ?_
        rw [hQ]
        exact ret_l C0 hP hD hS (by have e := Option.some.inj hf; rw [← e]; exact ⟨rfl, rfl⟩) dX6_lowest_47
      · replace hf := ie_of c1 hf
        refine lv_iload_n hx hb dX6_lowest_19 rfl (lv_at hl 0 rfl) ?_
        refine lv_iload hx hb dX6_lowest_20 (lv_at hl 3 rfl) ?_
        obtain ⟨hz2, hf⟩ := gz_of hf
        refine lv_irem hx hb dX6_lowest_22 hz2 ?_
        refine lv_if_ne (tgt := 39) hx hb dX6_lowest_23 (by decide) (fun c3 => ?_) (fun c3 => ?_)
        · replace hf := ie_of c3 hf
          refine lv_iinc (v := (x4 + (-1))) (lv' := [(4, .int (x4 + (-1))), (0, .int a0), (1, .int a1), (3, .int x3)]) hx hb dX6_lowest_39 hl (k := 3) rfl rfl (by decide) rfl (fun ls hl => ?_)
          refine lv_goto (tgt := 13) hx hb dX6_lowest_42 (by decide) ?_
          exact ih x3 (x4 + (-1)) hf _ _ hP hD hS _ (lv_sub hl [1, 2, 3, 0] rfl)
        · replace hf := it_of c3 hf
          refine lv_iload_n hx hb dX6_lowest_26 rfl (lv_at hl 1 rfl) ?_
          refine lv_iload hx hb dX6_lowest_27 (lv_at hl 3 rfl) ?_
          obtain ⟨hz4, hf⟩ := gz_of hf
          refine lv_irem hx hb dX6_lowest_29 hz4 ?_
          refine lv_if_ne (tgt := 39) hx hb dX6_lowest_30 (by decide) (fun c5 => ?_) (fun c5 => ?_)
          · replace hf := ie_of c5 hf
            refine lv_iinc (v := (x4 + (-1))) (lv' := [(4, .int (x4 + (-1))), (0, .int a0), (1, .int a1), (3, .int x3)]) hx hb dX6_lowest_39 hl (k := 3) rfl rfl (by decide) rfl (fun ls hl => ?_)
            refine lv_goto (tgt := 13) hx hb dX6_lowest_42 (by decide) ?_
            exact ih x3 (x4 + (-1)) hf _ _ hP hD hS _ (lv_sub hl [1, 2, 3, 0] rfl)
          · replace hf := it_of c5 hf
            refine lv_iload_n hx hb dX6_lowest_33 rfl (lv_at hl 2 rfl) ?_
            refine lv_iload hx hb dX6_lowest_34 (lv_at hl 3 rfl) ?_
            obtain ⟨hz6, hf⟩ := gz_of hf
            refine lv_idiv hx hb dX6_lowest_36 hz6 ?_
            refine lv_i2l (v := (Int32.toInt64 (x3 / x4))) hx hb dX6_lowest_37 rfl ?_
            rw [hQ]
            exact ret_l C0 hP hD hS (by have e := Option.some.inj hf; rw [← e]; exact ⟨rfl, rfl⟩) dX6_lowest_38
  unfold k_X6_lowest at hf
  refine lv_iload_n hx hb dX6_lowest_0 rfl (lv_at hl 2 rfl) ?_
  refine lv_if_ne (tgt := 8) hx hb dX6_lowest_1 (by decide) (fun c1 => ?_) (fun c1 => ?_)
  · replace hf := ie_of c1 hf
    refine lv_iload_n hx hb dX6_lowest_8 rfl (lv_at hl 1 rfl) ?_
    refine lv_istore_n (lv' := [(3, .int a1), (0, .int a0), (1, .int a1), (2, .int a2)]) hx hb dX6_lowest_9 rfl hl (by decide) rfl (fun ls hl => ?_)
    refine lv_iload_n hx hb dX6_lowest_10 rfl (lv_at hl 2 rfl) ?_
    refine lv_istore (lv' := [(4, .int a1), (3, .int a1), (0, .int a0), (1, .int a1), (2, .int a2)]) hx hb dX6_lowest_11 hl (by decide) rfl (fun ls hl => ?_)
    exact J13 100000 a1 a1 hf _ _ hP hD hS _ (lv_sub hl [2, 3, 1, 0] rfl)
  · replace hf := it_of c1 hf
    refine lv_iload_n hx hb dX6_lowest_4 rfl (lv_at hl 0 rfl) ?_
    refine lv_goto (tgt := 9) hx hb dX6_lowest_5 (by decide) ?_
    refine lv_istore_n (lv' := [(3, .int a0), (0, .int a0), (1, .int a1), (2, .int a2)]) hx hb dX6_lowest_9 rfl hl (by decide) rfl (fun ls hl => ?_)
    refine lv_iload_n hx hb dX6_lowest_10 rfl (lv_at hl 2 rfl) ?_
    refine lv_istore (lv' := [(4, .int a1), (3, .int a0), (0, .int a0), (1, .int a1), (2, .int a2)]) hx hb dX6_lowest_11 hl (by decide) rfl (fun ls hl => ?_)
    exact J13 100000 a0 a1 hf _ _ hP hD hS _ (lv_sub hl [2, 3, 1, 0] rfl)
-- X6 odds
noncomputable def k_X6_odds_36 (a1 : Int32) (a2 : Int32) (nf : Nat → Int32) (ng : Nat → Nat → Int32) (nc : Option Nat) (cn : Nat) (cf : Nat → Nat → Int32) (cg : Nat → Nat → Nat → Int32) : Nat → Int32 → Int32 → (Nat → Int32) → (Nat → Nat → Int32) → Option Nat → (Nat → Int32) → Option (Int64 × (Nat → Int32) × (Nat → Nat → Int32) × Option Nat × (Nat → Int32))
  | 0, _, _, _, _, _, _ => none
  | n + 1, x3, x4, tf, tg, tc, tv => if (nf 0) ≤ x4 then b1 (k_X6_lowest x3 (nf 0) a2) (fun r2 => some (r2, tf, tg, tc, tv)) else b5 (k_X6_truthsBehind a1 ((nf 1) ^^^ (1 <<< (x4 &&& 31))) nf ng nc tf tg tc tv cn cf cg) (fun r4 tf_5 tg_6 tc_7 tv_8 => if r4 ≤ (nf 3) then k_X6_odds_36 a1 a2 nf ng nc cn cf cg n x3 (x4 + 1) tf_5 tg_6 tc_7 tv_8 else k_X6_odds_36 a1 a2 nf ng nc cn cf cg n (x3 + 1) (x4 + 1) tf_5 tg_6 tc_7 tv_8)
noncomputable def k_X6_odds (a1 : Int32) (a2 : Int32) (nf : Nat → Int32) (ng : Nat → Nat → Int32) (nc : Option Nat) (tf0 : Nat → Int32) (tg0 : Nat → Nat → Int32) (tc0 : Option Nat) (tv0 : Nat → Int32) (cn : Nat) (cf : Nat → Nat → Int32) (cg : Nat → Nat → Nat → Int32) : Option (Int64 × (Nat → Int32) × (Nat → Nat → Int32) × Option Nat × (Nat → Int32)) := b1 (k_X6_isWithin a1 20) (fun r1 => if r1 = 0 then some ((-9223372036854775808), tf0, tg0, tc0, tv0) else b1 (k_X6_isWithin a2 1) (fun r5 => if r5 = 0 then some ((-9223372036854775808), tf0, tg0, tc0, tv0) else if (nf 0) = 0 then some ((-9223372036854775808), tf0, tg0, tc0, tv0) else k_X6_odds_36 a1 a2 nf ng nc cn cf cg 100000 0 0 tf0 tg0 tc0 tv0))
set_option maxHeartbeats 4000000 in
set_option maxRecDepth 100000 in
theorem c_X6_odds {l : Launch} {D : va_G} {cA : Nat → ClassId} (o : Nat) (qn : Nat → Nat) (qk : Nat → Nat) (qt : Nat → Nat) (qx : Nat → Nat) (qa : Nat → Nat) (ts : Nat) (wa : Nat) (qc : Nat → Nat → Nat) (pf : Nat → Int32) (sp : Option Nat) (nf : Nat → Int32) (ng : Nat → Nat → Int32) (nc : Option Nat) (tf0 : Nat → Int32) (tg0 : Nat → Nat → Int32) (tc0 : Option Nat) (tv0 : Nat → Int32) (cn : Nat) (cf : Nat → Nat → Int32) (cg : Nat → Nat → Nat → Int32) (a1 : Int32) (a2 : Int32) (o : Int64 × (Nat → Int32) × (Nat → Nat → Int32) × Option Nat × (Nat → Int32)) (hf : k_X6_odds a1 a2 nf ng nc tf0 tg0 tc0 tv0 cn cf cg = some o) : CL l D cA yX6_odds cX6_odds 5 (some .long) 5 120 [.ref o, .int a1, .int a2] (List.flatten [(Po o qn qk qt qx qa ts wa pf (chv qc sp)), (Cw qn cA (chv qc nc) nf ng), (Cw qt cA (chv qc tc0) tf0 tg0), (Vw (qt 15) cA tv0), (chPool cn qc cA cf cg)]) 0 0 (fun r w => r = o.1 ∧ w = (List.flatten [(Po o qn qk qt qx qa ts wa pf (chv qc sp)), (Cw qn cA (chv qc nc) nf ng), (Cw qt cA (chv qc o.2.2.2.1) o.2.1 o.2.2.1), (Vw (qt 15) cA o.2.2.2.2), (chPool cn qc cA cf cg)])) := by
  intro sz
  refine met_start (by decide) rfl ?_
  intro p e s m args below meth c ls hsz hargs C0 hname hP hD hS hl
  generalize hAe : va_A (List.flatten [(Po o qn qk qt qx qa ts wa pf (chv qc sp)), (Cw qn cA (chv qc nc) nf ng), (Cw qt cA (chv qc tc0) tf0 tg0), (Vw (qt 15) cA tv0), (chPool cn qc cA cf cg)]) sz = A at C0 hD hS ⊢
  obtain ⟨hx, hb, hr, hml, hown, hts, hlk, hK, hA⟩ := id C0
  replace hl : lv_has ls 5 [(0, .ref o), (1, .int a1), (2, .int a2)] := hl
  obtain ⟨Q, hQ⟩ : ∃ Q : State → Prop, Q = QL below D A (fun r w => r = o.1 ∧ w = (List.flatten [(Po o qn qk qt qx qa ts wa pf (chv qc sp)), (Cw qn cA (chv qc nc) nf ng), (Cw qt cA (chv qc o.2.2.2.1) o.2.1 o.2.2.1), (Vw (qt 15) cA o.2.2.2.2), (chPool cn qc cA cf cg)])) args s 0 0 := ⟨_, rfl⟩
  refine cast (by rw [hQ]) (?_ : W p l e (RMx 5 120 0 0) s m args below meth c s.heap [] 0 0 Q (F0 m 0 ls []))
  have J36 : ∀ n : Nat, ∀ (x3 : Int32) (x4 : Int32) (tf : Nat → Int32) (tg : Nat → Nat → Int32) (tc : Option Nat) (tv : Nat → Int32), k_X6_odds_36 a1 a2 nf ng nc cn cf cg n x3 x4 tf tg tc tv = some o → ∀ (H : Heap) (locs : List Loc), va_P D vwCl (List.flatten [(Po o qn qk qt qx qa ts wa pf (chv qc sp)), (Cw qn cA (chv qc nc) nf ng), (Cw qt cA (chv qc tc) tf tg), (Vw (qt 15) cA tv), (chPool cn qc cA cf cg)]) H → va_D A (List.flatten [(Po o qn qk qt qx qa ts wa pf (chv qc sp)), (Cw qn cA (chv qc nc) nf ng), (Cw qt cA (chv qc tc) tf tg), (Vw (qt 15) cA tv), (chPool cn qc cA cf cg)]) → va_S A s.heap H locs → ∀ ls : Array Slot, lv_has ls 5 [(0, .ref o), (1, .int a1), (2, .int a2), (3, .int x3), (4, .int x4)] → W p l e (RMx 5 120 0 0) s m args below meth c H locs 0 0 Q (F0 m 36 ls []) := by
    intro  n
    induction n with
    | zero =>
      intro x3 x4 tf tg tc tv hf
      rw [k_X6_odds_36] at hf
      cases hf
    | succ n ih =>
      intro x3 x4 tf tg tc tv hf H locs hP hD hS ls hl
      rw [k_X6_odds_36] at hf
      refine lv_iload hx hb dX6_odds_36 (lv_at hl 4 rfl) ?_
      refine lv_aload_n hx hb dX6_odds_38 rfl (lv_at hl 0 rfl) ?_
      refine va_get (D := D) (ci := 6) (v := .ref (qn 0)) (C := RX6) (T := TX6) (N := 10) hx hb hts fw_6 hown hK hP 0 rfl rfl 0 (by decide) (hts _ m_fieldLink_P_14_P_now_LP_Cellar) (fun _ h9 => h9) rfl dX6_odds_39 ?_
      refine va_get (D := D) (ci := 1) (v := .int (nf 0)) (C := RX1) (T := TX1) (N := 16) hx hb hts fw_1 hown hK hP 1 rfl rfl 0 (by decide) (hts _ m_fieldLink_P_55_P_Cellar_men_I) (fun _ h9 => h9) rfl dX6_odds_42 ?_
      refine lv_icmp_ge (tgt := 84) hx hb dX6_odds_45 (by decide) (fun c1 => ?_) (fun c1 => ?_)
      · replace hf := it_of c1 hf
        refine lv_iload_n hx hb dX6_odds_84 rfl (lv_at hl 3 rfl) ?_
        refine lv_aload_n hx hb dX6_odds_85 rfl (lv_at hl 0 rfl) ?_
        refine va_get (D := D) (ci := 6) (v := .ref (qn 0)) (C := RX6) (T := TX6) (N := 10) hx hb hts fw_6 hown hK hP 0 rfl rfl 0 (by decide) (hts _ m_fieldLink_P_14_P_now_LP_Cellar) (fun _ h9 => h9) rfl dX6_odds_86 ?_
        refine va_get (D := D) (ci := 1) (v := .int (nf 0)) (C := RX1) (T := TX1) (N := 16) hx hb hts fw_1 hown hK hP 1 rfl rfl 0 (by decide) (hts _ m_fieldLink_P_55_P_Cellar_men_I) (fun _ h9 => h9) rfl dX6_odds_89 ?_
        refine lv_iload_n hx hb dX6_odds_92 rfl (lv_at hl 2 rfl) ?_
        obtain ⟨r2q, hq3, hf⟩ := b1_of hf
        refine callSL (As := [.int x3, .int (nf 0), .int a2]) (rest := []) (wr := (List.flatten [(Po o qn qk qt qx qa ts wa pf (chv qc sp)), (Cw qn cA (chv qc nc) nf ng), (Cw qt cA (chv qc tc) tf tg), (Vw (qt 15) cA tv), (chPool cn qc cA cf cg)])) C0 (c_X6_lowest x3 (nf 0) a2 _ hq3) lk_X6_194_X6_lowest rfl hP hD hS (List.Perm.refl _) hl.1 rfl rfl (Nat.le_of_ble_eq_true rfl) dX6_odds_93 ⟨Nat.zero_le _, Nat.zero_le _⟩ (fun r2 w H locs hw hP hD hS => ?_)
        obtain ⟨e1, e2⟩ := hw
        replace e1 : r2 = r2q := e1
        subst e1
        subst e2
        replace hP : va_P D vwCl (List.flatten [(Po o qn qk qt qx qa ts wa pf (chv qc sp)), (Cw qn cA (chv qc nc) nf ng), (Cw qt cA (chv qc tc) tf tg), (Vw (qt 15) cA tv), (chPool cn qc cA cf cg)]) H := hP
        replace hD : va_D A (List.flatten [(Po o qn qk qt qx qa ts wa pf (chv qc sp)), (Cw qn cA (chv qc nc) nf ng), (Cw qt cA (chv qc tc) tf tg), (Vw (qt 15) cA tv), (chPool cn qc cA cf cg)]) := hD
        rw [hQ]
        exact ret_l C0 hP hD hS (by have e := Option.some.inj hf; rw [← e]; exact ⟨rfl, rfl⟩) dX6_odds_96
      · replace hf := ie_of c1 hf
        refine lv_aload_n hx hb dX6_odds_48 rfl (lv_at hl 0 rfl) ?_
        refine lv_iload_n hx hb dX6_odds_49 rfl (lv_at hl 1 rfl) ?_
        refine lv_aload_n hx hb dX6_odds_50 rfl (lv_at hl 0 rfl) ?_
        refine va_get (D := D) (ci := 6) (v := .ref (qn 0)) (C := RX6) (T := TX6) (N := 10) hx hb hts fw_6 hown hK hP 0 rfl rfl 0 (by decide) (hts _ m_fieldLink_P_14_P_now_LP_Cellar) (fun _ h9 => h9) rfl dX6_odds_51 ?_
        refine va_get (D := D) (ci := 1) (v := .int (nf 1)) (C := RX1) (T := TX1) (N := 16) hx hb hts fw_1 hown hK hP 1 rfl rfl 1 (by decide) (hts _ m_fieldLink_P_137_P_Cellar_up_I) (fun _ h9 => h9) rfl dX6_odds_54 ?_
        refine lv_iconst (v := 1) hx hb dX6_odds_57 (by decide) ?_
        refine lv_iload hx hb dX6_odds_58 (lv_at hl 4 rfl) ?_
        refine lv_ishl hx hb dX6_odds_60 ?_
        refine lv_ixor hx hb dX6_odds_61 ?_
        obtain ⟨r4q, tf_5, tg_6, tc_7, tv_8, hq9, hf⟩ := b5_of hf
        refine callVI (As := [.int a1, .int ((nf 1) ^^^ (1 <<< (x4 &&& 31)))]) (rest := []) (wr := []) C0 (c_X6_truthsBehind o qn qk qt qx qa ts wa qc pf sp nf ng nc tf tg tc tv cn cf cg a1 ((nf 1) ^^^ (1 <<< (x4 &&& 31))) _ hq9) lk_X6_161_X6_truthsBehind rfl hP hD hS perm_nil 0 6 rfl rfl rfl hl.1 rfl rfl (Nat.le_of_ble_eq_true rfl) dX6_odds_62 ⟨Nat.zero_le _, Nat.zero_le _⟩ (fun r4 w H locs hw hP hD hS => ?_)
        obtain ⟨e1, e2⟩ := hw
        replace e1 : r4 = r4q := e1
        subst e1
        subst e2
        replace hP : va_P D vwCl (List.flatten [(Po o qn qk qt qx qa ts wa pf (chv qc sp)), (Cw qn cA (chv qc nc) nf ng), (Cw qt cA (chv qc tc_7) tf_5 tg_6), (Vw (qt 15) cA tv_8), (chPool cn qc cA cf cg)]) H := hP.nil
        replace hD : va_D A (List.flatten [(Po o qn qk qt qx qa ts wa pf (chv qc sp)), (Cw qn cA (chv qc nc) nf ng), (Cw qt cA (chv qc tc_7) tf_5 tg_6), (Vw (qt 15) cA tv_8), (chPool cn qc cA cf cg)]) := hD.nil
        refine lv_aload_n hx hb dX6_odds_65 rfl (lv_at hl 0 rfl) ?_
        refine va_get (D := D) (ci := 6) (v := .ref (qn 0)) (C := RX6) (T := TX6) (N := 10) hx hb hts fw_6 hown hK hP 0 rfl rfl 0 (by decide) (hts _ m_fieldLink_P_14_P_now_LP_Cellar) (fun _ h9 => h9) rfl dX6_odds_66 ?_
        refine va_get (D := D) (ci := 1) (v := .int (nf 3)) (C := RX1) (T := TX1) (N := 16) hx hb hts fw_1 hown hK hP 1 rfl rfl 3 (by decide) (hts _ m_fieldLink_P_128_P_Cellar_truths_I) (fun _ h9 => h9) rfl dX6_odds_69 ?_
        refine lv_icmp_le (tgt := 78) hx hb dX6_odds_72 (by decide) (fun c10 => ?_) (fun c10 => ?_)
        · replace hf := it_of c10 hf
          refine lv_iinc (v := (x4 + 1)) (lv' := [(4, .int (x4 + 1)), (0, .ref o), (1, .int a1), (2, .int a2), (3, .int x3)]) hx hb dX6_odds_78 hl (k := 4) rfl rfl (by decide) rfl (fun ls hl => ?_)
          refine lv_goto (tgt := 36) hx hb dX6_odds_81 (by decide) ?_
          exact ih x3 (x4 + 1) tf_5 tg_6 tc_7 tv_8 hf _ _ hP hD hS _ (lv_sub hl [1, 2, 3, 4, 0] rfl)
        · replace hf := ie_of c10 hf
          refine lv_iinc (v := (x3 + 1)) (lv' := [(3, .int (x3 + 1)), (0, .ref o), (1, .int a1), (2, .int a2), (4, .int x4)]) hx hb dX6_odds_75 hl (k := 3) rfl rfl (by decide) rfl (fun ls hl => ?_)
          refine lv_iinc (v := (x4 + 1)) (lv' := [(4, .int (x4 + 1)), (3, .int (x3 + 1)), (0, .ref o), (1, .int a1), (2, .int a2)]) hx hb dX6_odds_78 hl (k := 4) rfl rfl (by decide) rfl (fun ls hl => ?_)
          refine lv_goto (tgt := 36) hx hb dX6_odds_81 (by decide) ?_
          exact ih (x3 + 1) (x4 + 1) tf_5 tg_6 tc_7 tv_8 hf _ _ hP hD hS _ (lv_sub hl [2, 3, 4, 1, 0] rfl)
  unfold k_X6_odds at hf
  refine lv_iload_n hx hb dX6_odds_0 rfl (lv_at hl 1 rfl) ?_
  refine lv_bipush (v := 20) hx hb dX6_odds_1 (by decide) ?_
  obtain ⟨r1q, hq2, hf⟩ := b1_of hf
  refine callSI (As := [.int a1, .int 20]) (rest := []) (wr := (List.flatten [(Po o qn qk qt qx qa ts wa pf (chv qc sp)), (Cw qn cA (chv qc nc) nf ng), (Cw qt cA (chv qc tc0) tf0 tg0), (Vw (qt 15) cA tv0), (chPool cn qc cA cf cg)])) C0 (c_X6_isWithin a1 20 _ hq2) lk_X6_51_X6_isWithin rfl hP hD hS (List.Perm.refl _) hl.1 rfl rfl (Nat.le_of_ble_eq_true rfl) dX6_odds_3 ⟨Nat.zero_le _, Nat.zero_le _⟩ (fun r1 w H locs hw hP hD hS => ?_)
  obtain ⟨⟨e1, e2⟩, z3⟩ := hw
  replace e1 : r1 = r1q := e1
  subst e1
  subst e2
  replace hP : va_P D vwCl (List.flatten [(Po o qn qk qt qx qa ts wa pf (chv qc sp)), (Cw qn cA (chv qc nc) nf ng), (Cw qt cA (chv qc tc0) tf0 tg0), (Vw (qt 15) cA tv0), (chPool cn qc cA cf cg)]) H := hP
  replace hD : va_D A (List.flatten [(Po o qn qk qt qx qa ts wa pf (chv qc sp)), (Cw qn cA (chv qc nc) nf ng), (Cw qt cA (chv qc tc0) tf0 tg0), (Vw (qt 15) cA tv0), (chPool cn qc cA cf cg)]) := hD
  refine lv_if_eq (tgt := 27) hx hb dX6_odds_6 (by decide) (fun c4 => ?_) (fun c4 => ?_)
  · replace hf := it_of c4 hf
    refine lv_ldc2 (v := (-9223372036854775808)) hx hb hown (hts _ m_constantLong_P_192_n9223372036854775808) dX6_odds_27 ?_
    rw [hQ]
    exact ret_l C0 hP hD hS (by have e := Option.some.inj hf; rw [← e]; exact ⟨rfl, rfl⟩) dX6_odds_30
  · replace hf := ie_of c4 hf
    refine lv_iload_n hx hb dX6_odds_9 rfl (lv_at hl 2 rfl) ?_
    refine lv_iconst (v := 1) hx hb dX6_odds_10 (by decide) ?_
    obtain ⟨r5q, hq6, hf⟩ := b1_of hf
    refine callSI (As := [.int a2, .int 1]) (rest := []) (wr := (List.flatten [(Po o qn qk qt qx qa ts wa pf (chv qc sp)), (Cw qn cA (chv qc nc) nf ng), (Cw qt cA (chv qc tc0) tf0 tg0), (Vw (qt 15) cA tv0), (chPool cn qc cA cf cg)])) C0 (c_X6_isWithin a2 1 _ hq6) lk_X6_51_X6_isWithin rfl hP hD hS (List.Perm.refl _) hl.1 rfl rfl (Nat.le_of_ble_eq_true rfl) dX6_odds_11 ⟨Nat.zero_le _, Nat.zero_le _⟩ (fun r5 w H locs hw hP hD hS => ?_)
    obtain ⟨⟨e1, e2⟩, z7⟩ := hw
    replace e1 : r5 = r5q := e1
    subst e1
    subst e2
    replace hP : va_P D vwCl (List.flatten [(Po o qn qk qt qx qa ts wa pf (chv qc sp)), (Cw qn cA (chv qc nc) nf ng), (Cw qt cA (chv qc tc0) tf0 tg0), (Vw (qt 15) cA tv0), (chPool cn qc cA cf cg)]) H := hP
    replace hD : va_D A (List.flatten [(Po o qn qk qt qx qa ts wa pf (chv qc sp)), (Cw qn cA (chv qc nc) nf ng), (Cw qt cA (chv qc tc0) tf0 tg0), (Vw (qt 15) cA tv0), (chPool cn qc cA cf cg)]) := hD
    refine lv_if_eq (tgt := 27) hx hb dX6_odds_14 (by decide) (fun c8 => ?_) (fun c8 => ?_)
    · replace hf := it_of c8 hf
      refine lv_ldc2 (v := (-9223372036854775808)) hx hb hown (hts _ m_constantLong_P_192_n9223372036854775808) dX6_odds_27 ?_
      rw [hQ]
      exact ret_l C0 hP hD hS (by have e := Option.some.inj hf; rw [← e]; exact ⟨rfl, rfl⟩) dX6_odds_30
    · replace hf := ie_of c8 hf
      refine lv_aload_n hx hb dX6_odds_17 rfl (lv_at hl 0 rfl) ?_
      refine va_get (D := D) (ci := 6) (v := .ref (qn 0)) (C := RX6) (T := TX6) (N := 10) hx hb hts fw_6 hown hK hP 0 rfl rfl 0 (by decide) (hts _ m_fieldLink_P_14_P_now_LP_Cellar) (fun _ h9 => h9) rfl dX6_odds_18 ?_
      refine va_get (D := D) (ci := 1) (v := .int (nf 0)) (C := RX1) (T := TX1) (N := 16) hx hb hts fw_1 hown hK hP 1 rfl rfl 0 (by decide) (hts _ m_fieldLink_P_55_P_Cellar_men_I) (fun _ h9 => h9) rfl dX6_odds_21 ?_
      refine lv_if_ne (tgt := 31) hx hb dX6_odds_24 (by decide) (fun c9 => ?_) (fun c9 => ?_)
      · replace hf := ie_of c9 hf
        refine lv_iconst (v := 0) hx hb dX6_odds_31 (by decide) ?_
        refine lv_istore_n (lv' := [(3, .int 0), (0, .ref o), (1, .int a1), (2, .int a2)]) hx hb dX6_odds_32 rfl hl (by decide) rfl (fun ls hl => ?_)
        refine lv_iconst (v := 0) hx hb dX6_odds_33 (by decide) ?_
        refine lv_istore (lv' := [(4, .int 0), (3, .int 0), (0, .ref o), (1, .int a1), (2, .int a2)]) hx hb dX6_odds_34 hl (by decide) rfl (fun ls hl => ?_)
        exact J36 100000 0 0 tf0 tg0 tc0 tv0 hf _ _ hP hD hS _ (lv_sub hl [2, 3, 4, 1, 0] rfl)
      · replace hf := it_of c9 hf
        refine lv_ldc2 (v := (-9223372036854775808)) hx hb hown (hts _ m_constantLong_P_192_n9223372036854775808) dX6_odds_27 ?_
        rw [hQ]
        exact ret_l C0 hP hD hS (by have e := Option.some.inj hf; rw [← e]; exact ⟨rfl, rfl⟩) dX6_odds_30
-- X6 mean
noncomputable def k_X6_mean_7 (a1 : Int32) (nf : Nat → Int32) (ng : Nat → Nat → Int32) : Nat → Int32 → Int32 → Int32 → Option Int64
  | 0, _, _, _ => none
  | n + 1, x2, x3, x4 => if (nf 0) ≤ x4 then b1 (k_X6_isWithin a1 1) (fun r2 => if r2 = 0 then some (-9223372036854775808) else if x2 = 0 then some (-9223372036854775808) else b1 (k_X6_lowest x3 x2 a1) (fun r7 => some r7)) else b1 (k_X1_isUp x4 nf) (fun r9 => if r9 = 0 then gd x4 6 (k_X6_mean_7 a1 nf ng n (x2 + 1) (x3 + ((ng 9) (Int32.toNatClampNeg x4))) (x4 + 1)) else k_X6_mean_7 a1 nf ng n x2 x3 (x4 + 1))
noncomputable def k_X6_mean (a1 : Int32) (nf : Nat → Int32) (ng : Nat → Nat → Int32) : Option Int64 := k_X6_mean_7 a1 nf ng 100000 0 0 0
set_option maxHeartbeats 4000000 in
set_option maxRecDepth 100000 in
theorem c_X6_mean {l : Launch} {D : va_G} {cA : Nat → ClassId} (o : Nat) (qn : Nat → Nat) (qk : Nat → Nat) (qt : Nat → Nat) (qx : Nat → Nat) (qa : Nat → Nat) (ts : Nat) (wa : Nat) (qc : Nat → Nat → Nat) (pf : Nat → Int32) (sp : Option Nat) (nf : Nat → Int32) (ng : Nat → Nat → Int32) (nc : Option Nat) (a1 : Int32) (o : Int64) (hf : k_X6_mean a1 nf ng = some o) : CL l D cA yX6_mean cX6_mean 5 (some .long) 1 24 [.ref o, .int a1] (List.flatten [(Po o qn qk qt qx qa ts wa pf (chv qc sp)), (Cw qn cA (chv qc nc) nf ng)]) 0 0 (fun r w => r = o ∧ w = (List.flatten [(Po o qn qk qt qx qa ts wa pf (chv qc sp)), (Cw qn cA (chv qc nc) nf ng)])) := by
  intro sz
  refine met_start (by decide) rfl ?_
  intro p e s m args below meth c ls hsz hargs C0 hname hP hD hS hl
  generalize hAe : va_A (List.flatten [(Po o qn qk qt qx qa ts wa pf (chv qc sp)), (Cw qn cA (chv qc nc) nf ng)]) sz = A at C0 hD hS ⊢
  obtain ⟨hx, hb, hr, hml, hown, hts, hlk, hK, hA⟩ := id C0
  replace hl : lv_has ls 5 [(0, .ref o), (1, .int a1)] := hl
  obtain ⟨Q, hQ⟩ : ∃ Q : State → Prop, Q = QL below D A (fun r w => r = o ∧ w = (List.flatten [(Po o qn qk qt qx qa ts wa pf (chv qc sp)), (Cw qn cA (chv qc nc) nf ng)])) args s 0 0 := ⟨_, rfl⟩
  refine cast (by rw [hQ]) (?_ : W p l e (RMx 1 24 0 0) s m args below meth c s.heap [] 0 0 Q (F0 m 0 ls []))
  have J7 : ∀ n : Nat, ∀ (x2 : Int32) (x3 : Int32) (x4 : Int32), k_X6_mean_7 a1 nf ng n x2 x3 x4 = some o → ∀ (H : Heap) (locs : List Loc), va_P D vwCl (List.flatten [(Po o qn qk qt qx qa ts wa pf (chv qc sp)), (Cw qn cA (chv qc nc) nf ng)]) H → va_D A (List.flatten [(Po o qn qk qt qx qa ts wa pf (chv qc sp)), (Cw qn cA (chv qc nc) nf ng)]) → va_S A s.heap H locs → ∀ ls : Array Slot, lv_has ls 5 [(0, .ref o), (1, .int a1), (2, .int x2), (3, .int x3), (4, .int x4)] → W p l e (RMx 1 24 0 0) s m args below meth c H locs 0 0 Q (F0 m 7 ls []) := by
    intro  n
    induction n with
    | zero =>
      intro x2 x3 x4 hf
      rw [k_X6_mean_7] at hf
      cases hf
    | succ n ih =>
      intro x2 x3 x4 hf H locs hP hD hS ls hl
      rw [k_X6_mean_7] at hf
      refine lv_iload hx hb dX6_mean_7 (lv_at hl 4 rfl) ?_
      refine lv_aload_n hx hb dX6_mean_9 rfl (lv_at hl 0 rfl) ?_
      refine va_get (D := D) (ci := 6) (v := .ref (qn 0)) (C := RX6) (T := TX6) (N := 10) hx hb hts fw_6 hown hK hP 0 rfl rfl 0 (by decide) (hts _ m_fieldLink_P_14_P_now_LP_Cellar) (fun _ h9 => h9) rfl dX6_mean_10 ?_
      refine va_get (D := D) (ci := 1) (v := .int (nf 0)) (C := RX1) (T := TX1) (N := 16) hx hb hts fw_1 hown hK hP 1 rfl rfl 0 (by decide) (hts _ m_fieldLink_P_55_P_Cellar_men_I) (fun _ h9 => h9) rfl dX6_mean_13 ?_
      refine lv_icmp_ge (tgt := 53) hx hb dX6_mean_16 (by decide) (fun c1 => ?_) (fun c1 => ?_)
      · replace hf := it_of c1 hf
        refine lv_iload_n hx hb dX6_mean_53 rfl (lv_at hl 1 rfl) ?_
        refine lv_iconst (v := 1) hx hb dX6_mean_54 (by decide) ?_
        obtain ⟨r2q, hq3, hf⟩ := b1_of hf
        refine callSI (As := [.int a1, .int 1]) (rest := []) (wr := (List.flatten [(Po o qn qk qt qx qa ts wa pf (chv qc sp)), (Cw qn cA (chv qc nc) nf ng)])) C0 (c_X6_isWithin a1 1 _ hq3) lk_X6_51_X6_isWithin rfl hP hD hS (List.Perm.refl _) hl.1 rfl rfl (Nat.le_of_ble_eq_true rfl) dX6_mean_55 ⟨Nat.zero_le _, Nat.zero_le _⟩ (fun r2 w H locs hw hP hD hS => ?_)
        obtain ⟨⟨e1, e2⟩, z4⟩ := hw
        replace e1 : r2 = r2q := e1
        subst e1
        subst e2
        replace hP : va_P D vwCl (List.flatten [(Po o qn qk qt qx qa ts wa pf (chv qc sp)), (Cw qn cA (chv qc nc) nf ng)]) H := hP
        replace hD : va_D A (List.flatten [(Po o qn qk qt qx qa ts wa pf (chv qc sp)), (Cw qn cA (chv qc nc) nf ng)]) := hD
        refine lv_if_eq (tgt := 65) hx hb dX6_mean_58 (by decide) (fun c5 => ?_) (fun c5 => ?_)
        · replace hf := it_of c5 hf
          refine lv_ldc2 (v := (-9223372036854775808)) hx hb hown (hts _ m_constantLong_P_192_n9223372036854775808) dX6_mean_65 ?_
          refine lv_goto (tgt := 77) hx hb dX6_mean_68 (by decide) ?_
          rw [hQ]
          exact ret_l C0 hP hD hS (by have e := Option.some.inj hf; rw [← e]; exact ⟨rfl, rfl⟩) dX6_mean_77
        · replace hf := ie_of c5 hf
          refine lv_iload_n hx hb dX6_mean_61 rfl (lv_at hl 2 rfl) ?_
          refine lv_if_ne (tgt := 71) hx hb dX6_mean_62 (by decide) (fun c6 => ?_) (fun c6 => ?_)
          · replace hf := ie_of c6 hf
            refine lv_iload_n hx hb dX6_mean_71 rfl (lv_at hl 3 rfl) ?_
            refine lv_iload_n hx hb dX6_mean_72 rfl (lv_at hl 2 rfl) ?_
            refine lv_iload_n hx hb dX6_mean_73 rfl (lv_at hl 1 rfl) ?_
            obtain ⟨r7q, hq8, hf⟩ := b1_of hf
            refine callSL (As := [.int x3, .int x2, .int a1]) (rest := []) (wr := (List.flatten [(Po o qn qk qt qx qa ts wa pf (chv qc sp)), (Cw qn cA (chv qc nc) nf ng)])) C0 (c_X6_lowest x3 x2 a1 _ hq8) lk_X6_194_X6_lowest rfl hP hD hS (List.Perm.refl _) hl.1 rfl rfl (Nat.le_of_ble_eq_true rfl) dX6_mean_74 ⟨Nat.zero_le _, Nat.zero_le _⟩ (fun r7 w H locs hw hP hD hS => ?_)
            obtain ⟨e1, e2⟩ := hw
            replace e1 : r7 = r7q := e1
            subst e1
            subst e2
            replace hP : va_P D vwCl (List.flatten [(Po o qn qk qt qx qa ts wa pf (chv qc sp)), (Cw qn cA (chv qc nc) nf ng)]) H := hP
            replace hD : va_D A (List.flatten [(Po o qn qk qt qx qa ts wa pf (chv qc sp)), (Cw qn cA (chv qc nc) nf ng)]) := hD
            rw [hQ]
            exact ret_l C0 hP hD hS (by have e := Option.some.inj hf; rw [← e]; exact ⟨rfl, rfl⟩) dX6_mean_77
          · replace hf := it_of c6 hf
            refine lv_ldc2 (v := (-9223372036854775808)) hx hb hown (hts _ m_constantLong_P_192_n9223372036854775808) dX6_mean_65 ?_
            refine lv_goto (tgt := 77) hx hb dX6_mean_68 (by decide) ?_
            rw [hQ]
            exact ret_l C0 hP hD hS (by have e := Option.some.inj hf; rw [← e]; exact ⟨rfl, rfl⟩) dX6_mean_77
      · replace hf := ie_of c1 hf
        refine lv_aload_n hx hb dX6_mean_19 rfl (lv_at hl 0 rfl) ?_
        refine va_get (D := D) (ci := 6) (v := .ref (qn 0)) (C := RX6) (T := TX6) (N := 10) hx hb hts fw_6 hown hK hP 0 rfl rfl 0 (by decide) (hts _ m_fieldLink_P_14_P_now_LP_Cellar) (fun _ h9 => h9) rfl dX6_mean_20 ?_
        refine lv_iload hx hb dX6_mean_23 (lv_at hl 4 rfl) ?_
        obtain ⟨r9q, hq10, hf⟩ := b1_of hf
        refine callVI (As := [.int x4]) (rest := []) (wr := segpick [(Po o qn qk qt qx qa ts wa pf (chv qc sp)), (Cw qn cA (chv qc nc) nf ng)] [0]) C0 (c_X1_isUp qn qc nf ng nc x4 _ hq10) lk_X6_76_X1_isUp rfl hP hD hS (seg_out [(Po o qn qk qt qx qa ts wa pf (chv qc sp)), (Cw qn cA (chv qc nc) nf ng)] [1] [0] (by decide)) 1 1 rfl rfl rfl hl.1 rfl rfl (Nat.le_of_ble_eq_true rfl) dX6_mean_25 ⟨Nat.zero_le _, Nat.zero_le _⟩ (fun r9 w H locs hw hP hD hS => ?_)
        obtain ⟨⟨e1, e2⟩, z11⟩ := hw
        replace e1 : r9 = r9q := e1
        subst e1
        subst e2
        replace hP : va_P D vwCl (List.flatten [(Po o qn qk qt qx qa ts wa pf (chv qc sp)), (Cw qn cA (chv qc nc) nf ng)]) H := hP.perm (seg_out [(Po o qn qk qt qx qa ts wa pf (chv qc sp)), (Cw qn cA (chv qc nc) nf ng)] [1] [0] (by decide)).symm
        replace hD : va_D A (List.flatten [(Po o qn qk qt qx qa ts wa pf (chv qc sp)), (Cw qn cA (chv qc nc) nf ng)]) := hD.perm (seg_out [(Po o qn qk qt qx qa ts wa pf (chv qc sp)), (Cw qn cA (chv qc nc) nf ng)] [1] [0] (by decide)).symm
        refine lv_if_ne (tgt := 47) hx hb dX6_mean_28 (by decide) (fun c12 => ?_) (fun c12 => ?_)
        · replace hf := ie_of c12 hf
          refine lv_iinc (v := (x4 + 1)) (lv' := [(4, .int (x4 + 1)), (0, .ref o), (1, .int a1), (2, .int x2), (3, .int x3)]) hx hb dX6_mean_47 hl (k := 4) rfl rfl (by decide) rfl (fun ls hl => ?_)
          refine lv_goto (tgt := 7) hx hb dX6_mean_50 (by decide) ?_
          exact ih x2 x3 (x4 + 1) hf _ _ hP hD hS _ (lv_sub hl [1, 2, 3, 4, 0] rfl)
        · replace hf := it_of c12 hf
          refine lv_iinc (v := (x2 + 1)) (lv' := [(2, .int (x2 + 1)), (0, .ref o), (1, .int a1), (3, .int x3), (4, .int x4)]) hx hb dX6_mean_31 hl (k := 2) rfl rfl (by decide) rfl (fun ls hl => ?_)
          refine lv_iload_n hx hb dX6_mean_34 rfl (lv_at hl 3 rfl) ?_
          refine lv_aload_n hx hb dX6_mean_35 rfl (lv_at hl 1 rfl) ?_
          refine va_get (D := D) (ci := 6) (v := .ref (qn 0)) (C := RX6) (T := TX6) (N := 10) hx hb hts fw_6 hown hK hP 0 rfl rfl 0 (by decide) (hts _ m_fieldLink_P_14_P_now_LP_Cellar) (fun _ h9 => h9) rfl dX6_mean_36 ?_
          refine va_get (D := D) (ci := 1) (v := .ref (qn 9)) (C := RX1) (T := TX1) (N := 16) hx hb hts fw_1 hown hK hP 1 rfl rfl 9 (by decide) (hts _ m_fieldLink_P_73_P_Cellar_nerve_aI) (fun _ h9 => h9) rfl dX6_mean_39 ?_
          refine lv_iload hx hb dX6_mean_42 (lv_at hl 4 rfl) ?_
          obtain ⟨hi13, hf⟩ := gd_of hf
          refine va_iald hx hb hK hP 4 0 rfl rfl hi13 dX6_mean_44 ?_
          refine lv_iadd hx hb dX6_mean_45 ?_
          refine lv_istore_n (lv' := [(3, .int (x3 + ((ng 9) (Int32.toNatClampNeg x4)))), (2, .int (x2 + 1)), (0, .ref o), (1, .int a1), (4, .int x4)]) hx hb dX6_mean_46 rfl hl (by decide) rfl (fun ls hl => ?_)
          refine lv_iinc (v := (x4 + 1)) (lv' := [(4, .int (x4 + 1)), (3, .int (x3 + ((ng 9) (Int32.toNatClampNeg x4)))), (2, .int (x2 + 1)), (0, .ref o), (1, .int a1)]) hx hb dX6_mean_47 hl (k := 4) rfl rfl (by decide) rfl (fun ls hl => ?_)
          refine lv_goto (tgt := 7) hx hb dX6_mean_50 (by decide) ?_
          exact ih (x2 + 1) (x3 + ((ng 9) (Int32.toNatClampNeg x4))) (x4 + 1) hf _ _ hP hD hS _ (lv_sub hl [3, 4, 2, 1, 0] rfl)
  unfold k_X6_mean at hf
  refine lv_iconst (v := 0) hx hb dX6_mean_0 (by decide) ?_
  refine lv_istore_n (lv' := [(2, .int 0), (0, .ref o), (1, .int a1)]) hx hb dX6_mean_1 rfl hl (by decide) rfl (fun ls hl => ?_)
  refine lv_iconst (v := 0) hx hb dX6_mean_2 (by decide) ?_
  refine lv_istore_n (lv' := [(3, .int 0), (2, .int 0), (0, .ref o), (1, .int a1)]) hx hb dX6_mean_3 rfl hl (by decide) rfl (fun ls hl => ?_)
  refine lv_iconst (v := 0) hx hb dX6_mean_4 (by decide) ?_
  refine lv_istore (lv' := [(4, .int 0), (3, .int 0), (2, .int 0), (0, .ref o), (1, .int a1)]) hx hb dX6_mean_5 hl (by decide) rfl (fun ls hl => ?_)
  exact J7 100000 0 0 0 hf _ _ hP hD hS _ (lv_sub hl [3, 4, 2, 1, 0] rfl)
-- X6 plan
noncomputable def k_X6_plan_49 (a1 : Int32) (a2 : Int32) (npc : Int32) (npa : Nat → Int32) (npb : Nat → Int32) : Option (Int32 × Int32 × (Nat → Int32) × (Nat → Int32)) := b1 (k_X3_isFull npc) (fun r1 => if r1 = 0 then b4 (k_X3_add a1 a2 npc npa npb) (fun r5 npc_6 npa_7 npb_8 => some (r5, npc_6, npa_7, npb_8)) else some ((-4), npc, npa, npb))
noncomputable def k_X6_plan_36 (a1 : Int32) (a2 : Int32) (nf : Nat → Int32) (npc : Int32) (npa : Nat → Int32) (npb : Nat → Int32) : Option (Int32 × Int32 × (Nat → Int32) × (Nat → Int32)) := b1 (k_X1_has a2 nf) (fun r1 => if r1 = 0 then some ((-1), npc, npa, npb) else k_X6_plan_49 a1 a2 npc npa npb)
noncomputable def k_X6_plan (a1 : Int32) (a2 : Int32) (nf : Nat → Int32) (npc0 : Int32) (npa0 : Nat → Int32) (npb0 : Nat → Int32) : Option (Int32 × Int32 × (Nat → Int32) × (Nat → Int32)) := if a1 = (-1) then b2 (k_X3_empty npc0) (fun r8 npc_9 => some (r8, npc_9, npa0, npb0)) else b1 (k_X6_isWithin a1 3) (fun r2 => if r2 = 0 then some ((-1), npc0, npa0, npb0) else if a1 = 1 then k_X6_plan_36 a1 a2 nf npc0 npa0 npb0 else if a1 = 2 then k_X6_plan_36 a1 a2 nf npc0 npa0 npb0 else k_X6_plan_49 a1 a2 npc0 npa0 npb0)
set_option maxHeartbeats 4000000 in
set_option maxRecDepth 100000 in
theorem c_X6_plan {l : Launch} {D : va_G} {cA : Nat → ClassId} (o : Nat) (qn : Nat → Nat) (qk : Nat → Nat) (qt : Nat → Nat) (qx : Nat → Nat) (qa : Nat → Nat) (ts : Nat) (wa : Nat) (qc : Nat → Nat → Nat) (pf : Nat → Int32) (sp : Option Nat) (nf : Nat → Int32) (ng : Nat → Nat → Int32) (nc : Option Nat) (npc0 : Int32) (npa0 : Nat → Int32) (npb0 : Nat → Int32) (a1 : Int32) (a2 : Int32) (o : Int32 × Int32 × (Nat → Int32) × (Nat → Int32)) (hf : k_X6_plan a1 a2 nf npc0 npa0 npb0 = some o) : CI l D cA yX6_plan cX6_plan 3 (some .int) 1 22 [.ref o, .int a1, .int a2] (List.flatten [(Po o qn qk qt qx qa ts wa pf (chv qc sp)), (Cw qn cA (chv qc nc) nf ng), (Rw (qn 13) (qn 22) (qn 23) cA 10 npc0 npa0 npb0)]) 0 0 (fun r w => r = o.1 ∧ w = (List.flatten [(Po o qn qk qt qx qa ts wa pf (chv qc sp)), (Cw qn cA (chv qc nc) nf ng), (Rw (qn 13) (qn 22) (qn 23) cA 10 o.2.1 o.2.2.1 o.2.2.2)])) := by
  intro sz
  refine met_start (by decide) rfl ?_
  intro p e s m args below meth c ls hsz hargs C0 hname hP hD hS hl
  generalize hAe : va_A (List.flatten [(Po o qn qk qt qx qa ts wa pf (chv qc sp)), (Cw qn cA (chv qc nc) nf ng), (Rw (qn 13) (qn 22) (qn 23) cA 10 npc0 npa0 npb0)]) sz = A at C0 hD hS ⊢
  obtain ⟨hx, hb, hr, hml, hown, hts, hlk, hK, hA⟩ := id C0
  replace hl : lv_has ls 3 [(0, .ref o), (1, .int a1), (2, .int a2)] := hl
  obtain ⟨Q, hQ⟩ : ∃ Q : State → Prop, Q = QI below D A (fun r w => r = o.1 ∧ w = (List.flatten [(Po o qn qk qt qx qa ts wa pf (chv qc sp)), (Cw qn cA (chv qc nc) nf ng), (Rw (qn 13) (qn 22) (qn 23) cA 10 o.2.1 o.2.2.1 o.2.2.2)])) args s 0 0 := ⟨_, rfl⟩
  refine cast (by rw [hQ]) (?_ : W p l e (RMx 1 22 0 0) s m args below meth c s.heap [] 0 0 Q (F0 m 0 ls []))
  have J49 : ∀ (npc : Int32) (npa : Nat → Int32) (npb : Nat → Int32), k_X6_plan_49 a1 a2 npc npa npb = some o → ∀ (H : Heap) (locs : List Loc), va_P D vwCl (List.flatten [(Po o qn qk qt qx qa ts wa pf (chv qc sp)), (Cw qn cA (chv qc nc) nf ng), (Rw (qn 13) (qn 22) (qn 23) cA 10 npc npa npb)]) H → va_D A (List.flatten [(Po o qn qk qt qx qa ts wa pf (chv qc sp)), (Cw qn cA (chv qc nc) nf ng), (Rw (qn 13) (qn 22) (qn 23) cA 10 npc npa npb)]) → va_S A s.heap H locs → ∀ ls : Array Slot, lv_has ls 3 [(0, .ref o), (1, .int a1), (2, .int a2)] → W p l e (RMx 1 22 0 0) s m args below meth c H locs 0 0 Q (F0 m 49 ls []) := by
    intro  npc npa npb hf H locs hP hD hS ls hl
    unfold k_X6_plan_49 at hf
    refine lv_aload_n hx hb dX6_plan_49 rfl (lv_at hl 0 rfl) ?_
    refine va_get (D := D) (ci := 6) (v := .ref (qn 0)) (C := RX6) (T := TX6) (N := 10) hx hb hts fw_6 hown hK hP 0 rfl rfl 0 (by decide) (hts _ m_fieldLink_P_14_P_now_LP_Cellar) (fun _ h9 => h9) rfl dX6_plan_50 ?_
    refine va_get (D := D) (ci := 1) (v := .ref (qn 13)) (C := RX1) (T := TX1) (N := 16) hx hb hts fw_1 hown hK hP 1 rfl rfl 13 (by decide) (hts _ m_fieldLink_P_198_P_Cellar_plan_LP_Rows) (fun _ h9 => h9) rfl dX6_plan_53 ?_
    obtain ⟨r1q, hq2, hf⟩ := b1_of hf
    refine callVI (As := []) (rest := []) (wr := segpick [(Po o qn qk qt qx qa ts wa pf (chv qc sp)), (Cw qn cA (chv qc nc) nf ng), (Rw (qn 13) (qn 22) (qn 23) cA 10 npc npa npb)] [0, 1]) C0 (c_X3_isFull (qn 13) (qn 22) (qn 23) 10 npc npa npb _ hq2) lk_X6_177_X3_isFull rfl hP hD hS (seg_out [(Po o qn qk qt qx qa ts wa pf (chv qc sp)), (Cw qn cA (chv qc nc) nf ng), (Rw (qn 13) (qn 22) (qn 23) cA 10 npc npa npb)] [2] [0, 1] (by decide)) 7 3 rfl rfl rfl hl.1 rfl rfl (Nat.le_of_ble_eq_true rfl) dX6_plan_56 ⟨Nat.zero_le _, Nat.zero_le _⟩ (fun r1 w H locs hw hP hD hS => ?_)
    obtain ⟨⟨e1, e2⟩, z3⟩ := hw
    replace e1 : r1 = r1q := e1
    subst e1
    subst e2
    replace hP : va_P D vwCl (List.flatten [(Po o qn qk qt qx qa ts wa pf (chv qc sp)), (Cw qn cA (chv qc nc) nf ng), (Rw (qn 13) (qn 22) (qn 23) cA 10 npc npa npb)]) H := hP.perm (seg_out [(Po o qn qk qt qx qa ts wa pf (chv qc sp)), (Cw qn cA (chv qc nc) nf ng), (Rw (qn 13) (qn 22) (qn 23) cA 10 npc npa npb)] [2] [0, 1] (by decide)).symm
    replace hD : va_D A (List.flatten [(Po o qn qk qt qx qa ts wa pf (chv qc sp)), (Cw qn cA (chv qc nc) nf ng), (Rw (qn 13) (qn 22) (qn 23) cA 10 npc npa npb)]) := hD.perm (seg_out [(Po o qn qk qt qx qa ts wa pf (chv qc sp)), (Cw qn cA (chv qc nc) nf ng), (Rw (qn 13) (qn 22) (qn 23) cA 10 npc npa npb)] [2] [0, 1] (by decide)).symm
    refine lv_if_eq (tgt := 67) hx hb dX6_plan_59 (by decide) (fun c4 => ?_) (fun c4 => ?_)
    · replace hf := it_of c4 hf
      refine lv_aload_n hx hb dX6_plan_67 rfl (lv_at hl 0 rfl) ?_
      refine va_get (D := D) (ci := 6) (v := .ref (qn 0)) (C := RX6) (T := TX6) (N := 10) hx hb hts fw_6 hown hK hP 0 rfl rfl 0 (by decide) (hts _ m_fieldLink_P_14_P_now_LP_Cellar) (fun _ h9 => h9) rfl dX6_plan_68 ?_
      refine va_get (D := D) (ci := 1) (v := .ref (qn 13)) (C := RX1) (T := TX1) (N := 16) hx hb hts fw_1 hown hK hP 1 rfl rfl 13 (by decide) (hts _ m_fieldLink_P_198_P_Cellar_plan_LP_Rows) (fun _ h9 => h9) rfl dX6_plan_71 ?_
      refine lv_iload_n hx hb dX6_plan_74 rfl (lv_at hl 1 rfl) ?_
      refine lv_iload_n hx hb dX6_plan_75 rfl (lv_at hl 2 rfl) ?_
      obtain ⟨r5q, npc_6, npa_7, npb_8, hq9, hf⟩ := b4_of hf
      refine callVI (As := [.int a1, .int a2]) (rest := []) (wr := segpick [(Po o qn qk qt qx qa ts wa pf (chv qc sp)), (Cw qn cA (chv qc nc) nf ng), (Rw (qn 13) (qn 22) (qn 23) cA 10 npc npa npb)] [0, 1]) C0 (c_X3_add (qn 13) (qn 22) (qn 23) 10 npc npa npb a1 a2 _ hq9) lk_X6_181_X3_add rfl hP hD hS (seg_out [(Po o qn qk qt qx qa ts wa pf (chv qc sp)), (Cw qn cA (chv qc nc) nf ng), (Rw (qn 13) (qn 22) (qn 23) cA 10 npc npa npb)] [2] [0, 1] (by decide)) 7 3 rfl rfl rfl hl.1 rfl rfl (Nat.le_of_ble_eq_true rfl) dX6_plan_76 ⟨Nat.zero_le _, Nat.zero_le _⟩ (fun r5 w H locs hw hP hD hS => ?_)
      obtain ⟨e1, e2⟩ := hw
      replace e1 : r5 = r5q := e1
      subst e1
      subst e2
      replace hP : va_P D vwCl (List.flatten [(Po o qn qk qt qx qa ts wa pf (chv qc sp)), (Cw qn cA (chv qc nc) nf ng), (Rw (qn 13) (qn 22) (qn 23) cA 10 npc_6 npa_7 npb_8)]) H := hP.perm (seg_out [(Po o qn qk qt qx qa ts wa pf (chv qc sp)), (Cw qn cA (chv qc nc) nf ng), (Rw (qn 13) (qn 22) (qn 23) cA 10 npc_6 npa_7 npb_8)] [2] [0, 1] (by decide)).symm
      replace hD : va_D A (List.flatten [(Po o qn qk qt qx qa ts wa pf (chv qc sp)), (Cw qn cA (chv qc nc) nf ng), (Rw (qn 13) (qn 22) (qn 23) cA 10 npc_6 npa_7 npb_8)]) := hD.perm (seg_out [(Po o qn qk qt qx qa ts wa pf (chv qc sp)), (Cw qn cA (chv qc nc) nf ng), (Rw (qn 13) (qn 22) (qn 23) cA 10 npc_6 npa_7 npb_8)] [2] [0, 1] (by decide)).symm
      rw [hQ]
      exact ret_i C0 hP hD hS (by have e := Option.some.inj hf; rw [← e]; exact ⟨rfl, rfl⟩) dX6_plan_79
    · replace hf := ie_of c4 hf
      refine lv_bipush (v := (-4)) hx hb dX6_plan_62 (by decide) ?_
      refine lv_goto (tgt := 79) hx hb dX6_plan_64 (by decide) ?_
      rw [hQ]
      exact ret_i C0 hP hD hS (by have e := Option.some.inj hf; rw [← e]; exact ⟨rfl, rfl⟩) dX6_plan_79
  have J36 : ∀ (npc : Int32) (npa : Nat → Int32) (npb : Nat → Int32), k_X6_plan_36 a1 a2 nf npc npa npb = some o → ∀ (H : Heap) (locs : List Loc), va_P D vwCl (List.flatten [(Po o qn qk qt qx qa ts wa pf (chv qc sp)), (Cw qn cA (chv qc nc) nf ng), (Rw (qn 13) (qn 22) (qn 23) cA 10 npc npa npb)]) H → va_D A (List.flatten [(Po o qn qk qt qx qa ts wa pf (chv qc sp)), (Cw qn cA (chv qc nc) nf ng), (Rw (qn 13) (qn 22) (qn 23) cA 10 npc npa npb)]) → va_S A s.heap H locs → ∀ ls : Array Slot, lv_has ls 3 [(0, .ref o), (1, .int a1), (2, .int a2)] → W p l e (RMx 1 22 0 0) s m args below meth c H locs 0 0 Q (F0 m 36 ls []) := by
    intro  npc npa npb hf H locs hP hD hS ls hl
    unfold k_X6_plan_36 at hf
    refine lv_aload_n hx hb dX6_plan_36 rfl (lv_at hl 0 rfl) ?_
    refine va_get (D := D) (ci := 6) (v := .ref (qn 0)) (C := RX6) (T := TX6) (N := 10) hx hb hts fw_6 hown hK hP 0 rfl rfl 0 (by decide) (hts _ m_fieldLink_P_14_P_now_LP_Cellar) (fun _ h9 => h9) rfl dX6_plan_37 ?_
    refine lv_iload_n hx hb dX6_plan_40 rfl (lv_at hl 2 rfl) ?_
    obtain ⟨r1q, hq2, hf⟩ := b1_of hf
    refine callVI (As := [.int a2]) (rest := []) (wr := segpick [(Po o qn qk qt qx qa ts wa pf (chv qc sp)), (Cw qn cA (chv qc nc) nf ng), (Rw (qn 13) (qn 22) (qn 23) cA 10 npc npa npb)] [0, 2]) C0 (c_X1_has qn qc nf ng nc a2 _ hq2) lk_X6_63_X1_has rfl hP hD hS (seg_out [(Po o qn qk qt qx qa ts wa pf (chv qc sp)), (Cw qn cA (chv qc nc) nf ng), (Rw (qn 13) (qn 22) (qn 23) cA 10 npc npa npb)] [1] [0, 2] (by decide)) 1 1 rfl rfl rfl hl.1 rfl rfl (Nat.le_of_ble_eq_true rfl) dX6_plan_41 ⟨Nat.zero_le _, Nat.zero_le _⟩ (fun r1 w H locs hw hP hD hS => ?_)
    obtain ⟨⟨e1, e2⟩, z3⟩ := hw
    replace e1 : r1 = r1q := e1
    subst e1
    subst e2
    replace hP : va_P D vwCl (List.flatten [(Po o qn qk qt qx qa ts wa pf (chv qc sp)), (Cw qn cA (chv qc nc) nf ng), (Rw (qn 13) (qn 22) (qn 23) cA 10 npc npa npb)]) H := hP.perm (seg_out [(Po o qn qk qt qx qa ts wa pf (chv qc sp)), (Cw qn cA (chv qc nc) nf ng), (Rw (qn 13) (qn 22) (qn 23) cA 10 npc npa npb)] [1] [0, 2] (by decide)).symm
    replace hD : va_D A (List.flatten [(Po o qn qk qt qx qa ts wa pf (chv qc sp)), (Cw qn cA (chv qc nc) nf ng), (Rw (qn 13) (qn 22) (qn 23) cA 10 npc npa npb)]) := hD.perm (seg_out [(Po o qn qk qt qx qa ts wa pf (chv qc sp)), (Cw qn cA (chv qc nc) nf ng), (Rw (qn 13) (qn 22) (qn 23) cA 10 npc npa npb)] [1] [0, 2] (by decide)).symm
    refine lv_if_ne (tgt := 49) hx hb dX6_plan_44 (by decide) (fun c4 => ?_) (fun c4 => ?_)
    · replace hf := ie_of c4 hf
      exact J49 npc npa npb hf _ _ hP hD hS _ (lv_sub hl [0, 1, 2] rfl)
    · replace hf := it_of c4 hf
      refine lv_iconst (v := (-1)) hx hb dX6_plan_47 (by decide) ?_
      rw [hQ]
      exact ret_i C0 hP hD hS (by have e := Option.some.inj hf; rw [← e]; exact ⟨rfl, rfl⟩) dX6_plan_48
  unfold k_X6_plan at hf
  refine lv_iload_n hx hb dX6_plan_0 rfl (lv_at hl 1 rfl) ?_
  refine lv_iconst (v := (-1)) hx hb dX6_plan_1 (by decide) ?_
  refine lv_icmp_ne (tgt := 16) hx hb dX6_plan_2 (by decide) (fun c1 => ?_) (fun c1 => ?_)
  · replace hf := ie_of c1 hf
    refine lv_iload_n hx hb dX6_plan_16 rfl (lv_at hl 1 rfl) ?_
    refine lv_iconst (v := 3) hx hb dX6_plan_17 (by decide) ?_
    obtain ⟨r2q, hq3, hf⟩ := b1_of hf
    refine callSI (As := [.int a1, .int 3]) (rest := []) (wr := (List.flatten [(Po o qn qk qt qx qa ts wa pf (chv qc sp)), (Cw qn cA (chv qc nc) nf ng), (Rw (qn 13) (qn 22) (qn 23) cA 10 npc0 npa0 npb0)])) C0 (c_X6_isWithin a1 3 _ hq3) lk_X6_51_X6_isWithin rfl hP hD hS (List.Perm.refl _) hl.1 rfl rfl (Nat.le_of_ble_eq_true rfl) dX6_plan_18 ⟨Nat.zero_le _, Nat.zero_le _⟩ (fun r2 w H locs hw hP hD hS => ?_)
    obtain ⟨⟨e1, e2⟩, z4⟩ := hw
    replace e1 : r2 = r2q := e1
    subst e1
    subst e2
    replace hP : va_P D vwCl (List.flatten [(Po o qn qk qt qx qa ts wa pf (chv qc sp)), (Cw qn cA (chv qc nc) nf ng), (Rw (qn 13) (qn 22) (qn 23) cA 10 npc0 npa0 npb0)]) H := hP
    replace hD : va_D A (List.flatten [(Po o qn qk qt qx qa ts wa pf (chv qc sp)), (Cw qn cA (chv qc nc) nf ng), (Rw (qn 13) (qn 22) (qn 23) cA 10 npc0 npa0 npb0)]) := hD
    refine lv_if_ne (tgt := 26) hx hb dX6_plan_21 (by decide) (fun c5 => ?_) (fun c5 => ?_)
    · replace hf := ie_of c5 hf
      refine lv_iload_n hx hb dX6_plan_26 rfl (lv_at hl 1 rfl) ?_
      refine lv_iconst (v := 1) hx hb dX6_plan_27 (by decide) ?_
      refine lv_icmp_eq (tgt := 36) hx hb dX6_plan_28 (by decide) (fun c6 => ?_) (fun c6 => ?_)
      · replace hf := it_of c6 hf
        exact J36 npc0 npa0 npb0 hf _ _ hP hD hS _ (lv_sub hl [0, 1, 2] rfl)
      · replace hf := ie_of c6 hf
        refine lv_iload_n hx hb dX6_plan_31 rfl (lv_at hl 1 rfl) ?_
        refine lv_iconst (v := 2) hx hb dX6_plan_32 (by decide) ?_
        refine lv_icmp_ne (tgt := 49) hx hb dX6_plan_33 (by decide) (fun c7 => ?_) (fun c7 => ?_)
        · replace hf := ie_of c7 hf
          exact J49 npc0 npa0 npb0 hf _ _ hP hD hS _ (lv_sub hl [0, 1, 2] rfl)
        · replace hf := it_of c7 hf
          exact J36 npc0 npa0 npb0 hf _ _ hP hD hS _ (lv_sub hl [0, 1, 2] rfl)
    · replace hf := it_of c5 hf
      refine lv_iconst (v := (-1)) hx hb dX6_plan_24 (by decide) ?_
      rw [hQ]
      exact ret_i C0 hP hD hS (by have e := Option.some.inj hf; rw [← e]; exact ⟨rfl, rfl⟩) dX6_plan_25
  · replace hf := it_of c1 hf
    refine lv_aload_n hx hb dX6_plan_5 rfl (lv_at hl 0 rfl) ?_
    refine va_get (D := D) (ci := 6) (v := .ref (qn 0)) (C := RX6) (T := TX6) (N := 10) hx hb hts fw_6 hown hK hP 0 rfl rfl 0 (by decide) (hts _ m_fieldLink_P_14_P_now_LP_Cellar) (fun _ h9 => h9) rfl dX6_plan_6 ?_
    refine va_get (D := D) (ci := 1) (v := .ref (qn 13)) (C := RX1) (T := TX1) (N := 16) hx hb hts fw_1 hown hK hP 1 rfl rfl 13 (by decide) (hts _ m_fieldLink_P_198_P_Cellar_plan_LP_Rows) (fun _ h9 => h9) rfl dX6_plan_9 ?_
    obtain ⟨r8q, npc_9, hq10, hf⟩ := b2_of hf
    refine callVI (As := []) (rest := []) (wr := segpick [(Po o qn qk qt qx qa ts wa pf (chv qc sp)), (Cw qn cA (chv qc nc) nf ng), (Rw (qn 13) (qn 22) (qn 23) cA 10 npc0 npa0 npb0)] [0, 1]) C0 (c_X3_empty (qn 13) (qn 22) (qn 23) 10 npc0 npa0 npb0 _ hq10) lk_X6_172_X3_empty rfl hP hD hS (seg_out [(Po o qn qk qt qx qa ts wa pf (chv qc sp)), (Cw qn cA (chv qc nc) nf ng), (Rw (qn 13) (qn 22) (qn 23) cA 10 npc0 npa0 npb0)] [2] [0, 1] (by decide)) 7 3 rfl rfl rfl hl.1 rfl rfl (Nat.le_of_ble_eq_true rfl) dX6_plan_12 ⟨Nat.zero_le _, Nat.zero_le _⟩ (fun r8 w H locs hw hP hD hS => ?_)
    obtain ⟨e1, e2⟩ := hw
    replace e1 : r8 = r8q := e1
    subst e1
    subst e2
    replace hP : va_P D vwCl (List.flatten [(Po o qn qk qt qx qa ts wa pf (chv qc sp)), (Cw qn cA (chv qc nc) nf ng), (Rw (qn 13) (qn 22) (qn 23) cA 10 npc_9 npa0 npb0)]) H := hP.perm (seg_out [(Po o qn qk qt qx qa ts wa pf (chv qc sp)), (Cw qn cA (chv qc nc) nf ng), (Rw (qn 13) (qn 22) (qn 23) cA 10 npc_9 npa0 npb0)] [2] [0, 1] (by decide)).symm
    replace hD : va_D A (List.flatten [(Po o qn qk qt qx qa ts wa pf (chv qc sp)), (Cw qn cA (chv qc nc) nf ng), (Rw (qn 13) (qn 22) (qn 23) cA 10 npc_9 npa0 npb0)]) := hD.perm (seg_out [(Po o qn qk qt qx qa ts wa pf (chv qc sp)), (Cw qn cA (chv qc nc) nf ng), (Rw (qn 13) (qn 22) (qn 23) cA 10 npc_9 npa0 npb0)] [2] [0, 1] (by decide)).symm
    rw [hQ]
    exact ret_i C0 hP hD hS (by have e := Option.some.inj hf; rw [← e]; exact ⟨rfl, rfl⟩) dX6_plan_15
-- X6 follow
noncomputable def k_X6_follow (a1 : Int32) (a2 : Int32) (mf0 : Nat → Int32) (mg0 : Nat → Nat → Int32) (mc : Option Nat) (mv0 : Nat → Int32) (cn : Nat) (cf : Nat → Nat → Int32) (cg : Nat → Nat → Nat → Int32) : Option ((Nat → Int32) × (Nat → Nat → Int32) × (Nat → Int32)) := if a1 = 0 then b3 (k_X1_passDays 1 2147483647 mf0 mg0 mc mv0 cn cf cg) (fun mf_2 mg_3 mv_4 => some (mf_2, mg_3, mv_4)) else if a1 = 1 then b1 (k_X1_put a2 1 mf0) (fun mf_7 => some (mf_7, mg0, mv0)) else if a1 = 2 then b1 (k_X1_put a2 0 mf0) (fun mf_10 => some (mf_10, mg0, mv0)) else some ((upd mf0 2 0), mg0, mv0)
set_option maxHeartbeats 4000000 in
set_option maxRecDepth 100000 in
theorem c_X6_follow {l : Launch} {D : va_G} {cA : Nat → ClassId} (q : Nat → Nat) (qc : Nat → Nat → Nat) (mf0 : Nat → Int32) (mg0 : Nat → Nat → Int32) (mc : Option Nat) (mv0 : Nat → Int32) (cn : Nat) (cf : Nat → Nat → Int32) (cg : Nat → Nat → Nat → Int32) (a1 : Int32) (a2 : Int32) (o : (Nat → Int32) × (Nat → Nat → Int32) × (Nat → Int32)) (hf : k_X6_follow a1 a2 mf0 mg0 mc mv0 cn cf cg = some o) : CV l D cA yX6_follow cX6_follow 3 none 5 119 [.ref (q 0), .int a1, .int a2] (List.flatten [(Cw q cA (chv qc mc) mf0 mg0), (Vw (q 15) cA mv0), (chPool cn qc cA cf cg)]) 0 0 (fun w => w = (List.flatten [(Cw q cA (chv qc mc) o.1 o.2.1), (Vw (q 15) cA o.2.2), (chPool cn qc cA cf cg)])) := by
  intro sz
  refine met_start (by decide) rfl ?_
  intro p e s m args below meth c ls hsz hargs C0 hname hP hD hS hl
  generalize hAe : va_A (List.flatten [(Cw q cA (chv qc mc) mf0 mg0), (Vw (q 15) cA mv0), (chPool cn qc cA cf cg)]) sz = A at C0 hD hS ⊢
  obtain ⟨hx, hb, hr, hml, hown, hts, hlk, hK, hA⟩ := id C0
  replace hl : lv_has ls 3 [(0, .ref (q 0)), (1, .int a1), (2, .int a2)] := hl
  obtain ⟨Q, hQ⟩ : ∃ Q : State → Prop, Q = QV below D A (fun w => w = (List.flatten [(Cw q cA (chv qc mc) o.1 o.2.1), (Vw (q 15) cA o.2.2), (chPool cn qc cA cf cg)])) args s 0 0 := ⟨_, rfl⟩
  refine cast (by rw [hQ]) (?_ : W p l e (RMx 5 119 0 0) s m args below meth c s.heap [] 0 0 Q (F0 m 0 ls []))
  unfold k_X6_follow at hf
  refine lv_iload_n hx hb dX6_follow_0 rfl (lv_at hl 1 rfl) ?_
  by_cases c1 : a1 = 0
  · replace hf := it_of c1 hf
    refine lv_tableIn (off := 27) (tgt := 28) hx hb dX6_follow_1 (by rw [c1]; decide) (by rw [c1]; decide) (by rw [c1]; decide) (by decide) ?_
    refine lv_aload_n hx hb dX6_follow_28 rfl (lv_at hl 0 rfl) ?_
    refine lv_iconst (v := 1) hx hb dX6_follow_29 (by decide) ?_
    refine lv_ldc (v := 2147483647) hx hb hown (hts _ m_constant_P_157_2147483647) dX6_follow_30 ?_
    obtain ⟨mf_2, mg_3, mv_4, hq5, hf⟩ := b3_of hf
    refine callVV (As := [.int 1, .int 2147483647]) (rest := []) (wr := []) C0 (c_X1_passDays q qc mf0 mg0 mc mv0 cn cf cg 1 2147483647 _ hq5) lk_X6_149_X1_passDays rfl hP hD hS perm_nil 0 1 rfl rfl rfl hl.1 rfl rfl (Nat.le_of_ble_eq_true rfl) dX6_follow_32 ⟨Nat.zero_le _, Nat.zero_le _⟩ (fun w H locs hw hP hD hS => ?_)
    have e2 := hw
    subst e2
    replace hP : va_P D vwCl (List.flatten [(Cw q cA (chv qc mc) mf_2 mg_3), (Vw (q 15) cA mv_4), (chPool cn qc cA cf cg)]) H := hP.nil
    replace hD : va_D A (List.flatten [(Cw q cA (chv qc mc) mf_2 mg_3), (Vw (q 15) cA mv_4), (chPool cn qc cA cf cg)]) := hD.nil
    refine lv_goto (tgt := 61) hx hb dX6_follow_35 (by decide) ?_
    rw [hQ]
    exact ret_v C0 hP hD hS (by have e := Option.some.inj hf; first | (rw [← e]; done) | (rw [← e]; exact rfl)) dX6_follow_61
  · replace hf := ie_of c1 hf
    by_cases c6 : a1 = 1
    · replace hf := it_of c6 hf
      refine lv_tableIn (off := 37) (tgt := 38) hx hb dX6_follow_1 (by rw [c6]; decide) (by rw [c6]; decide) (by rw [c6]; decide) (by decide) ?_
      refine lv_aload_n hx hb dX6_follow_38 rfl (lv_at hl 0 rfl) ?_
      refine lv_iload_n hx hb dX6_follow_39 rfl (lv_at hl 2 rfl) ?_
      refine lv_iconst (v := 1) hx hb dX6_follow_40 (by decide) ?_
      obtain ⟨mf_7, hq8, hf⟩ := b1_of hf
      refine callVV (As := [.int a2, .int 1]) (rest := []) (wr := segpick [(Cw q cA (chv qc mc) mf0 mg0), (Vw (q 15) cA mv0), (chPool cn qc cA cf cg)] [1, 2]) C0 (c_X1_put q qc mf0 mg0 mc a2 1 _ hq8) lk_X6_89_X1_put rfl hP hD hS (seg_out [(Cw q cA (chv qc mc) mf0 mg0), (Vw (q 15) cA mv0), (chPool cn qc cA cf cg)] [0] [1, 2] (by decide)) 0 1 rfl rfl rfl hl.1 rfl rfl (Nat.le_of_ble_eq_true rfl) dX6_follow_41 ⟨Nat.zero_le _, Nat.zero_le _⟩ (fun w H locs hw hP hD hS => ?_)
      have e2 := hw
      subst e2
      replace hP : va_P D vwCl (List.flatten [(Cw q cA (chv qc mc) mf_7 mg0), (Vw (q 15) cA mv0), (chPool cn qc cA cf cg)]) H := hP.perm (seg_out [(Cw q cA (chv qc mc) mf_7 mg0), (Vw (q 15) cA mv0), (chPool cn qc cA cf cg)] [0] [1, 2] (by decide)).symm
      replace hD : va_D A (List.flatten [(Cw q cA (chv qc mc) mf_7 mg0), (Vw (q 15) cA mv0), (chPool cn qc cA cf cg)]) := hD.perm (seg_out [(Cw q cA (chv qc mc) mf_7 mg0), (Vw (q 15) cA mv0), (chPool cn qc cA cf cg)] [0] [1, 2] (by decide)).symm
      refine lv_goto (tgt := 61) hx hb dX6_follow_44 (by decide) ?_
      rw [hQ]
      exact ret_v C0 hP hD hS (by have e := Option.some.inj hf; first | (rw [← e]; done) | (rw [← e]; exact rfl)) dX6_follow_61
    · replace hf := ie_of c6 hf
      by_cases c9 : a1 = 2
      · replace hf := it_of c9 hf
        refine lv_tableIn (off := 46) (tgt := 47) hx hb dX6_follow_1 (by rw [c9]; decide) (by rw [c9]; decide) (by rw [c9]; decide) (by decide) ?_
        refine lv_aload_n hx hb dX6_follow_47 rfl (lv_at hl 0 rfl) ?_
        refine lv_iload_n hx hb dX6_follow_48 rfl (lv_at hl 2 rfl) ?_
        refine lv_iconst (v := 0) hx hb dX6_follow_49 (by decide) ?_
        obtain ⟨mf_10, hq11, hf⟩ := b1_of hf
        refine callVV (As := [.int a2, .int 0]) (rest := []) (wr := segpick [(Cw q cA (chv qc mc) mf0 mg0), (Vw (q 15) cA mv0), (chPool cn qc cA cf cg)] [1, 2]) C0 (c_X1_put q qc mf0 mg0 mc a2 0 _ hq11) lk_X6_89_X1_put rfl hP hD hS (seg_out [(Cw q cA (chv qc mc) mf0 mg0), (Vw (q 15) cA mv0), (chPool cn qc cA cf cg)] [0] [1, 2] (by decide)) 0 1 rfl rfl rfl hl.1 rfl rfl (Nat.le_of_ble_eq_true rfl) dX6_follow_50 ⟨Nat.zero_le _, Nat.zero_le _⟩ (fun w H locs hw hP hD hS => ?_)
        have e2 := hw
        subst e2
        replace hP : va_P D vwCl (List.flatten [(Cw q cA (chv qc mc) mf_10 mg0), (Vw (q 15) cA mv0), (chPool cn qc cA cf cg)]) H := hP.perm (seg_out [(Cw q cA (chv qc mc) mf_10 mg0), (Vw (q 15) cA mv0), (chPool cn qc cA cf cg)] [0] [1, 2] (by decide)).symm
        replace hD : va_D A (List.flatten [(Cw q cA (chv qc mc) mf_10 mg0), (Vw (q 15) cA mv0), (chPool cn qc cA cf cg)]) := hD.perm (seg_out [(Cw q cA (chv qc mc) mf_10 mg0), (Vw (q 15) cA mv0), (chPool cn qc cA cf cg)] [0] [1, 2] (by decide)).symm
        refine lv_goto (tgt := 61) hx hb dX6_follow_53 (by decide) ?_
        rw [hQ]
        exact ret_v C0 hP hD hS (by have e := Option.some.inj hf; first | (rw [← e]; done) | (rw [← e]; exact rfl)) dX6_follow_61
      · replace hf := ie_of c9 hf
        refine lv_tableOut (tgt := 56) hx hb dX6_follow_1 (by have := lv_neT c1 (a := 0) (by decide); have := lv_neT c6 (a := 1) (by decide); have := lv_neT c9 (a := 2) (by decide); omega) (by decide) ?_
        refine lv_aload_n hx hb dX6_follow_56 rfl (lv_at hl 0 rfl) ?_
        refine lv_iconst (v := 0) hx hb dX6_follow_57 (by decide) ?_
        refine va_put (D := D) (ci := 1) (v := .int 0) (ty := .int) (C := RX1) (T := TX1) (N := 16) hx hb hts fw_1 tyX1 tyX1_ok nmX1 hown hK hP hD hS 0 rfl rfl 2 (by decide) (hts _ m_fieldLink_P_93_P_Cellar_fear_I) (fun _ h9 => h9) rfl (by decide +kernel) rfl rfl (Nat.le_of_ble_eq_true rfl) dX6_follow_58 (fun H locs hP hD hS => ?_)
        replace hP : va_P D vwCl (List.flatten [(Cw q cA (chv qc mc) (upd mf0 2 0) mg0), (Vw (q 15) cA mv0), (chPool cn qc cA cf cg)]) H := hP
        replace hD : va_D A (List.flatten [(Cw q cA (chv qc mc) (upd mf0 2 0) mg0), (Vw (q 15) cA mv0), (chPool cn qc cA cf cg)]) := hD
        rw [hQ]
        exact ret_v C0 hP hD hS (by have e := Option.some.inj hf; first | (rw [← e]; done) | (rw [← e]; exact rfl)) dX6_follow_61
-- X6 ends
noncomputable def k_X6_ends_17 (a1 : Int32) (npc : Int32) (npa : Nat → Int32) (npb : Nat → Int32) (cn : Nat) (cf : Nat → Nat → Int32) (cg : Nat → Nat → Nat → Int32) : Nat → Int32 → (Nat → Int32) → (Nat → Nat → Int32) → Option Nat → (Nat → Int32) → Option (Int32 × (Nat → Int32) × (Nat → Nat → Int32) × Option Nat × (Nat → Int32))
  | 0, _, _, _, _, _ => none
  | n + 1, x3, tf, tg, tc, tv => if npc ≤ x3 then if a1 = 0 then some ((tf 2), tf, tg, tc, tv) else some ((tf 3), tf, tg, tc, tv) else gd x3 10 (gd x3 10 (b3 (k_X6_follow (npa (Int32.toNatClampNeg x3)) (npb (Int32.toNatClampNeg x3)) tf tg tc tv cn cf cg) (fun tf_5 tg_6 tv_7 => k_X6_ends_17 a1 npc npa npb cn cf cg n (x3 + 1) tf_5 tg_6 tc tv_7)))
noncomputable def k_X6_ends (a1 : Int32) (nf : Nat → Int32) (ng : Nat → Nat → Int32) (nc : Option Nat) (npc : Int32) (npa : Nat → Int32) (npb : Nat → Int32) (tf0 : Nat → Int32) (tg0 : Nat → Nat → Int32) (tc0 : Option Nat) (tv0 : Nat → Int32) (cn : Nat) (cf : Nat → Nat → Int32) (cg : Nat → Nat → Nat → Int32) : Option (Int32 × (Nat → Int32) × (Nat → Nat → Int32) × Option Nat × (Nat → Int32)) := b1 (k_X6_isWithin a1 1) (fun r1 => if r1 = 0 then some ((-1), tf0, tg0, tc0, tv0) else b3 (k_X6_begin nf ng nc tf0 tg0 tc0) (fun tf_5 tg_6 tc_7 => k_X6_ends_17 a1 npc npa npb cn cf cg 100000 0 tf_5 tg_6 tc_7 tv0))
set_option maxHeartbeats 4000000 in
set_option maxRecDepth 100000 in
theorem c_X6_ends {l : Launch} {D : va_G} {cA : Nat → ClassId} (o : Nat) (qn : Nat → Nat) (qk : Nat → Nat) (qt : Nat → Nat) (qx : Nat → Nat) (qa : Nat → Nat) (ts : Nat) (wa : Nat) (qc : Nat → Nat → Nat) (pf : Nat → Int32) (sp : Option Nat) (nf : Nat → Int32) (ng : Nat → Nat → Int32) (nc : Option Nat) (npc : Int32) (npa : Nat → Int32) (npb : Nat → Int32) (tf0 : Nat → Int32) (tg0 : Nat → Nat → Int32) (tc0 : Option Nat) (tv0 : Nat → Int32) (cn : Nat) (cf : Nat → Nat → Int32) (cg : Nat → Nat → Nat → Int32) (a1 : Int32) (o : Int32 × (Nat → Int32) × (Nat → Nat → Int32) × Option Nat × (Nat → Int32)) (hf : k_X6_ends a1 nf ng nc npc npa npb tf0 tg0 tc0 tv0 cn cf cg = some o) : CI l D cA yX6_ends cX6_ends 4 (some .int) 6 141 [.ref o, .int a1] (List.flatten [(Po o qn qk qt qx qa ts wa pf (chv qc sp)), (Cw qn cA (chv qc nc) nf ng), (Rw (qn 13) (qn 22) (qn 23) cA 10 npc npa npb), (Cw qt cA (chv qc tc0) tf0 tg0), (Vw (qt 15) cA tv0), (chPool cn qc cA cf cg)]) 0 0 (fun r w => r = o.1 ∧ w = (List.flatten [(Po o qn qk qt qx qa ts wa pf (chv qc sp)), (Cw qn cA (chv qc nc) nf ng), (Rw (qn 13) (qn 22) (qn 23) cA 10 npc npa npb), (Cw qt cA (chv qc o.2.2.2.1) o.2.1 o.2.2.1), (Vw (qt 15) cA o.2.2.2.2), (chPool cn qc cA cf cg)])) := by
  intro sz
  refine met_start (by decide) rfl ?_
  intro p e s m args below meth c ls hsz hargs C0 hname hP hD hS hl
  generalize hAe : va_A (List.flatten [(Po o qn qk qt qx qa ts wa pf (chv qc sp)), (Cw qn cA (chv qc nc) nf ng), (Rw (qn 13) (qn 22) (qn 23) cA 10 npc npa npb), (Cw qt cA (chv qc tc0) tf0 tg0), (Vw (qt 15) cA tv0), (chPool cn qc cA cf cg)]) sz = A at C0 hD hS ⊢
  obtain ⟨hx, hb, hr, hml, hown, hts, hlk, hK, hA⟩ := id C0
  replace hl : lv_has ls 4 [(0, .ref o), (1, .int a1)] := hl
  obtain ⟨Q, hQ⟩ : ∃ Q : State → Prop, Q = QI below D A (fun r w => r = o.1 ∧ w = (List.flatten [(Po o qn qk qt qx qa ts wa pf (chv qc sp)), (Cw qn cA (chv qc nc) nf ng), (Rw (qn 13) (qn 22) (qn 23) cA 10 npc npa npb), (Cw qt cA (chv qc o.2.2.2.1) o.2.1 o.2.2.1), (Vw (qt 15) cA o.2.2.2.2), (chPool cn qc cA cf cg)])) args s 0 0 := ⟨_, rfl⟩
  refine cast (by rw [hQ]) (?_ : W p l e (RMx 6 141 0 0) s m args below meth c s.heap [] 0 0 Q (F0 m 0 ls []))
  have J17 : ∀ n : Nat, ∀ (x3 : Int32) (tf : Nat → Int32) (tg : Nat → Nat → Int32) (tc : Option Nat) (tv : Nat → Int32), k_X6_ends_17 a1 npc npa npb cn cf cg n x3 tf tg tc tv = some o → ∀ (H : Heap) (locs : List Loc), va_P D vwCl (List.flatten [(Po o qn qk qt qx qa ts wa pf (chv qc sp)), (Cw qn cA (chv qc nc) nf ng), (Rw (qn 13) (qn 22) (qn 23) cA 10 npc npa npb), (Cw qt cA (chv qc tc) tf tg), (Vw (qt 15) cA tv), (chPool cn qc cA cf cg)]) H → va_D A (List.flatten [(Po o qn qk qt qx qa ts wa pf (chv qc sp)), (Cw qn cA (chv qc nc) nf ng), (Rw (qn 13) (qn 22) (qn 23) cA 10 npc npa npb), (Cw qt cA (chv qc tc) tf tg), (Vw (qt 15) cA tv), (chPool cn qc cA cf cg)]) → va_S A s.heap H locs → ∀ ls : Array Slot, lv_has ls 4 [(0, .ref o), (1, .int a1), (2, .ref (qt 0)), (3, .int x3)] → W p l e (RMx 6 141 0 0) s m args below meth c H locs 0 0 Q (F0 m 17 ls []) := by
    intro  n
    induction n with
    | zero =>
      intro x3 tf tg tc tv hf
      rw [k_X6_ends_17] at hf
      cases hf
    | succ n ih =>
      intro x3 tf tg tc tv hf H locs hP hD hS ls hl
      rw [k_X6_ends_17] at hf
      refine lv_iload_n hx hb dX6_ends_17 rfl (lv_at hl 3 rfl) ?_
      refine lv_aload_n hx hb dX6_ends_18 rfl (lv_at hl 0 rfl) ?_
      refine va_get (D := D) (ci := 6) (v := .ref (qn 0)) (C := RX6) (T := TX6) (N := 10) hx hb hts fw_6 hown hK hP 0 rfl rfl 0 (by decide) (hts _ m_fieldLink_P_14_P_now_LP_Cellar) (fun _ h9 => h9) rfl dX6_ends_19 ?_
      refine va_get (D := D) (ci := 1) (v := .ref (qn 13)) (C := RX1) (T := TX1) (N := 16) hx hb hts fw_1 hown hK hP 1 rfl rfl 13 (by decide) (hts _ m_fieldLink_P_198_P_Cellar_plan_LP_Rows) (fun _ h9 => h9) rfl dX6_ends_22 ?_
      refine va_get (D := D) (ci := 3) (v := .int npc) (C := RX3) (T := TX3) (N := 3) hx hb hts fw_3 hown hK hP 7 rfl rfl 0 (by decide) (hts _ m_fieldLink_P_201_P_Rows_count_I) (fun _ h9 => h9) rfl dX6_ends_25 ?_
      refine lv_icmp_ge (tgt := 65) hx hb dX6_ends_28 (by decide) (fun c1 => ?_) (fun c1 => ?_)
      · replace hf := it_of c1 hf
        refine lv_iload_n hx hb dX6_ends_65 rfl (lv_at hl 1 rfl) ?_
        refine lv_if_ne (tgt := 76) hx hb dX6_ends_66 (by decide) (fun c2 => ?_) (fun c2 => ?_)
        · replace hf := ie_of c2 hf
          refine lv_aload_n hx hb dX6_ends_76 rfl (lv_at hl 2 rfl) ?_
          refine va_get (D := D) (ci := 1) (v := .int (tf 3)) (C := RX1) (T := TX1) (N := 16) hx hb hts fw_1 hown hK hP 10 rfl rfl 3 (by decide) (hts _ m_fieldLink_P_128_P_Cellar_truths_I) (fun _ h9 => h9) rfl dX6_ends_77 ?_
          rw [hQ]
          exact ret_i C0 hP hD hS (by have e := Option.some.inj hf; rw [← e]; exact ⟨rfl, rfl⟩) dX6_ends_80
        · replace hf := it_of c2 hf
          refine lv_aload_n hx hb dX6_ends_69 rfl (lv_at hl 2 rfl) ?_
          refine va_get (D := D) (ci := 1) (v := .int (tf 2)) (C := RX1) (T := TX1) (N := 16) hx hb hts fw_1 hown hK hP 10 rfl rfl 2 (by decide) (hts _ m_fieldLink_P_93_P_Cellar_fear_I) (fun _ h9 => h9) rfl dX6_ends_70 ?_
          refine lv_goto (tgt := 80) hx hb dX6_ends_73 (by decide) ?_
          rw [hQ]
          exact ret_i C0 hP hD hS (by have e := Option.some.inj hf; rw [← e]; exact ⟨rfl, rfl⟩) dX6_ends_80
      · replace hf := ie_of c1 hf
        refine lv_aload_n hx hb dX6_ends_31 rfl (lv_at hl 2 rfl) ?_
        refine lv_aload_n hx hb dX6_ends_32 rfl (lv_at hl 0 rfl) ?_
        refine va_get (D := D) (ci := 6) (v := .ref (qn 0)) (C := RX6) (T := TX6) (N := 10) hx hb hts fw_6 hown hK hP 0 rfl rfl 0 (by decide) (hts _ m_fieldLink_P_14_P_now_LP_Cellar) (fun _ h9 => h9) rfl dX6_ends_33 ?_
        refine va_get (D := D) (ci := 1) (v := .ref (qn 13)) (C := RX1) (T := TX1) (N := 16) hx hb hts fw_1 hown hK hP 1 rfl rfl 13 (by decide) (hts _ m_fieldLink_P_198_P_Cellar_plan_LP_Rows) (fun _ h9 => h9) rfl dX6_ends_36 ?_
        refine va_get (D := D) (ci := 3) (v := .ref (qn 22)) (C := RX3) (T := TX3) (N := 3) hx hb hts fw_3 hown hK hP 7 rfl rfl 1 (by decide) (hts _ m_fieldLink_P_204_P_Rows_first_aI) (fun _ h9 => h9) rfl dX6_ends_39 ?_
        refine lv_iload_n hx hb dX6_ends_42 rfl (lv_at hl 3 rfl) ?_
        obtain ⟨hi3, hf⟩ := gd_of hf
        refine va_iald hx hb hK hP 8 0 rfl rfl hi3 dX6_ends_43 ?_
        refine lv_aload_n hx hb dX6_ends_44 rfl (lv_at hl 0 rfl) ?_
        refine va_get (D := D) (ci := 6) (v := .ref (qn 0)) (C := RX6) (T := TX6) (N := 10) hx hb hts fw_6 hown hK hP 0 rfl rfl 0 (by decide) (hts _ m_fieldLink_P_14_P_now_LP_Cellar) (fun _ h9 => h9) rfl dX6_ends_45 ?_
        refine va_get (D := D) (ci := 1) (v := .ref (qn 13)) (C := RX1) (T := TX1) (N := 16) hx hb hts fw_1 hown hK hP 1 rfl rfl 13 (by decide) (hts _ m_fieldLink_P_198_P_Cellar_plan_LP_Rows) (fun _ h9 => h9) rfl dX6_ends_48 ?_
        refine va_get (D := D) (ci := 3) (v := .ref (qn 23)) (C := RX3) (T := TX3) (N := 3) hx hb hts fw_3 hown hK hP 7 rfl rfl 2 (by decide) (hts _ m_fieldLink_P_207_P_Rows_second_aI) (fun _ h9 => h9) rfl dX6_ends_51 ?_
        refine lv_iload_n hx hb dX6_ends_54 rfl (lv_at hl 3 rfl) ?_
        obtain ⟨hi4, hf⟩ := gd_of hf
        refine va_iald hx hb hK hP 9 0 rfl rfl hi4 dX6_ends_55 ?_
        obtain ⟨tf_5, tg_6, tv_7, hq8, hf⟩ := b3_of hf
        refine callSV (As := [.ref (qt 0), .int (npa (Int32.toNatClampNeg x3)), .int (npb (Int32.toNatClampNeg x3))]) (rest := []) (wr := segpick [(Po o qn qk qt qx qa ts wa pf (chv qc sp)), (Cw qn cA (chv qc nc) nf ng), (Rw (qn 13) (qn 22) (qn 23) cA 10 npc npa npb), (Cw qt cA (chv qc tc) tf tg), (Vw (qt 15) cA tv), (chPool cn qc cA cf cg)] [0, 1, 2]) C0 (c_X6_follow qt qc tf tg tc tv cn cf cg (npa (Int32.toNatClampNeg x3)) (npb (Int32.toNatClampNeg x3)) _ hq8) lk_X6_210_X6_follow rfl hP hD hS (seg_out [(Po o qn qk qt qx qa ts wa pf (chv qc sp)), (Cw qn cA (chv qc nc) nf ng), (Rw (qn 13) (qn 22) (qn 23) cA 10 npc npa npb), (Cw qt cA (chv qc tc) tf tg), (Vw (qt 15) cA tv), (chPool cn qc cA cf cg)] [3, 4, 5] [0, 1, 2] (by decide)) hl.1 rfl rfl (Nat.le_of_ble_eq_true rfl) dX6_ends_56 ⟨Nat.zero_le _, Nat.zero_le _⟩ (fun w H locs hw hP hD hS => ?_)
        have e2 := hw
        subst e2
        replace hP : va_P D vwCl (List.flatten [(Po o qn qk qt qx qa ts wa pf (chv qc sp)), (Cw qn cA (chv qc nc) nf ng), (Rw (qn 13) (qn 22) (qn 23) cA 10 npc npa npb), (Cw qt cA (chv qc tc) tf_5 tg_6), (Vw (qt 15) cA tv_7), (chPool cn qc cA cf cg)]) H := hP.perm (seg_out [(Po o qn qk qt qx qa ts wa pf (chv qc sp)), (Cw qn cA (chv qc nc) nf ng), (Rw (qn 13) (qn 22) (qn 23) cA 10 npc npa npb), (Cw qt cA (chv qc tc) tf_5 tg_6), (Vw (qt 15) cA tv_7), (chPool cn qc cA cf cg)] [3, 4, 5] [0, 1, 2] (by decide)).symm
        replace hD : va_D A (List.flatten [(Po o qn qk qt qx qa ts wa pf (chv qc sp)), (Cw qn cA (chv qc nc) nf ng), (Rw (qn 13) (qn 22) (qn 23) cA 10 npc npa npb), (Cw qt cA (chv qc tc) tf_5 tg_6), (Vw (qt 15) cA tv_7), (chPool cn qc cA cf cg)]) := hD.perm (seg_out [(Po o qn qk qt qx qa ts wa pf (chv qc sp)), (Cw qn cA (chv qc nc) nf ng), (Rw (qn 13) (qn 22) (qn 23) cA 10 npc npa npb), (Cw qt cA (chv qc tc) tf_5 tg_6), (Vw (qt 15) cA tv_7), (chPool cn qc cA cf cg)] [3, 4, 5] [0, 1, 2] (by decide)).symm
        refine lv_iinc (v := (x3 + 1)) (lv' := [(3, .int (x3 + 1)), (0, .ref o), (1, .int a1), (2, .ref (qt 0))]) hx hb dX6_ends_59 hl (k := 3) rfl rfl (by decide) rfl (fun ls hl => ?_)
        refine lv_goto (tgt := 17) hx hb dX6_ends_62 (by decide) ?_
        exact ih (x3 + 1) tf_5 tg_6 tc tv_7 hf _ _ hP hD hS _ (lv_sub hl [1, 2, 3, 0] rfl)
  unfold k_X6_ends at hf
  refine lv_iload_n hx hb dX6_ends_0 rfl (lv_at hl 1 rfl) ?_
  refine lv_iconst (v := 1) hx hb dX6_ends_1 (by decide) ?_
  obtain ⟨r1q, hq2, hf⟩ := b1_of hf
  refine callSI (As := [.int a1, .int 1]) (rest := []) (wr := (List.flatten [(Po o qn qk qt qx qa ts wa pf (chv qc sp)), (Cw qn cA (chv qc nc) nf ng), (Rw (qn 13) (qn 22) (qn 23) cA 10 npc npa npb), (Cw qt cA (chv qc tc0) tf0 tg0), (Vw (qt 15) cA tv0), (chPool cn qc cA cf cg)])) C0 (c_X6_isWithin a1 1 _ hq2) lk_X6_51_X6_isWithin rfl hP hD hS (List.Perm.refl _) hl.1 rfl rfl (Nat.le_of_ble_eq_true rfl) dX6_ends_2 ⟨Nat.zero_le _, Nat.zero_le _⟩ (fun r1 w H locs hw hP hD hS => ?_)
  obtain ⟨⟨e1, e2⟩, z3⟩ := hw
  replace e1 : r1 = r1q := e1
  subst e1
  subst e2
  replace hP : va_P D vwCl (List.flatten [(Po o qn qk qt qx qa ts wa pf (chv qc sp)), (Cw qn cA (chv qc nc) nf ng), (Rw (qn 13) (qn 22) (qn 23) cA 10 npc npa npb), (Cw qt cA (chv qc tc0) tf0 tg0), (Vw (qt 15) cA tv0), (chPool cn qc cA cf cg)]) H := hP
  replace hD : va_D A (List.flatten [(Po o qn qk qt qx qa ts wa pf (chv qc sp)), (Cw qn cA (chv qc nc) nf ng), (Rw (qn 13) (qn 22) (qn 23) cA 10 npc npa npb), (Cw qt cA (chv qc tc0) tf0 tg0), (Vw (qt 15) cA tv0), (chPool cn qc cA cf cg)]) := hD
  refine lv_if_ne (tgt := 10) hx hb dX6_ends_5 (by decide) (fun c4 => ?_) (fun c4 => ?_)
  · replace hf := ie_of c4 hf
    refine lv_aload_n hx hb dX6_ends_10 rfl (lv_at hl 0 rfl) ?_
    obtain ⟨tf_5, tg_6, tc_7, hq8, hf⟩ := b3_of hf
    refine callVR (As := []) (rest := []) (wr := segpick [(Po o qn qk qt qx qa ts wa pf (chv qc sp)), (Cw qn cA (chv qc nc) nf ng), (Rw (qn 13) (qn 22) (qn 23) cA 10 npc npa npb), (Cw qt cA (chv qc tc0) tf0 tg0), (Vw (qt 15) cA tv0), (chPool cn qc cA cf cg)] [2, 4, 5]) C0 (c_X6_begin o qn qk qt qx qa ts wa qc pf sp nf ng nc tf0 tg0 tc0 _ hq8) lk_X6_153_X6_begin rfl hP hD hS (seg_out [(Po o qn qk qt qx qa ts wa pf (chv qc sp)), (Cw qn cA (chv qc nc) nf ng), (Rw (qn 13) (qn 22) (qn 23) cA 10 npc npa npb), (Cw qt cA (chv qc tc0) tf0 tg0), (Vw (qt 15) cA tv0), (chPool cn qc cA cf cg)] [0, 1, 3] [2, 4, 5] (by decide)) 0 6 rfl rfl rfl hl.1 rfl rfl (Nat.le_of_ble_eq_true rfl) dX6_ends_11 ⟨Nat.zero_le _, Nat.zero_le _⟩ (fun rhq8_ w H locs hw hP hD hS => ?_)
    obtain ⟨e1, e2⟩ := hw
    subst e1
    subst e2
    replace hP : va_P D vwCl (List.flatten [(Po o qn qk qt qx qa ts wa pf (chv qc sp)), (Cw qn cA (chv qc nc) nf ng), (Rw (qn 13) (qn 22) (qn 23) cA 10 npc npa npb), (Cw qt cA (chv qc tc_7) tf_5 tg_6), (Vw (qt 15) cA tv0), (chPool cn qc cA cf cg)]) H := hP.perm (seg_out [(Po o qn qk qt qx qa ts wa pf (chv qc sp)), (Cw qn cA (chv qc nc) nf ng), (Rw (qn 13) (qn 22) (qn 23) cA 10 npc npa npb), (Cw qt cA (chv qc tc_7) tf_5 tg_6), (Vw (qt 15) cA tv0), (chPool cn qc cA cf cg)] [0, 1, 3] [2, 4, 5] (by decide)).symm
    replace hD : va_D A (List.flatten [(Po o qn qk qt qx qa ts wa pf (chv qc sp)), (Cw qn cA (chv qc nc) nf ng), (Rw (qn 13) (qn 22) (qn 23) cA 10 npc npa npb), (Cw qt cA (chv qc tc_7) tf_5 tg_6), (Vw (qt 15) cA tv0), (chPool cn qc cA cf cg)]) := hD.perm (seg_out [(Po o qn qk qt qx qa ts wa pf (chv qc sp)), (Cw qn cA (chv qc nc) nf ng), (Rw (qn 13) (qn 22) (qn 23) cA 10 npc npa npb), (Cw qt cA (chv qc tc_7) tf_5 tg_6), (Vw (qt 15) cA tv0), (chPool cn qc cA cf cg)] [0, 1, 3] [2, 4, 5] (by decide)).symm
    refine lv_astore_n (lv' := [(2, .ref (qt 0)), (0, .ref o), (1, .int a1)]) hx hb dX6_ends_14 rfl hl (by decide) rfl (fun ls hl => ?_)
    refine lv_iconst (v := 0) hx hb dX6_ends_15 (by decide) ?_
    refine lv_istore_n (lv' := [(3, .int 0), (2, .ref (qt 0)), (0, .ref o), (1, .int a1)]) hx hb dX6_ends_16 rfl hl (by decide) rfl (fun ls hl => ?_)
    exact J17 100000 0 tf_5 tg_6 tc_7 tv0 hf _ _ hP hD hS _ (lv_sub hl [2, 3, 1, 0] rfl)
  · replace hf := it_of c4 hf
    refine lv_iconst (v := (-1)) hx hb dX6_ends_8 (by decide) ?_
    rw [hQ]
    exact ret_i C0 hP hD hS (by have e := Option.some.inj hf; rw [← e]; exact ⟨rfl, rfl⟩) dX6_ends_9
-- X6 book
noncomputable def k_X6_book (a1 : Int32) (a2 : Int32) (nf : Nat → Int32) (nbc0 : Int32) (nba0 : Nat → Int32) (nbb0 : Nat → Int32) : Option (Int32 × Int32 × (Nat → Int32) × (Nat → Int32)) := if a1 = (-1) then b2 (k_X3_empty nbc0) (fun r19 nbc_20 => some (r19, nbc_20, nba0, nbb0)) else b1 (k_X1_has a1 nf) (fun r2 => if r2 = 0 then some ((-1), nbc0, nba0, nbb0) else b1 (k_X6_isWithin a2 20) (fun r6 => if r6 = 0 then some ((-2), nbc0, nba0, nbb0) else b1 (k_X3_isFull nbc0) (fun r10 => if r10 = 0 then b4 (k_X3_add a1 a2 nbc0 nba0 nbb0) (fun r14 nbc_15 nba_16 nbb_17 => some (r14, nbc_15, nba_16, nbb_17)) else some ((-4), nbc0, nba0, nbb0))))
set_option maxHeartbeats 4000000 in
set_option maxRecDepth 100000 in
theorem c_X6_book {l : Launch} {D : va_G} {cA : Nat → ClassId} (o : Nat) (qn : Nat → Nat) (qk : Nat → Nat) (qt : Nat → Nat) (qx : Nat → Nat) (qa : Nat → Nat) (ts : Nat) (wa : Nat) (qc : Nat → Nat → Nat) (pf : Nat → Int32) (sp : Option Nat) (nf : Nat → Int32) (ng : Nat → Nat → Int32) (nc : Option Nat) (nbc0 : Int32) (nba0 : Nat → Int32) (nbb0 : Nat → Int32) (a1 : Int32) (a2 : Int32) (o : Int32 × Int32 × (Nat → Int32) × (Nat → Int32)) (hf : k_X6_book a1 a2 nf nbc0 nba0 nbb0 = some o) : CI l D cA yX6_book cX6_book 3 (some .int) 1 22 [.ref o, .int a1, .int a2] (List.flatten [(Po o qn qk qt qx qa ts wa pf (chv qc sp)), (Cw qn cA (chv qc nc) nf ng), (Rw (qn 14) (qn 24) (qn 25) cA 8 nbc0 nba0 nbb0)]) 0 0 (fun r w => r = o.1 ∧ w = (List.flatten [(Po o qn qk qt qx qa ts wa pf (chv qc sp)), (Cw qn cA (chv qc nc) nf ng), (Rw (qn 14) (qn 24) (qn 25) cA 8 o.2.1 o.2.2.1 o.2.2.2)])) := by
  intro sz
  refine met_start (by decide) rfl ?_
  intro p e s m args below meth c ls hsz hargs C0 hname hP hD hS hl
  generalize hAe : va_A (List.flatten [(Po o qn qk qt qx qa ts wa pf (chv qc sp)), (Cw qn cA (chv qc nc) nf ng), (Rw (qn 14) (qn 24) (qn 25) cA 8 nbc0 nba0 nbb0)]) sz = A at C0 hD hS ⊢
  obtain ⟨hx, hb, hr, hml, hown, hts, hlk, hK, hA⟩ := id C0
  replace hl : lv_has ls 3 [(0, .ref o), (1, .int a1), (2, .int a2)] := hl
  obtain ⟨Q, hQ⟩ : ∃ Q : State → Prop, Q = QI below D A (fun r w => r = o.1 ∧ w = (List.flatten [(Po o qn qk qt qx qa ts wa pf (chv qc sp)), (Cw qn cA (chv qc nc) nf ng), (Rw (qn 14) (qn 24) (qn 25) cA 8 o.2.1 o.2.2.1 o.2.2.2)])) args s 0 0 := ⟨_, rfl⟩
  refine cast (by rw [hQ]) (?_ : W p l e (RMx 1 22 0 0) s m args below meth c s.heap [] 0 0 Q (F0 m 0 ls []))
  unfold k_X6_book at hf
  refine lv_iload_n hx hb dX6_book_0 rfl (lv_at hl 1 rfl) ?_
  refine lv_iconst (v := (-1)) hx hb dX6_book_1 (by decide) ?_
  refine lv_icmp_ne (tgt := 16) hx hb dX6_book_2 (by decide) (fun c1 => ?_) (fun c1 => ?_)
  · replace hf := ie_of c1 hf
    refine lv_aload_n hx hb dX6_book_16 rfl (lv_at hl 0 rfl) ?_
    refine va_get (D := D) (ci := 6) (v := .ref (qn 0)) (C := RX6) (T := TX6) (N := 10) hx hb hts fw_6 hown hK hP 0 rfl rfl 0 (by decide) (hts _ m_fieldLink_P_14_P_now_LP_Cellar) (fun _ h9 => h9) rfl dX6_book_17 ?_
    refine lv_iload_n hx hb dX6_book_20 rfl (lv_at hl 1 rfl) ?_
    obtain ⟨r2q, hq3, hf⟩ := b1_of hf
    refine callVI (As := [.int a1]) (rest := []) (wr := segpick [(Po o qn qk qt qx qa ts wa pf (chv qc sp)), (Cw qn cA (chv qc nc) nf ng), (Rw (qn 14) (qn 24) (qn 25) cA 8 nbc0 nba0 nbb0)] [0, 2]) C0 (c_X1_has qn qc nf ng nc a1 _ hq3) lk_X6_63_X1_has rfl hP hD hS (seg_out [(Po o qn qk qt qx qa ts wa pf (chv qc sp)), (Cw qn cA (chv qc nc) nf ng), (Rw (qn 14) (qn 24) (qn 25) cA 8 nbc0 nba0 nbb0)] [1] [0, 2] (by decide)) 1 1 rfl rfl rfl hl.1 rfl rfl (Nat.le_of_ble_eq_true rfl) dX6_book_21 ⟨Nat.zero_le _, Nat.zero_le _⟩ (fun r2 w H locs hw hP hD hS => ?_)
    obtain ⟨⟨e1, e2⟩, z4⟩ := hw
    replace e1 : r2 = r2q := e1
    subst e1
    subst e2
    replace hP : va_P D vwCl (List.flatten [(Po o qn qk qt qx qa ts wa pf (chv qc sp)), (Cw qn cA (chv qc nc) nf ng), (Rw (qn 14) (qn 24) (qn 25) cA 8 nbc0 nba0 nbb0)]) H := hP.perm (seg_out [(Po o qn qk qt qx qa ts wa pf (chv qc sp)), (Cw qn cA (chv qc nc) nf ng), (Rw (qn 14) (qn 24) (qn 25) cA 8 nbc0 nba0 nbb0)] [1] [0, 2] (by decide)).symm
    replace hD : va_D A (List.flatten [(Po o qn qk qt qx qa ts wa pf (chv qc sp)), (Cw qn cA (chv qc nc) nf ng), (Rw (qn 14) (qn 24) (qn 25) cA 8 nbc0 nba0 nbb0)]) := hD.perm (seg_out [(Po o qn qk qt qx qa ts wa pf (chv qc sp)), (Cw qn cA (chv qc nc) nf ng), (Rw (qn 14) (qn 24) (qn 25) cA 8 nbc0 nba0 nbb0)] [1] [0, 2] (by decide)).symm
    refine lv_if_ne (tgt := 29) hx hb dX6_book_24 (by decide) (fun c5 => ?_) (fun c5 => ?_)
    · replace hf := ie_of c5 hf
      refine lv_iload_n hx hb dX6_book_29 rfl (lv_at hl 2 rfl) ?_
      refine lv_bipush (v := 20) hx hb dX6_book_30 (by decide) ?_
      obtain ⟨r6q, hq7, hf⟩ := b1_of hf
      refine callSI (As := [.int a2, .int 20]) (rest := []) (wr := (List.flatten [(Po o qn qk qt qx qa ts wa pf (chv qc sp)), (Cw qn cA (chv qc nc) nf ng), (Rw (qn 14) (qn 24) (qn 25) cA 8 nbc0 nba0 nbb0)])) C0 (c_X6_isWithin a2 20 _ hq7) lk_X6_51_X6_isWithin rfl hP hD hS (List.Perm.refl _) hl.1 rfl rfl (Nat.le_of_ble_eq_true rfl) dX6_book_32 ⟨Nat.zero_le _, Nat.zero_le _⟩ (fun r6 w H locs hw hP hD hS => ?_)
      obtain ⟨⟨e1, e2⟩, z8⟩ := hw
      replace e1 : r6 = r6q := e1
      subst e1
      subst e2
      replace hP : va_P D vwCl (List.flatten [(Po o qn qk qt qx qa ts wa pf (chv qc sp)), (Cw qn cA (chv qc nc) nf ng), (Rw (qn 14) (qn 24) (qn 25) cA 8 nbc0 nba0 nbb0)]) H := hP
      replace hD : va_D A (List.flatten [(Po o qn qk qt qx qa ts wa pf (chv qc sp)), (Cw qn cA (chv qc nc) nf ng), (Rw (qn 14) (qn 24) (qn 25) cA 8 nbc0 nba0 nbb0)]) := hD
      refine lv_if_ne (tgt := 41) hx hb dX6_book_35 (by decide) (fun c9 => ?_) (fun c9 => ?_)
      · replace hf := ie_of c9 hf
        refine lv_aload_n hx hb dX6_book_41 rfl (lv_at hl 0 rfl) ?_
        refine va_get (D := D) (ci := 6) (v := .ref (qn 0)) (C := RX6) (T := TX6) (N := 10) hx hb hts fw_6 hown hK hP 0 rfl rfl 0 (by decide) (hts _ m_fieldLink_P_14_P_now_LP_Cellar) (fun _ h9 => h9) rfl dX6_book_42 ?_
        refine va_get (D := D) (ci := 1) (v := .ref (qn 14)) (C := RX1) (T := TX1) (N := 16) hx hb hts fw_1 hown hK hP 1 rfl rfl 14 (by decide) (hts _ m_fieldLink_P_214_P_Cellar_book_LP_Rows) (fun _ h9 => h9) rfl dX6_book_45 ?_
        obtain ⟨r10q, hq11, hf⟩ := b1_of hf
        refine callVI (As := []) (rest := []) (wr := segpick [(Po o qn qk qt qx qa ts wa pf (chv qc sp)), (Cw qn cA (chv qc nc) nf ng), (Rw (qn 14) (qn 24) (qn 25) cA 8 nbc0 nba0 nbb0)] [0, 1]) C0 (c_X3_isFull (qn 14) (qn 24) (qn 25) 8 nbc0 nba0 nbb0 _ hq11) lk_X6_177_X3_isFull rfl hP hD hS (seg_out [(Po o qn qk qt qx qa ts wa pf (chv qc sp)), (Cw qn cA (chv qc nc) nf ng), (Rw (qn 14) (qn 24) (qn 25) cA 8 nbc0 nba0 nbb0)] [2] [0, 1] (by decide)) 7 3 rfl rfl rfl hl.1 rfl rfl (Nat.le_of_ble_eq_true rfl) dX6_book_48 ⟨Nat.zero_le _, Nat.zero_le _⟩ (fun r10 w H locs hw hP hD hS => ?_)
        obtain ⟨⟨e1, e2⟩, z12⟩ := hw
        replace e1 : r10 = r10q := e1
        subst e1
        subst e2
        replace hP : va_P D vwCl (List.flatten [(Po o qn qk qt qx qa ts wa pf (chv qc sp)), (Cw qn cA (chv qc nc) nf ng), (Rw (qn 14) (qn 24) (qn 25) cA 8 nbc0 nba0 nbb0)]) H := hP.perm (seg_out [(Po o qn qk qt qx qa ts wa pf (chv qc sp)), (Cw qn cA (chv qc nc) nf ng), (Rw (qn 14) (qn 24) (qn 25) cA 8 nbc0 nba0 nbb0)] [2] [0, 1] (by decide)).symm
        replace hD : va_D A (List.flatten [(Po o qn qk qt qx qa ts wa pf (chv qc sp)), (Cw qn cA (chv qc nc) nf ng), (Rw (qn 14) (qn 24) (qn 25) cA 8 nbc0 nba0 nbb0)]) := hD.perm (seg_out [(Po o qn qk qt qx qa ts wa pf (chv qc sp)), (Cw qn cA (chv qc nc) nf ng), (Rw (qn 14) (qn 24) (qn 25) cA 8 nbc0 nba0 nbb0)] [2] [0, 1] (by decide)).symm
        refine lv_if_eq (tgt := 59) hx hb dX6_book_51 (by decide) (fun c13 => ?_) (fun c13 => ?_)
        · replace hf := it_of c13 hf
          refine lv_aload_n hx hb dX6_book_59 rfl (lv_at hl 0 rfl) ?_
          refine va_get (D := D) (ci := 6) (v := .ref (qn 0)) (C := RX6) (T := TX6) (N := 10) hx hb hts fw_6 hown hK hP 0 rfl rfl 0 (by decide) (hts _ m_fieldLink_P_14_P_now_LP_Cellar) (fun _ h9 => h9) rfl dX6_book_60 ?_
          refine va_get (D := D) (ci := 1) (v := .ref (qn 14)) (C := RX1) (T := TX1) (N := 16) hx hb hts fw_1 hown hK hP 1 rfl rfl 14 (by decide) (hts _ m_fieldLink_P_214_P_Cellar_book_LP_Rows) (fun _ h9 => h9) rfl dX6_book_63 ?_
          refine lv_iload_n hx hb dX6_book_66 rfl (lv_at hl 1 rfl) ?_
          refine lv_iload_n hx hb dX6_book_67 rfl (lv_at hl 2 rfl) ?_
          obtain ⟨r14q, nbc_15, nba_16, nbb_17, hq18, hf⟩ := b4_of hf
          refine callVI (As := [.int a1, .int a2]) (rest := []) (wr := segpick [(Po o qn qk qt qx qa ts wa pf (chv qc sp)), (Cw qn cA (chv qc nc) nf ng), (Rw (qn 14) (qn 24) (qn 25) cA 8 nbc0 nba0 nbb0)] [0, 1]) C0 (c_X3_add (qn 14) (qn 24) (qn 25) 8 nbc0 nba0 nbb0 a1 a2 _ hq18) lk_X6_181_X3_add rfl hP hD hS (seg_out [(Po o qn qk qt qx qa ts wa pf (chv qc sp)), (Cw qn cA (chv qc nc) nf ng), (Rw (qn 14) (qn 24) (qn 25) cA 8 nbc0 nba0 nbb0)] [2] [0, 1] (by decide)) 7 3 rfl rfl rfl hl.1 rfl rfl (Nat.le_of_ble_eq_true rfl) dX6_book_68 ⟨Nat.zero_le _, Nat.zero_le _⟩ (fun r14 w H locs hw hP hD hS => ?_)
          obtain ⟨e1, e2⟩ := hw
          replace e1 : r14 = r14q := e1
          subst e1
          subst e2
          replace hP : va_P D vwCl (List.flatten [(Po o qn qk qt qx qa ts wa pf (chv qc sp)), (Cw qn cA (chv qc nc) nf ng), (Rw (qn 14) (qn 24) (qn 25) cA 8 nbc_15 nba_16 nbb_17)]) H := hP.perm (seg_out [(Po o qn qk qt qx qa ts wa pf (chv qc sp)), (Cw qn cA (chv qc nc) nf ng), (Rw (qn 14) (qn 24) (qn 25) cA 8 nbc_15 nba_16 nbb_17)] [2] [0, 1] (by decide)).symm
          replace hD : va_D A (List.flatten [(Po o qn qk qt qx qa ts wa pf (chv qc sp)), (Cw qn cA (chv qc nc) nf ng), (Rw (qn 14) (qn 24) (qn 25) cA 8 nbc_15 nba_16 nbb_17)]) := hD.perm (seg_out [(Po o qn qk qt qx qa ts wa pf (chv qc sp)), (Cw qn cA (chv qc nc) nf ng), (Rw (qn 14) (qn 24) (qn 25) cA 8 nbc_15 nba_16 nbb_17)] [2] [0, 1] (by decide)).symm
          rw [hQ]
          exact ret_i C0 hP hD hS (by have e := Option.some.inj hf; rw [← e]; exact ⟨rfl, rfl⟩) dX6_book_71
        · replace hf := ie_of c13 hf
          refine lv_bipush (v := (-4)) hx hb dX6_book_54 (by decide) ?_
          refine lv_goto (tgt := 71) hx hb dX6_book_56 (by decide) ?_
          rw [hQ]
          exact ret_i C0 hP hD hS (by have e := Option.some.inj hf; rw [← e]; exact ⟨rfl, rfl⟩) dX6_book_71
      · replace hf := it_of c9 hf
        refine lv_bipush (v := (-2)) hx hb dX6_book_38 (by decide) ?_
        rw [hQ]
        exact ret_i C0 hP hD hS (by have e := Option.some.inj hf; rw [← e]; exact ⟨rfl, rfl⟩) dX6_book_40
    · replace hf := it_of c5 hf
      refine lv_iconst (v := (-1)) hx hb dX6_book_27 (by decide) ?_
      rw [hQ]
      exact ret_i C0 hP hD hS (by have e := Option.some.inj hf; rw [← e]; exact ⟨rfl, rfl⟩) dX6_book_28
  · replace hf := it_of c1 hf
    refine lv_aload_n hx hb dX6_book_5 rfl (lv_at hl 0 rfl) ?_
    refine va_get (D := D) (ci := 6) (v := .ref (qn 0)) (C := RX6) (T := TX6) (N := 10) hx hb hts fw_6 hown hK hP 0 rfl rfl 0 (by decide) (hts _ m_fieldLink_P_14_P_now_LP_Cellar) (fun _ h9 => h9) rfl dX6_book_6 ?_
    refine va_get (D := D) (ci := 1) (v := .ref (qn 14)) (C := RX1) (T := TX1) (N := 16) hx hb hts fw_1 hown hK hP 1 rfl rfl 14 (by decide) (hts _ m_fieldLink_P_214_P_Cellar_book_LP_Rows) (fun _ h9 => h9) rfl dX6_book_9 ?_
    obtain ⟨r19q, nbc_20, hq21, hf⟩ := b2_of hf
    refine callVI (As := []) (rest := []) (wr := segpick [(Po o qn qk qt qx qa ts wa pf (chv qc sp)), (Cw qn cA (chv qc nc) nf ng), (Rw (qn 14) (qn 24) (qn 25) cA 8 nbc0 nba0 nbb0)] [0, 1]) C0 (c_X3_empty (qn 14) (qn 24) (qn 25) 8 nbc0 nba0 nbb0 _ hq21) lk_X6_172_X3_empty rfl hP hD hS (seg_out [(Po o qn qk qt qx qa ts wa pf (chv qc sp)), (Cw qn cA (chv qc nc) nf ng), (Rw (qn 14) (qn 24) (qn 25) cA 8 nbc0 nba0 nbb0)] [2] [0, 1] (by decide)) 7 3 rfl rfl rfl hl.1 rfl rfl (Nat.le_of_ble_eq_true rfl) dX6_book_12 ⟨Nat.zero_le _, Nat.zero_le _⟩ (fun r19 w H locs hw hP hD hS => ?_)
    obtain ⟨e1, e2⟩ := hw
    replace e1 : r19 = r19q := e1
    subst e1
    subst e2
    replace hP : va_P D vwCl (List.flatten [(Po o qn qk qt qx qa ts wa pf (chv qc sp)), (Cw qn cA (chv qc nc) nf ng), (Rw (qn 14) (qn 24) (qn 25) cA 8 nbc_20 nba0 nbb0)]) H := hP.perm (seg_out [(Po o qn qk qt qx qa ts wa pf (chv qc sp)), (Cw qn cA (chv qc nc) nf ng), (Rw (qn 14) (qn 24) (qn 25) cA 8 nbc_20 nba0 nbb0)] [2] [0, 1] (by decide)).symm
    replace hD : va_D A (List.flatten [(Po o qn qk qt qx qa ts wa pf (chv qc sp)), (Cw qn cA (chv qc nc) nf ng), (Rw (qn 14) (qn 24) (qn 25) cA 8 nbc_20 nba0 nbb0)]) := hD.perm (seg_out [(Po o qn qk qt qx qa ts wa pf (chv qc sp)), (Cw qn cA (chv qc nc) nf ng), (Rw (qn 14) (qn 24) (qn 25) cA 8 nbc_20 nba0 nbb0)] [2] [0, 1] (by decide)).symm
    rw [hQ]
    exact ret_i C0 hP hD hS (by have e := Option.some.inj hf; rw [← e]; exact ⟨rfl, rfl⟩) dX6_book_15
-- X6 looked
noncomputable def k_X6_looked_2 (nf : Nat → Int32) (ng : Nat → Nat → Int32) (nbc : Int32) (nba : Nat → Int32) (nbb : Nat → Int32) : Nat → Int32 → Option Int32
  | 0, _ => none
  | n + 1, x1 => if nbc ≤ x1 then some (-5) else gd x1 8 (b1 (k_X1_has (nba (Int32.toNatClampNeg x1)) nf) (fun r3 => if r3 = 0 then k_X6_looked_2 nf ng nbc nba nbb n (x1 + 1) else gd (nba (Int32.toNatClampNeg x1)) 6 (gd x1 8 (if ((ng 9) (Int32.toNatClampNeg (nba (Int32.toNatClampNeg x1)))) = (nbb (Int32.toNatClampNeg x1)) then k_X6_looked_2 nf ng nbc nba nbb n (x1 + 1) else some x1))))
noncomputable def k_X6_looked (nf : Nat → Int32) (ng : Nat → Nat → Int32) (nbc : Int32) (nba : Nat → Int32) (nbb : Nat → Int32) : Option Int32 := k_X6_looked_2 nf ng nbc nba nbb 100000 0
set_option maxHeartbeats 4000000 in
set_option maxRecDepth 100000 in
theorem c_X6_looked {l : Launch} {D : va_G} {cA : Nat → ClassId} (o : Nat) (qn : Nat → Nat) (qk : Nat → Nat) (qt : Nat → Nat) (qx : Nat → Nat) (qa : Nat → Nat) (ts : Nat) (wa : Nat) (qc : Nat → Nat → Nat) (pf : Nat → Int32) (sp : Option Nat) (nf : Nat → Int32) (ng : Nat → Nat → Int32) (nc : Option Nat) (nbc : Int32) (nba : Nat → Int32) (nbb : Nat → Int32)  (o : Int32) (hf : k_X6_looked nf ng nbc nba nbb = some o) : CI l D cA yX6_looked cX6_looked 3 (some .int) 1 21 [.ref o] (List.flatten [(Po o qn qk qt qx qa ts wa pf (chv qc sp)), (Cw qn cA (chv qc nc) nf ng), (Rw (qn 14) (qn 24) (qn 25) cA 8 nbc nba nbb)]) 0 0 (fun r w => r = o ∧ w = (List.flatten [(Po o qn qk qt qx qa ts wa pf (chv qc sp)), (Cw qn cA (chv qc nc) nf ng), (Rw (qn 14) (qn 24) (qn 25) cA 8 nbc nba nbb)])) := by
  intro sz
  refine met_start (by decide) rfl ?_
  intro p e s m args below meth c ls hsz hargs C0 hname hP hD hS hl
  generalize hAe : va_A (List.flatten [(Po o qn qk qt qx qa ts wa pf (chv qc sp)), (Cw qn cA (chv qc nc) nf ng), (Rw (qn 14) (qn 24) (qn 25) cA 8 nbc nba nbb)]) sz = A at C0 hD hS ⊢
  obtain ⟨hx, hb, hr, hml, hown, hts, hlk, hK, hA⟩ := id C0
  replace hl : lv_has ls 3 [(0, .ref o)] := hl
  obtain ⟨Q, hQ⟩ : ∃ Q : State → Prop, Q = QI below D A (fun r w => r = o ∧ w = (List.flatten [(Po o qn qk qt qx qa ts wa pf (chv qc sp)), (Cw qn cA (chv qc nc) nf ng), (Rw (qn 14) (qn 24) (qn 25) cA 8 nbc nba nbb)])) args s 0 0 := ⟨_, rfl⟩
  refine cast (by rw [hQ]) (?_ : W p l e (RMx 1 21 0 0) s m args below meth c s.heap [] 0 0 Q (F0 m 0 ls []))
  have J2 : ∀ n : Nat, ∀ (x1 : Int32), k_X6_looked_2 nf ng nbc nba nbb n x1 = some o → ∀ (H : Heap) (locs : List Loc), va_P D vwCl (List.flatten [(Po o qn qk qt qx qa ts wa pf (chv qc sp)), (Cw qn cA (chv qc nc) nf ng), (Rw (qn 14) (qn 24) (qn 25) cA 8 nbc nba nbb)]) H → va_D A (List.flatten [(Po o qn qk qt qx qa ts wa pf (chv qc sp)), (Cw qn cA (chv qc nc) nf ng), (Rw (qn 14) (qn 24) (qn 25) cA 8 nbc nba nbb)]) → va_S A s.heap H locs → ∀ ls : Array Slot, lv_has ls 3 [(0, .ref o), (1, .int x1)] → W p l e (RMx 1 21 0 0) s m args below meth c H locs 0 0 Q (F0 m 2 ls []) := by
    intro  n
    induction n with
    | zero =>
      intro x1 hf
      rw [k_X6_looked_2] at hf
      cases hf
    | succ n ih =>
      intro x1 hf H locs hP hD hS ls hl
      rw [k_X6_looked_2] at hf
      refine lv_iload_n hx hb dX6_looked_2 rfl (lv_at hl 1 rfl) ?_
      refine lv_aload_n hx hb dX6_looked_3 rfl (lv_at hl 0 rfl) ?_
      refine va_get (D := D) (ci := 6) (v := .ref (qn 0)) (C := RX6) (T := TX6) (N := 10) hx hb hts fw_6 hown hK hP 0 rfl rfl 0 (by decide) (hts _ m_fieldLink_P_14_P_now_LP_Cellar) (fun _ h9 => h9) rfl dX6_looked_4 ?_
      refine va_get (D := D) (ci := 1) (v := .ref (qn 14)) (C := RX1) (T := TX1) (N := 16) hx hb hts fw_1 hown hK hP 1 rfl rfl 14 (by decide) (hts _ m_fieldLink_P_214_P_Cellar_book_LP_Rows) (fun _ h9 => h9) rfl dX6_looked_7 ?_
      refine va_get (D := D) (ci := 3) (v := .int nbc) (C := RX3) (T := TX3) (N := 3) hx hb hts fw_3 hown hK hP 7 rfl rfl 0 (by decide) (hts _ m_fieldLink_P_201_P_Rows_count_I) (fun _ h9 => h9) rfl dX6_looked_10 ?_
      refine lv_icmp_ge (tgt := 72) hx hb dX6_looked_13 (by decide) (fun c1 => ?_) (fun c1 => ?_)
      · replace hf := it_of c1 hf
        refine lv_bipush (v := (-5)) hx hb dX6_looked_72 (by decide) ?_
        rw [hQ]
        exact ret_i C0 hP hD hS (by have e := Option.some.inj hf; rw [← e]; exact ⟨rfl, rfl⟩) dX6_looked_74
      · replace hf := ie_of c1 hf
        refine lv_aload_n hx hb dX6_looked_16 rfl (lv_at hl 0 rfl) ?_
        refine va_get (D := D) (ci := 6) (v := .ref (qn 0)) (C := RX6) (T := TX6) (N := 10) hx hb hts fw_6 hown hK hP 0 rfl rfl 0 (by decide) (hts _ m_fieldLink_P_14_P_now_LP_Cellar) (fun _ h9 => h9) rfl dX6_looked_17 ?_
        refine va_get (D := D) (ci := 1) (v := .ref (qn 14)) (C := RX1) (T := TX1) (N := 16) hx hb hts fw_1 hown hK hP 1 rfl rfl 14 (by decide) (hts _ m_fieldLink_P_214_P_Cellar_book_LP_Rows) (fun _ h9 => h9) rfl dX6_looked_20 ?_
        refine va_get (D := D) (ci := 3) (v := .ref (qn 24)) (C := RX3) (T := TX3) (N := 3) hx hb hts fw_3 hown hK hP 7 rfl rfl 1 (by decide) (hts _ m_fieldLink_P_204_P_Rows_first_aI) (fun _ h9 => h9) rfl dX6_looked_23 ?_
        refine lv_iload_n hx hb dX6_looked_26 rfl (lv_at hl 1 rfl) ?_
        obtain ⟨hi2, hf⟩ := gd_of hf
        refine va_iald hx hb hK hP 8 0 rfl rfl hi2 dX6_looked_27 ?_
        refine lv_istore_n (lv' := [(2, .int (nba (Int32.toNatClampNeg x1))), (0, .ref o), (1, .int x1)]) hx hb dX6_looked_28 rfl hl (by decide) rfl (fun ls hl => ?_)
        refine lv_aload_n hx hb dX6_looked_29 rfl (lv_at hl 1 rfl) ?_
        refine va_get (D := D) (ci := 6) (v := .ref (qn 0)) (C := RX6) (T := TX6) (N := 10) hx hb hts fw_6 hown hK hP 0 rfl rfl 0 (by decide) (hts _ m_fieldLink_P_14_P_now_LP_Cellar) (fun _ h9 => h9) rfl dX6_looked_30 ?_
        refine lv_iload_n hx hb dX6_looked_33 rfl (lv_at hl 0 rfl) ?_
        obtain ⟨r3q, hq4, hf⟩ := b1_of hf
        refine callVI (As := [.int (nba (Int32.toNatClampNeg x1))]) (rest := []) (wr := segpick [(Po o qn qk qt qx qa ts wa pf (chv qc sp)), (Cw qn cA (chv qc nc) nf ng), (Rw (qn 14) (qn 24) (qn 25) cA 8 nbc nba nbb)] [0, 2]) C0 (c_X1_has qn qc nf ng nc (nba (Int32.toNatClampNeg x1)) _ hq4) lk_X6_63_X1_has rfl hP hD hS (seg_out [(Po o qn qk qt qx qa ts wa pf (chv qc sp)), (Cw qn cA (chv qc nc) nf ng), (Rw (qn 14) (qn 24) (qn 25) cA 8 nbc nba nbb)] [1] [0, 2] (by decide)) 1 1 rfl rfl rfl hl.1 rfl rfl (Nat.le_of_ble_eq_true rfl) dX6_looked_34 ⟨Nat.zero_le _, Nat.zero_le _⟩ (fun r3 w H locs hw hP hD hS => ?_)
        obtain ⟨⟨e1, e2⟩, z5⟩ := hw
        replace e1 : r3 = r3q := e1
        subst e1
        subst e2
        replace hP : va_P D vwCl (List.flatten [(Po o qn qk qt qx qa ts wa pf (chv qc sp)), (Cw qn cA (chv qc nc) nf ng), (Rw (qn 14) (qn 24) (qn 25) cA 8 nbc nba nbb)]) H := hP.perm (seg_out [(Po o qn qk qt qx qa ts wa pf (chv qc sp)), (Cw qn cA (chv qc nc) nf ng), (Rw (qn 14) (qn 24) (qn 25) cA 8 nbc nba nbb)] [1] [0, 2] (by decide)).symm
        replace hD : va_D A (List.flatten [(Po o qn qk qt qx qa ts wa pf (chv qc sp)), (Cw qn cA (chv qc nc) nf ng), (Rw (qn 14) (qn 24) (qn 25) cA 8 nbc nba nbb)]) := hD.perm (seg_out [(Po o qn qk qt qx qa ts wa pf (chv qc sp)), (Cw qn cA (chv qc nc) nf ng), (Rw (qn 14) (qn 24) (qn 25) cA 8 nbc nba nbb)] [1] [0, 2] (by decide)).symm
        refine lv_if_eq (tgt := 66) hx hb dX6_looked_37 (by decide) (fun c6 => ?_) (fun c6 => ?_)
        · replace hf := it_of c6 hf
          refine lv_iinc (v := (x1 + 1)) (lv' := [(1, .int (x1 + 1)), (2, .int (nba (Int32.toNatClampNeg x1))), (0, .ref o)]) hx hb dX6_looked_66 hl (k := 2) rfl rfl (by decide) rfl (fun ls hl => ?_)
          refine lv_goto (tgt := 2) hx hb dX6_looked_69 (by decide) ?_
          exact ih (x1 + 1) hf _ _ hP hD hS _ (lv_sub hl [2, 0] rfl)
        · replace hf := ie_of c6 hf
          refine lv_aload_n hx hb dX6_looked_40 rfl (lv_at hl 1 rfl) ?_
          refine va_get (D := D) (ci := 6) (v := .ref (qn 0)) (C := RX6) (T := TX6) (N := 10) hx hb hts fw_6 hown hK hP 0 rfl rfl 0 (by decide) (hts _ m_fieldLink_P_14_P_now_LP_Cellar) (fun _ h9 => h9) rfl dX6_looked_41 ?_
          refine va_get (D := D) (ci := 1) (v := .ref (qn 9)) (C := RX1) (T := TX1) (N := 16) hx hb hts fw_1 hown hK hP 1 rfl rfl 9 (by decide) (hts _ m_fieldLink_P_73_P_Cellar_nerve_aI) (fun _ h9 => h9) rfl dX6_looked_44 ?_
          refine lv_iload_n hx hb dX6_looked_47 rfl (lv_at hl 0 rfl) ?_
          obtain ⟨hi7, hf⟩ := gd_of hf
          refine va_iald hx hb hK hP 4 0 rfl rfl hi7 dX6_looked_48 ?_
          refine lv_aload_n hx hb dX6_looked_49 rfl (lv_at hl 1 rfl) ?_
          refine va_get (D := D) (ci := 6) (v := .ref (qn 0)) (C := RX6) (T := TX6) (N := 10) hx hb hts fw_6 hown hK hP 0 rfl rfl 0 (by decide) (hts _ m_fieldLink_P_14_P_now_LP_Cellar) (fun _ h9 => h9) rfl dX6_looked_50 ?_
          refine va_get (D := D) (ci := 1) (v := .ref (qn 14)) (C := RX1) (T := TX1) (N := 16) hx hb hts fw_1 hown hK hP 1 rfl rfl 14 (by decide) (hts _ m_fieldLink_P_214_P_Cellar_book_LP_Rows) (fun _ h9 => h9) rfl dX6_looked_53 ?_
          refine va_get (D := D) (ci := 3) (v := .ref (qn 25)) (C := RX3) (T := TX3) (N := 3) hx hb hts fw_3 hown hK hP 7 rfl rfl 2 (by decide) (hts _ m_fieldLink_P_207_P_Rows_second_aI) (fun _ h9 => h9) rfl dX6_looked_56 ?_
          refine lv_iload_n hx hb dX6_looked_59 rfl (lv_at hl 2 rfl) ?_
          obtain ⟨hi8, hf⟩ := gd_of hf
          refine va_iald hx hb hK hP 9 0 rfl rfl hi8 dX6_looked_60 ?_
          refine lv_icmp_eq (tgt := 66) hx hb dX6_looked_61 (by decide) (fun c9 => ?_) (fun c9 => ?_)
          · replace hf := it_of c9 hf
            refine lv_iinc (v := (x1 + 1)) (lv' := [(1, .int (x1 + 1)), (2, .int (nba (Int32.toNatClampNeg x1))), (0, .ref o)]) hx hb dX6_looked_66 hl (k := 2) rfl rfl (by decide) rfl (fun ls hl => ?_)
            refine lv_goto (tgt := 2) hx hb dX6_looked_69 (by decide) ?_
            exact ih (x1 + 1) hf _ _ hP hD hS _ (lv_sub hl [2, 0] rfl)
          · replace hf := ie_of c9 hf
            refine lv_iload_n hx hb dX6_looked_64 rfl (lv_at hl 2 rfl) ?_
            rw [hQ]
            exact ret_i C0 hP hD hS (by have e := Option.some.inj hf; rw [← e]; exact ⟨rfl, rfl⟩) dX6_looked_65
  unfold k_X6_looked at hf
  refine lv_iconst (v := 0) hx hb dX6_looked_0 (by decide) ?_
  refine lv_istore_n (lv' := [(1, .int 0), (0, .ref o)]) hx hb dX6_looked_1 rfl hl (by decide) rfl (fun ls hl => ?_)
  exact J2 100000 0 hf _ _ hP hD hS _ (lv_sub hl [1, 0] rfl)
-- X6 judge
noncomputable def k_X6_judge_39 (a1 : Int32) (a2 : Int32) (tpf : Nat → Nat → Int32) (tpi : Nat → Nat → Int64) (nf : Nat → Int32) (ng : Nat → Nat → Int32) : Nat → Int32 → Option Int32
  | 0, _ => none
  | n + 1, x4 => if (nf 0) ≤ x4 then some (-5) else if a2 < 0 then some (100 + x4) else gd a1 6 (if a2 < ((tpf (Int32.toNatClampNeg a1) 1) - x4) then gd a1 6 (gd a1 6 (gd (a2 + x4) 60 (gd x4 6 (if (lg_cmp ((tpi (Int32.toNatClampNeg a1)) (Int32.toNatClampNeg (a2 + x4))) (Int32.toInt64 ((ng 10) (Int32.toNatClampNeg x4)))) = 0 then k_X6_judge_39 a1 a2 tpf tpi nf ng n (x4 + 1) else some x4)))) else some (100 + x4))
noncomputable def k_X6_judge (a1 : Int32) (a2 : Int32) (tpf : Nat → Nat → Int32) (tpi : Nat → Nat → Int64) (pf : Nat → Int32) (nf : Nat → Int32) (ng : Nat → Nat → Int32) : Option Int32 := b1 (k_X6_isWithin a1 5) (fun r1 => if r1 = 0 then some (-1) else gd a1 6 (gd a1 6 (if (tpf (Int32.toNatClampNeg a1) 0) = (-1) then k_X6_judge_39 a1 a2 tpf tpi nf ng 100000 0 else gd a1 6 (if (tpf (Int32.toNatClampNeg a1) 0) = 2 then k_X6_judge_39 a1 a2 tpf tpi nf ng 100000 0 else some (-12)))))
set_option maxHeartbeats 4000000 in
set_option maxRecDepth 100000 in
theorem c_X6_judge {l : Launch} {D : va_G} {cA : Nat → ClassId} (o : Nat) (qn : Nat → Nat) (qk : Nat → Nat) (qt : Nat → Nat) (qx : Nat → Nat) (qa : Nat → Nat) (ts : Nat) (wa : Nat) (qc : Nat → Nat → Nat) (qs : Nat → Nat → Nat) (tpf : Nat → Nat → Int32) (tpi : Nat → Nat → Int64) (pf : Nat → Int32) (sp : Option Nat) (nf : Nat → Int32) (ng : Nat → Nat → Int32) (nc : Option Nat) (a1 : Int32) (a2 : Int32) (o : Int32) (hf : k_X6_judge a1 a2 tpf tpi pf nf ng = some o) : CI l D cA yX6_judge cX6_judge 5 (some .int) 1 21 [.ref o, .int a1, .int a2] (List.flatten [(Tps qs cA tpf tpi), (Po o qn qk qt qx qa ts wa pf (chv qc sp)), (Cw qn cA (chv qc nc) nf ng), (TAw ts cA qs)]) 0 0 (fun r w => r = o ∧ w = (List.flatten [(Tps qs cA tpf tpi), (Po o qn qk qt qx qa ts wa pf (chv qc sp)), (Cw qn cA (chv qc nc) nf ng), (TAw ts cA qs)])) := by
  intro sz
  refine met_start (by decide) rfl ?_
  intro p e s m args below meth c ls hsz hargs C0 hname hP hD hS hl
  generalize hAe : va_A (List.flatten [(Tps qs cA tpf tpi), (Po o qn qk qt qx qa ts wa pf (chv qc sp)), (Cw qn cA (chv qc nc) nf ng), (TAw ts cA qs)]) sz = A at C0 hD hS ⊢
  obtain ⟨hx, hb, hr, hml, hown, hts, hlk, hK, hA⟩ := id C0
  replace hl : lv_has ls 5 [(0, .ref o), (1, .int a1), (2, .int a2)] := hl
  obtain ⟨Q, hQ⟩ : ∃ Q : State → Prop, Q = QI below D A (fun r w => r = o ∧ w = (List.flatten [(Tps qs cA tpf tpi), (Po o qn qk qt qx qa ts wa pf (chv qc sp)), (Cw qn cA (chv qc nc) nf ng), (TAw ts cA qs)])) args s 0 0 := ⟨_, rfl⟩
  refine cast (by rw [hQ]) (?_ : W p l e (RMx 1 21 0 0) s m args below meth c s.heap [] 0 0 Q (F0 m 0 ls []))
  have J39 : ∀ n : Nat, ∀ (x4 : Int32), k_X6_judge_39 a1 a2 tpf tpi nf ng n x4 = some o → ∀ (H : Heap) (locs : List Loc), va_P D vwCl (List.flatten [(Tps qs cA tpf tpi), (Po o qn qk qt qx qa ts wa pf (chv qc sp)), (Cw qn cA (chv qc nc) nf ng), (TAw ts cA qs)]) H → va_D A (List.flatten [(Tps qs cA tpf tpi), (Po o qn qk qt qx qa ts wa pf (chv qc sp)), (Cw qn cA (chv qc nc) nf ng), (TAw ts cA qs)]) → va_S A s.heap H locs → ∀ ls : Array Slot, lv_has ls 5 [(0, .ref o), (2, .int a2), (3, .ref (qs (Int32.toNatClampNeg a1) 0)), (4, .int x4)] → W p l e (RMx 1 21 0 0) s m args below meth c H locs 0 0 Q (F0 m 39 ls []) := by
    intro  n
    induction n with
    | zero =>
      intro x4 hf
      rw [k_X6_judge_39] at hf
      cases hf
    | succ n ih =>
      intro x4 hf H locs hP hD hS ls hl
      rw [k_X6_judge_39] at hf
      refine lv_iload hx hb dX6_judge_39 (lv_at hl 3 rfl) ?_
      refine lv_aload_n hx hb dX6_judge_41 rfl (lv_at hl 0 rfl) ?_
      refine va_get (D := D) (ci := 6) (v := .ref (qn 0)) (C := RX6) (T := TX6) (N := 10) hx hb hts fw_6 hown hK hP 12 rfl rfl 0 (by decide) (hts _ m_fieldLink_P_14_P_now_LP_Cellar) (fun _ h9 => h9) rfl dX6_judge_42 ?_
      refine va_get (D := D) (ci := 1) (v := .int (nf 0)) (C := RX1) (T := TX1) (N := 16) hx hb hts fw_1 hown hK hP 13 rfl rfl 0 (by decide) (hts _ m_fieldLink_P_55_P_Cellar_men_I) (fun _ h9 => h9) rfl dX6_judge_45 ?_
      refine lv_icmp_ge (tgt := 105) hx hb dX6_judge_48 (by decide) (fun c1 => ?_) (fun c1 => ?_)
      · replace hf := it_of c1 hf
        refine lv_bipush (v := (-5)) hx hb dX6_judge_105 (by decide) ?_
        rw [hQ]
        exact ret_i C0 hP hD hS (by have e := Option.some.inj hf; rw [← e]; exact ⟨rfl, rfl⟩) dX6_judge_107
      · replace hf := ie_of c1 hf
        refine lv_iload_n hx hb dX6_judge_51 rfl (lv_at hl 1 rfl) ?_
        refine lv_if_lt (tgt := 66) hx hb dX6_judge_52 (by decide) (fun c2 => ?_) (fun c2 => ?_)
        · replace hf := it_of c2 hf
          refine lv_bipush (v := 100) hx hb dX6_judge_66 (by decide) ?_
          refine lv_iload hx hb dX6_judge_68 (lv_at hl 3 rfl) ?_
          refine lv_iadd hx hb dX6_judge_70 ?_
          rw [hQ]
          exact ret_i C0 hP hD hS (by have e := Option.some.inj hf; rw [← e]; exact ⟨rfl, rfl⟩) dX6_judge_71
        · replace hf := ie_of c2 hf
          refine lv_iload_n hx hb dX6_judge_55 rfl (lv_at hl 1 rfl) ?_
          refine lv_aload_n hx hb dX6_judge_56 rfl (lv_at hl 2 rfl) ?_
          obtain ⟨hj3, hf⟩ := gd_of hf
          refine va_get (D := D) (ci := 4) (v := .int (tpf (Int32.toNatClampNeg a1) 1)) (C := RX4) (T := TX4) (N := 3) hx hb hts fw_4 hown hK hP (2 * (Int32.toNatClampNeg a1) + 0) (tps_at (vp_lt hj3) (by decide) _) rfl 1 (by decide) (hts _ m_fieldLink_P_220_P_Tape_size_I) (fun _ h9 => h9) rfl dX6_judge_57 ?_
          refine lv_iload hx hb dX6_judge_60 (lv_at hl 3 rfl) ?_
          refine lv_isub hx hb dX6_judge_62 ?_
          refine lv_icmp_lt (tgt := 72) hx hb dX6_judge_63 (by decide) (fun c4 => ?_) (fun c4 => ?_)
          · replace hf := it_of c4 hf
            refine lv_aload_n hx hb dX6_judge_72 rfl (lv_at hl 2 rfl) ?_
            obtain ⟨hj5, hf⟩ := gd_of hf
            refine va_get (D := D) (ci := 4) (v := .ref (qs (Int32.toNatClampNeg a1) 1)) (C := RX4) (T := TX4) (N := 3) hx hb hts fw_4 hown hK hP (2 * (Int32.toNatClampNeg a1) + 0) (tps_at (vp_lt hj5) (by decide) _) rfl 2 (by decide) (hts _ m_fieldLink_P_223_P_Tape_items_aJ) (fun _ h9 => h9) rfl dX6_judge_73 ?_
            refine lv_iload_n hx hb dX6_judge_76 rfl (lv_at hl 1 rfl) ?_
            refine lv_iload hx hb dX6_judge_77 (lv_at hl 3 rfl) ?_
            refine lv_iadd hx hb dX6_judge_79 ?_
            obtain ⟨hj6, hf⟩ := gd_of hf
            obtain ⟨hi7, hf⟩ := gd_of hf
            refine va_lald hx hb hK hP (2 * (Int32.toNatClampNeg a1) + 1) 2 (tps_at (vp_lt hj6) (by decide) _) rfl hi7 dX6_judge_80 ?_
            refine lv_aload_n hx hb dX6_judge_81 rfl (lv_at hl 0 rfl) ?_
            refine va_get (D := D) (ci := 6) (v := .ref (qn 0)) (C := RX6) (T := TX6) (N := 10) hx hb hts fw_6 hown hK hP 12 rfl rfl 0 (by decide) (hts _ m_fieldLink_P_14_P_now_LP_Cellar) (fun _ h9 => h9) rfl dX6_judge_82 ?_
            refine va_get (D := D) (ci := 1) (v := .ref (qn 10)) (C := RX1) (T := TX1) (N := 16) hx hb hts fw_1 hown hK hP 13 rfl rfl 10 (by decide) (hts _ m_fieldLink_P_79_P_Cellar_spell_aI) (fun _ h9 => h9) rfl dX6_judge_85 ?_
            refine lv_iload hx hb dX6_judge_88 (lv_at hl 3 rfl) ?_
            obtain ⟨hi8, hf⟩ := gd_of hf
            refine va_iald hx hb hK hP 17 0 rfl rfl hi8 dX6_judge_90 ?_
            refine lv_i2l (v := (Int32.toInt64 ((ng 10) (Int32.toNatClampNeg x4)))) hx hb dX6_judge_91 rfl ?_
            refine W.lcmp hx hb dX6_judge_92 ?_
            refine lv_if_eq (tgt := 99) hx hb dX6_judge_93 (by decide) (fun c9 => ?_) (fun c9 => ?_)
            · replace hf := it_of c9 hf
              refine lv_iinc (v := (x4 + 1)) (lv' := [(4, .int (x4 + 1)), (0, .ref o), (2, .int a2), (3, .ref (qs (Int32.toNatClampNeg a1) 0))]) hx hb dX6_judge_99 hl (k := 3) rfl rfl (by decide) rfl (fun ls hl => ?_)
              refine lv_goto (tgt := 39) hx hb dX6_judge_102 (by decide) ?_
              exact ih (x4 + 1) hf _ _ hP hD hS _ (lv_sub hl [1, 2, 3, 0] rfl)
            · replace hf := ie_of c9 hf
              refine lv_iload hx hb dX6_judge_96 (lv_at hl 3 rfl) ?_
              rw [hQ]
              exact ret_i C0 hP hD hS (by have e := Option.some.inj hf; rw [← e]; exact ⟨rfl, rfl⟩) dX6_judge_98
          · replace hf := ie_of c4 hf
            refine lv_bipush (v := 100) hx hb dX6_judge_66 (by decide) ?_
            refine lv_iload hx hb dX6_judge_68 (lv_at hl 3 rfl) ?_
            refine lv_iadd hx hb dX6_judge_70 ?_
            rw [hQ]
            exact ret_i C0 hP hD hS (by have e := Option.some.inj hf; rw [← e]; exact ⟨rfl, rfl⟩) dX6_judge_71
  unfold k_X6_judge at hf
  refine lv_iload_n hx hb dX6_judge_0 rfl (lv_at hl 1 rfl) ?_
  refine lv_iconst (v := 5) hx hb dX6_judge_1 (by decide) ?_
  obtain ⟨r1q, hq2, hf⟩ := b1_of hf
  refine callSI (As := [.int a1, .int 5]) (rest := []) (wr := (List.flatten [(Tps qs cA tpf tpi), (Po o qn qk qt qx qa ts wa pf (chv qc sp)), (Cw qn cA (chv qc nc) nf ng), (TAw ts cA qs)])) C0 (c_X6_isWithin a1 5 _ hq2) lk_X6_51_X6_isWithin rfl hP hD hS (List.Perm.refl _) hl.1 rfl rfl (Nat.le_of_ble_eq_true rfl) dX6_judge_2 ⟨Nat.zero_le _, Nat.zero_le _⟩ (fun r1 w H locs hw hP hD hS => ?_)
  obtain ⟨⟨e1, e2⟩, z3⟩ := hw
  replace e1 : r1 = r1q := e1
  subst e1
  subst e2
  replace hP : va_P D vwCl (List.flatten [(Tps qs cA tpf tpi), (Po o qn qk qt qx qa ts wa pf (chv qc sp)), (Cw qn cA (chv qc nc) nf ng), (TAw ts cA qs)]) H := hP
  replace hD : va_D A (List.flatten [(Tps qs cA tpf tpi), (Po o qn qk qt qx qa ts wa pf (chv qc sp)), (Cw qn cA (chv qc nc) nf ng), (TAw ts cA qs)]) := hD
  refine lv_if_ne (tgt := 10) hx hb dX6_judge_5 (by decide) (fun c4 => ?_) (fun c4 => ?_)
  · replace hf := ie_of c4 hf
    refine lv_aload_n hx hb dX6_judge_10 rfl (lv_at hl 0 rfl) ?_
    refine va_get (D := D) (ci := 6) (v := .ref ts) (C := RX6) (T := TX6) (N := 10) hx hb hts fw_6 hown hK hP 12 rfl rfl 5 (by decide) (hts _ m_fieldLink_P_42_P_tapes_aLP_Tape) (fun _ h9 => h9) rfl dX6_judge_11 ?_
    refine lv_iload_n hx hb dX6_judge_14 rfl (lv_at hl 1 rfl) ?_
    obtain ⟨hi5, hf⟩ := gd_of hf
    refine va_aldq (C := RX4) hx hb hK hP 19 4 rfl rfl hi5 dX6_judge_15 ?_
    refine lv_astore_n (lv' := [(3, .ref (qs (Int32.toNatClampNeg a1) 0)), (0, .ref o), (1, .int a1), (2, .int a2)]) hx hb dX6_judge_16 rfl hl (by decide) rfl (fun ls hl => ?_)
    refine lv_aload_n hx hb dX6_judge_17 rfl (lv_at hl 0 rfl) ?_
    obtain ⟨hj6, hf⟩ := gd_of hf
    refine va_get (D := D) (ci := 4) (v := .int (tpf (Int32.toNatClampNeg a1) 0)) (C := RX4) (T := TX4) (N := 3) hx hb hts fw_4 hown hK hP (2 * (Int32.toNatClampNeg a1) + 0) (tps_at (vp_lt hj6) (by decide) _) rfl 0 (by decide) (hts _ m_fieldLink_P_217_P_Tape_sort_I) (fun _ h9 => h9) rfl dX6_judge_18 ?_
    refine lv_iconst (v := (-1)) hx hb dX6_judge_21 (by decide) ?_
    refine lv_icmp_eq (tgt := 36) hx hb dX6_judge_22 (by decide) (fun c7 => ?_) (fun c7 => ?_)
    · replace hf := it_of c7 hf
      refine lv_iconst (v := 0) hx hb dX6_judge_36 (by decide) ?_
      refine lv_istore (lv' := [(4, .int 0), (3, .ref (qs (Int32.toNatClampNeg a1) 0)), (0, .ref o), (1, .int a1), (2, .int a2)]) hx hb dX6_judge_37 hl (by decide) rfl (fun ls hl => ?_)
      exact J39 100000 0 hf _ _ hP hD hS _ (lv_sub hl [2, 4, 1, 0] rfl)
    · replace hf := ie_of c7 hf
      refine lv_aload_n hx hb dX6_judge_25 rfl (lv_at hl 0 rfl) ?_
      obtain ⟨hj8, hf⟩ := gd_of hf
      refine va_get (D := D) (ci := 4) (v := .int (tpf (Int32.toNatClampNeg a1) 0)) (C := RX4) (T := TX4) (N := 3) hx hb hts fw_4 hown hK hP (2 * (Int32.toNatClampNeg a1) + 0) (tps_at (vp_lt hj8) (by decide) _) rfl 0 (by decide) (hts _ m_fieldLink_P_217_P_Tape_sort_I) (fun _ h9 => h9) rfl dX6_judge_26 ?_
      refine lv_iconst (v := 2) hx hb dX6_judge_29 (by decide) ?_
      refine lv_icmp_eq (tgt := 36) hx hb dX6_judge_30 (by decide) (fun c9 => ?_) (fun c9 => ?_)
      · replace hf := it_of c9 hf
        refine lv_iconst (v := 0) hx hb dX6_judge_36 (by decide) ?_
        refine lv_istore (lv' := [(4, .int 0), (3, .ref (qs (Int32.toNatClampNeg a1) 0)), (0, .ref o), (1, .int a1), (2, .int a2)]) hx hb dX6_judge_37 hl (by decide) rfl (fun ls hl => ?_)
        exact J39 100000 0 hf _ _ hP hD hS _ (lv_sub hl [2, 4, 1, 0] rfl)
      · replace hf := ie_of c9 hf
        refine lv_bipush (v := (-12)) hx hb dX6_judge_33 (by decide) ?_
        rw [hQ]
        exact ret_i C0 hP hD hS (by have e := Option.some.inj hf; rw [← e]; exact ⟨rfl, rfl⟩) dX6_judge_35
  · replace hf := it_of c4 hf
    refine lv_iconst (v := (-1)) hx hb dX6_judge_8 (by decide) ?_
    rw [hQ]
    exact ret_i C0 hP hD hS (by have e := Option.some.inj hf; rw [← e]; exact ⟨rfl, rfl⟩) dX6_judge_9

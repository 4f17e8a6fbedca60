-- X6 mean
noncomputable def k_X6_mean_7 (a1 : Int32) (nf : Nat → Int32) (ng : Nat → Nat → Int32) : Nat → Int32 → Int32 → Int32 → Option Int64
  | 0, _, _, _ => none
  | n + 1, x2, x3, x4 => if (nf 0) ≤ x4 then b1 (k_X6_isWithin a1 1) (fun r2 => if r2 = 0 then some (-9223372036854775808) else if x2 = 0 then some (-9223372036854775808) else b1 (k_X6_lowest x3 x2 a1) (fun r7 => some r7)) else b1 (k_X1_isUp x4 nf) (fun r9 => if r9 = 0 then gd x4 6 (k_X6_mean_7 a1 nf ng n (x2 + 1) (x3 + ((ng 9) (Int32.toNatClampNeg x4))) (x4 + 1)) else k_X6_mean_7 a1 nf ng n x2 x3 (x4 + 1))
noncomputable def k_X6_mean (a1 : Int32) (nf : Nat → Int32) (ng : Nat → Nat → Int32) : Option Int64 := k_X6_mean_7 a1 nf ng 100000 0 0 0
set_option maxHeartbeats 4000000 in
set_option maxRecDepth 100000 in
theorem c_X6_mean {l : Launch} {D : va_G} {cA : Nat → ClassId} (oo : Nat) (qn : Nat → Nat) (qk : Nat → Nat) (qt : Nat → Nat) (qx : Nat → Nat) (qa : Nat → Nat) (ts : Nat) (wa : Nat) (qc : Nat → Nat → Nat) (pf : Nat → Int32) (sp : Option Nat) (nf : Nat → Int32) (ng : Nat → Nat → Int32) (nc : Option Nat) (a1 : Int32) (o : Int64) (hf : k_X6_mean a1 nf ng = some o) : CL l D cA yX6_mean cX6_mean 5 (some .long) 1 24 [.ref oo, .int a1] (List.flatten [(Po oo qn qk qt qx qa ts wa pf (chv qc sp)), (Cw qn cA (chv qc nc) nf ng)]) 0 0 (fun r w => r = o ∧ w = (List.flatten [(Po oo qn qk qt qx qa ts wa pf (chv qc sp)), (Cw qn cA (chv qc nc) nf ng)])) := by
  intro sz
  refine met_start (by decide) rfl ?_
  intro p e s m args below meth c ls hsz hargs C0 hname hP hD hS hl
  generalize hAe : va_A (List.flatten [(Po oo qn qk qt qx qa ts wa pf (chv qc sp)), (Cw qn cA (chv qc nc) nf ng)]) sz = A at C0 hD hS ⊢
  obtain ⟨hx, hb, hr, hml, hown, hts, hlk, hK, hA⟩ := id C0
  replace hl : lv_has ls 5 [(0, .ref oo), (1, .int a1)] := hl
  obtain ⟨Q, hQ⟩ : ∃ Q : State → Prop, Q = QL below D A (fun r w => r = o ∧ w = (List.flatten [(Po oo qn qk qt qx qa ts wa pf (chv qc sp)), (Cw qn cA (chv qc nc) nf ng)])) args s 0 0 := ⟨_, rfl⟩
  refine cast (by rw [hQ]) (?_ : W p l e (RMx 1 24 0 0) s m args below meth c s.heap [] 0 0 Q (F0 m 0 ls []))
  have J7 : ∀ n : Nat, ∀ (x2 : Int32) (x3 : Int32) (x4 : Int32), k_X6_mean_7 a1 nf ng n x2 x3 x4 = some o → ∀ (H : Heap) (locs : List Loc), va_P D vwCl (List.flatten [(Po oo qn qk qt qx qa ts wa pf (chv qc sp)), (Cw qn cA (chv qc nc) nf ng)]) H → va_D A (List.flatten [(Po oo qn qk qt qx qa ts wa pf (chv qc sp)), (Cw qn cA (chv qc nc) nf ng)]) → va_S A s.heap H locs → ∀ ls : Array Slot, lv_has ls 5 [(0, .ref oo), (1, .int a1), (2, .int x2), (3, .int x3), (4, .int x4)] → W p l e (RMx 1 24 0 0) s m args below meth c H locs 0 0 Q (F0 m 7 ls []) := by
    intro  n
    induction n with
    | zero =>
      intro x2 x3 x4 hf
      rw [k_X6_mean_7] at hf
      cases hf
    | succ n ih =>
      intro x2 x3 x4 hf H locs hP hD hS ls hl
      rw [k_X6_mean_7] at hf
      refine lv_iload hx hb dX6_mean_7 (lv_at hl 4 rfl) ?_
      refine lv_aload_n hx hb dX6_mean_9 rfl (lv_at hl 0 rfl) ?_
      refine va_get (D := D) (ci := 6) (v := .ref (qn 0)) (C := RX6) (T := TX6) (N := 10) hx hb hts fw_6 hown hK hP 0 rfl rfl 0 (by decide) (hts _ m_fieldLink_P_12_P_now_LP_Cellar) (fun _ h9 => h9) rfl dX6_mean_10 ?_
      refine va_get (D := D) (ci := 1) (v := .int (nf 0)) (C := RX1) (T := TX1) (N := 16) hx hb hts fw_1 hown hK hP 1 rfl rfl 0 (by decide) (hts _ m_fieldLink_P_53_P_Cellar_men_I) (fun _ h9 => h9) rfl dX6_mean_13 ?_
      refine lv_icmp_ge (tgt := 53) hx hb dX6_mean_16 (by decide) (fun c1 => ?_) (fun c1 => ?_)
      · replace hf := it_of c1 hf
        refine lv_iload_n hx hb dX6_mean_53 rfl (lv_at hl 1 rfl) ?_
        refine lv_iconst (v := 1) hx hb dX6_mean_54 (by decide) ?_
        obtain ⟨r2q, hq3, hf⟩ := b1_of hf
        refine callSI (As := [.int a1, .int 1]) (rest := []) (wr := (List.flatten [(Po oo qn qk qt qx qa ts wa pf (chv qc sp)), (Cw qn cA (chv qc nc) nf ng)])) C0 (c_X6_isWithin a1 1 _ hq3) lk_X6_49_X6_isWithin rfl hP hD hS (List.Perm.refl _) hl.1 rfl rfl (Nat.le_of_ble_eq_true rfl) dX6_mean_55 ⟨Nat.zero_le _, Nat.zero_le _⟩ (fun r2 w H locs hw hP hD hS => ?_)
        obtain ⟨⟨e1, e2⟩, z4⟩ := hw
        replace e1 : r2 = r2q := e1
        subst e1
        subst e2
        replace hP : va_P D vwCl (List.flatten [(Po oo qn qk qt qx qa ts wa pf (chv qc sp)), (Cw qn cA (chv qc nc) nf ng)]) H := hP
        replace hD : va_D A (List.flatten [(Po oo qn qk qt qx qa ts wa pf (chv qc sp)), (Cw qn cA (chv qc nc) nf ng)]) := hD
        refine lv_if_eq (tgt := 65) hx hb dX6_mean_58 (by decide) (fun c5 => ?_) (fun c5 => ?_)
        · replace hf := it_of c5 hf
          refine lv_ldc2 (v := (-9223372036854775808)) hx hb hown (hts _ m_constantLong_P_192_n9223372036854775808) dX6_mean_65 ?_
          refine lv_goto (tgt := 77) hx hb dX6_mean_68 (by decide) ?_
          rw [hQ]
          exact ret_l C0 hP hD hS (by have e := Option.some.inj hf; rw [← e]; exact ⟨rfl, rfl⟩) dX6_mean_77
        · replace hf := ie_of c5 hf
          refine lv_iload_n hx hb dX6_mean_61 rfl (lv_at hl 2 rfl) ?_
          refine lv_if_ne (tgt := 71) hx hb dX6_mean_62 (by decide) (fun c6 => ?_) (fun c6 => ?_)
          · replace hf := ie_of c6 hf
            refine lv_iload_n hx hb dX6_mean_71 rfl (lv_at hl 3 rfl) ?_
            refine lv_iload_n hx hb dX6_mean_72 rfl (lv_at hl 2 rfl) ?_
            refine lv_iload_n hx hb dX6_mean_73 rfl (lv_at hl 1 rfl) ?_
            obtain ⟨r7q, hq8, hf⟩ := b1_of hf
            refine callSL (As := [.int x3, .int x2, .int a1]) (rest := []) (wr := (List.flatten [(Po oo qn qk qt qx qa ts wa pf (chv qc sp)), (Cw qn cA (chv qc nc) nf ng)])) C0 (c_X6_lowest x3 x2 a1 _ hq8) lk_X6_194_X6_lowest rfl hP hD hS (List.Perm.refl _) hl.1 rfl rfl (Nat.le_of_ble_eq_true rfl) dX6_mean_74 ⟨Nat.zero_le _, Nat.zero_le _⟩ (fun r7 w H locs hw hP hD hS => ?_)
            obtain ⟨e1, e2⟩ := hw
            replace e1 : r7 = r7q := e1
            subst e1
            subst e2
            replace hP : va_P D vwCl (List.flatten [(Po oo qn qk qt qx qa ts wa pf (chv qc sp)), (Cw qn cA (chv qc nc) nf ng)]) H := hP
            replace hD : va_D A (List.flatten [(Po oo qn qk qt qx qa ts wa pf (chv qc sp)), (Cw qn cA (chv qc nc) nf ng)]) := hD
            rw [hQ]
            exact ret_l C0 hP hD hS (by have e := Option.some.inj hf; rw [← e]; exact ⟨rfl, rfl⟩) dX6_mean_77
          · replace hf := it_of c6 hf
            refine lv_ldc2 (v := (-9223372036854775808)) hx hb hown (hts _ m_constantLong_P_192_n9223372036854775808) dX6_mean_65 ?_
            refine lv_goto (tgt := 77) hx hb dX6_mean_68 (by decide) ?_
            rw [hQ]
            exact ret_l C0 hP hD hS (by have e := Option.some.inj hf; rw [← e]; exact ⟨rfl, rfl⟩) dX6_mean_77
      · replace hf := ie_of c1 hf
        refine lv_aload_n hx hb dX6_mean_19 rfl (lv_at hl 0 rfl) ?_
        refine va_get (D := D) (ci := 6) (v := .ref (qn 0)) (C := RX6) (T := TX6) (N := 10) hx hb hts fw_6 hown hK hP 0 rfl rfl 0 (by decide) (hts _ m_fieldLink_P_12_P_now_LP_Cellar) (fun _ h9 => h9) rfl dX6_mean_20 ?_
        refine lv_iload hx hb dX6_mean_23 (lv_at hl 4 rfl) ?_
        obtain ⟨r9q, hq10, hf⟩ := b1_of hf
        refine callVI (As := [.int x4]) (rest := []) (wr := segpick [(Po oo qn qk qt qx qa ts wa pf (chv qc sp)), (Cw qn cA (chv qc nc) nf ng)] [0]) C0 (c_X1_isUp qn qc nf ng nc x4 _ hq10) lk_X6_74_X1_isUp rfl hP hD hS (seg_out [(Po oo qn qk qt qx qa ts wa pf (chv qc sp)), (Cw qn cA (chv qc nc) nf ng)] [1] [0] 2 rfl (by decide)) 1 1 rfl rfl rfl hl.1 rfl rfl (Nat.le_of_ble_eq_true rfl) dX6_mean_25 ⟨Nat.zero_le _, Nat.zero_le _⟩ (fun r9 w H locs hw hP hD hS => ?_)
        obtain ⟨⟨e1, e2⟩, z11⟩ := hw
        replace e1 : r9 = r9q := e1
        subst e1
        subst e2
        replace hP : va_P D vwCl (List.flatten [(Po oo qn qk qt qx qa ts wa pf (chv qc sp)), (Cw qn cA (chv qc nc) nf ng)]) H := hP.perm (seg_out [(Po oo qn qk qt qx qa ts wa pf (chv qc sp)), (Cw qn cA (chv qc nc) nf ng)] [1] [0] 2 rfl (by decide)).symm
        replace hD : va_D A (List.flatten [(Po oo qn qk qt qx qa ts wa pf (chv qc sp)), (Cw qn cA (chv qc nc) nf ng)]) := hD.perm (seg_out [(Po oo qn qk qt qx qa ts wa pf (chv qc sp)), (Cw qn cA (chv qc nc) nf ng)] [1] [0] 2 rfl (by decide)).symm
        refine lv_if_ne (tgt := 47) hx hb dX6_mean_28 (by decide) (fun c12 => ?_) (fun c12 => ?_)
        · replace hf := ie_of c12 hf
          refine lv_iinc (v := (x4 + 1)) (lv' := [(4, .int (x4 + 1)), (0, .ref oo), (1, .int a1), (2, .int x2), (3, .int x3)]) hx hb dX6_mean_47 hl (k := 4) rfl rfl (by decide) rfl (fun ls hl => ?_)
          refine lv_goto (tgt := 7) hx hb dX6_mean_50 (by decide) ?_
          exact ih x2 x3 (x4 + 1) hf _ _ hP hD hS _ (lv_sub hl [1, 2, 3, 4, 0] rfl)
        · replace hf := it_of c12 hf
          refine lv_iinc (v := (x2 + 1)) (lv' := [(2, .int (x2 + 1)), (0, .ref oo), (1, .int a1), (3, .int x3), (4, .int x4)]) hx hb dX6_mean_31 hl (k := 2) rfl rfl (by decide) rfl (fun ls hl => ?_)
          refine lv_iload_n hx hb dX6_mean_34 rfl (lv_at hl 3 rfl) ?_
          refine lv_aload_n hx hb dX6_mean_35 rfl (lv_at hl 1 rfl) ?_
          refine va_get (D := D) (ci := 6) (v := .ref (qn 0)) (C := RX6) (T := TX6) (N := 10) hx hb hts fw_6 hown hK hP 0 rfl rfl 0 (by decide) (hts _ m_fieldLink_P_12_P_now_LP_Cellar) (fun _ h9 => h9) rfl dX6_mean_36 ?_
          refine va_get (D := D) (ci := 1) (v := .ref (qn 9)) (C := RX1) (T := TX1) (N := 16) hx hb hts fw_1 hown hK hP 1 rfl rfl 9 (by decide) (hts _ m_fieldLink_P_71_P_Cellar_nerve_aI) (fun _ h9 => h9) rfl dX6_mean_39 ?_
          refine lv_iload hx hb dX6_mean_42 (lv_at hl 4 rfl) ?_
          obtain ⟨hi13, hf⟩ := gd_of hf
          refine va_iald hx hb hK hP 4 0 rfl rfl hi13 dX6_mean_44 ?_
          refine lv_iadd hx hb dX6_mean_45 ?_
          refine lv_istore_n (lv' := [(3, .int (x3 + ((ng 9) (Int32.toNatClampNeg x4)))), (2, .int (x2 + 1)), (0, .ref oo), (1, .int a1), (4, .int x4)]) hx hb dX6_mean_46 rfl hl (by decide) rfl (fun ls hl => ?_)
          refine lv_iinc (v := (x4 + 1)) (lv' := [(4, .int (x4 + 1)), (3, .int (x3 + ((ng 9) (Int32.toNatClampNeg x4)))), (2, .int (x2 + 1)), (0, .ref oo), (1, .int a1)]) hx hb dX6_mean_47 hl (k := 4) rfl rfl (by decide) rfl (fun ls hl => ?_)
          refine lv_goto (tgt := 7) hx hb dX6_mean_50 (by decide) ?_
          exact ih (x2 + 1) (x3 + ((ng 9) (Int32.toNatClampNeg x4))) (x4 + 1) hf _ _ hP hD hS _ (lv_sub hl [3, 4, 2, 1, 0] rfl)
  unfold k_X6_mean at hf
  refine lv_iconst (v := 0) hx hb dX6_mean_0 (by decide) ?_
  refine lv_istore_n (lv' := [(2, .int 0), (0, .ref oo), (1, .int a1)]) hx hb dX6_mean_1 rfl hl (by decide) rfl (fun ls hl => ?_)
  refine lv_iconst (v := 0) hx hb dX6_mean_2 (by decide) ?_
  refine lv_istore_n (lv' := [(3, .int 0), (2, .int 0), (0, .ref oo), (1, .int a1)]) hx hb dX6_mean_3 rfl hl (by decide) rfl (fun ls hl => ?_)
  refine lv_iconst (v := 0) hx hb dX6_mean_4 (by decide) ?_
  refine lv_istore (lv' := [(4, .int 0), (3, .int 0), (2, .int 0), (0, .ref oo), (1, .int a1)]) hx hb dX6_mean_5 hl (by decide) rfl (fun ls hl => ?_)
  exact J7 100000 0 0 0 hf _ _ hP hD hS _ (lv_sub hl [3, 4, 2, 1, 0] rfl)
-- X6 plan
noncomputable def k_X6_plan_49 (a1 : Int32) (a2 : Int32) (npc : Int32) (npa : Nat → Int32) (npb : Nat → Int32) : Option (Int32 × Int32 × (Nat → Int32) × (Nat → Int32)) := b1 (k_X3_isFull 10 npc) (fun r1 => if r1 = 0 then b4 (k_X3_add 10 a1 a2 npc npa npb) (fun r5 npc_6 npa_7 npb_8 => some (r5, npc_6, npa_7, npb_8)) else some ((-4), npc, npa, npb))
noncomputable def k_X6_plan_36 (a1 : Int32) (a2 : Int32) (nf : Nat → Int32) (npc : Int32) (npa : Nat → Int32) (npb : Nat → Int32) : Option (Int32 × Int32 × (Nat → Int32) × (Nat → Int32)) := b1 (k_X1_has a2 nf) (fun r1 => if r1 = 0 then some ((-1), npc, npa, npb) else k_X6_plan_49 a1 a2 npc npa npb)
noncomputable def k_X6_plan (a1 : Int32) (a2 : Int32) (nf : Nat → Int32) (npc0 : Int32) (npa0 : Nat → Int32) (npb0 : Nat → Int32) : Option (Int32 × Int32 × (Nat → Int32) × (Nat → Int32)) := if a1 = (-1) then b2 (k_X3_empty npc0) (fun r8 npc_9 => some (r8, npc_9, npa0, npb0)) else b1 (k_X6_isWithin a1 3) (fun r2 => if r2 = 0 then some ((-1), npc0, npa0, npb0) else if a1 = 1 then k_X6_plan_36 a1 a2 nf npc0 npa0 npb0 else if a1 = 2 then k_X6_plan_36 a1 a2 nf npc0 npa0 npb0 else k_X6_plan_49 a1 a2 npc0 npa0 npb0)
set_option maxHeartbeats 4000000 in
set_option maxRecDepth 100000 in
theorem c_X6_plan {l : Launch} {D : va_G} {cA : Nat → ClassId} (oo : Nat) (qn : Nat → Nat) (qk : Nat → Nat) (qt : Nat → Nat) (qx : Nat → Nat) (qa : Nat → Nat) (ts : Nat) (wa : Nat) (qc : Nat → Nat → Nat) (pf : Nat → Int32) (sp : Option Nat) (nf : Nat → Int32) (ng : Nat → Nat → Int32) (nc : Option Nat) (npc0 : Int32) (npa0 : Nat → Int32) (npb0 : Nat → Int32) (a1 : Int32) (a2 : Int32) (o : Int32 × Int32 × (Nat → Int32) × (Nat → Int32)) (hf : k_X6_plan a1 a2 nf npc0 npa0 npb0 = some o) : CI l D cA yX6_plan cX6_plan 3 (some .int) 1 22 [.ref oo, .int a1, .int a2] (List.flatten [(Po oo qn qk qt qx qa ts wa pf (chv qc sp)), (Cw qn cA (chv qc nc) nf ng), (Rw (qn 13) (qn 22) (qn 23) cA 10 npc0 npa0 npb0)]) 0 0 (fun r w => r = o.1 ∧ w = (List.flatten [(Po oo qn qk qt qx qa ts wa pf (chv qc sp)), (Cw qn cA (chv qc nc) nf ng), (Rw (qn 13) (qn 22) (qn 23) cA 10 o.2.1 o.2.2.1 o.2.2.2)])) := by
  intro sz
  refine met_start (by decide) rfl ?_
  intro p e s m args below meth c ls hsz hargs C0 hname hP hD hS hl
  generalize hAe : va_A (List.flatten [(Po oo qn qk qt qx qa ts wa pf (chv qc sp)), (Cw qn cA (chv qc nc) nf ng), (Rw (qn 13) (qn 22) (qn 23) cA 10 npc0 npa0 npb0)]) sz = A at C0 hD hS ⊢
  obtain ⟨hx, hb, hr, hml, hown, hts, hlk, hK, hA⟩ := id C0
  replace hl : lv_has ls 3 [(0, .ref oo), (1, .int a1), (2, .int a2)] := hl
  obtain ⟨Q, hQ⟩ : ∃ Q : State → Prop, Q = QI below D A (fun r w => r = o.1 ∧ w = (List.flatten [(Po oo qn qk qt qx qa ts wa pf (chv qc sp)), (Cw qn cA (chv qc nc) nf ng), (Rw (qn 13) (qn 22) (qn 23) cA 10 o.2.1 o.2.2.1 o.2.2.2)])) args s 0 0 := ⟨_, rfl⟩
  refine cast (by rw [hQ]) (?_ : W p l e (RMx 1 22 0 0) s m args below meth c s.heap [] 0 0 Q (F0 m 0 ls []))
  have J49 : ∀ (npc : Int32) (npa : Nat → Int32) (npb : Nat → Int32), k_X6_plan_49 a1 a2 npc npa npb = some o → ∀ (H : Heap) (locs : List Loc), va_P D vwCl (List.flatten [(Po oo qn qk qt qx qa ts wa pf (chv qc sp)), (Cw qn cA (chv qc nc) nf ng), (Rw (qn 13) (qn 22) (qn 23) cA 10 npc npa npb)]) H → va_D A (List.flatten [(Po oo qn qk qt qx qa ts wa pf (chv qc sp)), (Cw qn cA (chv qc nc) nf ng), (Rw (qn 13) (qn 22) (qn 23) cA 10 npc npa npb)]) → va_S A s.heap H locs → ∀ ls : Array Slot, lv_has ls 3 [(0, .ref oo), (1, .int a1), (2, .int a2)] → W p l e (RMx 1 22 0 0) s m args below meth c H locs 0 0 Q (F0 m 49 ls []) := by
    intro  npc npa npb hf H locs hP hD hS ls hl
    unfold k_X6_plan_49 at hf
    refine lv_aload_n hx hb dX6_plan_49 rfl (lv_at hl 0 rfl) ?_
    refine va_get (D := D) (ci := 6) (v := .ref (qn 0)) (C := RX6) (T := TX6) (N := 10) hx hb hts fw_6 hown hK hP 0 rfl rfl 0 (by decide) (hts _ m_fieldLink_P_12_P_now_LP_Cellar) (fun _ h9 => h9) rfl dX6_plan_50 ?_
    refine va_get (D := D) (ci := 1) (v := .ref (qn 13)) (C := RX1) (T := TX1) (N := 16) hx hb hts fw_1 hown hK hP 1 rfl rfl 13 (by decide) (hts _ m_fieldLink_P_198_P_Cellar_plan_LP_Rows) (fun _ h9 => h9) rfl dX6_plan_53 ?_
    obtain ⟨r1q, hq2, hf⟩ := b1_of hf
    refine callVI (As := []) (rest := []) (wr := segpick [(Po oo qn qk qt qx qa ts wa pf (chv qc sp)), (Cw qn cA (chv qc nc) nf ng), (Rw (qn 13) (qn 22) (qn 23) cA 10 npc npa npb)] [0, 1]) C0 (c_X3_isFull (qn 13) (qn 22) (qn 23) 10 npc npa npb _ hq2) lk_X6_175_X3_isFull rfl hP hD hS (seg_out [(Po oo qn qk qt qx qa ts wa pf (chv qc sp)), (Cw qn cA (chv qc nc) nf ng), (Rw (qn 13) (qn 22) (qn 23) cA 10 npc npa npb)] [2] [0, 1] 3 rfl (by decide)) 7 3 rfl rfl rfl hl.1 rfl rfl (Nat.le_of_ble_eq_true rfl) dX6_plan_56 ⟨Nat.zero_le _, Nat.zero_le _⟩ (fun r1 w H locs hw hP hD hS => ?_)
    obtain ⟨⟨e1, e2⟩, z3⟩ := hw
    replace e1 : r1 = r1q := e1
    subst e1
    subst e2
    replace hP : va_P D vwCl (List.flatten [(Po oo qn qk qt qx qa ts wa pf (chv qc sp)), (Cw qn cA (chv qc nc) nf ng), (Rw (qn 13) (qn 22) (qn 23) cA 10 npc npa npb)]) H := hP.perm (seg_out [(Po oo qn qk qt qx qa ts wa pf (chv qc sp)), (Cw qn cA (chv qc nc) nf ng), (Rw (qn 13) (qn 22) (qn 23) cA 10 npc npa npb)] [2] [0, 1] 3 rfl (by decide)).symm
    replace hD : va_D A (List.flatten [(Po oo qn qk qt qx qa ts wa pf (chv qc sp)), (Cw qn cA (chv qc nc) nf ng), (Rw (qn 13) (qn 22) (qn 23) cA 10 npc npa npb)]) := hD.perm (seg_out [(Po oo qn qk qt qx qa ts wa pf (chv qc sp)), (Cw qn cA (chv qc nc) nf ng), (Rw (qn 13) (qn 22) (qn 23) cA 10 npc npa npb)] [2] [0, 1] 3 rfl (by decide)).symm
    refine lv_if_eq (tgt := 67) hx hb dX6_plan_59 (by decide) (fun c4 => ?_) (fun c4 => ?_)
    · replace hf := it_of c4 hf
      refine lv_aload_n hx hb dX6_plan_67 rfl (lv_at hl 0 rfl) ?_
      refine va_get (D := D) (ci := 6) (v := .ref (qn 0)) (C := RX6) (T := TX6) (N := 10) hx hb hts fw_6 hown hK hP 0 rfl rfl 0 (by decide) (hts _ m_fieldLink_P_12_P_now_LP_Cellar) (fun _ h9 => h9) rfl dX6_plan_68 ?_
      refine va_get (D := D) (ci := 1) (v := .ref (qn 13)) (C := RX1) (T := TX1) (N := 16) hx hb hts fw_1 hown hK hP 1 rfl rfl 13 (by decide) (hts _ m_fieldLink_P_198_P_Cellar_plan_LP_Rows) (fun _ h9 => h9) rfl dX6_plan_71 ?_
      refine lv_iload_n hx hb dX6_plan_74 rfl (lv_at hl 1 rfl) ?_
      refine lv_iload_n hx hb dX6_plan_75 rfl (lv_at hl 2 rfl) ?_
      obtain ⟨r5q, npc_6, npa_7, npb_8, hq9, hf⟩ := b4_of hf
      refine callVI (As := [.int a1, .int a2]) (rest := []) (wr := segpick [(Po oo qn qk qt qx qa ts wa pf (chv qc sp)), (Cw qn cA (chv qc nc) nf ng), (Rw (qn 13) (qn 22) (qn 23) cA 10 npc npa npb)] [0, 1]) C0 (c_X3_add (qn 13) (qn 22) (qn 23) 10 npc npa npb a1 a2 _ hq9) lk_X6_179_X3_add rfl hP hD hS (seg_out [(Po oo qn qk qt qx qa ts wa pf (chv qc sp)), (Cw qn cA (chv qc nc) nf ng), (Rw (qn 13) (qn 22) (qn 23) cA 10 npc npa npb)] [2] [0, 1] 3 rfl (by decide)) 7 3 rfl rfl rfl hl.1 rfl rfl (Nat.le_of_ble_eq_true rfl) dX6_plan_76 ⟨Nat.zero_le _, Nat.zero_le _⟩ (fun r5 w H locs hw hP hD hS => ?_)
      obtain ⟨e1, e2⟩ := hw
      replace e1 : r5 = r5q := e1
      subst e1
      subst e2
      replace hP : va_P D vwCl (List.flatten [(Po oo qn qk qt qx qa ts wa pf (chv qc sp)), (Cw qn cA (chv qc nc) nf ng), (Rw (qn 13) (qn 22) (qn 23) cA 10 npc_6 npa_7 npb_8)]) H := hP.perm (seg_out [(Po oo qn qk qt qx qa ts wa pf (chv qc sp)), (Cw qn cA (chv qc nc) nf ng), (Rw (qn 13) (qn 22) (qn 23) cA 10 npc_6 npa_7 npb_8)] [2] [0, 1] 3 rfl (by decide)).symm
      replace hD : va_D A (List.flatten [(Po oo qn qk qt qx qa ts wa pf (chv qc sp)), (Cw qn cA (chv qc nc) nf ng), (Rw (qn 13) (qn 22) (qn 23) cA 10 npc_6 npa_7 npb_8)]) := hD.perm (seg_out [(Po oo qn qk qt qx qa ts wa pf (chv qc sp)), (Cw qn cA (chv qc nc) nf ng), (Rw (qn 13) (qn 22) (qn 23) cA 10 npc_6 npa_7 npb_8)] [2] [0, 1] 3 rfl (by decide)).symm
      rw [hQ]
      exact ret_i C0 hP hD hS (by have e := Option.some.inj hf; rw [← e]; exact ⟨rfl, rfl⟩) dX6_plan_79
    · replace hf := ie_of c4 hf
      refine lv_bipush (v := (-4)) hx hb dX6_plan_62 (by decide) ?_
      refine lv_goto (tgt := 79) hx hb dX6_plan_64 (by decide) ?_
      rw [hQ]
      exact ret_i C0 hP hD hS (by have e := Option.some.inj hf; rw [← e]; exact ⟨rfl, rfl⟩) dX6_plan_79
  have J36 : ∀ (npc : Int32) (npa : Nat → Int32) (npb : Nat → Int32), k_X6_plan_36 a1 a2 nf npc npa npb = some o → ∀ (H : Heap) (locs : List Loc), va_P D vwCl (List.flatten [(Po oo qn qk qt qx qa ts wa pf (chv qc sp)), (Cw qn cA (chv qc nc) nf ng), (Rw (qn 13) (qn 22) (qn 23) cA 10 npc npa npb)]) H → va_D A (List.flatten [(Po oo qn qk qt qx qa ts wa pf (chv qc sp)), (Cw qn cA (chv qc nc) nf ng), (Rw (qn 13) (qn 22) (qn 23) cA 10 npc npa npb)]) → va_S A s.heap H locs → ∀ ls : Array Slot, lv_has ls 3 [(0, .ref oo), (1, .int a1), (2, .int a2)] → W p l e (RMx 1 22 0 0) s m args below meth c H locs 0 0 Q (F0 m 36 ls []) := by
    intro  npc npa npb hf H locs hP hD hS ls hl
    unfold k_X6_plan_36 at hf
    refine lv_aload_n hx hb dX6_plan_36 rfl (lv_at hl 0 rfl) ?_
    refine va_get (D := D) (ci := 6) (v := .ref (qn 0)) (C := RX6) (T := TX6) (N := 10) hx hb hts fw_6 hown hK hP 0 rfl rfl 0 (by decide) (hts _ m_fieldLink_P_12_P_now_LP_Cellar) (fun _ h9 => h9) rfl dX6_plan_37 ?_
    refine lv_iload_n hx hb dX6_plan_40 rfl (lv_at hl 2 rfl) ?_
    obtain ⟨r1q, hq2, hf⟩ := b1_of hf
    refine callVI (As := [.int a2]) (rest := []) (wr := segpick [(Po oo qn qk qt qx qa ts wa pf (chv qc sp)), (Cw qn cA (chv qc nc) nf ng), (Rw (qn 13) (qn 22) (qn 23) cA 10 npc npa npb)] [0, 2]) C0 (c_X1_has qn qc nf ng nc a2 _ hq2) lk_X6_61_X1_has rfl hP hD hS (seg_out [(Po oo qn qk qt qx qa ts wa pf (chv qc sp)), (Cw qn cA (chv qc nc) nf ng), (Rw (qn 13) (qn 22) (qn 23) cA 10 npc npa npb)] [1] [0, 2] 3 rfl (by decide)) 1 1 rfl rfl rfl hl.1 rfl rfl (Nat.le_of_ble_eq_true rfl) dX6_plan_41 ⟨Nat.zero_le _, Nat.zero_le _⟩ (fun r1 w H locs hw hP hD hS => ?_)
    obtain ⟨⟨e1, e2⟩, z3⟩ := hw
    replace e1 : r1 = r1q := e1
    subst e1
    subst e2
    replace hP : va_P D vwCl (List.flatten [(Po oo qn qk qt qx qa ts wa pf (chv qc sp)), (Cw qn cA (chv qc nc) nf ng), (Rw (qn 13) (qn 22) (qn 23) cA 10 npc npa npb)]) H := hP.perm (seg_out [(Po oo qn qk qt qx qa ts wa pf (chv qc sp)), (Cw qn cA (chv qc nc) nf ng), (Rw (qn 13) (qn 22) (qn 23) cA 10 npc npa npb)] [1] [0, 2] 3 rfl (by decide)).symm
    replace hD : va_D A (List.flatten [(Po oo qn qk qt qx qa ts wa pf (chv qc sp)), (Cw qn cA (chv qc nc) nf ng), (Rw (qn 13) (qn 22) (qn 23) cA 10 npc npa npb)]) := hD.perm (seg_out [(Po oo qn qk qt qx qa ts wa pf (chv qc sp)), (Cw qn cA (chv qc nc) nf ng), (Rw (qn 13) (qn 22) (qn 23) cA 10 npc npa npb)] [1] [0, 2] 3 rfl (by decide)).symm
    refine lv_if_ne (tgt := 49) hx hb dX6_plan_44 (by decide) (fun c4 => ?_) (fun c4 => ?_)
    · replace hf := ie_of c4 hf
      exact J49 npc npa npb hf _ _ hP hD hS _ (lv_sub hl [0, 1, 2] rfl)
    · replace hf := it_of c4 hf
      refine lv_iconst (v := (-1)) hx hb dX6_plan_47 (by decide) ?_
      rw [hQ]
      exact ret_i C0 hP hD hS (by have e := Option.some.inj hf; rw [← e]; exact ⟨rfl, rfl⟩) dX6_plan_48
  unfold k_X6_plan at hf
  refine lv_iload_n hx hb dX6_plan_0 rfl (lv_at hl 1 rfl) ?_
  refine lv_iconst (v := (-1)) hx hb dX6_plan_1 (by decide) ?_
  refine lv_icmp_ne (tgt := 16) hx hb dX6_plan_2 (by decide) (fun c1 => ?_) (fun c1 => ?_)
  · replace hf := ie_of c1 hf
    refine lv_iload_n hx hb dX6_plan_16 rfl (lv_at hl 1 rfl) ?_
    refine lv_iconst (v := 3) hx hb dX6_plan_17 (by decide) ?_
    obtain ⟨r2q, hq3, hf⟩ := b1_of hf
    refine callSI (As := [.int a1, .int 3]) (rest := []) (wr := (List.flatten [(Po oo qn qk qt qx qa ts wa pf (chv qc sp)), (Cw qn cA (chv qc nc) nf ng), (Rw (qn 13) (qn 22) (qn 23) cA 10 npc0 npa0 npb0)])) C0 (c_X6_isWithin a1 3 _ hq3) lk_X6_49_X6_isWithin rfl hP hD hS (List.Perm.refl _) hl.1 rfl rfl (Nat.le_of_ble_eq_true rfl) dX6_plan_18 ⟨Nat.zero_le _, Nat.zero_le _⟩ (fun r2 w H locs hw hP hD hS => ?_)
    obtain ⟨⟨e1, e2⟩, z4⟩ := hw
    replace e1 : r2 = r2q := e1
    subst e1
    subst e2
    replace hP : va_P D vwCl (List.flatten [(Po oo qn qk qt qx qa ts wa pf (chv qc sp)), (Cw qn cA (chv qc nc) nf ng), (Rw (qn 13) (qn 22) (qn 23) cA 10 npc0 npa0 npb0)]) H := hP
    replace hD : va_D A (List.flatten [(Po oo qn qk qt qx qa ts wa pf (chv qc sp)), (Cw qn cA (chv qc nc) nf ng), (Rw (qn 13) (qn 22) (qn 23) cA 10 npc0 npa0 npb0)]) := hD
    refine lv_if_ne (tgt := 26) hx hb dX6_plan_21 (by decide) (fun c5 => ?_) (fun c5 => ?_)
    · replace hf := ie_of c5 hf
      refine lv_iload_n hx hb dX6_plan_26 rfl (lv_at hl 1 rfl) ?_
      refine lv_iconst (v := 1) hx hb dX6_plan_27 (by decide) ?_
      refine lv_icmp_eq (tgt := 36) hx hb dX6_plan_28 (by decide) (fun c6 => ?_) (fun c6 => ?_)
      · replace hf := it_of c6 hf
        exact J36 npc0 npa0 npb0 hf _ _ hP hD hS _ (lv_sub hl [0, 1, 2] rfl)
      · replace hf := ie_of c6 hf
        refine lv_iload_n hx hb dX6_plan_31 rfl (lv_at hl 1 rfl) ?_
        refine lv_iconst (v := 2) hx hb dX6_plan_32 (by decide) ?_
        refine lv_icmp_ne (tgt := 49) hx hb dX6_plan_33 (by decide) (fun c7 => ?_) (fun c7 => ?_)
        · replace hf := ie_of c7 hf
          exact J49 npc0 npa0 npb0 hf _ _ hP hD hS _ (lv_sub hl [0, 1, 2] rfl)
        · replace hf := it_of c7 hf
          exact J36 npc0 npa0 npb0 hf _ _ hP hD hS _ (lv_sub hl [0, 1, 2] rfl)
    · replace hf := it_of c5 hf
      refine lv_iconst (v := (-1)) hx hb dX6_plan_24 (by decide) ?_
      rw [hQ]
      exact ret_i C0 hP hD hS (by have e := Option.some.inj hf; rw [← e]; exact ⟨rfl, rfl⟩) dX6_plan_25
  · replace hf := it_of c1 hf
    refine lv_aload_n hx hb dX6_plan_5 rfl (lv_at hl 0 rfl) ?_
    refine va_get (D := D) (ci := 6) (v := .ref (qn 0)) (C := RX6) (T := TX6) (N := 10) hx hb hts fw_6 hown hK hP 0 rfl rfl 0 (by decide) (hts _ m_fieldLink_P_12_P_now_LP_Cellar) (fun _ h9 => h9) rfl dX6_plan_6 ?_
    refine va_get (D := D) (ci := 1) (v := .ref (qn 13)) (C := RX1) (T := TX1) (N := 16) hx hb hts fw_1 hown hK hP 1 rfl rfl 13 (by decide) (hts _ m_fieldLink_P_198_P_Cellar_plan_LP_Rows) (fun _ h9 => h9) rfl dX6_plan_9 ?_
    obtain ⟨r8q, npc_9, hq10, hf⟩ := b2_of hf
    refine callVI (As := []) (rest := []) (wr := segpick [(Po oo qn qk qt qx qa ts wa pf (chv qc sp)), (Cw qn cA (chv qc nc) nf ng), (Rw (qn 13) (qn 22) (qn 23) cA 10 npc0 npa0 npb0)] [0, 1]) C0 (c_X3_empty (qn 13) (qn 22) (qn 23) 10 npc0 npa0 npb0 _ hq10) lk_X6_170_X3_empty rfl hP hD hS (seg_out [(Po oo qn qk qt qx qa ts wa pf (chv qc sp)), (Cw qn cA (chv qc nc) nf ng), (Rw (qn 13) (qn 22) (qn 23) cA 10 npc0 npa0 npb0)] [2] [0, 1] 3 rfl (by decide)) 7 3 rfl rfl rfl hl.1 rfl rfl (Nat.le_of_ble_eq_true rfl) dX6_plan_12 ⟨Nat.zero_le _, Nat.zero_le _⟩ (fun r8 w H locs hw hP hD hS => ?_)
    obtain ⟨e1, e2⟩ := hw
    replace e1 : r8 = r8q := e1
    subst e1
    subst e2
    replace hP : va_P D vwCl (List.flatten [(Po oo qn qk qt qx qa ts wa pf (chv qc sp)), (Cw qn cA (chv qc nc) nf ng), (Rw (qn 13) (qn 22) (qn 23) cA 10 npc_9 npa0 npb0)]) H := hP.perm (seg_out [(Po oo qn qk qt qx qa ts wa pf (chv qc sp)), (Cw qn cA (chv qc nc) nf ng), (Rw (qn 13) (qn 22) (qn 23) cA 10 npc_9 npa0 npb0)] [2] [0, 1] 3 rfl (by decide)).symm
    replace hD : va_D A (List.flatten [(Po oo qn qk qt qx qa ts wa pf (chv qc sp)), (Cw qn cA (chv qc nc) nf ng), (Rw (qn 13) (qn 22) (qn 23) cA 10 npc_9 npa0 npb0)]) := hD.perm (seg_out [(Po oo qn qk qt qx qa ts wa pf (chv qc sp)), (Cw qn cA (chv qc nc) nf ng), (Rw (qn 13) (qn 22) (qn 23) cA 10 npc_9 npa0 npb0)] [2] [0, 1] 3 rfl (by decide)).symm
    rw [hQ]
    exact ret_i C0 hP hD hS (by have e := Option.some.inj hf; rw [← e]; exact ⟨rfl, rfl⟩) dX6_plan_15
-- X6 follow
noncomputable def k_X6_follow (a1 : Int32) (a2 : Int32) (mf0 : Nat → Int32) (mg0 : Nat → Nat → Int32) (mc : Option Nat) (mv0 : Nat → Int32) (cn : Nat) (cf : Nat → Nat → Int32) (cg : Nat → Nat → Nat → Int32) : Option ((Nat → Int32) × (Nat → Nat → Int32) × (Nat → Int32)) := if a1 = 0 then b3 (k_X1_passDays 1 1000000 mf0 mg0 mc mv0 cn cf cg) (fun mf_2 mg_3 mv_4 => some (mf_2, mg_3, mv_4)) else if a1 = 1 then b1 (k_X1_put a2 1 mf0) (fun mf_7 => some (mf_7, mg0, mv0)) else if a1 = 2 then b1 (k_X1_put a2 0 mf0) (fun mf_10 => some (mf_10, mg0, mv0)) else some ((upd mf0 2 0), mg0, mv0)
set_option maxHeartbeats 4000000 in
set_option maxRecDepth 100000 in
theorem c_X6_follow {l : Launch} {D : va_G} {cA : Nat → ClassId} (q : Nat → Nat) (qc : Nat → Nat → Nat) (mf0 : Nat → Int32) (mg0 : Nat → Nat → Int32) (mc : Option Nat) (mv0 : Nat → Int32) (cn : Nat) (cf : Nat → Nat → Int32) (cg : Nat → Nat → Nat → Int32) (a1 : Int32) (a2 : Int32) (o : (Nat → Int32) × (Nat → Nat → Int32) × (Nat → Int32)) (hf : k_X6_follow a1 a2 mf0 mg0 mc mv0 cn cf cg = some o) : CV l D cA yX6_follow cX6_follow 3 none 5 119 [.ref (q 0), .int a1, .int a2] (List.flatten [(Cw q cA (chv qc mc) mf0 mg0), (Vw (q 15) cA mv0), (chPool cn qc cA cf cg)]) 0 0 (fun w => w = (List.flatten [(Cw q cA (chv qc mc) o.1 o.2.1), (Vw (q 15) cA o.2.2), (chPool cn qc cA cf cg)])) := by
  intro sz
  refine met_start (by decide) rfl ?_
  intro p e s m args below meth c ls hsz hargs C0 hname hP hD hS hl
  generalize hAe : va_A (List.flatten [(Cw q cA (chv qc mc) mf0 mg0), (Vw (q 15) cA mv0), (chPool cn qc cA cf cg)]) sz = A at C0 hD hS ⊢
  obtain ⟨hx, hb, hr, hml, hown, hts, hlk, hK, hA⟩ := id C0
  replace hl : lv_has ls 3 [(0, .ref (q 0)), (1, .int a1), (2, .int a2)] := hl
  obtain ⟨Q, hQ⟩ : ∃ Q : State → Prop, Q = QV below D A (fun w => w = (List.flatten [(Cw q cA (chv qc mc) o.1 o.2.1), (Vw (q 15) cA o.2.2), (chPool cn qc cA cf cg)])) args s 0 0 := ⟨_, rfl⟩
  refine cast (by rw [hQ]) (?_ : W p l e (RMx 5 119 0 0) s m args below meth c s.heap [] 0 0 Q (F0 m 0 ls []))
  unfold k_X6_follow at hf
  refine lv_iload_n hx hb dX6_follow_0 rfl (lv_at hl 1 rfl) ?_
  by_cases c1 : a1 = 0
  · replace hf := it_of c1 hf
    refine lv_tableIn (off := 27) (tgt := 28) hx hb dX6_follow_1 (by rw [c1]; decide) (by rw [c1]; decide) (by rw [c1]; decide) (by decide) ?_
    refine lv_aload_n hx hb dX6_follow_28 rfl (lv_at hl 0 rfl) ?_
    refine lv_iconst (v := 1) hx hb dX6_follow_29 (by decide) ?_
    refine lv_ldc (v := 1000000) hx hb hown (hts _ m_constant_P_155_1000000) dX6_follow_30 ?_
    obtain ⟨mf_2, mg_3, mv_4, hq5, hf⟩ := b3_of hf
    refine callVV (As := [.int 1, .int 1000000]) (rest := []) (wr := []) C0 (c_X1_passDays q qc mf0 mg0 mc mv0 cn cf cg 1 1000000 _ hq5) lk_X6_147_X1_passDays rfl hP hD hS perm_nil 0 1 rfl rfl rfl hl.1 rfl rfl (Nat.le_of_ble_eq_true rfl) dX6_follow_32 ⟨Nat.zero_le _, Nat.zero_le _⟩ (fun w H locs hw hP hD hS => ?_)
    have e2 := hw
    subst e2
    replace hP : va_P D vwCl (List.flatten [(Cw q cA (chv qc mc) mf_2 mg_3), (Vw (q 15) cA mv_4), (chPool cn qc cA cf cg)]) H := hP.nil
    replace hD : va_D A (List.flatten [(Cw q cA (chv qc mc) mf_2 mg_3), (Vw (q 15) cA mv_4), (chPool cn qc cA cf cg)]) := hD.nil
    refine lv_goto (tgt := 61) hx hb dX6_follow_35 (by decide) ?_
    rw [hQ]
    exact ret_v C0 hP hD hS (by have e := Option.some.inj hf; first | (rw [← e]; done) | (rw [← e]; exact rfl)) dX6_follow_61
  · replace hf := ie_of c1 hf
    by_cases c6 : a1 = 1
    · replace hf := it_of c6 hf
      refine lv_tableIn (off := 37) (tgt := 38) hx hb dX6_follow_1 (by rw [c6]; decide) (by rw [c6]; decide) (by rw [c6]; decide) (by decide) ?_
      refine lv_aload_n hx hb dX6_follow_38 rfl (lv_at hl 0 rfl) ?_
      refine lv_iload_n hx hb dX6_follow_39 rfl (lv_at hl 2 rfl) ?_
      refine lv_iconst (v := 1) hx hb dX6_follow_40 (by decide) ?_
      obtain ⟨mf_7, hq8, hf⟩ := b1_of hf
      refine callVV (As := [.int a2, .int 1]) (rest := []) (wr := segpick [(Cw q cA (chv qc mc) mf0 mg0), (Vw (q 15) cA mv0), (chPool cn qc cA cf cg)] [1, 2]) C0 (c_X1_put q qc mf0 mg0 mc a2 1 _ hq8) lk_X6_87_X1_put rfl hP hD hS (seg_out [(Cw q cA (chv qc mc) mf0 mg0), (Vw (q 15) cA mv0), (chPool cn qc cA cf cg)] [0] [1, 2] 3 rfl (by decide)) 0 1 rfl rfl rfl hl.1 rfl rfl (Nat.le_of_ble_eq_true rfl) dX6_follow_41 ⟨Nat.zero_le _, Nat.zero_le _⟩ (fun w H locs hw hP hD hS => ?_)
      have e2 := hw
      subst e2
      replace hP : va_P D vwCl (List.flatten [(Cw q cA (chv qc mc) mf_7 mg0), (Vw (q 15) cA mv0), (chPool cn qc cA cf cg)]) H := hP.perm (seg_out [(Cw q cA (chv qc mc) mf_7 mg0), (Vw (q 15) cA mv0), (chPool cn qc cA cf cg)] [0] [1, 2] 3 rfl (by decide)).symm
      replace hD : va_D A (List.flatten [(Cw q cA (chv qc mc) mf_7 mg0), (Vw (q 15) cA mv0), (chPool cn qc cA cf cg)]) := hD.perm (seg_out [(Cw q cA (chv qc mc) mf_7 mg0), (Vw (q 15) cA mv0), (chPool cn qc cA cf cg)] [0] [1, 2] 3 rfl (by decide)).symm
      refine lv_goto (tgt := 61) hx hb dX6_follow_44 (by decide) ?_
      rw [hQ]
      exact ret_v C0 hP hD hS (by have e := Option.some.inj hf; first | (rw [← e]; done) | (rw [← e]; exact rfl)) dX6_follow_61
    · replace hf := ie_of c6 hf
      by_cases c9 : a1 = 2
      · replace hf := it_of c9 hf
        refine lv_tableIn (off := 46) (tgt := 47) hx hb dX6_follow_1 (by rw [c9]; decide) (by rw [c9]; decide) (by rw [c9]; decide) (by decide) ?_
        refine lv_aload_n hx hb dX6_follow_47 rfl (lv_at hl 0 rfl) ?_
        refine lv_iload_n hx hb dX6_follow_48 rfl (lv_at hl 2 rfl) ?_
        refine lv_iconst (v := 0) hx hb dX6_follow_49 (by decide) ?_
        obtain ⟨mf_10, hq11, hf⟩ := b1_of hf
        refine callVV (As := [.int a2, .int 0]) (rest := []) (wr := segpick [(Cw q cA (chv qc mc) mf0 mg0), (Vw (q 15) cA mv0), (chPool cn qc cA cf cg)] [1, 2]) C0 (c_X1_put q qc mf0 mg0 mc a2 0 _ hq11) lk_X6_87_X1_put rfl hP hD hS (seg_out [(Cw q cA (chv qc mc) mf0 mg0), (Vw (q 15) cA mv0), (chPool cn qc cA cf cg)] [0] [1, 2] 3 rfl (by decide)) 0 1 rfl rfl rfl hl.1 rfl rfl (Nat.le_of_ble_eq_true rfl) dX6_follow_50 ⟨Nat.zero_le _, Nat.zero_le _⟩ (fun w H locs hw hP hD hS => ?_)
        have e2 := hw
        subst e2
        replace hP : va_P D vwCl (List.flatten [(Cw q cA (chv qc mc) mf_10 mg0), (Vw (q 15) cA mv0), (chPool cn qc cA cf cg)]) H := hP.perm (seg_out [(Cw q cA (chv qc mc) mf_10 mg0), (Vw (q 15) cA mv0), (chPool cn qc cA cf cg)] [0] [1, 2] 3 rfl (by decide)).symm
        replace hD : va_D A (List.flatten [(Cw q cA (chv qc mc) mf_10 mg0), (Vw (q 15) cA mv0), (chPool cn qc cA cf cg)]) := hD.perm (seg_out [(Cw q cA (chv qc mc) mf_10 mg0), (Vw (q 15) cA mv0), (chPool cn qc cA cf cg)] [0] [1, 2] 3 rfl (by decide)).symm
        refine lv_goto (tgt := 61) hx hb dX6_follow_53 (by decide) ?_
        rw [hQ]
        exact ret_v C0 hP hD hS (by have e := Option.some.inj hf; first | (rw [← e]; done) | (rw [← e]; exact rfl)) dX6_follow_61
      · replace hf := ie_of c9 hf
        refine lv_tableOut (tgt := 56) hx hb dX6_follow_1 (by have := lv_neT c1 (a := 0) (by decide); have := lv_neT c6 (a := 1) (by decide); have := lv_neT c9 (a := 2) (by decide); omega) (by decide) ?_
        refine lv_aload_n hx hb dX6_follow_56 rfl (lv_at hl 0 rfl) ?_
        refine lv_iconst (v := 0) hx hb dX6_follow_57 (by decide) ?_
        refine va_put (D := D) (ci := 1) (v := .int 0) (ty := .int) (C := RX1) (T := TX1) (N := 16) hx hb hts fw_1 tyX1 tyX1_ok nmX1 hown hK hP hD hS 0 rfl rfl 2 (by decide) (hts _ m_fieldLink_P_91_P_Cellar_fear_I) (fun _ h9 => h9) rfl (by decide +kernel) rfl rfl (Nat.le_of_ble_eq_true rfl) dX6_follow_58 (fun H locs hP hD hS => ?_)
        replace hP : va_P D vwCl (List.flatten [(Cw q cA (chv qc mc) (upd mf0 2 0) mg0), (Vw (q 15) cA mv0), (chPool cn qc cA cf cg)]) H := hP
        replace hD : va_D A (List.flatten [(Cw q cA (chv qc mc) (upd mf0 2 0) mg0), (Vw (q 15) cA mv0), (chPool cn qc cA cf cg)]) := hD
        rw [hQ]
        exact ret_v C0 hP hD hS (by have e := Option.some.inj hf; first | (rw [← e]; done) | (rw [← e]; exact rfl)) dX6_follow_61
-- X6 ends
noncomputable def k_X6_ends_17 (a1 : Int32) (npc : Int32) (npa : Nat → Int32) (npb : Nat → Int32) (cn : Nat) (cf : Nat → Nat → Int32) (cg : Nat → Nat → Nat → Int32) : Nat → Int32 → (Nat → Int32) → (Nat → Nat → Int32) → Option Nat → (Nat → Int32) → Option (Int32 × (Nat → Int32) × (Nat → Nat → Int32) × Option Nat × (Nat → Int32))
  | 0, _, _, _, _, _ => none
  | n + 1, x3, tf, tg, tc, tv => if npc ≤ x3 then if a1 = 0 then some ((tf 2), tf, tg, tc, tv) else some ((tf 3), tf, tg, tc, tv) else gd x3 10 (gd x3 10 (b3 (k_X6_follow (npa (Int32.toNatClampNeg x3)) (npb (Int32.toNatClampNeg x3)) tf tg tc tv cn cf cg) (fun tf_5 tg_6 tv_7 => k_X6_ends_17 a1 npc npa npb cn cf cg n (x3 + 1) tf_5 tg_6 tc tv_7)))
noncomputable def k_X6_ends (a1 : Int32) (nf : Nat → Int32) (ng : Nat → Nat → Int32) (nc : Option Nat) (npc : Int32) (npa : Nat → Int32) (npb : Nat → Int32) (tf0 : Nat → Int32) (tg0 : Nat → Nat → Int32) (tc0 : Option Nat) (tv0 : Nat → Int32) (cn : Nat) (cf : Nat → Nat → Int32) (cg : Nat → Nat → Nat → Int32) : Option (Int32 × (Nat → Int32) × (Nat → Nat → Int32) × Option Nat × (Nat → Int32)) := b1 (k_X6_isWithin a1 1) (fun r1 => if r1 = 0 then some ((-1), tf0, tg0, tc0, tv0) else b3 (k_X6_begin nf ng nc tf0 tg0 tc0) (fun tf_5 tg_6 tc_7 => k_X6_ends_17 a1 npc npa npb cn cf cg 100000 0 tf_5 tg_6 tc_7 tv0))
set_option maxHeartbeats 4000000 in
set_option maxRecDepth 100000 in
theorem c_X6_ends {l : Launch} {D : va_G} {cA : Nat → ClassId} (oo : Nat) (qn : Nat → Nat) (qk : Nat → Nat) (qt : Nat → Nat) (qx : Nat → Nat) (qa : Nat → Nat) (ts : Nat) (wa : Nat) (qc : Nat → Nat → Nat) (pf : Nat → Int32) (sp : Option Nat) (nf : Nat → Int32) (ng : Nat → Nat → Int32) (nc : Option Nat) (npc : Int32) (npa : Nat → Int32) (npb : Nat → Int32) (tf0 : Nat → Int32) (tg0 : Nat → Nat → Int32) (tc0 : Option Nat) (tv0 : Nat → Int32) (cn : Nat) (cf : Nat → Nat → Int32) (cg : Nat → Nat → Nat → Int32) (a1 : Int32) (o : Int32 × (Nat → Int32) × (Nat → Nat → Int32) × Option Nat × (Nat → Int32)) (hf : k_X6_ends a1 nf ng nc npc npa npb tf0 tg0 tc0 tv0 cn cf cg = some o) : CI l D cA yX6_ends cX6_ends 4 (some .int) 6 141 [.ref oo, .int a1] (List.flatten [(Po oo qn qk qt qx qa ts wa pf (chv qc sp)), (Cw qn cA (chv qc nc) nf ng), (Rw (qn 13) (qn 22) (qn 23) cA 10 npc npa npb), (Cw qt cA (chv qc tc0) tf0 tg0), (Vw (qt 15) cA tv0), (chPool cn qc cA cf cg)]) 0 0 (fun r w => r = o.1 ∧ w = (List.flatten [(Po oo qn qk qt qx qa ts wa pf (chv qc sp)), (Cw qn cA (chv qc nc) nf ng), (Rw (qn 13) (qn 22) (qn 23) cA 10 npc npa npb), (Cw qt cA (chv qc o.2.2.2.1) o.2.1 o.2.2.1), (Vw (qt 15) cA o.2.2.2.2), (chPool cn qc cA cf cg)])) := by
  intro sz
  refine met_start (by decide) rfl ?_
  intro p e s m args below meth c ls hsz hargs C0 hname hP hD hS hl
  generalize hAe : va_A (List.flatten [(Po oo qn qk qt qx qa ts wa pf (chv qc sp)), (Cw qn cA (chv qc nc) nf ng), (Rw (qn 13) (qn 22) (qn 23) cA 10 npc npa npb), (Cw qt cA (chv qc tc0) tf0 tg0), (Vw (qt 15) cA tv0), (chPool cn qc cA cf cg)]) sz = A at C0 hD hS ⊢
  obtain ⟨hx, hb, hr, hml, hown, hts, hlk, hK, hA⟩ := id C0
  replace hl : lv_has ls 4 [(0, .ref oo), (1, .int a1)] := hl
  obtain ⟨Q, hQ⟩ : ∃ Q : State → Prop, Q = QI below D A (fun r w => r = o.1 ∧ w = (List.flatten [(Po oo qn qk qt qx qa ts wa pf (chv qc sp)), (Cw qn cA (chv qc nc) nf ng), (Rw (qn 13) (qn 22) (qn 23) cA 10 npc npa npb), (Cw qt cA (chv qc o.2.2.2.1) o.2.1 o.2.2.1), (Vw (qt 15) cA o.2.2.2.2), (chPool cn qc cA cf cg)])) args s 0 0 := ⟨_, rfl⟩
  refine cast (by rw [hQ]) (?_ : W p l e (RMx 6 141 0 0) s m args below meth c s.heap [] 0 0 Q (F0 m 0 ls []))
  have J17 : ∀ n : Nat, ∀ (x3 : Int32) (tf : Nat → Int32) (tg : Nat → Nat → Int32) (tc : Option Nat) (tv : Nat → Int32), k_X6_ends_17 a1 npc npa npb cn cf cg n x3 tf tg tc tv = some o → ∀ (H : Heap) (locs : List Loc), va_P D vwCl (List.flatten [(Po oo qn qk qt qx qa ts wa pf (chv qc sp)), (Cw qn cA (chv qc nc) nf ng), (Rw (qn 13) (qn 22) (qn 23) cA 10 npc npa npb), (Cw qt cA (chv qc tc) tf tg), (Vw (qt 15) cA tv), (chPool cn qc cA cf cg)]) H → va_D A (List.flatten [(Po oo qn qk qt qx qa ts wa pf (chv qc sp)), (Cw qn cA (chv qc nc) nf ng), (Rw (qn 13) (qn 22) (qn 23) cA 10 npc npa npb), (Cw qt cA (chv qc tc) tf tg), (Vw (qt 15) cA tv), (chPool cn qc cA cf cg)]) → va_S A s.heap H locs → ∀ ls : Array Slot, lv_has ls 4 [(0, .ref oo), (1, .int a1), (2, .ref (qt 0)), (3, .int x3)] → W p l e (RMx 6 141 0 0) s m args below meth c H locs 0 0 Q (F0 m 17 ls []) := by
    intro  n
    induction n with
    | zero =>
      intro x3 tf tg tc tv hf
      rw [k_X6_ends_17] at hf
      cases hf
    | succ n ih =>
      intro x3 tf tg tc tv hf H locs hP hD hS ls hl
      rw [k_X6_ends_17] at hf
      refine lv_iload_n hx hb dX6_ends_17 rfl (lv_at hl 3 rfl) ?_
      refine lv_aload_n hx hb dX6_ends_18 rfl (lv_at hl 0 rfl) ?_
      refine va_get (D := D) (ci := 6) (v := .ref (qn 0)) (C := RX6) (T := TX6) (N := 10) hx hb hts fw_6 hown hK hP 0 rfl rfl 0 (by decide) (hts _ m_fieldLink_P_12_P_now_LP_Cellar) (fun _ h9 => h9) rfl dX6_ends_19 ?_
      refine va_get (D := D) (ci := 1) (v := .ref (qn 13)) (C := RX1) (T := TX1) (N := 16) hx hb hts fw_1 hown hK hP 1 rfl rfl 13 (by decide) (hts _ m_fieldLink_P_198_P_Cellar_plan_LP_Rows) (fun _ h9 => h9) rfl dX6_ends_22 ?_
      refine va_get (D := D) (ci := 3) (v := .int npc) (C := RX3) (T := TX3) (N := 3) hx hb hts fw_3 hown hK hP 7 rfl rfl 0 (by decide) (hts _ m_fieldLink_P_201_P_Rows_count_I) (fun _ h9 => h9) rfl dX6_ends_25 ?_
      refine lv_icmp_ge (tgt := 65) hx hb dX6_ends_28 (by decide) (fun c1 => ?_) (fun c1 => ?_)
      · replace hf := it_of c1 hf
        refine lv_iload_n hx hb dX6_ends_65 rfl (lv_at hl 1 rfl) ?_
        refine lv_if_ne (tgt := 76) hx hb dX6_ends_66 (by decide) (fun c2 => ?_) (fun c2 => ?_)
        · replace hf := ie_of c2 hf
          refine lv_aload_n hx hb dX6_ends_76 rfl (lv_at hl 2 rfl) ?_
          refine va_get (D := D) (ci := 1) (v := .int (tf 3)) (C := RX1) (T := TX1) (N := 16) hx hb hts fw_1 hown hK hP 10 rfl rfl 3 (by decide) (hts _ m_fieldLink_P_126_P_Cellar_truths_I) (fun _ h9 => h9) rfl dX6_ends_77 ?_
          rw [hQ]
          exact ret_i C0 hP hD hS (by have e := Option.some.inj hf; rw [← e]; exact ⟨rfl, rfl⟩) dX6_ends_80
        · replace hf := it_of c2 hf
          refine lv_aload_n hx hb dX6_ends_69 rfl (lv_at hl 2 rfl) ?_
          refine va_get (D := D) (ci := 1) (v := .int (tf 2)) (C := RX1) (T := TX1) (N := 16) hx hb hts fw_1 hown hK hP 10 rfl rfl 2 (by decide) (hts _ m_fieldLink_P_91_P_Cellar_fear_I) (fun _ h9 => h9) rfl dX6_ends_70 ?_
          refine lv_goto (tgt := 80) hx hb dX6_ends_73 (by decide) ?_
          rw [hQ]
          exact ret_i C0 hP hD hS (by have e := Option.some.inj hf; rw [← e]; exact ⟨rfl, rfl⟩) dX6_ends_80
      · replace hf := ie_of c1 hf
        refine lv_aload_n hx hb dX6_ends_31 rfl (lv_at hl 2 rfl) ?_
        refine lv_aload_n hx hb dX6_ends_32 rfl (lv_at hl 0 rfl) ?_
        refine va_get (D := D) (ci := 6) (v := .ref (qn 0)) (C := RX6) (T := TX6) (N := 10) hx hb hts fw_6 hown hK hP 0 rfl rfl 0 (by decide) (hts _ m_fieldLink_P_12_P_now_LP_Cellar) (fun _ h9 => h9) rfl dX6_ends_33 ?_
        refine va_get (D := D) (ci := 1) (v := .ref (qn 13)) (C := RX1) (T := TX1) (N := 16) hx hb hts fw_1 hown hK hP 1 rfl rfl 13 (by decide) (hts _ m_fieldLink_P_198_P_Cellar_plan_LP_Rows) (fun _ h9 => h9) rfl dX6_ends_36 ?_
        refine va_get (D := D) (ci := 3) (v := .ref (qn 22)) (C := RX3) (T := TX3) (N := 3) hx hb hts fw_3 hown hK hP 7 rfl rfl 1 (by decide) (hts _ m_fieldLink_P_204_P_Rows_first_aI) (fun _ h9 => h9) rfl dX6_ends_39 ?_
        refine lv_iload_n hx hb dX6_ends_42 rfl (lv_at hl 3 rfl) ?_
        obtain ⟨hi3, hf⟩ := gd_of hf
        refine va_iald hx hb hK hP 8 0 rfl rfl hi3 dX6_ends_43 ?_
        refine lv_aload_n hx hb dX6_ends_44 rfl (lv_at hl 0 rfl) ?_
        refine va_get (D := D) (ci := 6) (v := .ref (qn 0)) (C := RX6) (T := TX6) (N := 10) hx hb hts fw_6 hown hK hP 0 rfl rfl 0 (by decide) (hts _ m_fieldLink_P_12_P_now_LP_Cellar) (fun _ h9 => h9) rfl dX6_ends_45 ?_
        refine va_get (D := D) (ci := 1) (v := .ref (qn 13)) (C := RX1) (T := TX1) (N := 16) hx hb hts fw_1 hown hK hP 1 rfl rfl 13 (by decide) (hts _ m_fieldLink_P_198_P_Cellar_plan_LP_Rows) (fun _ h9 => h9) rfl dX6_ends_48 ?_
        refine va_get (D := D) (ci := 3) (v := .ref (qn 23)) (C := RX3) (T := TX3) (N := 3) hx hb hts fw_3 hown hK hP 7 rfl rfl 2 (by decide) (hts _ m_fieldLink_P_207_P_Rows_second_aI) (fun _ h9 => h9) rfl dX6_ends_51 ?_
        refine lv_iload_n hx hb dX6_ends_54 rfl (lv_at hl 3 rfl) ?_
        obtain ⟨hi4, hf⟩ := gd_of hf
        refine va_iald hx hb hK hP 9 0 rfl rfl hi4 dX6_ends_55 ?_
        obtain ⟨tf_5, tg_6, tv_7, hq8, hf⟩ := b3_of hf
        refine callSV (As := [.ref (qt 0), .int (npa (Int32.toNatClampNeg x3)), .int (npb (Int32.toNatClampNeg x3))]) (rest := []) (wr := segpick [(Po oo qn qk qt qx qa ts wa pf (chv qc sp)), (Cw qn cA (chv qc nc) nf ng), (Rw (qn 13) (qn 22) (qn 23) cA 10 npc npa npb), (Cw qt cA (chv qc tc) tf tg), (Vw (qt 15) cA tv), (chPool cn qc cA cf cg)] [0, 1, 2]) C0 (c_X6_follow qt qc tf tg tc tv cn cf cg (npa (Int32.toNatClampNeg x3)) (npb (Int32.toNatClampNeg x3)) _ hq8) lk_X6_210_X6_follow rfl hP hD hS (seg_out [(Po oo qn qk qt qx qa ts wa pf (chv qc sp)), (Cw qn cA (chv qc nc) nf ng), (Rw (qn 13) (qn 22) (qn 23) cA 10 npc npa npb), (Cw qt cA (chv qc tc) tf tg), (Vw (qt 15) cA tv), (chPool cn qc cA cf cg)] [3, 4, 5] [0, 1, 2] 6 rfl (by decide)) hl.1 rfl rfl (Nat.le_of_ble_eq_true rfl) dX6_ends_56 ⟨Nat.zero_le _, Nat.zero_le _⟩ (fun w H locs hw hP hD hS => ?_)
        have e2 := hw
        subst e2
        replace hP : va_P D vwCl (List.flatten [(Po oo qn qk qt qx qa ts wa pf (chv qc sp)), (Cw qn cA (chv qc nc) nf ng), (Rw (qn 13) (qn 22) (qn 23) cA 10 npc npa npb), (Cw qt cA (chv qc tc) tf_5 tg_6), (Vw (qt 15) cA tv_7), (chPool cn qc cA cf cg)]) H := hP.perm (seg_out [(Po oo qn qk qt qx qa ts wa pf (chv qc sp)), (Cw qn cA (chv qc nc) nf ng), (Rw (qn 13) (qn 22) (qn 23) cA 10 npc npa npb), (Cw qt cA (chv qc tc) tf_5 tg_6), (Vw (qt 15) cA tv_7), (chPool cn qc cA cf cg)] [3, 4, 5] [0, 1, 2] 6 rfl (by decide)).symm
        replace hD : va_D A (List.flatten [(Po oo qn qk qt qx qa ts wa pf (chv qc sp)), (Cw qn cA (chv qc nc) nf ng), (Rw (qn 13) (qn 22) (qn 23) cA 10 npc npa npb), (Cw qt cA (chv qc tc) tf_5 tg_6), (Vw (qt 15) cA tv_7), (chPool cn qc cA cf cg)]) := hD.perm (seg_out [(Po oo qn qk qt qx qa ts wa pf (chv qc sp)), (Cw qn cA (chv qc nc) nf ng), (Rw (qn 13) (qn 22) (qn 23) cA 10 npc npa npb), (Cw qt cA (chv qc tc) tf_5 tg_6), (Vw (qt 15) cA tv_7), (chPool cn qc cA cf cg)] [3, 4, 5] [0, 1, 2] 6 rfl (by decide)).symm
        refine lv_iinc (v := (x3 + 1)) (lv' := [(3, .int (x3 + 1)), (0, .ref oo), (1, .int a1), (2, .ref (qt 0))]) hx hb dX6_ends_59 hl (k := 3) rfl rfl (by decide) rfl (fun ls hl => ?_)
        refine lv_goto (tgt := 17) hx hb dX6_ends_62 (by decide) ?_
        exact ih (x3 + 1) tf_5 tg_6 tc tv_7 hf _ _ hP hD hS _ (lv_sub hl [1, 2, 3, 0] rfl)
  unfold k_X6_ends at hf
  refine lv_iload_n hx hb dX6_ends_0 rfl (lv_at hl 1 rfl) ?_
  refine lv_iconst (v := 1) hx hb dX6_ends_1 (by decide) ?_
  obtain ⟨r1q, hq2, hf⟩ := b1_of hf
  refine callSI (As := [.int a1, .int 1]) (rest := []) (wr := (List.flatten [(Po oo qn qk qt qx qa ts wa pf (chv qc sp)), (Cw qn cA (chv qc nc) nf ng), (Rw (qn 13) (qn 22) (qn 23) cA 10 npc npa npb), (Cw qt cA (chv qc tc0) tf0 tg0), (Vw (qt 15) cA tv0), (chPool cn qc cA cf cg)])) C0 (c_X6_isWithin a1 1 _ hq2) lk_X6_49_X6_isWithin rfl hP hD hS (List.Perm.refl _) hl.1 rfl rfl (Nat.le_of_ble_eq_true rfl) dX6_ends_2 ⟨Nat.zero_le _, Nat.zero_le _⟩ (fun r1 w H locs hw hP hD hS => ?_)
  obtain ⟨⟨e1, e2⟩, z3⟩ := hw
  replace e1 : r1 = r1q := e1
  subst e1
  subst e2
  replace hP : va_P D vwCl (List.flatten [(Po oo qn qk qt qx qa ts wa pf (chv qc sp)), (Cw qn cA (chv qc nc) nf ng), (Rw (qn 13) (qn 22) (qn 23) cA 10 npc npa npb), (Cw qt cA (chv qc tc0) tf0 tg0), (Vw (qt 15) cA tv0), (chPool cn qc cA cf cg)]) H := hP
  replace hD : va_D A (List.flatten [(Po oo qn qk qt qx qa ts wa pf (chv qc sp)), (Cw qn cA (chv qc nc) nf ng), (Rw (qn 13) (qn 22) (qn 23) cA 10 npc npa npb), (Cw qt cA (chv qc tc0) tf0 tg0), (Vw (qt 15) cA tv0), (chPool cn qc cA cf cg)]) := hD
  refine lv_if_ne (tgt := 10) hx hb dX6_ends_5 (by decide) (fun c4 => ?_) (fun c4 => ?_)
  · replace hf := ie_of c4 hf
    refine lv_aload_n hx hb dX6_ends_10 rfl (lv_at hl 0 rfl) ?_
    obtain ⟨tf_5, tg_6, tc_7, hq8, hf⟩ := b3_of hf
    refine callVR (As := []) (rest := []) (wr := segpick [(Po oo qn qk qt qx qa ts wa pf (chv qc sp)), (Cw qn cA (chv qc nc) nf ng), (Rw (qn 13) (qn 22) (qn 23) cA 10 npc npa npb), (Cw qt cA (chv qc tc0) tf0 tg0), (Vw (qt 15) cA tv0), (chPool cn qc cA cf cg)] [2, 4, 5]) C0 (c_X6_begin oo qn qk qt qx qa ts wa qc pf sp nf ng nc tf0 tg0 tc0 _ hq8) lk_X6_151_X6_begin rfl hP hD hS (seg_out [(Po oo qn qk qt qx qa ts wa pf (chv qc sp)), (Cw qn cA (chv qc nc) nf ng), (Rw (qn 13) (qn 22) (qn 23) cA 10 npc npa npb), (Cw qt cA (chv qc tc0) tf0 tg0), (Vw (qt 15) cA tv0), (chPool cn qc cA cf cg)] [0, 1, 3] [2, 4, 5] 6 rfl (by decide)) 0 6 rfl rfl rfl hl.1 rfl rfl (Nat.le_of_ble_eq_true rfl) dX6_ends_11 ⟨Nat.zero_le _, Nat.zero_le _⟩ (fun rhq8_ w H locs hw hP hD hS => ?_)
    obtain ⟨e1, e2⟩ := hw
    subst e1
    subst e2
    replace hP : va_P D vwCl (List.flatten [(Po oo qn qk qt qx qa ts wa pf (chv qc sp)), (Cw qn cA (chv qc nc) nf ng), (Rw (qn 13) (qn 22) (qn 23) cA 10 npc npa npb), (Cw qt cA (chv qc tc_7) tf_5 tg_6), (Vw (qt 15) cA tv0), (chPool cn qc cA cf cg)]) H := hP.perm (seg_out [(Po oo qn qk qt qx qa ts wa pf (chv qc sp)), (Cw qn cA (chv qc nc) nf ng), (Rw (qn 13) (qn 22) (qn 23) cA 10 npc npa npb), (Cw qt cA (chv qc tc_7) tf_5 tg_6), (Vw (qt 15) cA tv0), (chPool cn qc cA cf cg)] [0, 1, 3] [2, 4, 5] 6 rfl (by decide)).symm
    replace hD : va_D A (List.flatten [(Po oo qn qk qt qx qa ts wa pf (chv qc sp)), (Cw qn cA (chv qc nc) nf ng), (Rw (qn 13) (qn 22) (qn 23) cA 10 npc npa npb), (Cw qt cA (chv qc tc_7) tf_5 tg_6), (Vw (qt 15) cA tv0), (chPool cn qc cA cf cg)]) := hD.perm (seg_out [(Po oo qn qk qt qx qa ts wa pf (chv qc sp)), (Cw qn cA (chv qc nc) nf ng), (Rw (qn 13) (qn 22) (qn 23) cA 10 npc npa npb), (Cw qt cA (chv qc tc_7) tf_5 tg_6), (Vw (qt 15) cA tv0), (chPool cn qc cA cf cg)] [0, 1, 3] [2, 4, 5] 6 rfl (by decide)).symm
    refine lv_astore_n (lv' := [(2, .ref (qt 0)), (0, .ref oo), (1, .int a1)]) hx hb dX6_ends_14 rfl hl (by decide) rfl (fun ls hl => ?_)
    refine lv_iconst (v := 0) hx hb dX6_ends_15 (by decide) ?_
    refine lv_istore_n (lv' := [(3, .int 0), (2, .ref (qt 0)), (0, .ref oo), (1, .int a1)]) hx hb dX6_ends_16 rfl hl (by decide) rfl (fun ls hl => ?_)
    exact J17 100000 0 tf_5 tg_6 tc_7 tv0 hf _ _ hP hD hS _ (lv_sub hl [2, 3, 1, 0] rfl)
  · replace hf := it_of c4 hf
    refine lv_iconst (v := (-1)) hx hb dX6_ends_8 (by decide) ?_
    rw [hQ]
    exact ret_i C0 hP hD hS (by have e := Option.some.inj hf; rw [← e]; exact ⟨rfl, rfl⟩) dX6_ends_9
-- X6 book
noncomputable def k_X6_book (a1 : Int32) (a2 : Int32) (nf : Nat → Int32) (nbc0 : Int32) (nba0 : Nat → Int32) (nbb0 : Nat → Int32) : Option (Int32 × Int32 × (Nat → Int32) × (Nat → Int32)) := if a1 = (-1) then b2 (k_X3_empty nbc0) (fun r19 nbc_20 => some (r19, nbc_20, nba0, nbb0)) else b1 (k_X1_has a1 nf) (fun r2 => if r2 = 0 then some ((-1), nbc0, nba0, nbb0) else b1 (k_X6_isWithin a2 20) (fun r6 => if r6 = 0 then some ((-2), nbc0, nba0, nbb0) else b1 (k_X3_isFull 8 nbc0) (fun r10 => if r10 = 0 then b4 (k_X3_add 8 a1 a2 nbc0 nba0 nbb0) (fun r14 nbc_15 nba_16 nbb_17 => some (r14, nbc_15, nba_16, nbb_17)) else some ((-4), nbc0, nba0, nbb0))))
set_option maxHeartbeats 4000000 in
set_option maxRecDepth 100000 in
theorem c_X6_book {l : Launch} {D : va_G} {cA : Nat → ClassId} (oo : Nat) (qn : Nat → Nat) (qk : Nat → Nat) (qt : Nat → Nat) (qx : Nat → Nat) (qa : Nat → Nat) (ts : Nat) (wa : Nat) (qc : Nat → Nat → Nat) (pf : Nat → Int32) (sp : Option Nat) (nf : Nat → Int32) (ng : Nat → Nat → Int32) (nc : Option Nat) (nbc0 : Int32) (nba0 : Nat → Int32) (nbb0 : Nat → Int32) (a1 : Int32) (a2 : Int32) (o : Int32 × Int32 × (Nat → Int32) × (Nat → Int32)) (hf : k_X6_book a1 a2 nf nbc0 nba0 nbb0 = some o) : CI l D cA yX6_book cX6_book 3 (some .int) 1 22 [.ref oo, .int a1, .int a2] (List.flatten [(Po oo qn qk qt qx qa ts wa pf (chv qc sp)), (Cw qn cA (chv qc nc) nf ng), (Rw (qn 14) (qn 24) (qn 25) cA 8 nbc0 nba0 nbb0)]) 0 0 (fun r w => r = o.1 ∧ w = (List.flatten [(Po oo qn qk qt qx qa ts wa pf (chv qc sp)), (Cw qn cA (chv qc nc) nf ng), (Rw (qn 14) (qn 24) (qn 25) cA 8 o.2.1 o.2.2.1 o.2.2.2)])) := by
  intro sz
  refine met_start (by decide) rfl ?_
  intro p e s m args below meth c ls hsz hargs C0 hname hP hD hS hl
  generalize hAe : va_A (List.flatten [(Po oo qn qk qt qx qa ts wa pf (chv qc sp)), (Cw qn cA (chv qc nc) nf ng), (Rw (qn 14) (qn 24) (qn 25) cA 8 nbc0 nba0 nbb0)]) sz = A at C0 hD hS ⊢
  obtain ⟨hx, hb, hr, hml, hown, hts, hlk, hK, hA⟩ := id C0
  replace hl : lv_has ls 3 [(0, .ref oo), (1, .int a1), (2, .int a2)] := hl
  obtain ⟨Q, hQ⟩ : ∃ Q : State → Prop, Q = QI below D A (fun r w => r = o.1 ∧ w = (List.flatten [(Po oo qn qk qt qx qa ts wa pf (chv qc sp)), (Cw qn cA (chv qc nc) nf ng), (Rw (qn 14) (qn 24) (qn 25) cA 8 o.2.1 o.2.2.1 o.2.2.2)])) args s 0 0 := ⟨_, rfl⟩
  refine cast (by rw [hQ]) (?_ : W p l e (RMx 1 22 0 0) s m args below meth c s.heap [] 0 0 Q (F0 m 0 ls []))
  unfold k_X6_book at hf
  refine lv_iload_n hx hb dX6_book_0 rfl (lv_at hl 1 rfl) ?_
  refine lv_iconst (v := (-1)) hx hb dX6_book_1 (by decide) ?_
  refine lv_icmp_ne (tgt := 16) hx hb dX6_book_2 (by decide) (fun c1 => ?_) (fun c1 => ?_)
  · replace hf := ie_of c1 hf
    refine lv_aload_n hx hb dX6_book_16 rfl (lv_at hl 0 rfl) ?_
    refine va_get (D := D) (ci := 6) (v := .ref (qn 0)) (C := RX6) (T := TX6) (N := 10) hx hb hts fw_6 hown hK hP 0 rfl rfl 0 (by decide) (hts _ m_fieldLink_P_12_P_now_LP_Cellar) (fun _ h9 => h9) rfl dX6_book_17 ?_
    refine lv_iload_n hx hb dX6_book_20 rfl (lv_at hl 1 rfl) ?_
    obtain ⟨r2q, hq3, hf⟩ := b1_of hf
    refine callVI (As := [.int a1]) (rest := []) (wr := segpick [(Po oo qn qk qt qx qa ts wa pf (chv qc sp)), (Cw qn cA (chv qc nc) nf ng), (Rw (qn 14) (qn 24) (qn 25) cA 8 nbc0 nba0 nbb0)] [0, 2]) C0 (c_X1_has qn qc nf ng nc a1 _ hq3) lk_X6_61_X1_has rfl hP hD hS (seg_out [(Po oo qn qk qt qx qa ts wa pf (chv qc sp)), (Cw qn cA (chv qc nc) nf ng), (Rw (qn 14) (qn 24) (qn 25) cA 8 nbc0 nba0 nbb0)] [1] [0, 2] 3 rfl (by decide)) 1 1 rfl rfl rfl hl.1 rfl rfl (Nat.le_of_ble_eq_true rfl) dX6_book_21 ⟨Nat.zero_le _, Nat.zero_le _⟩ (fun r2 w H locs hw hP hD hS => ?_)
    obtain ⟨⟨e1, e2⟩, z4⟩ := hw
    replace e1 : r2 = r2q := e1
    subst e1
    subst e2
    replace hP : va_P D vwCl (List.flatten [(Po oo qn qk qt qx qa ts wa pf (chv qc sp)), (Cw qn cA (chv qc nc) nf ng), (Rw (qn 14) (qn 24) (qn 25) cA 8 nbc0 nba0 nbb0)]) H := hP.perm (seg_out [(Po oo qn qk qt qx qa ts wa pf (chv qc sp)), (Cw qn cA (chv qc nc) nf ng), (Rw (qn 14) (qn 24) (qn 25) cA 8 nbc0 nba0 nbb0)] [1] [0, 2] 3 rfl (by decide)).symm
    replace hD : va_D A (List.flatten [(Po oo qn qk qt qx qa ts wa pf (chv qc sp)), (Cw qn cA (chv qc nc) nf ng), (Rw (qn 14) (qn 24) (qn 25) cA 8 nbc0 nba0 nbb0)]) := hD.perm (seg_out [(Po oo qn qk qt qx qa ts wa pf (chv qc sp)), (Cw qn cA (chv qc nc) nf ng), (Rw (qn 14) (qn 24) (qn 25) cA 8 nbc0 nba0 nbb0)] [1] [0, 2] 3 rfl (by decide)).symm
    refine lv_if_ne (tgt := 29) hx hb dX6_book_24 (by decide) (fun c5 => ?_) (fun c5 => ?_)
    · replace hf := ie_of c5 hf
      refine lv_iload_n hx hb dX6_book_29 rfl (lv_at hl 2 rfl) ?_
      refine lv_bipush (v := 20) hx hb dX6_book_30 (by decide) ?_
      obtain ⟨r6q, hq7, hf⟩ := b1_of hf
      refine callSI (As := [.int a2, .int 20]) (rest := []) (wr := (List.flatten [(Po oo qn qk qt qx qa ts wa pf (chv qc sp)), (Cw qn cA (chv qc nc) nf ng), (Rw (qn 14) (qn 24) (qn 25) cA 8 nbc0 nba0 nbb0)])) C0 (c_X6_isWithin a2 20 _ hq7) lk_X6_49_X6_isWithin rfl hP hD hS (List.Perm.refl _) hl.1 rfl rfl (Nat.le_of_ble_eq_true rfl) dX6_book_32 ⟨Nat.zero_le _, Nat.zero_le _⟩ (fun r6 w H locs hw hP hD hS => ?_)
      obtain ⟨⟨e1, e2⟩, z8⟩ := hw
      replace e1 : r6 = r6q := e1
      subst e1
      subst e2
      replace hP : va_P D vwCl (List.flatten [(Po oo qn qk qt qx qa ts wa pf (chv qc sp)), (Cw qn cA (chv qc nc) nf ng), (Rw (qn 14) (qn 24) (qn 25) cA 8 nbc0 nba0 nbb0)]) H := hP
      replace hD : va_D A (List.flatten [(Po oo qn qk qt qx qa ts wa pf (chv qc sp)), (Cw qn cA (chv qc nc) nf ng), (Rw (qn 14) (qn 24) (qn 25) cA 8 nbc0 nba0 nbb0)]) := hD
      refine lv_if_ne (tgt := 41) hx hb dX6_book_35 (by decide) (fun c9 => ?_) (fun c9 => ?_)
      · replace hf := ie_of c9 hf
        refine lv_aload_n hx hb dX6_book_41 rfl (lv_at hl 0 rfl) ?_
        refine va_get (D := D) (ci := 6) (v := .ref (qn 0)) (C := RX6) (T := TX6) (N := 10) hx hb hts fw_6 hown hK hP 0 rfl rfl 0 (by decide) (hts _ m_fieldLink_P_12_P_now_LP_Cellar) (fun _ h9 => h9) rfl dX6_book_42 ?_
        refine va_get (D := D) (ci := 1) (v := .ref (qn 14)) (C := RX1) (T := TX1) (N := 16) hx hb hts fw_1 hown hK hP 1 rfl rfl 14 (by decide) (hts _ m_fieldLink_P_214_P_Cellar_book_LP_Rows) (fun _ h9 => h9) rfl dX6_book_45 ?_
        obtain ⟨r10q, hq11, hf⟩ := b1_of hf
        refine callVI (As := []) (rest := []) (wr := segpick [(Po oo qn qk qt qx qa ts wa pf (chv qc sp)), (Cw qn cA (chv qc nc) nf ng), (Rw (qn 14) (qn 24) (qn 25) cA 8 nbc0 nba0 nbb0)] [0, 1]) C0 (c_X3_isFull (qn 14) (qn 24) (qn 25) 8 nbc0 nba0 nbb0 _ hq11) lk_X6_175_X3_isFull rfl hP hD hS (seg_out [(Po oo qn qk qt qx qa ts wa pf (chv qc sp)), (Cw qn cA (chv qc nc) nf ng), (Rw (qn 14) (qn 24) (qn 25) cA 8 nbc0 nba0 nbb0)] [2] [0, 1] 3 rfl (by decide)) 7 3 rfl rfl rfl hl.1 rfl rfl (Nat.le_of_ble_eq_true rfl) dX6_book_48 ⟨Nat.zero_le _, Nat.zero_le _⟩ (fun r10 w H locs hw hP hD hS => ?_)
        obtain ⟨⟨e1, e2⟩, z12⟩ := hw
        replace e1 : r10 = r10q := e1
        subst e1
        subst e2
        replace hP : va_P D vwCl (List.flatten [(Po oo qn qk qt qx qa ts wa pf (chv qc sp)), (Cw qn cA (chv qc nc) nf ng), (Rw (qn 14) (qn 24) (qn 25) cA 8 nbc0 nba0 nbb0)]) H := hP.perm (seg_out [(Po oo qn qk qt qx qa ts wa pf (chv qc sp)), (Cw qn cA (chv qc nc) nf ng), (Rw (qn 14) (qn 24) (qn 25) cA 8 nbc0 nba0 nbb0)] [2] [0, 1] 3 rfl (by decide)).symm
        replace hD : va_D A (List.flatten [(Po oo qn qk qt qx qa ts wa pf (chv qc sp)), (Cw qn cA (chv qc nc) nf ng), (Rw (qn 14) (qn 24) (qn 25) cA 8 nbc0 nba0 nbb0)]) := hD.perm (seg_out [(Po oo qn qk qt qx qa ts wa pf (chv qc sp)), (Cw qn cA (chv qc nc) nf ng), (Rw (qn 14) (qn 24) (qn 25) cA 8 nbc0 nba0 nbb0)] [2] [0, 1] 3 rfl (by decide)).symm
        refine lv_if_eq (tgt := 59) hx hb dX6_book_51 (by decide) (fun c13 => ?_) (fun c13 => ?_)
        · replace hf := it_of c13 hf
          refine lv_aload_n hx hb dX6_book_59 rfl (lv_at hl 0 rfl) ?_
          refine va_get (D := D) (ci := 6) (v := .ref (qn 0)) (C := RX6) (T := TX6) (N := 10) hx hb hts fw_6 hown hK hP 0 rfl rfl 0 (by decide) (hts _ m_fieldLink_P_12_P_now_LP_Cellar) (fun _ h9 => h9) rfl dX6_book_60 ?_
          refine va_get (D := D) (ci := 1) (v := .ref (qn 14)) (C := RX1) (T := TX1) (N := 16) hx hb hts fw_1 hown hK hP 1 rfl rfl 14 (by decide) (hts _ m_fieldLink_P_214_P_Cellar_book_LP_Rows) (fun _ h9 => h9) rfl dX6_book_63 ?_
          refine lv_iload_n hx hb dX6_book_66 rfl (lv_at hl 1 rfl) ?_
          refine lv_iload_n hx hb dX6_book_67 rfl (lv_at hl 2 rfl) ?_
          obtain ⟨r14q, nbc_15, nba_16, nbb_17, hq18, hf⟩ := b4_of hf
          refine callVI (As := [.int a1, .int a2]) (rest := []) (wr := segpick [(Po oo qn qk qt qx qa ts wa pf (chv qc sp)), (Cw qn cA (chv qc nc) nf ng), (Rw (qn 14) (qn 24) (qn 25) cA 8 nbc0 nba0 nbb0)] [0, 1]) C0 (c_X3_add (qn 14) (qn 24) (qn 25) 8 nbc0 nba0 nbb0 a1 a2 _ hq18) lk_X6_179_X3_add rfl hP hD hS (seg_out [(Po oo qn qk qt qx qa ts wa pf (chv qc sp)), (Cw qn cA (chv qc nc) nf ng), (Rw (qn 14) (qn 24) (qn 25) cA 8 nbc0 nba0 nbb0)] [2] [0, 1] 3 rfl (by decide)) 7 3 rfl rfl rfl hl.1 rfl rfl (Nat.le_of_ble_eq_true rfl) dX6_book_68 ⟨Nat.zero_le _, Nat.zero_le _⟩ (fun r14 w H locs hw hP hD hS => ?_)
          obtain ⟨e1, e2⟩ := hw
          replace e1 : r14 = r14q := e1
          subst e1
          subst e2
          replace hP : va_P D vwCl (List.flatten [(Po oo qn qk qt qx qa ts wa pf (chv qc sp)), (Cw qn cA (chv qc nc) nf ng), (Rw (qn 14) (qn 24) (qn 25) cA 8 nbc_15 nba_16 nbb_17)]) H := hP.perm (seg_out [(Po oo qn qk qt qx qa ts wa pf (chv qc sp)), (Cw qn cA (chv qc nc) nf ng), (Rw (qn 14) (qn 24) (qn 25) cA 8 nbc_15 nba_16 nbb_17)] [2] [0, 1] 3 rfl (by decide)).symm
          replace hD : va_D A (List.flatten [(Po oo qn qk qt qx qa ts wa pf (chv qc sp)), (Cw qn cA (chv qc nc) nf ng), (Rw (qn 14) (qn 24) (qn 25) cA 8 nbc_15 nba_16 nbb_17)]) := hD.perm (seg_out [(Po oo qn qk qt qx qa ts wa pf (chv qc sp)), (Cw qn cA (chv qc nc) nf ng), (Rw (qn 14) (qn 24) (qn 25) cA 8 nbc_15 nba_16 nbb_17)] [2] [0, 1] 3 rfl (by decide)).symm
          rw [hQ]
          exact ret_i C0 hP hD hS (by have e := Option.some.inj hf; rw [← e]; exact ⟨rfl, rfl⟩) dX6_book_71
        · replace hf := ie_of c13 hf
          refine lv_bipush (v := (-4)) hx hb dX6_book_54 (by decide) ?_
          refine lv_goto (tgt := 71) hx hb dX6_book_56 (by decide) ?_
          rw [hQ]
          exact ret_i C0 hP hD hS (by have e := Option.some.inj hf; rw [← e]; exact ⟨rfl, rfl⟩) dX6_book_71
      · replace hf := it_of c9 hf
        refine lv_bipush (v := (-2)) hx hb dX6_book_38 (by decide) ?_
        rw [hQ]
        exact ret_i C0 hP hD hS (by have e := Option.some.inj hf; rw [← e]; exact ⟨rfl, rfl⟩) dX6_book_40
    · replace hf := it_of c5 hf
      refine lv_iconst (v := (-1)) hx hb dX6_book_27 (by decide) ?_
      rw [hQ]
      exact ret_i C0 hP hD hS (by have e := Option.some.inj hf; rw [← e]; exact ⟨rfl, rfl⟩) dX6_book_28
  · replace hf := it_of c1 hf
    refine lv_aload_n hx hb dX6_book_5 rfl (lv_at hl 0 rfl) ?_
    refine va_get (D := D) (ci := 6) (v := .ref (qn 0)) (C := RX6) (T := TX6) (N := 10) hx hb hts fw_6 hown hK hP 0 rfl rfl 0 (by decide) (hts _ m_fieldLink_P_12_P_now_LP_Cellar) (fun _ h9 => h9) rfl dX6_book_6 ?_
    refine va_get (D := D) (ci := 1) (v := .ref (qn 14)) (C := RX1) (T := TX1) (N := 16) hx hb hts fw_1 hown hK hP 1 rfl rfl 14 (by decide) (hts _ m_fieldLink_P_214_P_Cellar_book_LP_Rows) (fun _ h9 => h9) rfl dX6_book_9 ?_
    obtain ⟨r19q, nbc_20, hq21, hf⟩ := b2_of hf
    refine callVI (As := []) (rest := []) (wr := segpick [(Po oo qn qk qt qx qa ts wa pf (chv qc sp)), (Cw qn cA (chv qc nc) nf ng), (Rw (qn 14) (qn 24) (qn 25) cA 8 nbc0 nba0 nbb0)] [0, 1]) C0 (c_X3_empty (qn 14) (qn 24) (qn 25) 8 nbc0 nba0 nbb0 _ hq21) lk_X6_170_X3_empty rfl hP hD hS (seg_out [(Po oo qn qk qt qx qa ts wa pf (chv qc sp)), (Cw qn cA (chv qc nc) nf ng), (Rw (qn 14) (qn 24) (qn 25) cA 8 nbc0 nba0 nbb0)] [2] [0, 1] 3 rfl (by decide)) 7 3 rfl rfl rfl hl.1 rfl rfl (Nat.le_of_ble_eq_true rfl) dX6_book_12 ⟨Nat.zero_le _, Nat.zero_le _⟩ (fun r19 w H locs hw hP hD hS => ?_)
    obtain ⟨e1, e2⟩ := hw
    replace e1 : r19 = r19q := e1
    subst e1
    subst e2
    replace hP : va_P D vwCl (List.flatten [(Po oo qn qk qt qx qa ts wa pf (chv qc sp)), (Cw qn cA (chv qc nc) nf ng), (Rw (qn 14) (qn 24) (qn 25) cA 8 nbc_20 nba0 nbb0)]) H := hP.perm (seg_out [(Po oo qn qk qt qx qa ts wa pf (chv qc sp)), (Cw qn cA (chv qc nc) nf ng), (Rw (qn 14) (qn 24) (qn 25) cA 8 nbc_20 nba0 nbb0)] [2] [0, 1] 3 rfl (by decide)).symm
    replace hD : va_D A (List.flatten [(Po oo qn qk qt qx qa ts wa pf (chv qc sp)), (Cw qn cA (chv qc nc) nf ng), (Rw (qn 14) (qn 24) (qn 25) cA 8 nbc_20 nba0 nbb0)]) := hD.perm (seg_out [(Po oo qn qk qt qx qa ts wa pf (chv qc sp)), (Cw qn cA (chv qc nc) nf ng), (Rw (qn 14) (qn 24) (qn 25) cA 8 nbc_20 nba0 nbb0)] [2] [0, 1] 3 rfl (by decide)).symm
    rw [hQ]
    exact ret_i C0 hP hD hS (by have e := Option.some.inj hf; rw [← e]; exact ⟨rfl, rfl⟩) dX6_book_15
-- X6 looked
noncomputable def k_X6_looked_2 (nf : Nat → Int32) (ng : Nat → Nat → Int32) (nbc : Int32) (nba : Nat → Int32) (nbb : Nat → Int32) : Nat → Int32 → Option Int32
  | 0, _ => none
  | n + 1, x1 => if nbc ≤ x1 then some (-5) else gd x1 8 (b1 (k_X1_has (nba (Int32.toNatClampNeg x1)) nf) (fun r3 => if r3 = 0 then k_X6_looked_2 nf ng nbc nba nbb n (x1 + 1) else gd (nba (Int32.toNatClampNeg x1)) 6 (gd x1 8 (if ((ng 9) (Int32.toNatClampNeg (nba (Int32.toNatClampNeg x1)))) = (nbb (Int32.toNatClampNeg x1)) then k_X6_looked_2 nf ng nbc nba nbb n (x1 + 1) else some x1))))
noncomputable def k_X6_looked (nf : Nat → Int32) (ng : Nat → Nat → Int32) (nbc : Int32) (nba : Nat → Int32) (nbb : Nat → Int32) : Option Int32 := k_X6_looked_2 nf ng nbc nba nbb 100000 0
set_option maxHeartbeats 4000000 in
set_option maxRecDepth 100000 in
theorem c_X6_looked {l : Launch} {D : va_G} {cA : Nat → ClassId} (oo : Nat) (qn : Nat → Nat) (qk : Nat → Nat) (qt : Nat → Nat) (qx : Nat → Nat) (qa : Nat → Nat) (ts : Nat) (wa : Nat) (qc : Nat → Nat → Nat) (pf : Nat → Int32) (sp : Option Nat) (nf : Nat → Int32) (ng : Nat → Nat → Int32) (nc : Option Nat) (nbc : Int32) (nba : Nat → Int32) (nbb : Nat → Int32)  (o : Int32) (hf : k_X6_looked nf ng nbc nba nbb = some o) : CI l D cA yX6_looked cX6_looked 3 (some .int) 1 21 [.ref oo] (List.flatten [(Po oo qn qk qt qx qa ts wa pf (chv qc sp)), (Cw qn cA (chv qc nc) nf ng), (Rw (qn 14) (qn 24) (qn 25) cA 8 nbc nba nbb)]) 0 0 (fun r w => r = o ∧ w = (List.flatten [(Po oo qn qk qt qx qa ts wa pf (chv qc sp)), (Cw qn cA (chv qc nc) nf ng), (Rw (qn 14) (qn 24) (qn 25) cA 8 nbc nba nbb)])) := by
  intro sz
  refine met_start (by decide) rfl ?_
  intro p e s m args below meth c ls hsz hargs C0 hname hP hD hS hl
  generalize hAe : va_A (List.flatten [(Po oo qn qk qt qx qa ts wa pf (chv qc sp)), (Cw qn cA (chv qc nc) nf ng), (Rw (qn 14) (qn 24) (qn 25) cA 8 nbc nba nbb)]) sz = A at C0 hD hS ⊢
  obtain ⟨hx, hb, hr, hml, hown, hts, hlk, hK, hA⟩ := id C0
  replace hl : lv_has ls 3 [(0, .ref oo)] := hl
  obtain ⟨Q, hQ⟩ : ∃ Q : State → Prop, Q = QI below D A (fun r w => r = o ∧ w = (List.flatten [(Po oo qn qk qt qx qa ts wa pf (chv qc sp)), (Cw qn cA (chv qc nc) nf ng), (Rw (qn 14) (qn 24) (qn 25) cA 8 nbc nba nbb)])) args s 0 0 := ⟨_, rfl⟩
  refine cast (by rw [hQ]) (?_ : W p l e (RMx 1 21 0 0) s m args below meth c s.heap [] 0 0 Q (F0 m 0 ls []))
  have J2 : ∀ n : Nat, ∀ (x1 : Int32), k_X6_looked_2 nf ng nbc nba nbb n x1 = some o → ∀ (H : Heap) (locs : List Loc), va_P D vwCl (List.flatten [(Po oo qn qk qt qx qa ts wa pf (chv qc sp)), (Cw qn cA (chv qc nc) nf ng), (Rw (qn 14) (qn 24) (qn 25) cA 8 nbc nba nbb)]) H → va_D A (List.flatten [(Po oo qn qk qt qx qa ts wa pf (chv qc sp)), (Cw qn cA (chv qc nc) nf ng), (Rw (qn 14) (qn 24) (qn 25) cA 8 nbc nba nbb)]) → va_S A s.heap H locs → ∀ ls : Array Slot, lv_has ls 3 [(0, .ref oo), (1, .int x1)] → W p l e (RMx 1 21 0 0) s m args below meth c H locs 0 0 Q (F0 m 2 ls []) := by
    intro  n
    induction n with
    | zero =>
      intro x1 hf
      rw [k_X6_looked_2] at hf
      cases hf
    | succ n ih =>
      intro x1 hf H locs hP hD hS ls hl
      rw [k_X6_looked_2] at hf
      refine lv_iload_n hx hb dX6_looked_2 rfl (lv_at hl 1 rfl) ?_
      refine lv_aload_n hx hb dX6_looked_3 rfl (lv_at hl 0 rfl) ?_
      refine va_get (D := D) (ci := 6) (v := .ref (qn 0)) (C := RX6) (T := TX6) (N := 10) hx hb hts fw_6 hown hK hP 0 rfl rfl 0 (by decide) (hts _ m_fieldLink_P_12_P_now_LP_Cellar) (fun _ h9 => h9) rfl dX6_looked_4 ?_
      refine va_get (D := D) (ci := 1) (v := .ref (qn 14)) (C := RX1) (T := TX1) (N := 16) hx hb hts fw_1 hown hK hP 1 rfl rfl 14 (by decide) (hts _ m_fieldLink_P_214_P_Cellar_book_LP_Rows) (fun _ h9 => h9) rfl dX6_looked_7 ?_
      refine va_get (D := D) (ci := 3) (v := .int nbc) (C := RX3) (T := TX3) (N := 3) hx hb hts fw_3 hown hK hP 7 rfl rfl 0 (by decide) (hts _ m_fieldLink_P_201_P_Rows_count_I) (fun _ h9 => h9) rfl dX6_looked_10 ?_
      refine lv_icmp_ge (tgt := 72) hx hb dX6_looked_13 (by decide) (fun c1 => ?_) (fun c1 => ?_)
      · replace hf := it_of c1 hf
        refine lv_bipush (v := (-5)) hx hb dX6_looked_72 (by decide) ?_
        rw [hQ]
        exact ret_i C0 hP hD hS (by have e := Option.some.inj hf; rw [← e]; exact ⟨rfl, rfl⟩) dX6_looked_74
      · replace hf := ie_of c1 hf
        refine lv_aload_n hx hb dX6_looked_16 rfl (lv_at hl 0 rfl) ?_
        refine va_get (D := D) (ci := 6) (v := .ref (qn 0)) (C := RX6) (T := TX6) (N := 10) hx hb hts fw_6 hown hK hP 0 rfl rfl 0 (by decide) (hts _ m_fieldLink_P_12_P_now_LP_Cellar) (fun _ h9 => h9) rfl dX6_looked_17 ?_
        refine va_get (D := D) (ci := 1) (v := .ref (qn 14)) (C := RX1) (T := TX1) (N := 16) hx hb hts fw_1 hown hK hP 1 rfl rfl 14 (by decide) (hts _ m_fieldLink_P_214_P_Cellar_book_LP_Rows) (fun _ h9 => h9) rfl dX6_looked_20 ?_
        refine va_get (D := D) (ci := 3) (v := .ref (qn 24)) (C := RX3) (T := TX3) (N := 3) hx hb hts fw_3 hown hK hP 7 rfl rfl 1 (by decide) (hts _ m_fieldLink_P_204_P_Rows_first_aI) (fun _ h9 => h9) rfl dX6_looked_23 ?_
        refine lv_iload_n hx hb dX6_looked_26 rfl (lv_at hl 1 rfl) ?_
        obtain ⟨hi2, hf⟩ := gd_of hf
        refine va_iald hx hb hK hP 8 0 rfl rfl hi2 dX6_looked_27 ?_
        refine lv_istore_n (lv' := [(2, .int (nba (Int32.toNatClampNeg x1))), (0, .ref oo), (1, .int x1)]) hx hb dX6_looked_28 rfl hl (by decide) rfl (fun ls hl => ?_)
        refine lv_aload_n hx hb dX6_looked_29 rfl (lv_at hl 1 rfl) ?_
        refine va_get (D := D) (ci := 6) (v := .ref (qn 0)) (C := RX6) (T := TX6) (N := 10) hx hb hts fw_6 hown hK hP 0 rfl rfl 0 (by decide) (hts _ m_fieldLink_P_12_P_now_LP_Cellar) (fun _ h9 => h9) rfl dX6_looked_30 ?_
        refine lv_iload_n hx hb dX6_looked_33 rfl (lv_at hl 0 rfl) ?_
        obtain ⟨r3q, hq4, hf⟩ := b1_of hf
        refine callVI (As := [.int (nba (Int32.toNatClampNeg x1))]) (rest := []) (wr := segpick [(Po oo qn qk qt qx qa ts wa pf (chv qc sp)), (Cw qn cA (chv qc nc) nf ng), (Rw (qn 14) (qn 24) (qn 25) cA 8 nbc nba nbb)] [0, 2]) C0 (c_X1_has qn qc nf ng nc (nba (Int32.toNatClampNeg x1)) _ hq4) lk_X6_61_X1_has rfl hP hD hS (seg_out [(Po oo qn qk qt qx qa ts wa pf (chv qc sp)), (Cw qn cA (chv qc nc) nf ng), (Rw (qn 14) (qn 24) (qn 25) cA 8 nbc nba nbb)] [1] [0, 2] 3 rfl (by decide)) 1 1 rfl rfl rfl hl.1 rfl rfl (Nat.le_of_ble_eq_true rfl) dX6_looked_34 ⟨Nat.zero_le _, Nat.zero_le _⟩ (fun r3 w H locs hw hP hD hS => ?_)
        obtain ⟨⟨e1, e2⟩, z5⟩ := hw
        replace e1 : r3 = r3q := e1
        subst e1
        subst e2
        replace hP : va_P D vwCl (List.flatten [(Po oo qn qk qt qx qa ts wa pf (chv qc sp)), (Cw qn cA (chv qc nc) nf ng), (Rw (qn 14) (qn 24) (qn 25) cA 8 nbc nba nbb)]) H := hP.perm (seg_out [(Po oo qn qk qt qx qa ts wa pf (chv qc sp)), (Cw qn cA (chv qc nc) nf ng), (Rw (qn 14) (qn 24) (qn 25) cA 8 nbc nba nbb)] [1] [0, 2] 3 rfl (by decide)).symm
        replace hD : va_D A (List.flatten [(Po oo qn qk qt qx qa ts wa pf (chv qc sp)), (Cw qn cA (chv qc nc) nf ng), (Rw (qn 14) (qn 24) (qn 25) cA 8 nbc nba nbb)]) := hD.perm (seg_out [(Po oo qn qk qt qx qa ts wa pf (chv qc sp)), (Cw qn cA (chv qc nc) nf ng), (Rw (qn 14) (qn 24) (qn 25) cA 8 nbc nba nbb)] [1] [0, 2] 3 rfl (by decide)).symm
        refine lv_if_eq (tgt := 66) hx hb dX6_looked_37 (by decide) (fun c6 => ?_) (fun c6 => ?_)
        · replace hf := it_of c6 hf
          refine lv_iinc (v := (x1 + 1)) (lv' := [(1, .int (x1 + 1)), (2, .int (nba (Int32.toNatClampNeg x1))), (0, .ref oo)]) hx hb dX6_looked_66 hl (k := 2) rfl rfl (by decide) rfl (fun ls hl => ?_)
          refine lv_goto (tgt := 2) hx hb dX6_looked_69 (by decide) ?_
          exact ih (x1 + 1) hf _ _ hP hD hS _ (lv_sub hl [2, 0] rfl)
        · replace hf := ie_of c6 hf
          refine lv_aload_n hx hb dX6_looked_40 rfl (lv_at hl 1 rfl) ?_
          refine va_get (D := D) (ci := 6) (v := .ref (qn 0)) (C := RX6) (T := TX6) (N := 10) hx hb hts fw_6 hown hK hP 0 rfl rfl 0 (by decide) (hts _ m_fieldLink_P_12_P_now_LP_Cellar) (fun _ h9 => h9) rfl dX6_looked_41 ?_
          refine va_get (D := D) (ci := 1) (v := .ref (qn 9)) (C := RX1) (T := TX1) (N := 16) hx hb hts fw_1 hown hK hP 1 rfl rfl 9 (by decide) (hts _ m_fieldLink_P_71_P_Cellar_nerve_aI) (fun _ h9 => h9) rfl dX6_looked_44 ?_
          refine lv_iload_n hx hb dX6_looked_47 rfl (lv_at hl 0 rfl) ?_
          obtain ⟨hi7, hf⟩ := gd_of hf
          refine va_iald hx hb hK hP 4 0 rfl rfl hi7 dX6_looked_48 ?_
          refine lv_aload_n hx hb dX6_looked_49 rfl (lv_at hl 1 rfl) ?_
          refine va_get (D := D) (ci := 6) (v := .ref (qn 0)) (C := RX6) (T := TX6) (N := 10) hx hb hts fw_6 hown hK hP 0 rfl rfl 0 (by decide) (hts _ m_fieldLink_P_12_P_now_LP_Cellar) (fun _ h9 => h9) rfl dX6_looked_50 ?_
          refine va_get (D := D) (ci := 1) (v := .ref (qn 14)) (C := RX1) (T := TX1) (N := 16) hx hb hts fw_1 hown hK hP 1 rfl rfl 14 (by decide) (hts _ m_fieldLink_P_214_P_Cellar_book_LP_Rows) (fun _ h9 => h9) rfl dX6_looked_53 ?_
          refine va_get (D := D) (ci := 3) (v := .ref (qn 25)) (C := RX3) (T := TX3) (N := 3) hx hb hts fw_3 hown hK hP 7 rfl rfl 2 (by decide) (hts _ m_fieldLink_P_207_P_Rows_second_aI) (fun _ h9 => h9) rfl dX6_looked_56 ?_
          refine lv_iload_n hx hb dX6_looked_59 rfl (lv_at hl 2 rfl) ?_
          obtain ⟨hi8, hf⟩ := gd_of hf
          refine va_iald hx hb hK hP 9 0 rfl rfl hi8 dX6_looked_60 ?_
          refine lv_icmp_eq (tgt := 66) hx hb dX6_looked_61 (by decide) (fun c9 => ?_) (fun c9 => ?_)
          · replace hf := it_of c9 hf
            refine lv_iinc (v := (x1 + 1)) (lv' := [(1, .int (x1 + 1)), (2, .int (nba (Int32.toNatClampNeg x1))), (0, .ref oo)]) hx hb dX6_looked_66 hl (k := 2) rfl rfl (by decide) rfl (fun ls hl => ?_)
            refine lv_goto (tgt := 2) hx hb dX6_looked_69 (by decide) ?_
            exact ih (x1 + 1) hf _ _ hP hD hS _ (lv_sub hl [2, 0] rfl)
          · replace hf := ie_of c9 hf
            refine lv_iload_n hx hb dX6_looked_64 rfl (lv_at hl 2 rfl) ?_
            rw [hQ]
            exact ret_i C0 hP hD hS (by have e := Option.some.inj hf; rw [← e]; exact ⟨rfl, rfl⟩) dX6_looked_65
  unfold k_X6_looked at hf
  refine lv_iconst (v := 0) hx hb dX6_looked_0 (by decide) ?_
  refine lv_istore_n (lv' := [(1, .int 0), (0, .ref oo)]) hx hb dX6_looked_1 rfl hl (by decide) rfl (fun ls hl => ?_)
  exact J2 100000 0 hf _ _ hP hD hS _ (lv_sub hl [1, 0] rfl)
-- X6 judge
noncomputable def k_X6_judge_39 (a1 : Int32) (a2 : Int32) (tpf : Nat → Nat → Int32) (tpi : Nat → Nat → Int64) (nf : Nat → Int32) (ng : Nat → Nat → Int32) : Nat → Int32 → Option Int32
  | 0, _ => none
  | n + 1, x4 => if (nf 0) ≤ x4 then some (-5) else if a2 < 0 then some (100 + x4) else gd a1 6 (if a2 < ((tpf (Int32.toNatClampNeg a1) 1) - x4) then gd a1 6 (gd a1 6 (gd (a2 + x4) 60 (gd x4 6 (if (lg_cmp ((tpi (Int32.toNatClampNeg a1)) (Int32.toNatClampNeg (a2 + x4))) (Int32.toInt64 ((ng 10) (Int32.toNatClampNeg x4)))) = 0 then k_X6_judge_39 a1 a2 tpf tpi nf ng n (x4 + 1) else some x4)))) else some (100 + x4))
noncomputable def k_X6_judge (a1 : Int32) (a2 : Int32) (tpf : Nat → Nat → Int32) (tpi : Nat → Nat → Int64) (pf : Nat → Int32) (nf : Nat → Int32) (ng : Nat → Nat → Int32) : Option Int32 := b1 (k_X6_isWithin a1 5) (fun r1 => if r1 = 0 then some (-1) else gd a1 6 (gd a1 6 (if (tpf (Int32.toNatClampNeg a1) 0) = (-1) then k_X6_judge_39 a1 a2 tpf tpi nf ng 100000 0 else gd a1 6 (if (tpf (Int32.toNatClampNeg a1) 0) = 2 then k_X6_judge_39 a1 a2 tpf tpi nf ng 100000 0 else some (-12)))))
set_option maxHeartbeats 4000000 in
set_option maxRecDepth 100000 in
theorem c_X6_judge {l : Launch} {D : va_G} {cA : Nat → ClassId} (oo : Nat) (qn : Nat → Nat) (qk : Nat → Nat) (qt : Nat → Nat) (qx : Nat → Nat) (qa : Nat → Nat) (ts : Nat) (wa : Nat) (qc : Nat → Nat → Nat) (qs : Nat → Nat → Nat) (tpf : Nat → Nat → Int32) (tpi : Nat → Nat → Int64) (pf : Nat → Int32) (sp : Option Nat) (nf : Nat → Int32) (ng : Nat → Nat → Int32) (nc : Option Nat) (a1 : Int32) (a2 : Int32) (o : Int32) (hf : k_X6_judge a1 a2 tpf tpi pf nf ng = some o) : CI l D cA yX6_judge cX6_judge 5 (some .int) 1 21 [.ref oo, .int a1, .int a2] (List.flatten [(Tps qs cA tpf tpi), (Po oo qn qk qt qx qa ts wa pf (chv qc sp)), (Cw qn cA (chv qc nc) nf ng), (TAw ts cA qs)]) 0 0 (fun r w => r = o ∧ w = (List.flatten [(Tps qs cA tpf tpi), (Po oo qn qk qt qx qa ts wa pf (chv qc sp)), (Cw qn cA (chv qc nc) nf ng), (TAw ts cA qs)])) := by
  intro sz
  refine met_start (by decide) rfl ?_
  intro p e s m args below meth c ls hsz hargs C0 hname hP hD hS hl
  generalize hAe : va_A (List.flatten [(Tps qs cA tpf tpi), (Po oo qn qk qt qx qa ts wa pf (chv qc sp)), (Cw qn cA (chv qc nc) nf ng), (TAw ts cA qs)]) sz = A at C0 hD hS ⊢
  obtain ⟨hx, hb, hr, hml, hown, hts, hlk, hK, hA⟩ := id C0
  replace hl : lv_has ls 5 [(0, .ref oo), (1, .int a1), (2, .int a2)] := hl
  obtain ⟨Q, hQ⟩ : ∃ Q : State → Prop, Q = QI below D A (fun r w => r = o ∧ w = (List.flatten [(Tps qs cA tpf tpi), (Po oo qn qk qt qx qa ts wa pf (chv qc sp)), (Cw qn cA (chv qc nc) nf ng), (TAw ts cA qs)])) args s 0 0 := ⟨_, rfl⟩
  refine cast (by rw [hQ]) (?_ : W p l e (RMx 1 21 0 0) s m args below meth c s.heap [] 0 0 Q (F0 m 0 ls []))
  have J39 : ∀ n : Nat, ∀ (x4 : Int32), k_X6_judge_39 a1 a2 tpf tpi nf ng n x4 = some o → ∀ (H : Heap) (locs : List Loc), va_P D vwCl (List.flatten [(Tps qs cA tpf tpi), (Po oo qn qk qt qx qa ts wa pf (chv qc sp)), (Cw qn cA (chv qc nc) nf ng), (TAw ts cA qs)]) H → va_D A (List.flatten [(Tps qs cA tpf tpi), (Po oo qn qk qt qx qa ts wa pf (chv qc sp)), (Cw qn cA (chv qc nc) nf ng), (TAw ts cA qs)]) → va_S A s.heap H locs → ∀ ls : Array Slot, lv_has ls 5 [(0, .ref oo), (2, .int a2), (3, .ref (qs (Int32.toNatClampNeg a1) 0)), (4, .int x4)] → W p l e (RMx 1 21 0 0) s m args below meth c H locs 0 0 Q (F0 m 39 ls []) := by
    intro  n
    induction n with
    | zero =>
      intro x4 hf
      rw [k_X6_judge_39] at hf
      cases hf
    | succ n ih =>
      intro x4 hf H locs hP hD hS ls hl
      rw [k_X6_judge_39] at hf
      refine lv_iload hx hb dX6_judge_39 (lv_at hl 3 rfl) ?_
      refine lv_aload_n hx hb dX6_judge_41 rfl (lv_at hl 0 rfl) ?_
      refine va_get (D := D) (ci := 6) (v := .ref (qn 0)) (C := RX6) (T := TX6) (N := 10) hx hb hts fw_6 hown hK hP 12 rfl rfl 0 (by decide) (hts _ m_fieldLink_P_12_P_now_LP_Cellar) (fun _ h9 => h9) rfl dX6_judge_42 ?_
      refine va_get (D := D) (ci := 1) (v := .int (nf 0)) (C := RX1) (T := TX1) (N := 16) hx hb hts fw_1 hown hK hP 13 rfl rfl 0 (by decide) (hts _ m_fieldLink_P_53_P_Cellar_men_I) (fun _ h9 => h9) rfl dX6_judge_45 ?_
      refine lv_icmp_ge (tgt := 105) hx hb dX6_judge_48 (by decide) (fun c1 => ?_) (fun c1 => ?_)
      · replace hf := it_of c1 hf
        refine lv_bipush (v := (-5)) hx hb dX6_judge_105 (by decide) ?_
        rw [hQ]
        exact ret_i C0 hP hD hS (by have e := Option.some.inj hf; rw [← e]; exact ⟨rfl, rfl⟩) dX6_judge_107
      · replace hf := ie_of c1 hf
        refine lv_iload_n hx hb dX6_judge_51 rfl (lv_at hl 1 rfl) ?_
        refine lv_if_lt (tgt := 66) hx hb dX6_judge_52 (by decide) (fun c2 => ?_) (fun c2 => ?_)
        · replace hf := it_of c2 hf
          refine lv_bipush (v := 100) hx hb dX6_judge_66 (by decide) ?_
          refine lv_iload hx hb dX6_judge_68 (lv_at hl 3 rfl) ?_
          refine lv_iadd hx hb dX6_judge_70 ?_
          rw [hQ]
          exact ret_i C0 hP hD hS (by have e := Option.some.inj hf; rw [← e]; exact ⟨rfl, rfl⟩) dX6_judge_71
        · replace hf := ie_of c2 hf
          refine lv_iload_n hx hb dX6_judge_55 rfl (lv_at hl 1 rfl) ?_
          refine lv_aload_n hx hb dX6_judge_56 rfl (lv_at hl 2 rfl) ?_
          obtain ⟨hj3, hf⟩ := gd_of hf
          refine va_get (D := D) (ci := 4) (v := .int (tpf (Int32.toNatClampNeg a1) 1)) (C := RX4) (T := TX4) (N := 3) hx hb hts fw_4 hown hK hP (2 * (Int32.toNatClampNeg a1) + 0) (tps_at (vp_lt hj3) (by decide) _) rfl 1 (by decide) (hts _ m_fieldLink_P_220_P_Tape_size_I) (fun _ h9 => h9) rfl dX6_judge_57 ?_
          refine lv_iload hx hb dX6_judge_60 (lv_at hl 3 rfl) ?_
          refine lv_isub hx hb dX6_judge_62 ?_
          refine lv_icmp_lt (tgt := 72) hx hb dX6_judge_63 (by decide) (fun c4 => ?_) (fun c4 => ?_)
          · replace hf := it_of c4 hf
            refine lv_aload_n hx hb dX6_judge_72 rfl (lv_at hl 2 rfl) ?_
            obtain ⟨hj5, hf⟩ := gd_of hf
            refine va_get (D := D) (ci := 4) (v := .ref (qs (Int32.toNatClampNeg a1) 1)) (C := RX4) (T := TX4) (N := 3) hx hb hts fw_4 hown hK hP (2 * (Int32.toNatClampNeg a1) + 0) (tps_at (vp_lt hj5) (by decide) _) rfl 2 (by decide) (hts _ m_fieldLink_P_223_P_Tape_items_aJ) (fun _ h9 => h9) rfl dX6_judge_73 ?_
            refine lv_iload_n hx hb dX6_judge_76 rfl (lv_at hl 1 rfl) ?_
            refine lv_iload hx hb dX6_judge_77 (lv_at hl 3 rfl) ?_
            refine lv_iadd hx hb dX6_judge_79 ?_
            obtain ⟨hj6, hf⟩ := gd_of hf
            obtain ⟨hi7, hf⟩ := gd_of hf
            refine va_lald hx hb hK hP (2 * (Int32.toNatClampNeg a1) + 1) 2 (tps_at (vp_lt hj6) (by decide) _) rfl hi7 dX6_judge_80 ?_
            refine lv_aload_n hx hb dX6_judge_81 rfl (lv_at hl 0 rfl) ?_
            refine va_get (D := D) (ci := 6) (v := .ref (qn 0)) (C := RX6) (T := TX6) (N := 10) hx hb hts fw_6 hown hK hP 12 rfl rfl 0 (by decide) (hts _ m_fieldLink_P_12_P_now_LP_Cellar) (fun _ h9 => h9) rfl dX6_judge_82 ?_
            refine va_get (D := D) (ci := 1) (v := .ref (qn 10)) (C := RX1) (T := TX1) (N := 16) hx hb hts fw_1 hown hK hP 13 rfl rfl 10 (by decide) (hts _ m_fieldLink_P_77_P_Cellar_spell_aI) (fun _ h9 => h9) rfl dX6_judge_85 ?_
            refine lv_iload hx hb dX6_judge_88 (lv_at hl 3 rfl) ?_
            obtain ⟨hi8, hf⟩ := gd_of hf
            refine va_iald hx hb hK hP 17 0 rfl rfl hi8 dX6_judge_90 ?_
            refine lv_i2l (v := (Int32.toInt64 ((ng 10) (Int32.toNatClampNeg x4)))) hx hb dX6_judge_91 rfl ?_
            refine W.lcmp hx hb dX6_judge_92 ?_
            refine lv_if_eq (tgt := 99) hx hb dX6_judge_93 (by decide) (fun c9 => ?_) (fun c9 => ?_)
            · replace hf := it_of c9 hf
              refine lv_iinc (v := (x4 + 1)) (lv' := [(4, .int (x4 + 1)), (0, .ref oo), (2, .int a2), (3, .ref (qs (Int32.toNatClampNeg a1) 0))]) hx hb dX6_judge_99 hl (k := 3) rfl rfl (by decide) rfl (fun ls hl => ?_)
              refine lv_goto (tgt := 39) hx hb dX6_judge_102 (by decide) ?_
              exact ih (x4 + 1) hf _ _ hP hD hS _ (lv_sub hl [1, 2, 3, 0] rfl)
            · replace hf := ie_of c9 hf
              refine lv_iload hx hb dX6_judge_96 (lv_at hl 3 rfl) ?_
              rw [hQ]
              exact ret_i C0 hP hD hS (by have e := Option.some.inj hf; rw [← e]; exact ⟨rfl, rfl⟩) dX6_judge_98
          · replace hf := ie_of c4 hf
            refine lv_bipush (v := 100) hx hb dX6_judge_66 (by decide) ?_
            refine lv_iload hx hb dX6_judge_68 (lv_at hl 3 rfl) ?_
            refine lv_iadd hx hb dX6_judge_70 ?_
            rw [hQ]
            exact ret_i C0 hP hD hS (by have e := Option.some.inj hf; rw [← e]; exact ⟨rfl, rfl⟩) dX6_judge_71
  unfold k_X6_judge at hf
  refine lv_iload_n hx hb dX6_judge_0 rfl (lv_at hl 1 rfl) ?_
  refine lv_iconst (v := 5) hx hb dX6_judge_1 (by decide) ?_
  obtain ⟨r1q, hq2, hf⟩ := b1_of hf
  refine callSI (As := [.int a1, .int 5]) (rest := []) (wr := (List.flatten [(Tps qs cA tpf tpi), (Po oo qn qk qt qx qa ts wa pf (chv qc sp)), (Cw qn cA (chv qc nc) nf ng), (TAw ts cA qs)])) C0 (c_X6_isWithin a1 5 _ hq2) lk_X6_49_X6_isWithin rfl hP hD hS (List.Perm.refl _) hl.1 rfl rfl (Nat.le_of_ble_eq_true rfl) dX6_judge_2 ⟨Nat.zero_le _, Nat.zero_le _⟩ (fun r1 w H locs hw hP hD hS => ?_)
  obtain ⟨⟨e1, e2⟩, z3⟩ := hw
  replace e1 : r1 = r1q := e1
  subst e1
  subst e2
  replace hP : va_P D vwCl (List.flatten [(Tps qs cA tpf tpi), (Po oo qn qk qt qx qa ts wa pf (chv qc sp)), (Cw qn cA (chv qc nc) nf ng), (TAw ts cA qs)]) H := hP
  replace hD : va_D A (List.flatten [(Tps qs cA tpf tpi), (Po oo qn qk qt qx qa ts wa pf (chv qc sp)), (Cw qn cA (chv qc nc) nf ng), (TAw ts cA qs)]) := hD
  refine lv_if_ne (tgt := 10) hx hb dX6_judge_5 (by decide) (fun c4 => ?_) (fun c4 => ?_)
  · replace hf := ie_of c4 hf
    refine lv_aload_n hx hb dX6_judge_10 rfl (lv_at hl 0 rfl) ?_
    refine va_get (D := D) (ci := 6) (v := .ref ts) (C := RX6) (T := TX6) (N := 10) hx hb hts fw_6 hown hK hP 12 rfl rfl 5 (by decide) (hts _ m_fieldLink_P_40_P_tapes_aLP_Tape) (fun _ h9 => h9) rfl dX6_judge_11 ?_
    refine lv_iload_n hx hb dX6_judge_14 rfl (lv_at hl 1 rfl) ?_
    obtain ⟨hi5, hf⟩ := gd_of hf
    refine va_aldq (C := RX4) hx hb hK hP 19 4 rfl rfl hi5 dX6_judge_15 ?_
    refine lv_astore_n (lv' := [(3, .ref (qs (Int32.toNatClampNeg a1) 0)), (0, .ref oo), (1, .int a1), (2, .int a2)]) hx hb dX6_judge_16 rfl hl (by decide) rfl (fun ls hl => ?_)
    refine lv_aload_n hx hb dX6_judge_17 rfl (lv_at hl 0 rfl) ?_
    obtain ⟨hj6, hf⟩ := gd_of hf
    refine va_get (D := D) (ci := 4) (v := .int (tpf (Int32.toNatClampNeg a1) 0)) (C := RX4) (T := TX4) (N := 3) hx hb hts fw_4 hown hK hP (2 * (Int32.toNatClampNeg a1) + 0) (tps_at (vp_lt hj6) (by decide) _) rfl 0 (by decide) (hts _ m_fieldLink_P_217_P_Tape_sort_I) (fun _ h9 => h9) rfl dX6_judge_18 ?_
    refine lv_iconst (v := (-1)) hx hb dX6_judge_21 (by decide) ?_
    refine lv_icmp_eq (tgt := 36) hx hb dX6_judge_22 (by decide) (fun c7 => ?_) (fun c7 => ?_)
    · replace hf := it_of c7 hf
      refine lv_iconst (v := 0) hx hb dX6_judge_36 (by decide) ?_
      refine lv_istore (lv' := [(4, .int 0), (3, .ref (qs (Int32.toNatClampNeg a1) 0)), (0, .ref oo), (1, .int a1), (2, .int a2)]) hx hb dX6_judge_37 hl (by decide) rfl (fun ls hl => ?_)
      exact J39 100000 0 hf _ _ hP hD hS _ (lv_sub hl [2, 4, 1, 0] rfl)
    · replace hf := ie_of c7 hf
      refine lv_aload_n hx hb dX6_judge_25 rfl (lv_at hl 0 rfl) ?_
      obtain ⟨hj8, hf⟩ := gd_of hf
      refine va_get (D := D) (ci := 4) (v := .int (tpf (Int32.toNatClampNeg a1) 0)) (C := RX4) (T := TX4) (N := 3) hx hb hts fw_4 hown hK hP (2 * (Int32.toNatClampNeg a1) + 0) (tps_at (vp_lt hj8) (by decide) _) rfl 0 (by decide) (hts _ m_fieldLink_P_217_P_Tape_sort_I) (fun _ h9 => h9) rfl dX6_judge_26 ?_
      refine lv_iconst (v := 2) hx hb dX6_judge_29 (by decide) ?_
      refine lv_icmp_eq (tgt := 36) hx hb dX6_judge_30 (by decide) (fun c9 => ?_) (fun c9 => ?_)
      · replace hf := it_of c9 hf
        refine lv_iconst (v := 0) hx hb dX6_judge_36 (by decide) ?_
        refine lv_istore (lv' := [(4, .int 0), (3, .ref (qs (Int32.toNatClampNeg a1) 0)), (0, .ref oo), (1, .int a1), (2, .int a2)]) hx hb dX6_judge_37 hl (by decide) rfl (fun ls hl => ?_)
        exact J39 100000 0 hf _ _ hP hD hS _ (lv_sub hl [2, 4, 1, 0] rfl)
      · replace hf := ie_of c9 hf
        refine lv_bipush (v := (-12)) hx hb dX6_judge_33 (by decide) ?_
        rw [hQ]
        exact ret_i C0 hP hD hS (by have e := Option.some.inj hf; rw [← e]; exact ⟨rfl, rfl⟩) dX6_judge_35
  · replace hf := it_of c4 hf
    refine lv_iconst (v := (-1)) hx hb dX6_judge_8 (by decide) ?_
    rw [hQ]
    exact ret_i C0 hP hD hS (by have e := Option.some.inj hf; rw [← e]; exact ⟨rfl, rfl⟩) dX6_judge_9
-- X6 image
noncomputable def k_X6_image (pf0 : Nat → Int32) (nf : Nat → Int32) (ng : Nat → Nat → Int32) (nc : Option Nat) (nhc : Int32) (nha : Nat → Int32) (nhb : Nat → Int32) (npc : Int32) (npa : Nat → Int32) (npb : Nat → Int32) (nbc : Int32) (nba : Nat → Int32) (nbb : Nat → Int32) (kf0 : Nat → Int32) (kg0 : Nat → Nat → Int32) (kc0 : Option Nat) (khc0 : Int32) (kha0 : Nat → Int32) (khb0 : Nat → Int32) (kpc0 : Int32) (kpa0 : Nat → Int32) (kpb0 : Nat → Int32) (kbc0 : Int32) (kba0 : Nat → Int32) (kbb0 : Nat → Int32) : Option (Int32 × (Nat → Int32) × (Nat → Int32) × (Nat → Nat → Int32) × Option Nat × Int32 × (Nat → Int32) × (Nat → Int32) × Int32 × (Nat → Int32) × (Nat → Int32) × Int32 × (Nat → Int32) × (Nat → Int32)) := b12 (k_X1_copyAll kf0 kg0 kc0 khc0 kha0 khb0 kpc0 kpa0 kpb0 kbc0 kba0 kbb0 nf ng nc nhc nha nhb npc npa npb nbc nba nbb) (fun kf_1 kg_2 kc_3 khc_4 kha_5 khb_6 kpc_7 kpa_8 kpb_9 kbc_10 kba_11 kbb_12 => some ((nf 0), (upd pf0 9 1), kf_1, kg_2, kc_3, khc_4, kha_5, khb_6, kpc_7, kpa_8, kpb_9, kbc_10, kba_11, kbb_12))
set_option maxHeartbeats 4000000 in
set_option maxRecDepth 100000 in
theorem c_X6_image {l : Launch} {D : va_G} {cA : Nat → ClassId} (oo : Nat) (qn : Nat → Nat) (qk : Nat → Nat) (qt : Nat → Nat) (qx : Nat → Nat) (qa : Nat → Nat) (ts : Nat) (wa : Nat) (qc : Nat → Nat → Nat) (pf0 : Nat → Int32) (sp : Option Nat) (nf : Nat → Int32) (ng : Nat → Nat → Int32) (nc : Option Nat) (nhc : Int32) (nha : Nat → Int32) (nhb : Nat → Int32) (npc : Int32) (npa : Nat → Int32) (npb : Nat → Int32) (nbc : Int32) (nba : Nat → Int32) (nbb : Nat → Int32) (kf0 : Nat → Int32) (kg0 : Nat → Nat → Int32) (kc0 : Option Nat) (khc0 : Int32) (kha0 : Nat → Int32) (khb0 : Nat → Int32) (kpc0 : Int32) (kpa0 : Nat → Int32) (kpb0 : Nat → Int32) (kbc0 : Int32) (kba0 : Nat → Int32) (kbb0 : Nat → Int32)  (o : Int32 × (Nat → Int32) × (Nat → Int32) × (Nat → Nat → Int32) × Option Nat × Int32 × (Nat → Int32) × (Nat → Int32) × Int32 × (Nat → Int32) × (Nat → Int32) × Int32 × (Nat → Int32) × (Nat → Int32)) (hf : k_X6_image pf0 nf ng nc nhc nha nhb npc npa npb nbc nba nbb kf0 kg0 kc0 khc0 kha0 khb0 kpc0 kpa0 kpb0 kbc0 kba0 kbb0 = some o) : CI l D cA yX6_image cX6_image 1 (some .int) 3 82 [.ref oo] (List.flatten [(Po oo qn qk qt qx qa ts wa pf0 (chv qc sp)), (Cw qn cA (chv qc nc) nf ng), (Rw (qn 12) (qn 20) (qn 21) cA 5 nhc nha nhb), (Rw (qn 13) (qn 22) (qn 23) cA 10 npc npa npb), (Rw (qn 14) (qn 24) (qn 25) cA 8 nbc nba nbb), (Cw qk cA (chv qc kc0) kf0 kg0), (Rw (qk 12) (qk 20) (qk 21) cA 5 khc0 kha0 khb0), (Rw (qk 13) (qk 22) (qk 23) cA 10 kpc0 kpa0 kpb0), (Rw (qk 14) (qk 24) (qk 25) cA 8 kbc0 kba0 kbb0)]) 0 0 (fun r w => r = o.1 ∧ w = (List.flatten [(Po oo qn qk qt qx qa ts wa o.2.1 (chv qc sp)), (Cw qn cA (chv qc nc) nf ng), (Rw (qn 12) (qn 20) (qn 21) cA 5 nhc nha nhb), (Rw (qn 13) (qn 22) (qn 23) cA 10 npc npa npb), (Rw (qn 14) (qn 24) (qn 25) cA 8 nbc nba nbb), (Cw qk cA (chv qc o.2.2.2.2.1) o.2.2.1 o.2.2.2.1), (Rw (qk 12) (qk 20) (qk 21) cA 5 o.2.2.2.2.2.1 o.2.2.2.2.2.2.1 o.2.2.2.2.2.2.2.1), (Rw (qk 13) (qk 22) (qk 23) cA 10 o.2.2.2.2.2.2.2.2.1 o.2.2.2.2.2.2.2.2.2.1 o.2.2.2.2.2.2.2.2.2.2.1), (Rw (qk 14) (qk 24) (qk 25) cA 8 o.2.2.2.2.2.2.2.2.2.2.2.1 o.2.2.2.2.2.2.2.2.2.2.2.2.1 o.2.2.2.2.2.2.2.2.2.2.2.2.2)])) := by
  intro sz
  refine met_start (by decide) rfl ?_
  intro p e s m args below meth c ls hsz hargs C0 hname hP hD hS hl
  generalize hAe : va_A (List.flatten [(Po oo qn qk qt qx qa ts wa pf0 (chv qc sp)), (Cw qn cA (chv qc nc) nf ng), (Rw (qn 12) (qn 20) (qn 21) cA 5 nhc nha nhb), (Rw (qn 13) (qn 22) (qn 23) cA 10 npc npa npb), (Rw (qn 14) (qn 24) (qn 25) cA 8 nbc nba nbb), (Cw qk cA (chv qc kc0) kf0 kg0), (Rw (qk 12) (qk 20) (qk 21) cA 5 khc0 kha0 khb0), (Rw (qk 13) (qk 22) (qk 23) cA 10 kpc0 kpa0 kpb0), (Rw (qk 14) (qk 24) (qk 25) cA 8 kbc0 kba0 kbb0)]) sz = A at C0 hD hS ⊢
  obtain ⟨hx, hb, hr, hml, hown, hts, hlk, hK, hA⟩ := id C0
  replace hl : lv_has ls 1 [(0, .ref oo)] := hl
  obtain ⟨Q, hQ⟩ : ∃ Q : State → Prop, Q = QI below D A (fun r w => r = o.1 ∧ w = (List.flatten [(Po oo qn qk qt qx qa ts wa o.2.1 (chv qc sp)), (Cw qn cA (chv qc nc) nf ng), (Rw (qn 12) (qn 20) (qn 21) cA 5 nhc nha nhb), (Rw (qn 13) (qn 22) (qn 23) cA 10 npc npa npb), (Rw (qn 14) (qn 24) (qn 25) cA 8 nbc nba nbb), (Cw qk cA (chv qc o.2.2.2.2.1) o.2.2.1 o.2.2.2.1), (Rw (qk 12) (qk 20) (qk 21) cA 5 o.2.2.2.2.2.1 o.2.2.2.2.2.2.1 o.2.2.2.2.2.2.2.1), (Rw (qk 13) (qk 22) (qk 23) cA 10 o.2.2.2.2.2.2.2.2.1 o.2.2.2.2.2.2.2.2.2.1 o.2.2.2.2.2.2.2.2.2.2.1), (Rw (qk 14) (qk 24) (qk 25) cA 8 o.2.2.2.2.2.2.2.2.2.2.2.1 o.2.2.2.2.2.2.2.2.2.2.2.2.1 o.2.2.2.2.2.2.2.2.2.2.2.2.2)])) args s 0 0 := ⟨_, rfl⟩
  refine cast (by rw [hQ]) (?_ : W p l e (RMx 3 82 0 0) s m args below meth c s.heap [] 0 0 Q (F0 m 0 ls []))
  unfold k_X6_image at hf
  refine lv_aload_n hx hb dX6_image_0 rfl (lv_at hl 0 rfl) ?_
  refine va_get (D := D) (ci := 6) (v := .ref (qk 0)) (C := RX6) (T := TX6) (N := 10) hx hb hts fw_6 hown hK hP 0 rfl rfl 1 (by decide) (hts _ m_fieldLink_P_18_P_kept_LP_Cellar) (fun _ h9 => h9) rfl dX6_image_1 ?_
  refine lv_aload_n hx hb dX6_image_4 rfl (lv_at hl 0 rfl) ?_
  refine va_get (D := D) (ci := 6) (v := .ref (qn 0)) (C := RX6) (T := TX6) (N := 10) hx hb hts fw_6 hown hK hP 0 rfl rfl 0 (by decide) (hts _ m_fieldLink_P_12_P_now_LP_Cellar) (fun _ h9 => h9) rfl dX6_image_5 ?_
  obtain ⟨kf_1, kg_2, kc_3, khc_4, kha_5, khb_6, kpc_7, kpa_8, kpb_9, kbc_10, kba_11, kbb_12, hq13, hf⟩ := b12_of hf
  refine callVV (As := [.ref (qn 0)]) (rest := []) (wr := segpick [(Po oo qn qk qt qx qa ts wa pf0 (chv qc sp)), (Cw qn cA (chv qc nc) nf ng), (Rw (qn 12) (qn 20) (qn 21) cA 5 nhc nha nhb), (Rw (qn 13) (qn 22) (qn 23) cA 10 npc npa npb), (Rw (qn 14) (qn 24) (qn 25) cA 8 nbc nba nbb), (Cw qk cA (chv qc kc0) kf0 kg0), (Rw (qk 12) (qk 20) (qk 21) cA 5 khc0 kha0 khb0), (Rw (qk 13) (qk 22) (qk 23) cA 10 kpc0 kpa0 kpb0), (Rw (qk 14) (qk 24) (qk 25) cA 8 kbc0 kba0 kbb0)] [0]) C0 (c_X1_copyAll qk qn qc kf0 kg0 kc0 khc0 kha0 khb0 kpc0 kpa0 kpb0 kbc0 kba0 kbb0 nf ng nc nhc nha nhb npc npa npb nbc nba nbb _ hq13) lk_X6_227_X1_copyAll rfl hP hD hS (seg_out [(Po oo qn qk qt qx qa ts wa pf0 (chv qc sp)), (Cw qn cA (chv qc nc) nf ng), (Rw (qn 12) (qn 20) (qn 21) cA 5 nhc nha nhb), (Rw (qn 13) (qn 22) (qn 23) cA 10 npc npa npb), (Rw (qn 14) (qn 24) (qn 25) cA 8 nbc nba nbb), (Cw qk cA (chv qc kc0) kf0 kg0), (Rw (qk 12) (qk 20) (qk 21) cA 5 khc0 kha0 khb0), (Rw (qk 13) (qk 22) (qk 23) cA 10 kpc0 kpa0 kpb0), (Rw (qk 14) (qk 24) (qk 25) cA 8 kbc0 kba0 kbb0)] [5, 6, 7, 8, 1, 2, 3, 4] [0] 9 rfl (by decide)) 16 1 rfl rfl rfl hl.1 rfl rfl (Nat.le_of_ble_eq_true rfl) dX6_image_8 ⟨Nat.zero_le _, Nat.zero_le _⟩ (fun w H locs hw hP hD hS => ?_)
  have e2 := hw
  subst e2
  replace hP : va_P D vwCl (List.flatten [(Po oo qn qk qt qx qa ts wa pf0 (chv qc sp)), (Cw qn cA (chv qc nc) nf ng), (Rw (qn 12) (qn 20) (qn 21) cA 5 nhc nha nhb), (Rw (qn 13) (qn 22) (qn 23) cA 10 npc npa npb), (Rw (qn 14) (qn 24) (qn 25) cA 8 nbc nba nbb), (Cw qk cA (chv qc kc_3) kf_1 kg_2), (Rw (qk 12) (qk 20) (qk 21) cA 5 khc_4 kha_5 khb_6), (Rw (qk 13) (qk 22) (qk 23) cA 10 kpc_7 kpa_8 kpb_9), (Rw (qk 14) (qk 24) (qk 25) cA 8 kbc_10 kba_11 kbb_12)]) H := hP.perm (seg_out [(Po oo qn qk qt qx qa ts wa pf0 (chv qc sp)), (Cw qn cA (chv qc nc) nf ng), (Rw (qn 12) (qn 20) (qn 21) cA 5 nhc nha nhb), (Rw (qn 13) (qn 22) (qn 23) cA 10 npc npa npb), (Rw (qn 14) (qn 24) (qn 25) cA 8 nbc nba nbb), (Cw qk cA (chv qc kc_3) kf_1 kg_2), (Rw (qk 12) (qk 20) (qk 21) cA 5 khc_4 kha_5 khb_6), (Rw (qk 13) (qk 22) (qk 23) cA 10 kpc_7 kpa_8 kpb_9), (Rw (qk 14) (qk 24) (qk 25) cA 8 kbc_10 kba_11 kbb_12)] [5, 6, 7, 8, 1, 2, 3, 4] [0] 9 rfl (by decide)).symm
  replace hD : va_D A (List.flatten [(Po oo qn qk qt qx qa ts wa pf0 (chv qc sp)), (Cw qn cA (chv qc nc) nf ng), (Rw (qn 12) (qn 20) (qn 21) cA 5 nhc nha nhb), (Rw (qn 13) (qn 22) (qn 23) cA 10 npc npa npb), (Rw (qn 14) (qn 24) (qn 25) cA 8 nbc nba nbb), (Cw qk cA (chv qc kc_3) kf_1 kg_2), (Rw (qk 12) (qk 20) (qk 21) cA 5 khc_4 kha_5 khb_6), (Rw (qk 13) (qk 22) (qk 23) cA 10 kpc_7 kpa_8 kpb_9), (Rw (qk 14) (qk 24) (qk 25) cA 8 kbc_10 kba_11 kbb_12)]) := hD.perm (seg_out [(Po oo qn qk qt qx qa ts wa pf0 (chv qc sp)), (Cw qn cA (chv qc nc) nf ng), (Rw (qn 12) (qn 20) (qn 21) cA 5 nhc nha nhb), (Rw (qn 13) (qn 22) (qn 23) cA 10 npc npa npb), (Rw (qn 14) (qn 24) (qn 25) cA 8 nbc nba nbb), (Cw qk cA (chv qc kc_3) kf_1 kg_2), (Rw (qk 12) (qk 20) (qk 21) cA 5 khc_4 kha_5 khb_6), (Rw (qk 13) (qk 22) (qk 23) cA 10 kpc_7 kpa_8 kpb_9), (Rw (qk 14) (qk 24) (qk 25) cA 8 kbc_10 kba_11 kbb_12)] [5, 6, 7, 8, 1, 2, 3, 4] [0] 9 rfl (by decide)).symm
  refine lv_aload_n hx hb dX6_image_11 rfl (lv_at hl 0 rfl) ?_
  refine lv_iconst (v := 1) hx hb dX6_image_12 (by decide) ?_
  refine va_put (D := D) (ci := 6) (v := .int 1) (ty := .boolean) (C := RX6) (T := TX6) (N := 10) hx hb hts fw_6 tyX6 tyX6_ok nmX6 hown hK hP hD hS 0 rfl rfl 9 (by decide) (hts _ m_fieldLink_P_231_P_isKept_Z) (fun _ h9 => h9) rfl (by decide +kernel) rfl rfl (Nat.le_of_ble_eq_true rfl) dX6_image_13 (fun H locs hP hD hS => ?_)
  replace hP : va_P D vwCl (List.flatten [(Po oo qn qk qt qx qa ts wa (upd pf0 9 1) (chv qc sp)), (Cw qn cA (chv qc nc) nf ng), (Rw (qn 12) (qn 20) (qn 21) cA 5 nhc nha nhb), (Rw (qn 13) (qn 22) (qn 23) cA 10 npc npa npb), (Rw (qn 14) (qn 24) (qn 25) cA 8 nbc nba nbb), (Cw qk cA (chv qc kc_3) kf_1 kg_2), (Rw (qk 12) (qk 20) (qk 21) cA 5 khc_4 kha_5 khb_6), (Rw (qk 13) (qk 22) (qk 23) cA 10 kpc_7 kpa_8 kpb_9), (Rw (qk 14) (qk 24) (qk 25) cA 8 kbc_10 kba_11 kbb_12)]) H := hP
  replace hD : va_D A (List.flatten [(Po oo qn qk qt qx qa ts wa (upd pf0 9 1) (chv qc sp)), (Cw qn cA (chv qc nc) nf ng), (Rw (qn 12) (qn 20) (qn 21) cA 5 nhc nha nhb), (Rw (qn 13) (qn 22) (qn 23) cA 10 npc npa npb), (Rw (qn 14) (qn 24) (qn 25) cA 8 nbc nba nbb), (Cw qk cA (chv qc kc_3) kf_1 kg_2), (Rw (qk 12) (qk 20) (qk 21) cA 5 khc_4 kha_5 khb_6), (Rw (qk 13) (qk 22) (qk 23) cA 10 kpc_7 kpa_8 kpb_9), (Rw (qk 14) (qk 24) (qk 25) cA 8 kbc_10 kba_11 kbb_12)]) := hD
  refine lv_aload_n hx hb dX6_image_16 rfl (lv_at hl 0 rfl) ?_
  refine va_get (D := D) (ci := 6) (v := .ref (qn 0)) (C := RX6) (T := TX6) (N := 10) hx hb hts fw_6 hown hK hP 0 rfl rfl 0 (by decide) (hts _ m_fieldLink_P_12_P_now_LP_Cellar) (fun _ h9 => h9) rfl dX6_image_17 ?_
  refine va_get (D := D) (ci := 1) (v := .int (nf 0)) (C := RX1) (T := TX1) (N := 16) hx hb hts fw_1 hown hK hP 1 rfl rfl 0 (by decide) (hts _ m_fieldLink_P_53_P_Cellar_men_I) (fun _ h9 => h9) rfl dX6_image_20 ?_
  rw [hQ]
  exact ret_i C0 hP hD hS (by have e := Option.some.inj hf; rw [← e]; exact ⟨rfl, rfl⟩) dX6_image_23
-- X6 undo
noncomputable def k_X6_undo (pf : Nat → Int32) (nf0 : Nat → Int32) (ng0 : Nat → Nat → Int32) (nc0 : Option Nat) (nhc0 : Int32) (nha0 : Nat → Int32) (nhb0 : Nat → Int32) (npc0 : Int32) (npa0 : Nat → Int32) (npb0 : Nat → Int32) (nbc0 : Int32) (nba0 : Nat → Int32) (nbb0 : Nat → Int32) (kf : Nat → Int32) (kg : Nat → Nat → Int32) (kc : Option Nat) (khc : Int32) (kha : Nat → Int32) (khb : Nat → Int32) (kpc : Int32) (kpa : Nat → Int32) (kpb : Nat → Int32) (kbc : Int32) (kba : Nat → Int32) (kbb : Nat → Int32) : Option (Int32 × (Nat → Int32) × (Nat → Nat → Int32) × Option Nat × Int32 × (Nat → Int32) × (Nat → Int32) × Int32 × (Nat → Int32) × (Nat → Int32) × Int32 × (Nat → Int32) × (Nat → Int32)) := if (pf 9) = 0 then some ((-3), nf0, ng0, nc0, nhc0, nha0, nhb0, npc0, npa0, npb0, nbc0, nba0, nbb0) else b12 (k_X1_copyAll nf0 ng0 nc0 nhc0 nha0 nhb0 npc0 npa0 npb0 nbc0 nba0 nbb0 kf kg kc khc kha khb kpc kpa kpb kbc kba kbb) (fun nf_2 ng_3 nc_4 nhc_5 nha_6 nhb_7 npc_8 npa_9 npb_10 nbc_11 nba_12 nbb_13 => some ((nf_2 0), nf_2, ng_3, nc_4, nhc_5, nha_6, nhb_7, npc_8, npa_9, npb_10, nbc_11, nba_12, nbb_13))
set_option maxHeartbeats 4000000 in
set_option maxRecDepth 100000 in
theorem c_X6_undo {l : Launch} {D : va_G} {cA : Nat → ClassId} (oo : Nat) (qn : Nat → Nat) (qk : Nat → Nat) (qt : Nat → Nat) (qx : Nat → Nat) (qa : Nat → Nat) (ts : Nat) (wa : Nat) (qc : Nat → Nat → Nat) (pf : Nat → Int32) (sp : Option Nat) (nf0 : Nat → Int32) (ng0 : Nat → Nat → Int32) (nc0 : Option Nat) (nhc0 : Int32) (nha0 : Nat → Int32) (nhb0 : Nat → Int32) (npc0 : Int32) (npa0 : Nat → Int32) (npb0 : Nat → Int32) (nbc0 : Int32) (nba0 : Nat → Int32) (nbb0 : Nat → Int32) (kf : Nat → Int32) (kg : Nat → Nat → Int32) (kc : Option Nat) (khc : Int32) (kha : Nat → Int32) (khb : Nat → Int32) (kpc : Int32) (kpa : Nat → Int32) (kpb : Nat → Int32) (kbc : Int32) (kba : Nat → Int32) (kbb : Nat → Int32)  (o : Int32 × (Nat → Int32) × (Nat → Nat → Int32) × Option Nat × Int32 × (Nat → Int32) × (Nat → Int32) × Int32 × (Nat → Int32) × (Nat → Int32) × Int32 × (Nat → Int32) × (Nat → Int32)) (hf : k_X6_undo pf nf0 ng0 nc0 nhc0 nha0 nhb0 npc0 npa0 npb0 nbc0 nba0 nbb0 kf kg kc khc kha khb kpc kpa kpb kbc kba kbb = some o) : CI l D cA yX6_undo cX6_undo 1 (some .int) 3 82 [.ref oo] (List.flatten [(Po oo qn qk qt qx qa ts wa pf (chv qc sp)), (Cw qn cA (chv qc nc0) nf0 ng0), (Rw (qn 12) (qn 20) (qn 21) cA 5 nhc0 nha0 nhb0), (Rw (qn 13) (qn 22) (qn 23) cA 10 npc0 npa0 npb0), (Rw (qn 14) (qn 24) (qn 25) cA 8 nbc0 nba0 nbb0), (Cw qk cA (chv qc kc) kf kg), (Rw (qk 12) (qk 20) (qk 21) cA 5 khc kha khb), (Rw (qk 13) (qk 22) (qk 23) cA 10 kpc kpa kpb), (Rw (qk 14) (qk 24) (qk 25) cA 8 kbc kba kbb)]) 0 0 (fun r w => r = o.1 ∧ w = (List.flatten [(Po oo qn qk qt qx qa ts wa pf (chv qc sp)), (Cw qn cA (chv qc o.2.2.2.1) o.2.1 o.2.2.1), (Rw (qn 12) (qn 20) (qn 21) cA 5 o.2.2.2.2.1 o.2.2.2.2.2.1 o.2.2.2.2.2.2.1), (Rw (qn 13) (qn 22) (qn 23) cA 10 o.2.2.2.2.2.2.2.1 o.2.2.2.2.2.2.2.2.1 o.2.2.2.2.2.2.2.2.2.1), (Rw (qn 14) (qn 24) (qn 25) cA 8 o.2.2.2.2.2.2.2.2.2.2.1 o.2.2.2.2.2.2.2.2.2.2.2.1 o.2.2.2.2.2.2.2.2.2.2.2.2), (Cw qk cA (chv qc kc) kf kg), (Rw (qk 12) (qk 20) (qk 21) cA 5 khc kha khb), (Rw (qk 13) (qk 22) (qk 23) cA 10 kpc kpa kpb), (Rw (qk 14) (qk 24) (qk 25) cA 8 kbc kba kbb)])) := by
  intro sz
  refine met_start (by decide) rfl ?_
  intro p e s m args below meth c ls hsz hargs C0 hname hP hD hS hl
  generalize hAe : va_A (List.flatten [(Po oo qn qk qt qx qa ts wa pf (chv qc sp)), (Cw qn cA (chv qc nc0) nf0 ng0), (Rw (qn 12) (qn 20) (qn 21) cA 5 nhc0 nha0 nhb0), (Rw (qn 13) (qn 22) (qn 23) cA 10 npc0 npa0 npb0), (Rw (qn 14) (qn 24) (qn 25) cA 8 nbc0 nba0 nbb0), (Cw qk cA (chv qc kc) kf kg), (Rw (qk 12) (qk 20) (qk 21) cA 5 khc kha khb), (Rw (qk 13) (qk 22) (qk 23) cA 10 kpc kpa kpb), (Rw (qk 14) (qk 24) (qk 25) cA 8 kbc kba kbb)]) sz = A at C0 hD hS ⊢
  obtain ⟨hx, hb, hr, hml, hown, hts, hlk, hK, hA⟩ := id C0
  replace hl : lv_has ls 1 [(0, .ref oo)] := hl
  obtain ⟨Q, hQ⟩ : ∃ Q : State → Prop, Q = QI below D A (fun r w => r = o.1 ∧ w = (List.flatten [(Po oo qn qk qt qx qa ts wa pf (chv qc sp)), (Cw qn cA (chv qc o.2.2.2.1) o.2.1 o.2.2.1), (Rw (qn 12) (qn 20) (qn 21) cA 5 o.2.2.2.2.1 o.2.2.2.2.2.1 o.2.2.2.2.2.2.1), (Rw (qn 13) (qn 22) (qn 23) cA 10 o.2.2.2.2.2.2.2.1 o.2.2.2.2.2.2.2.2.1 o.2.2.2.2.2.2.2.2.2.1), (Rw (qn 14) (qn 24) (qn 25) cA 8 o.2.2.2.2.2.2.2.2.2.2.1 o.2.2.2.2.2.2.2.2.2.2.2.1 o.2.2.2.2.2.2.2.2.2.2.2.2), (Cw qk cA (chv qc kc) kf kg), (Rw (qk 12) (qk 20) (qk 21) cA 5 khc kha khb), (Rw (qk 13) (qk 22) (qk 23) cA 10 kpc kpa kpb), (Rw (qk 14) (qk 24) (qk 25) cA 8 kbc kba kbb)])) args s 0 0 := ⟨_, rfl⟩
  refine cast (by rw [hQ]) (?_ : W p l e (RMx 3 82 0 0) s m args below meth c s.heap [] 0 0 Q (F0 m 0 ls []))
  unfold k_X6_undo at hf
  refine lv_aload_n hx hb dX6_undo_0 rfl (lv_at hl 0 rfl) ?_
  refine va_get (D := D) (ci := 6) (v := .int (pf 9)) (C := RX6) (T := TX6) (N := 10) hx hb hts fw_6 hown hK hP 0 rfl rfl 9 (by decide) (hts _ m_fieldLink_P_231_P_isKept_Z) (fun _ h9 => h9) rfl dX6_undo_1 ?_
  refine lv_if_ne (tgt := 10) hx hb dX6_undo_4 (by decide) (fun c1 => ?_) (fun c1 => ?_)
  · replace hf := ie_of c1 hf
    refine lv_aload_n hx hb dX6_undo_10 rfl (lv_at hl 0 rfl) ?_
    refine va_get (D := D) (ci := 6) (v := .ref (qn 0)) (C := RX6) (T := TX6) (N := 10) hx hb hts fw_6 hown hK hP 0 rfl rfl 0 (by decide) (hts _ m_fieldLink_P_12_P_now_LP_Cellar) (fun _ h9 => h9) rfl dX6_undo_11 ?_
    refine lv_aload_n hx hb dX6_undo_14 rfl (lv_at hl 0 rfl) ?_
    refine va_get (D := D) (ci := 6) (v := .ref (qk 0)) (C := RX6) (T := TX6) (N := 10) hx hb hts fw_6 hown hK hP 0 rfl rfl 1 (by decide) (hts _ m_fieldLink_P_18_P_kept_LP_Cellar) (fun _ h9 => h9) rfl dX6_undo_15 ?_
    obtain ⟨nf_2, ng_3, nc_4, nhc_5, nha_6, nhb_7, npc_8, npa_9, npb_10, nbc_11, nba_12, nbb_13, hq14, hf⟩ := b12_of hf
    refine callVV (As := [.ref (qk 0)]) (rest := []) (wr := segpick [(Po oo qn qk qt qx qa ts wa pf (chv qc sp)), (Cw qn cA (chv qc nc0) nf0 ng0), (Rw (qn 12) (qn 20) (qn 21) cA 5 nhc0 nha0 nhb0), (Rw (qn 13) (qn 22) (qn 23) cA 10 npc0 npa0 npb0), (Rw (qn 14) (qn 24) (qn 25) cA 8 nbc0 nba0 nbb0), (Cw qk cA (chv qc kc) kf kg), (Rw (qk 12) (qk 20) (qk 21) cA 5 khc kha khb), (Rw (qk 13) (qk 22) (qk 23) cA 10 kpc kpa kpb), (Rw (qk 14) (qk 24) (qk 25) cA 8 kbc kba kbb)] [0]) C0 (c_X1_copyAll qn qk qc nf0 ng0 nc0 nhc0 nha0 nhb0 npc0 npa0 npb0 nbc0 nba0 nbb0 kf kg kc khc kha khb kpc kpa kpb kbc kba kbb _ hq14) lk_X6_227_X1_copyAll rfl hP hD hS (seg_out [(Po oo qn qk qt qx qa ts wa pf (chv qc sp)), (Cw qn cA (chv qc nc0) nf0 ng0), (Rw (qn 12) (qn 20) (qn 21) cA 5 nhc0 nha0 nhb0), (Rw (qn 13) (qn 22) (qn 23) cA 10 npc0 npa0 npb0), (Rw (qn 14) (qn 24) (qn 25) cA 8 nbc0 nba0 nbb0), (Cw qk cA (chv qc kc) kf kg), (Rw (qk 12) (qk 20) (qk 21) cA 5 khc kha khb), (Rw (qk 13) (qk 22) (qk 23) cA 10 kpc kpa kpb), (Rw (qk 14) (qk 24) (qk 25) cA 8 kbc kba kbb)] [1, 2, 3, 4, 5, 6, 7, 8] [0] 9 rfl (by decide)) 1 1 rfl rfl rfl hl.1 rfl rfl (Nat.le_of_ble_eq_true rfl) dX6_undo_18 ⟨Nat.zero_le _, Nat.zero_le _⟩ (fun w H locs hw hP hD hS => ?_)
    have e2 := hw
    subst e2
    replace hP : va_P D vwCl (List.flatten [(Po oo qn qk qt qx qa ts wa pf (chv qc sp)), (Cw qn cA (chv qc nc_4) nf_2 ng_3), (Rw (qn 12) (qn 20) (qn 21) cA 5 nhc_5 nha_6 nhb_7), (Rw (qn 13) (qn 22) (qn 23) cA 10 npc_8 npa_9 npb_10), (Rw (qn 14) (qn 24) (qn 25) cA 8 nbc_11 nba_12 nbb_13), (Cw qk cA (chv qc kc) kf kg), (Rw (qk 12) (qk 20) (qk 21) cA 5 khc kha khb), (Rw (qk 13) (qk 22) (qk 23) cA 10 kpc kpa kpb), (Rw (qk 14) (qk 24) (qk 25) cA 8 kbc kba kbb)]) H := hP.perm (seg_out [(Po oo qn qk qt qx qa ts wa pf (chv qc sp)), (Cw qn cA (chv qc nc_4) nf_2 ng_3), (Rw (qn 12) (qn 20) (qn 21) cA 5 nhc_5 nha_6 nhb_7), (Rw (qn 13) (qn 22) (qn 23) cA 10 npc_8 npa_9 npb_10), (Rw (qn 14) (qn 24) (qn 25) cA 8 nbc_11 nba_12 nbb_13), (Cw qk cA (chv qc kc) kf kg), (Rw (qk 12) (qk 20) (qk 21) cA 5 khc kha khb), (Rw (qk 13) (qk 22) (qk 23) cA 10 kpc kpa kpb), (Rw (qk 14) (qk 24) (qk 25) cA 8 kbc kba kbb)] [1, 2, 3, 4, 5, 6, 7, 8] [0] 9 rfl (by decide)).symm
    replace hD : va_D A (List.flatten [(Po oo qn qk qt qx qa ts wa pf (chv qc sp)), (Cw qn cA (chv qc nc_4) nf_2 ng_3), (Rw (qn 12) (qn 20) (qn 21) cA 5 nhc_5 nha_6 nhb_7), (Rw (qn 13) (qn 22) (qn 23) cA 10 npc_8 npa_9 npb_10), (Rw (qn 14) (qn 24) (qn 25) cA 8 nbc_11 nba_12 nbb_13), (Cw qk cA (chv qc kc) kf kg), (Rw (qk 12) (qk 20) (qk 21) cA 5 khc kha khb), (Rw (qk 13) (qk 22) (qk 23) cA 10 kpc kpa kpb), (Rw (qk 14) (qk 24) (qk 25) cA 8 kbc kba kbb)]) := hD.perm (seg_out [(Po oo qn qk qt qx qa ts wa pf (chv qc sp)), (Cw qn cA (chv qc nc_4) nf_2 ng_3), (Rw (qn 12) (qn 20) (qn 21) cA 5 nhc_5 nha_6 nhb_7), (Rw (qn 13) (qn 22) (qn 23) cA 10 npc_8 npa_9 npb_10), (Rw (qn 14) (qn 24) (qn 25) cA 8 nbc_11 nba_12 nbb_13), (Cw qk cA (chv qc kc) kf kg), (Rw (qk 12) (qk 20) (qk 21) cA 5 khc kha khb), (Rw (qk 13) (qk 22) (qk 23) cA 10 kpc kpa kpb), (Rw (qk 14) (qk 24) (qk 25) cA 8 kbc kba kbb)] [1, 2, 3, 4, 5, 6, 7, 8] [0] 9 rfl (by decide)).symm
    refine lv_aload_n hx hb dX6_undo_21 rfl (lv_at hl 0 rfl) ?_
    refine va_get (D := D) (ci := 6) (v := .ref (qn 0)) (C := RX6) (T := TX6) (N := 10) hx hb hts fw_6 hown hK hP 0 rfl rfl 0 (by decide) (hts _ m_fieldLink_P_12_P_now_LP_Cellar) (fun _ h9 => h9) rfl dX6_undo_22 ?_
    refine va_get (D := D) (ci := 1) (v := .int (nf_2 0)) (C := RX1) (T := TX1) (N := 16) hx hb hts fw_1 hown hK hP 1 rfl rfl 0 (by decide) (hts _ m_fieldLink_P_53_P_Cellar_men_I) (fun _ h9 => h9) rfl dX6_undo_25 ?_
    rw [hQ]
    exact ret_i C0 hP hD hS (by have e := Option.some.inj hf; rw [← e]; exact ⟨rfl, rfl⟩) dX6_undo_28
  · replace hf := it_of c1 hf
    refine lv_bipush (v := (-3)) hx hb dX6_undo_7 (by decide) ?_
    rw [hQ]
    exact ret_i C0 hP hD hS (by have e := Option.some.inj hf; rw [← e]; exact ⟨rfl, rfl⟩) dX6_undo_9
-- X6 trace
noncomputable def k_X6_trace (a1 : Int32) (af : Nat → Int32) (ab : Nat → Int32) : Option Int32 := nm (if 20 < (af 0) then 20 else (af 0)) (fun mm1 => b1 (k_X6_isWithin a1 (mm1 - 1)) (fun r2 => if r2 = 0 then some (-1) else gd a1 20 (some (ab (Int32.toNatClampNeg a1)))))
set_option maxHeartbeats 4000000 in
set_option maxRecDepth 100000 in
theorem c_X6_trace {l : Launch} {D : va_G} {cA : Nat → ClassId} (oo : Nat) (qn : Nat → Nat) (qk : Nat → Nat) (qt : Nat → Nat) (qx : Nat → Nat) (qa : Nat → Nat) (ts : Nat) (wa : Nat) (qc : Nat → Nat → Nat) (pf : Nat → Int32) (sp : Option Nat) (af : Nat → Int32) (ab : Nat → Int32) (a1 : Int32) (o : Int32) (hf : k_X6_trace a1 af ab = some o) : CI l D cA yX6_trace cX6_trace 2 (some .int) 1 22 [.ref oo, .int a1] (List.flatten [(Po oo qn qk qt qx qa ts wa pf (chv qc sp)), (Aw qa cA af ab)]) 0 0 (fun r w => r = o ∧ w = (List.flatten [(Po oo qn qk qt qx qa ts wa pf (chv qc sp)), (Aw qa cA af ab)])) := by
  intro sz
  refine met_start (by decide) rfl ?_
  intro p e s m args below meth c ls hsz hargs C0 hname hP hD hS hl
  generalize hAe : va_A (List.flatten [(Po oo qn qk qt qx qa ts wa pf (chv qc sp)), (Aw qa cA af ab)]) sz = A at C0 hD hS ⊢
  obtain ⟨hx, hb, hr, hml, hown, hts, hlk, hK, hA⟩ := id C0
  replace hl : lv_has ls 2 [(0, .ref oo), (1, .int a1)] := hl
  obtain ⟨Q, hQ⟩ : ∃ Q : State → Prop, Q = QI below D A (fun r w => r = o ∧ w = (List.flatten [(Po oo qn qk qt qx qa ts wa pf (chv qc sp)), (Aw qa cA af ab)])) args s 0 0 := ⟨_, rfl⟩
  refine cast (by rw [hQ]) (?_ : W p l e (RMx 1 22 0 0) s m args below meth c s.heap [] 0 0 Q (F0 m 0 ls []))
  unfold k_X6_trace at hf
  refine lv_iload_n hx hb dX6_trace_0 rfl (lv_at hl 1 rfl) ?_
  refine lv_aload_n hx hb dX6_trace_1 rfl (lv_at hl 0 rfl) ?_
  refine va_get (D := D) (ci := 6) (v := .ref (qa 0)) (C := RX6) (T := TX6) (N := 10) hx hb hts fw_6 hown hK hP 0 rfl rfl 4 (by decide) (hts _ m_fieldLink_P_34_P_acts_LP_Acts) (fun _ h9 => h9) rfl dX6_trace_2 ?_
  refine va_get (D := D) (ci := 0) (v := .int (af 0)) (C := RX0) (T := TX0) (N := 5) hx hb hts fw_0 hown hK hP 1 rfl rfl 0 (by decide) (hts _ m_fieldLink_P_235_P_Acts_ran_I) (fun _ h9 => h9) rfl dX6_trace_5 ?_
  refine lv_bipush (v := 20) hx hb dX6_trace_8 (by decide) ?_
  refine va_mmin hx hb (by rw [hml]; exact hl.1.symm) hown (hts _ m_methodLink_P_242_java_lang_Math_min_II_I) (hts _ m_static_java_lang_Math_min_II_I) (hts _ m_initialized_java_lang_Math) (hts _ m_code_java_lang_Math_min_II_I) (Nat.le_of_ble_eq_true rfl) (Nat.le_of_ble_eq_true rfl) (Nat.zero_le _) (Nat.zero_le _) dX6_trace_10 ?_
  refine lv_topi (fun mm1 emm1 => ?_)
  replace hf := nm_i emm1 hf
  refine lv_iconst (v := 1) hx hb dX6_trace_13 (by decide) ?_
  refine lv_isub hx hb dX6_trace_14 ?_
  obtain ⟨r2q, hq3, hf⟩ := b1_of hf
  refine callSI (As := [.int a1, .int (mm1 - 1)]) (rest := []) (wr := (List.flatten [(Po oo qn qk qt qx qa ts wa pf (chv qc sp)), (Aw qa cA af ab)])) C0 (c_X6_isWithin a1 (mm1 - 1) _ hq3) lk_X6_49_X6_isWithin rfl hP hD hS (List.Perm.refl _) hl.1 rfl rfl (Nat.le_of_ble_eq_true rfl) dX6_trace_15 ⟨Nat.zero_le _, Nat.zero_le _⟩ (fun r2 w H locs hw hP hD hS => ?_)
  obtain ⟨⟨e1, e2⟩, z4⟩ := hw
  replace e1 : r2 = r2q := e1
  subst e1
  subst e2
  replace hP : va_P D vwCl (List.flatten [(Po oo qn qk qt qx qa ts wa pf (chv qc sp)), (Aw qa cA af ab)]) H := hP
  replace hD : va_D A (List.flatten [(Po oo qn qk qt qx qa ts wa pf (chv qc sp)), (Aw qa cA af ab)]) := hD
  refine lv_if_eq (tgt := 33) hx hb dX6_trace_18 (by decide) (fun c5 => ?_) (fun c5 => ?_)
  · replace hf := it_of c5 hf
    refine lv_iconst (v := (-1)) hx hb dX6_trace_33 (by decide) ?_
    rw [hQ]
    exact ret_i C0 hP hD hS (by have e := Option.some.inj hf; rw [← e]; exact ⟨rfl, rfl⟩) dX6_trace_34
  · replace hf := ie_of c5 hf
    refine lv_aload_n hx hb dX6_trace_21 rfl (lv_at hl 0 rfl) ?_
    refine va_get (D := D) (ci := 6) (v := .ref (qa 0)) (C := RX6) (T := TX6) (N := 10) hx hb hts fw_6 hown hK hP 0 rfl rfl 4 (by decide) (hts _ m_fieldLink_P_34_P_acts_LP_Acts) (fun _ h9 => h9) rfl dX6_trace_22 ?_
    refine va_get (D := D) (ci := 0) (v := .ref (qa 1)) (C := RX0) (T := TX0) (N := 5) hx hb hts fw_0 hown hK hP 1 rfl rfl 1 (by decide) (hts _ m_fieldLink_P_247_P_Acts_bodies_aI) (fun _ h9 => h9) rfl dX6_trace_25 ?_
    refine lv_iload_n hx hb dX6_trace_28 rfl (lv_at hl 1 rfl) ?_
    obtain ⟨hi6, hf⟩ := gd_of hf
    refine va_iald hx hb hK hP 2 0 rfl rfl hi6 dX6_trace_29 ?_
    refine lv_goto (tgt := 34) hx hb dX6_trace_30 (by decide) ?_
    rw [hQ]
    exact ret_i C0 hP hD hS (by have e := Option.some.inj hf; rw [← e]; exact ⟨rfl, rfl⟩) dX6_trace_34
-- X6 above
noncomputable def k_X6_above (a0 : Int32) : Option Int32 := if a0 = 1 then some 0 else if a0 = 2 then some 0 else if a0 = 3 then some 0 else if a0 = 4 then some 1 else if a0 = 5 then some 2 else if a0 = 6 then some 3 else some (-1)
set_option maxHeartbeats 4000000 in
set_option maxRecDepth 100000 in
theorem c_X6_above {l : Launch} {D : va_G} {cA : Nat → ClassId}   (a0 : Int32) (o : Int32) (hf : k_X6_above a0 = some o) : CI l D cA yX6_above cX6_above 1 (some .int) 0 0 [.int a0] ([] : va_W) 0 0 (fun r w => r = o ∧ w = ([] : va_W)) := by
  intro sz
  refine met_start (by decide) rfl ?_
  intro p e s m args below meth c ls hsz hargs C0 hname hP hD hS hl
  generalize hAe : va_A ([] : va_W) sz = A at C0 hD hS ⊢
  obtain ⟨hx, hb, hr, hml, hown, hts, hlk, hK, hA⟩ := id C0
  replace hl : lv_has ls 1 [(0, .int a0)] := hl
  obtain ⟨Q, hQ⟩ : ∃ Q : State → Prop, Q = QI below D A (fun r w => r = o ∧ w = ([] : va_W)) args s 0 0 := ⟨_, rfl⟩
  refine cast (by rw [hQ]) (?_ : W p l e (RMx 0 0 0 0) s m args below meth c s.heap [] 0 0 Q (F0 m 0 ls []))
  unfold k_X6_above at hf
  refine lv_iload_n hx hb dX6_above_0 rfl (lv_at hl 0 rfl) ?_
  by_cases c1 : a0 = 1
  · replace hf := it_of c1 hf
    refine lv_tableIn (off := 39) (tgt := 40) hx hb dX6_above_1 (by rw [c1]; decide) (by rw [c1]; decide) (by rw [c1]; decide) (by decide) ?_
    refine lv_iconst (v := 0) hx hb dX6_above_40 (by decide) ?_
    rw [hQ]
    exact ret_i C0 hP hD hS (by have e := Option.some.inj hf; rw [← e]; exact ⟨rfl, rfl⟩) dX6_above_41
  · replace hf := ie_of c1 hf
    by_cases c2 : a0 = 2
    · replace hf := it_of c2 hf
      refine lv_tableIn (off := 39) (tgt := 40) hx hb dX6_above_1 (by rw [c2]; decide) (by rw [c2]; decide) (by rw [c2]; decide) (by decide) ?_
      refine lv_iconst (v := 0) hx hb dX6_above_40 (by decide) ?_
      rw [hQ]
      exact ret_i C0 hP hD hS (by have e := Option.some.inj hf; rw [← e]; exact ⟨rfl, rfl⟩) dX6_above_41
    · replace hf := ie_of c2 hf
      by_cases c3 : a0 = 3
      · replace hf := it_of c3 hf
        refine lv_tableIn (off := 39) (tgt := 40) hx hb dX6_above_1 (by rw [c3]; decide) (by rw [c3]; decide) (by rw [c3]; decide) (by decide) ?_
        refine lv_iconst (v := 0) hx hb dX6_above_40 (by decide) ?_
        rw [hQ]
        exact ret_i C0 hP hD hS (by have e := Option.some.inj hf; rw [← e]; exact ⟨rfl, rfl⟩) dX6_above_41
      · replace hf := ie_of c3 hf
        by_cases c4 : a0 = 4
        · replace hf := it_of c4 hf
          refine lv_tableIn (off := 41) (tgt := 42) hx hb dX6_above_1 (by rw [c4]; decide) (by rw [c4]; decide) (by rw [c4]; decide) (by decide) ?_
          refine lv_iconst (v := 1) hx hb dX6_above_42 (by decide) ?_
          rw [hQ]
          exact ret_i C0 hP hD hS (by have e := Option.some.inj hf; rw [← e]; exact ⟨rfl, rfl⟩) dX6_above_43
        · replace hf := ie_of c4 hf
          by_cases c5 : a0 = 5
          · replace hf := it_of c5 hf
            refine lv_tableIn (off := 43) (tgt := 44) hx hb dX6_above_1 (by rw [c5]; decide) (by rw [c5]; decide) (by rw [c5]; decide) (by decide) ?_
            refine lv_iconst (v := 2) hx hb dX6_above_44 (by decide) ?_
            rw [hQ]
            exact ret_i C0 hP hD hS (by have e := Option.some.inj hf; rw [← e]; exact ⟨rfl, rfl⟩) dX6_above_45
          · replace hf := ie_of c5 hf
            by_cases c6 : a0 = 6
            · replace hf := it_of c6 hf
              refine lv_tableIn (off := 45) (tgt := 46) hx hb dX6_above_1 (by rw [c6]; decide) (by rw [c6]; decide) (by rw [c6]; decide) (by decide) ?_
              refine lv_iconst (v := 3) hx hb dX6_above_46 (by decide) ?_
              rw [hQ]
              exact ret_i C0 hP hD hS (by have e := Option.some.inj hf; rw [← e]; exact ⟨rfl, rfl⟩) dX6_above_47
            · replace hf := ie_of c6 hf
              refine lv_tableOut (tgt := 48) hx hb dX6_above_1 (by have := lv_neT c1 (a := 1) (by decide); have := lv_neT c2 (a := 2) (by decide); have := lv_neT c3 (a := 3) (by decide); have := lv_neT c4 (a := 4) (by decide); have := lv_neT c5 (a := 5) (by decide); have := lv_neT c6 (a := 6) (by decide); omega) (by decide) ?_
              refine lv_iconst (v := (-1)) hx hb dX6_above_48 (by decide) ?_
              rw [hQ]
              exact ret_i C0 hP hD hS (by have e := Option.some.inj hf; rw [← e]; exact ⟨rfl, rfl⟩) dX6_above_49
-- X6 isUnder
noncomputable def k_X6_isUnder_4 (a1 : Int32) : Nat → Int32 → Int32 → Option Int32
  | 0, _, _ => none
  | n + 1, x2, x3 => if 7 ≤ x3 then some 0 else if x2 < 0 then some 0 else if x2 = a1 then some 1 else b1 (k_X6_above x2) (fun r4 => k_X6_isUnder_4 a1 n r4 (x3 + 1))
noncomputable def k_X6_isUnder (a0 : Int32) (a1 : Int32) : Option Int32 := k_X6_isUnder_4 a1 100000 a0 0
set_option maxHeartbeats 4000000 in
set_option maxRecDepth 100000 in
theorem c_X6_isUnder {l : Launch} {D : va_G} {cA : Nat → ClassId}   (a0 : Int32) (a1 : Int32) (o : Int32) (hf : k_X6_isUnder a0 a1 = some o) : CI l D cA yX6_isUnder cX6_isUnder 4 (some .boolean) 1 20 [.int a0, .int a1] ([] : va_W) 0 0 (fun r w => (r = o ∧ w = ([] : va_W)) ∧ narrow .boolean (.int r) = .int r) := by
  intro sz
  refine met_start (by decide) rfl ?_
  intro p e s m args below meth c ls hsz hargs C0 hname hP hD hS hl
  generalize hAe : va_A ([] : va_W) sz = A at C0 hD hS ⊢
  obtain ⟨hx, hb, hr, hml, hown, hts, hlk, hK, hA⟩ := id C0
  replace hl : lv_has ls 4 [(0, .int a0), (1, .int a1)] := hl
  obtain ⟨Q, hQ⟩ : ∃ Q : State → Prop, Q = QI below D A (fun r w => (r = o ∧ w = ([] : va_W)) ∧ narrow .boolean (.int r) = .int r) args s 0 0 := ⟨_, rfl⟩
  refine cast (by rw [hQ]) (?_ : W p l e (RMx 1 20 0 0) s m args below meth c s.heap [] 0 0 Q (F0 m 0 ls []))
  have J4 : ∀ n : Nat, ∀ (x2 : Int32) (x3 : Int32), k_X6_isUnder_4 a1 n x2 x3 = some o → ∀ (H : Heap) (locs : List Loc), va_P D vwCl ([] : va_W) H → va_D A ([] : va_W) → va_S A s.heap H locs → ∀ ls : Array Slot, lv_has ls 4 [(1, .int a1), (2, .int x2), (3, .int x3)] → W p l e (RMx 1 20 0 0) s m args below meth c H locs 0 0 Q (F0 m 4 ls []) := by
    intro  n
    induction n with
    | zero =>
      intro x2 x3 hf
      rw [k_X6_isUnder_4] at hf
      cases hf
    | succ n ih =>
      intro x2 x3 hf H locs hP hD hS ls hl
      rw [k_X6_isUnder_4] at hf
      refine lv_iload_n hx hb dX6_isUnder_4 rfl (lv_at hl 2 rfl) ?_
      refine lv_bipush (v := 7) hx hb dX6_isUnder_5 (by decide) ?_
      refine lv_icmp_ge (tgt := 32) hx hb dX6_isUnder_7 (by decide) (fun c1 => ?_) (fun c1 => ?_)
      · replace hf := it_of c1 hf
        refine lv_iconst (v := 0) hx hb dX6_isUnder_32 (by decide) ?_
        rw [hQ]
        exact ret_z C0 hP hD hS (by have e := Option.some.inj hf; rw [← e]; exact ⟨rfl, rfl⟩) rfl dX6_isUnder_33
      · replace hf := ie_of c1 hf
        refine lv_iload_n hx hb dX6_isUnder_10 rfl (lv_at hl 1 rfl) ?_
        refine lv_if_lt (tgt := 32) hx hb dX6_isUnder_11 (by decide) (fun c2 => ?_) (fun c2 => ?_)
        · replace hf := it_of c2 hf
          refine lv_iconst (v := 0) hx hb dX6_isUnder_32 (by decide) ?_
          rw [hQ]
          exact ret_z C0 hP hD hS (by have e := Option.some.inj hf; rw [← e]; exact ⟨rfl, rfl⟩) rfl dX6_isUnder_33
        · replace hf := ie_of c2 hf
          refine lv_iload_n hx hb dX6_isUnder_14 rfl (lv_at hl 1 rfl) ?_
          refine lv_iload_n hx hb dX6_isUnder_15 rfl (lv_at hl 0 rfl) ?_
          refine lv_icmp_ne (tgt := 21) hx hb dX6_isUnder_16 (by decide) (fun c3 => ?_) (fun c3 => ?_)
          · replace hf := ie_of c3 hf
            refine lv_iload_n hx hb dX6_isUnder_21 rfl (lv_at hl 1 rfl) ?_
            obtain ⟨r4q, hq5, hf⟩ := b1_of hf
            refine callSI (As := [.int x2]) (rest := []) (wr := ([] : va_W)) C0 (c_X6_above x2 _ hq5) lk_X6_291_X6_above rfl hP hD hS (List.Perm.refl _) hl.1 rfl rfl (Nat.le_of_ble_eq_true rfl) dX6_isUnder_22 ⟨Nat.zero_le _, Nat.zero_le _⟩ (fun r4 w H locs hw hP hD hS => ?_)
            obtain ⟨e1, e2⟩ := hw
            replace e1 : r4 = r4q := e1
            subst e1
            subst e2
            replace hP : va_P D vwCl ([] : va_W) H := hP
            replace hD : va_D A ([] : va_W) := hD
            refine lv_istore_n (lv' := [(2, .int r4), (1, .int a1), (3, .int x3)]) hx hb dX6_isUnder_25 rfl hl (by decide) rfl (fun ls hl => ?_)
            refine lv_iinc (v := (x3 + 1)) (lv' := [(3, .int (x3 + 1)), (2, .int r4), (1, .int a1)]) hx hb dX6_isUnder_26 hl (k := 2) rfl rfl (by decide) rfl (fun ls hl => ?_)
            refine lv_goto (tgt := 4) hx hb dX6_isUnder_29 (by decide) ?_
            exact ih r4 (x3 + 1) hf _ _ hP hD hS _ (lv_sub hl [2, 1, 0] rfl)
          · replace hf := it_of c3 hf
            refine lv_iconst (v := 1) hx hb dX6_isUnder_19 (by decide) ?_
            rw [hQ]
            exact ret_z C0 hP hD hS (by have e := Option.some.inj hf; rw [← e]; exact ⟨rfl, rfl⟩) rfl dX6_isUnder_20
  unfold k_X6_isUnder at hf
  refine lv_iload_n hx hb dX6_isUnder_0 rfl (lv_at hl 0 rfl) ?_
  refine lv_istore_n (lv' := [(2, .int a0), (0, .int a0), (1, .int a1)]) hx hb dX6_isUnder_1 rfl hl (by decide) rfl (fun ls hl => ?_)
  refine lv_iconst (v := 0) hx hb dX6_isUnder_2 (by decide) ?_
  refine lv_istore_n (lv' := [(3, .int 0), (2, .int a0), (0, .int a0), (1, .int a1)]) hx hb dX6_isUnder_3 rfl hl (by decide) rfl (fun ls hl => ?_)
  exact J4 100000 a0 0 hf _ _ hP hD hS _ (lv_sub hl [3, 1, 0] rfl)

-- X6 truthsBehind
noncomputable def k_X6_truthsBehind_13 (a1 : Int32) (cn : Nat) (cf : Nat → Nat → Int32) (cg : Nat → Nat → Nat → Int32) : Nat → Int32 → (Nat → Int32) → (Nat → Nat → Int32) → Option Nat → (Nat → Int32) → Option (Int32 × (Nat → Int32) × (Nat → Nat → Int32) × Option Nat × (Nat → Int32))
  | 0, _, _, _, _, _ => none
  | n + 1, x4, tf, tg, tc, tv => if a1 ≤ x4 then some ((tf 3), tf, tg, tc, tv) else b2 (k_X1_sound tf tg tc tv cn cf cg) (fun r2 tv_3 => b2 (k_X1_passDay r2 1000000 tf tg tc cn cf) (fun tf_5 tg_6 => k_X6_truthsBehind_13 a1 cn cf cg n (x4 + 1) tf_5 tg_6 tc tv_3))
noncomputable def k_X6_truthsBehind (a1 : Int32) (a2 : Int32) (nf : Nat → Int32) (ng : Nat → Nat → Int32) (nc : Option Nat) (tf0 : Nat → Int32) (tg0 : Nat → Nat → Int32) (tc0 : Option Nat) (tv0 : Nat → Int32) (cn : Nat) (cf : Nat → Nat → Int32) (cg : Nat → Nat → Nat → Int32) : Option (Int32 × (Nat → Int32) × (Nat → Nat → Int32) × Option Nat × (Nat → Int32)) := b3 (k_X6_begin nf ng nc tf0 tg0 tc0) (fun tf_1 tg_2 tc_3 => k_X6_truthsBehind_13 a1 cn cf cg 100000 0 (upd tf_1 1 a2) tg_2 tc_3 tv0)
set_option maxHeartbeats 4000000 in
set_option maxRecDepth 100000 in
theorem c_X6_truthsBehind {l : Launch} {D : va_G} {cA : Nat → ClassId} (oo : Nat) (qn : Nat → Nat) (qk : Nat → Nat) (qt : Nat → Nat) (qx : Nat → Nat) (qa : Nat → Nat) (ts : Nat) (wa : Nat) (qc : Nat → Nat → Nat) (pf : Nat → Int32) (sp : Option Nat) (nf : Nat → Int32) (ng : Nat → Nat → Int32) (nc : Option Nat) (tf0 : Nat → Int32) (tg0 : Nat → Nat → Int32) (tc0 : Option Nat) (tv0 : Nat → Int32) (cn : Nat) (cf : Nat → Nat → Int32) (cg : Nat → Nat → Nat → Int32) (a1 : Int32) (a2 : Int32) (o : Int32 × (Nat → Int32) × (Nat → Nat → Int32) × Option Nat × (Nat → Int32)) (hf : k_X6_truthsBehind a1 a2 nf ng nc tf0 tg0 tc0 tv0 cn cf cg = some o) : CI l D cA yX6_truthsBehind cX6_truthsBehind 5 (some .int) 4 96 [.ref oo, .int a1, .int a2] (List.flatten [(Po oo qn qk qt qx qa ts wa pf (chv qc sp)), (Cw qn cA (chv qc nc) nf ng), (Cw qt cA (chv qc tc0) tf0 tg0), (Vw (qt 15) cA tv0), (chPool cn qc cA cf cg)]) 0 0 (fun r w => r = o.1 ∧ w = (List.flatten [(Po oo qn qk qt qx qa ts wa pf (chv qc sp)), (Cw qn cA (chv qc nc) nf ng), (Cw qt cA (chv qc o.2.2.2.1) o.2.1 o.2.2.1), (Vw (qt 15) cA o.2.2.2.2), (chPool cn qc cA cf cg)])) := by
  intro sz
  refine met_start (by decide) rfl ?_
  intro p e s m args below meth c ls hsz hargs C0 hname hP hD hS hl
  generalize hAe : va_A (List.flatten [(Po oo qn qk qt qx qa ts wa pf (chv qc sp)), (Cw qn cA (chv qc nc) nf ng), (Cw qt cA (chv qc tc0) tf0 tg0), (Vw (qt 15) cA tv0), (chPool cn qc cA cf cg)]) sz = A at C0 hD hS ⊢
  obtain ⟨hx, hb, hr, hml, hown, hts, hlk, hK, hA⟩ := id C0
  replace hl : lv_has ls 5 [(0, .ref oo), (1, .int a1), (2, .int a2)] := hl
  obtain ⟨Q, hQ⟩ : ∃ Q : State → Prop, Q = QI below D A (fun r w => r = o.1 ∧ w = (List.flatten [(Po oo qn qk qt qx qa ts wa pf (chv qc sp)), (Cw qn cA (chv qc nc) nf ng), (Cw qt cA (chv qc o.2.2.2.1) o.2.1 o.2.2.1), (Vw (qt 15) cA o.2.2.2.2), (chPool cn qc cA cf cg)])) args s 0 0 := ⟨_, rfl⟩
  refine cast (by rw [hQ]) (?_ : W p l e (RMx 4 96 0 0) s m args below meth c s.heap [] 0 0 Q (F0 m 0 ls []))
  have J13 : ∀ n : Nat, ∀ (x4 : Int32) (tf : Nat → Int32) (tg : Nat → Nat → Int32) (tc : Option Nat) (tv : Nat → Int32), k_X6_truthsBehind_13 a1 cn cf cg n x4 tf tg tc tv = some o → ∀ (H : Heap) (locs : List Loc), va_P D vwCl (List.flatten [(Po oo qn qk qt qx qa ts wa pf (chv qc sp)), (Cw qn cA (chv qc nc) nf ng), (Cw qt cA (chv qc tc) tf tg), (Vw (qt 15) cA tv), (chPool cn qc cA cf cg)]) H → va_D A (List.flatten [(Po oo qn qk qt qx qa ts wa pf (chv qc sp)), (Cw qn cA (chv qc nc) nf ng), (Cw qt cA (chv qc tc) tf tg), (Vw (qt 15) cA tv), (chPool cn qc cA cf cg)]) → va_S A s.heap H locs → ∀ ls : Array Slot, lv_has ls 5 [(1, .int a1), (3, .ref (qt 0)), (4, .int x4)] → W p l e (RMx 4 96 0 0) s m args below meth c H locs 0 0 Q (F0 m 13 ls []) := by
    intro  n
    induction n with
    | zero =>
      intro x4 tf tg tc tv hf
      rw [k_X6_truthsBehind_13] at hf
      cases hf
    | succ n ih =>
      intro x4 tf tg tc tv hf H locs hP hD hS ls hl
      rw [k_X6_truthsBehind_13] at hf
      refine lv_iload hx hb dX6_truthsBehind_13 (lv_at hl 2 rfl) ?_
      refine lv_iload_n hx hb dX6_truthsBehind_15 rfl (lv_at hl 0 rfl) ?_
      refine lv_icmp_ge (tgt := 35) hx hb dX6_truthsBehind_16 (by decide) (fun c1 => ?_) (fun c1 => ?_)
      · replace hf := it_of c1 hf
        refine lv_aload_n hx hb dX6_truthsBehind_35 rfl (lv_at hl 1 rfl) ?_
        refine va_get (D := D) (ci := 1) (v := .int (tf 3)) (C := RX1) (T := TX1) (N := 16) hx hb hts fw_1 hown hK hP 7 rfl rfl 3 (by decide) (hts _ m_fieldLink_P_126_P_Cellar_truths_I) (fun _ h9 => h9) rfl dX6_truthsBehind_36 ?_
        rw [hQ]
        exact ret_i C0 hP hD hS (by have e := Option.some.inj hf; rw [← e]; exact ⟨rfl, rfl⟩) dX6_truthsBehind_39
      · replace hf := ie_of c1 hf
        refine lv_aload_n hx hb dX6_truthsBehind_19 rfl (lv_at hl 1 rfl) ?_
        refine lv_aload_n hx hb dX6_truthsBehind_20 rfl (lv_at hl 1 rfl) ?_
        obtain ⟨r2q, tv_3, hq4, hf⟩ := b2_of hf
        refine callVI (As := []) (rest := [.ref (qt 0)]) (wr := segpick [(Po oo qn qk qt qx qa ts wa pf (chv qc sp)), (Cw qn cA (chv qc nc) nf ng), (Cw qt cA (chv qc tc) tf tg), (Vw (qt 15) cA tv), (chPool cn qc cA cf cg)] [0, 1]) C0 (c_X1_sound qt qc tf tg tc tv cn cf cg _ hq4) lk_X6_132_X1_sound rfl hP hD hS (seg_out [(Po oo qn qk qt qx qa ts wa pf (chv qc sp)), (Cw qn cA (chv qc nc) nf ng), (Cw qt cA (chv qc tc) tf tg), (Vw (qt 15) cA tv), (chPool cn qc cA cf cg)] [2, 3, 4] [0, 1] 5 rfl (by decide)) 7 1 rfl rfl rfl hl.1 rfl rfl (Nat.le_of_ble_eq_true rfl) dX6_truthsBehind_21 ⟨Nat.zero_le _, Nat.zero_le _⟩ (fun r2 w H locs hw hP hD hS => ?_)
        obtain ⟨e1, e2⟩ := hw
        replace e1 : r2 = r2q := e1
        subst e1
        subst e2
        replace hP : va_P D vwCl (List.flatten [(Po oo qn qk qt qx qa ts wa pf (chv qc sp)), (Cw qn cA (chv qc nc) nf ng), (Cw qt cA (chv qc tc) tf tg), (Vw (qt 15) cA tv_3), (chPool cn qc cA cf cg)]) H := hP.perm (seg_out [(Po oo qn qk qt qx qa ts wa pf (chv qc sp)), (Cw qn cA (chv qc nc) nf ng), (Cw qt cA (chv qc tc) tf tg), (Vw (qt 15) cA tv_3), (chPool cn qc cA cf cg)] [2, 3, 4] [0, 1] 5 rfl (by decide)).symm
        replace hD : va_D A (List.flatten [(Po oo qn qk qt qx qa ts wa pf (chv qc sp)), (Cw qn cA (chv qc nc) nf ng), (Cw qt cA (chv qc tc) tf tg), (Vw (qt 15) cA tv_3), (chPool cn qc cA cf cg)]) := hD.perm (seg_out [(Po oo qn qk qt qx qa ts wa pf (chv qc sp)), (Cw qn cA (chv qc nc) nf ng), (Cw qt cA (chv qc tc) tf tg), (Vw (qt 15) cA tv_3), (chPool cn qc cA cf cg)] [2, 3, 4] [0, 1] 5 rfl (by decide)).symm
        refine lv_ldc (v := 1000000) hx hb hown (hts _ m_constant_P_155_1000000) dX6_truthsBehind_24 ?_
        obtain ⟨tf_5, tg_6, hq7, hf⟩ := b2_of hf
        refine callVV (As := [.int r2, .int 1000000]) (rest := []) (wr := segpick [(Po oo qn qk qt qx qa ts wa pf (chv qc sp)), (Cw qn cA (chv qc nc) nf ng), (Cw qt cA (chv qc tc) tf tg), (Vw (qt 15) cA tv_3), (chPool cn qc cA cf cg)] [0, 1, 3]) C0 (c_X1_passDay qt qc tf tg tc cn cf cg r2 1000000 _ hq7) lk_X6_272_X1_passDay rfl hP hD hS (seg_out [(Po oo qn qk qt qx qa ts wa pf (chv qc sp)), (Cw qn cA (chv qc nc) nf ng), (Cw qt cA (chv qc tc) tf tg), (Vw (qt 15) cA tv_3), (chPool cn qc cA cf cg)] [2, 4] [0, 1, 3] 5 rfl (by decide)) 7 1 rfl rfl rfl hl.1 rfl rfl (Nat.le_of_ble_eq_true rfl) dX6_truthsBehind_26 ⟨Nat.zero_le _, Nat.zero_le _⟩ (fun w H locs hw hP hD hS => ?_)
        have e2 := hw
        subst e2
        replace hP : va_P D vwCl (List.flatten [(Po oo qn qk qt qx qa ts wa pf (chv qc sp)), (Cw qn cA (chv qc nc) nf ng), (Cw qt cA (chv qc tc) tf_5 tg_6), (Vw (qt 15) cA tv_3), (chPool cn qc cA cf cg)]) H := hP.perm (seg_out [(Po oo qn qk qt qx qa ts wa pf (chv qc sp)), (Cw qn cA (chv qc nc) nf ng), (Cw qt cA (chv qc tc) tf_5 tg_6), (Vw (qt 15) cA tv_3), (chPool cn qc cA cf cg)] [2, 4] [0, 1, 3] 5 rfl (by decide)).symm
        replace hD : va_D A (List.flatten [(Po oo qn qk qt qx qa ts wa pf (chv qc sp)), (Cw qn cA (chv qc nc) nf ng), (Cw qt cA (chv qc tc) tf_5 tg_6), (Vw (qt 15) cA tv_3), (chPool cn qc cA cf cg)]) := hD.perm (seg_out [(Po oo qn qk qt qx qa ts wa pf (chv qc sp)), (Cw qn cA (chv qc nc) nf ng), (Cw qt cA (chv qc tc) tf_5 tg_6), (Vw (qt 15) cA tv_3), (chPool cn qc cA cf cg)] [2, 4] [0, 1, 3] 5 rfl (by decide)).symm
        refine lv_iinc (v := (x4 + 1)) (lv' := [(4, .int (x4 + 1)), (1, .int a1), (3, .ref (qt 0))]) hx hb dX6_truthsBehind_29 hl (k := 2) rfl rfl (by decide) rfl (fun ls hl => ?_)
        refine lv_goto (tgt := 13) hx hb dX6_truthsBehind_32 (by decide) ?_
        exact ih (x4 + 1) tf_5 tg_6 tc tv_3 hf _ _ hP hD hS _ (lv_sub hl [1, 2, 0] rfl)
  unfold k_X6_truthsBehind at hf
  refine lv_aload_n hx hb dX6_truthsBehind_0 rfl (lv_at hl 0 rfl) ?_
  obtain ⟨tf_1, tg_2, tc_3, hq4, hf⟩ := b3_of hf
  refine callVR (As := []) (rest := []) (wr := segpick [(Po oo qn qk qt qx qa ts wa pf (chv qc sp)), (Cw qn cA (chv qc nc) nf ng), (Cw qt cA (chv qc tc0) tf0 tg0), (Vw (qt 15) cA tv0), (chPool cn qc cA cf cg)] [3, 4]) C0 (c_X6_begin oo qn qk qt qx qa ts wa qc pf sp nf ng nc tf0 tg0 tc0 _ hq4) lk_X6_151_X6_begin rfl hP hD hS (seg_out [(Po oo qn qk qt qx qa ts wa pf (chv qc sp)), (Cw qn cA (chv qc nc) nf ng), (Cw qt cA (chv qc tc0) tf0 tg0), (Vw (qt 15) cA tv0), (chPool cn qc cA cf cg)] [0, 1, 2] [3, 4] 5 rfl (by decide)) 0 6 rfl rfl rfl hl.1 rfl rfl (Nat.le_of_ble_eq_true rfl) dX6_truthsBehind_1 ⟨Nat.zero_le _, Nat.zero_le _⟩ (fun rhq4_ w H locs hw hP hD hS => ?_)
  obtain ⟨e1, e2⟩ := hw
  subst e1
  subst e2
  replace hP : va_P D vwCl (List.flatten [(Po oo qn qk qt qx qa ts wa pf (chv qc sp)), (Cw qn cA (chv qc nc) nf ng), (Cw qt cA (chv qc tc_3) tf_1 tg_2), (Vw (qt 15) cA tv0), (chPool cn qc cA cf cg)]) H := hP.perm (seg_out [(Po oo qn qk qt qx qa ts wa pf (chv qc sp)), (Cw qn cA (chv qc nc) nf ng), (Cw qt cA (chv qc tc_3) tf_1 tg_2), (Vw (qt 15) cA tv0), (chPool cn qc cA cf cg)] [0, 1, 2] [3, 4] 5 rfl (by decide)).symm
  replace hD : va_D A (List.flatten [(Po oo qn qk qt qx qa ts wa pf (chv qc sp)), (Cw qn cA (chv qc nc) nf ng), (Cw qt cA (chv qc tc_3) tf_1 tg_2), (Vw (qt 15) cA tv0), (chPool cn qc cA cf cg)]) := hD.perm (seg_out [(Po oo qn qk qt qx qa ts wa pf (chv qc sp)), (Cw qn cA (chv qc nc) nf ng), (Cw qt cA (chv qc tc_3) tf_1 tg_2), (Vw (qt 15) cA tv0), (chPool cn qc cA cf cg)] [0, 1, 2] [3, 4] 5 rfl (by decide)).symm
  refine lv_astore_n (lv' := [(3, .ref (qt 0)), (0, .ref oo), (1, .int a1), (2, .int a2)]) hx hb dX6_truthsBehind_4 rfl hl (by decide) rfl (fun ls hl => ?_)
  refine lv_aload_n hx hb dX6_truthsBehind_5 rfl (lv_at hl 0 rfl) ?_
  refine lv_iload_n hx hb dX6_truthsBehind_6 rfl (lv_at hl 3 rfl) ?_
  refine va_put (D := D) (ci := 1) (v := .int a2) (ty := .int) (C := RX1) (T := TX1) (N := 16) hx hb hts fw_1 tyX1 tyX1_ok nmX1 hown hK hP hD hS 7 rfl rfl 1 (by decide) (hts _ m_fieldLink_P_135_P_Cellar_up_I) (fun _ h9 => h9) rfl (by decide +kernel) rfl rfl (Nat.le_of_ble_eq_true rfl) dX6_truthsBehind_7 (fun H locs hP hD hS => ?_)
  replace hP : va_P D vwCl (List.flatten [(Po oo qn qk qt qx qa ts wa pf (chv qc sp)), (Cw qn cA (chv qc nc) nf ng), (Cw qt cA (chv qc tc_3) (upd tf_1 1 a2) tg_2), (Vw (qt 15) cA tv0), (chPool cn qc cA cf cg)]) H := hP
  replace hD : va_D A (List.flatten [(Po oo qn qk qt qx qa ts wa pf (chv qc sp)), (Cw qn cA (chv qc nc) nf ng), (Cw qt cA (chv qc tc_3) (upd tf_1 1 a2) tg_2), (Vw (qt 15) cA tv0), (chPool cn qc cA cf cg)]) := hD
  refine lv_iconst (v := 0) hx hb dX6_truthsBehind_10 (by decide) ?_
  refine lv_istore (lv' := [(4, .int 0), (3, .ref (qt 0)), (0, .ref oo), (1, .int a1), (2, .int a2)]) hx hb dX6_truthsBehind_11 hl (by decide) rfl (fun ls hl => ?_)
  exact J13 100000 0 (upd tf_1 1 a2) tg_2 tc_3 tv0 hf _ _ hP hD hS _ (lv_sub hl [3, 1, 0] rfl)
-- J6 bitCount_0f7a4
noncomputable def k_J6_bitCount_0f7a4 (a0 : Int32) : Option Int32 := nm (a0 - (((Int32.toUInt32 a0 >>> (Int32.toUInt32 1 &&& Int32.toUInt32 31)).toInt32) &&& 1431655765)) (fun mm1 => nm ((mm1 &&& 858993459) + (((Int32.toUInt32 mm1 >>> (Int32.toUInt32 2 &&& Int32.toUInt32 31)).toInt32) &&& 858993459)) (fun mm2 => nm ((mm2 + ((Int32.toUInt32 mm2 >>> (Int32.toUInt32 4 &&& Int32.toUInt32 31)).toInt32)) &&& 252645135) (fun mm3 => nm (mm3 + ((Int32.toUInt32 mm3 >>> (Int32.toUInt32 8 &&& Int32.toUInt32 31)).toInt32)) (fun mm4 => nm (mm4 + ((Int32.toUInt32 mm4 >>> (Int32.toUInt32 16 &&& Int32.toUInt32 31)).toInt32)) (fun mm5 => some (mm5 &&& 63))))))
set_option maxHeartbeats 4000000 in
set_option maxRecDepth 100000 in
theorem c_J6_bitCount_0f7a4 {l : Launch} {D : va_G} {cA : Nat → ClassId}   (a0 : Int32) (o : Int32) (hf : k_J6_bitCount_0f7a4 a0 = some o) : CI l D cA yJ6_bitCount_0f7a4 cJ6_bitCount_0f7a4 1 (some .int) 0 0 [.int a0] ([] : va_W) 0 0 (fun r w => r = o ∧ w = ([] : va_W)) := by
  intro sz
  refine met_start (by decide) rfl ?_
  intro p e s m args below meth c ls hsz hargs C0 hname hP hD hS hl
  generalize hAe : va_A ([] : va_W) sz = A at C0 hD hS ⊢
  obtain ⟨hx, hb, hr, hml, hown, hts, hlk, hK, hA⟩ := id C0
  replace hl : lv_has ls 1 [(0, .int a0)] := hl
  obtain ⟨Q, hQ⟩ : ∃ Q : State → Prop, Q = QI below D A (fun r w => r = o ∧ w = ([] : va_W)) args s 0 0 := ⟨_, rfl⟩
  refine cast (by rw [hQ]) (?_ : W p l e (RMx 0 0 0 0) s m args below meth c s.heap [] 0 0 Q (F0 m 0 ls []))
  unfold k_J6_bitCount_0f7a4 at hf
  refine lv_iload_n hx hb dJ6_bitCount_0f7a4_0 rfl (lv_at hl 0 rfl) ?_
  refine lv_iload_n hx hb dJ6_bitCount_0f7a4_1 rfl (lv_at hl 0 rfl) ?_
  refine lv_iconst (v := 1) hx hb dJ6_bitCount_0f7a4_2 (by decide) ?_
  refine lv_iushr (v := (Int32.toUInt32 a0 >>> (Int32.toUInt32 1 &&& Int32.toUInt32 31)).toInt32) hx hb dJ6_bitCount_0f7a4_3 rfl ?_
  refine lv_ldcw (v := 1431655765) hx hb hown (hts _ m_constant_java_lang_Integer_265_1431655765) dJ6_bitCount_0f7a4_4 ?_
  refine lv_iand hx hb dJ6_bitCount_0f7a4_7 ?_
  refine lv_isub hx hb dJ6_bitCount_0f7a4_8 ?_
  refine lv_topi (fun mm1 emm1 => ?_)
  replace hf := nm_i emm1 hf
  refine lv_istore_n (lv' := [(0, .int mm1)]) hx hb dJ6_bitCount_0f7a4_9 rfl hl (by decide) rfl (fun ls hl => ?_)
  refine lv_iload_n hx hb dJ6_bitCount_0f7a4_10 rfl (lv_at hl 0 rfl) ?_
  refine lv_ldcw (v := 858993459) hx hb hown (hts _ m_constant_java_lang_Integer_266_858993459) dJ6_bitCount_0f7a4_11 ?_
  refine lv_iand hx hb dJ6_bitCount_0f7a4_14 ?_
  refine lv_iload_n hx hb dJ6_bitCount_0f7a4_15 rfl (lv_at hl 0 rfl) ?_
  refine lv_iconst (v := 2) hx hb dJ6_bitCount_0f7a4_16 (by decide) ?_
  refine lv_iushr (v := (Int32.toUInt32 mm1 >>> (Int32.toUInt32 2 &&& Int32.toUInt32 31)).toInt32) hx hb dJ6_bitCount_0f7a4_17 rfl ?_
  refine lv_ldcw (v := 858993459) hx hb hown (hts _ m_constant_java_lang_Integer_266_858993459) dJ6_bitCount_0f7a4_18 ?_
  refine lv_iand hx hb dJ6_bitCount_0f7a4_21 ?_
  refine lv_iadd hx hb dJ6_bitCount_0f7a4_22 ?_
  refine lv_topi (fun mm2 emm2 => ?_)
  replace hf := nm_i emm2 hf
  refine lv_istore_n (lv' := [(0, .int mm2)]) hx hb dJ6_bitCount_0f7a4_23 rfl hl (by decide) rfl (fun ls hl => ?_)
  refine lv_iload_n hx hb dJ6_bitCount_0f7a4_24 rfl (lv_at hl 0 rfl) ?_
  refine lv_iload_n hx hb dJ6_bitCount_0f7a4_25 rfl (lv_at hl 0 rfl) ?_
  refine lv_iconst (v := 4) hx hb dJ6_bitCount_0f7a4_26 (by decide) ?_
  refine lv_iushr (v := (Int32.toUInt32 mm2 >>> (Int32.toUInt32 4 &&& Int32.toUInt32 31)).toInt32) hx hb dJ6_bitCount_0f7a4_27 rfl ?_
  refine lv_iadd hx hb dJ6_bitCount_0f7a4_28 ?_
  refine lv_ldcw (v := 252645135) hx hb hown (hts _ m_constant_java_lang_Integer_267_252645135) dJ6_bitCount_0f7a4_29 ?_
  refine lv_iand hx hb dJ6_bitCount_0f7a4_32 ?_
  refine lv_topi (fun mm3 emm3 => ?_)
  replace hf := nm_i emm3 hf
  refine lv_istore_n (lv' := [(0, .int mm3)]) hx hb dJ6_bitCount_0f7a4_33 rfl hl (by decide) rfl (fun ls hl => ?_)
  refine lv_iload_n hx hb dJ6_bitCount_0f7a4_34 rfl (lv_at hl 0 rfl) ?_
  refine lv_iload_n hx hb dJ6_bitCount_0f7a4_35 rfl (lv_at hl 0 rfl) ?_
  refine lv_bipush (v := 8) hx hb dJ6_bitCount_0f7a4_36 (by decide) ?_
  refine lv_iushr (v := (Int32.toUInt32 mm3 >>> (Int32.toUInt32 8 &&& Int32.toUInt32 31)).toInt32) hx hb dJ6_bitCount_0f7a4_38 rfl ?_
  refine lv_iadd hx hb dJ6_bitCount_0f7a4_39 ?_
  refine lv_topi (fun mm4 emm4 => ?_)
  replace hf := nm_i emm4 hf
  refine lv_istore_n (lv' := [(0, .int mm4)]) hx hb dJ6_bitCount_0f7a4_40 rfl hl (by decide) rfl (fun ls hl => ?_)
  refine lv_iload_n hx hb dJ6_bitCount_0f7a4_41 rfl (lv_at hl 0 rfl) ?_
  refine lv_iload_n hx hb dJ6_bitCount_0f7a4_42 rfl (lv_at hl 0 rfl) ?_
  refine lv_bipush (v := 16) hx hb dJ6_bitCount_0f7a4_43 (by decide) ?_
  refine lv_iushr (v := (Int32.toUInt32 mm4 >>> (Int32.toUInt32 16 &&& Int32.toUInt32 31)).toInt32) hx hb dJ6_bitCount_0f7a4_45 rfl ?_
  refine lv_iadd hx hb dJ6_bitCount_0f7a4_46 ?_
  refine lv_topi (fun mm5 emm5 => ?_)
  replace hf := nm_i emm5 hf
  refine lv_istore_n (lv' := [(0, .int mm5)]) hx hb dJ6_bitCount_0f7a4_47 rfl hl (by decide) rfl (fun ls hl => ?_)
  refine lv_iload_n hx hb dJ6_bitCount_0f7a4_48 rfl (lv_at hl 0 rfl) ?_
  refine lv_bipush (v := 63) hx hb dJ6_bitCount_0f7a4_49 (by decide) ?_
  refine lv_iand hx hb dJ6_bitCount_0f7a4_51 ?_
  rw [hQ]
  exact ret_i C0 hP hD hS (by have e := Option.some.inj hf; rw [← e]; exact ⟨rfl, rfl⟩) dJ6_bitCount_0f7a4_52
-- X6 bestUp
noncomputable def k_X6_bestUp_12 (a1 : Int32) (nf : Nat → Int32) (ng : Nat → Nat → Int32) (nc : Option Nat) (cn : Nat) (cf : Nat → Nat → Int32) (cg : Nat → Nat → Nat → Int32) : Nat → Int32 → Int32 → Int32 → (Nat → Int32) → (Nat → Nat → Int32) → Option Nat → (Nat → Int32) → Option (Int32 × (Nat → Int32) × (Nat → Nat → Int32) × Option Nat × (Nat → Int32))
  | 0, _, _, _, _, _, _, _ => none
  | n + 1, x2, x3, x4, tf, tg, tc, tv => b1 (k_X1_all nf) (fun r1 => if r1 < x4 then some (x2, tf, tg, tc, tv) else b5 (k_X6_truthsBehind a1 x4 nf ng nc tf tg tc tv cn cf cg) (fun r4 tf_5 tg_6 tc_7 tv_8 => if x3 < r4 then k_X6_bestUp_12 a1 nf ng nc cn cf cg n x4 r4 (x4 + 1) tf_5 tg_6 tc_7 tv_8 else if r4 = x3 then b1 (k_J6_bitCount_0f7a4 x4) (fun r12 => b1 (k_J6_bitCount_0f7a4 x2) (fun r14 => if r14 ≤ r12 then k_X6_bestUp_12 a1 nf ng nc cn cf cg n x2 x3 (x4 + 1) tf_5 tg_6 tc_7 tv_8 else k_X6_bestUp_12 a1 nf ng nc cn cf cg n x4 r4 (x4 + 1) tf_5 tg_6 tc_7 tv_8)) else k_X6_bestUp_12 a1 nf ng nc cn cf cg n x2 x3 (x4 + 1) tf_5 tg_6 tc_7 tv_8))
noncomputable def k_X6_bestUp (a1 : Int32) (nf : Nat → Int32) (ng : Nat → Nat → Int32) (nc : Option Nat) (tf0 : Nat → Int32) (tg0 : Nat → Nat → Int32) (tc0 : Option Nat) (tv0 : Nat → Int32) (cn : Nat) (cf : Nat → Nat → Int32) (cg : Nat → Nat → Nat → Int32) : Option (Int32 × (Nat → Int32) × (Nat → Nat → Int32) × Option Nat × (Nat → Int32)) := b5 (k_X6_truthsBehind a1 0 nf ng nc tf0 tg0 tc0 tv0 cn cf cg) (fun r1 tf_2 tg_3 tc_4 tv_5 => k_X6_bestUp_12 a1 nf ng nc cn cf cg 100000 0 r1 1 tf_2 tg_3 tc_4 tv_5)
set_option maxHeartbeats 4000000 in
set_option maxRecDepth 100000 in
theorem c_X6_bestUp {l : Launch} {D : va_G} {cA : Nat → ClassId} (oo : Nat) (qn : Nat → Nat) (qk : Nat → Nat) (qt : Nat → Nat) (qx : Nat → Nat) (qa : Nat → Nat) (ts : Nat) (wa : Nat) (qc : Nat → Nat → Nat) (pf : Nat → Int32) (sp : Option Nat) (nf : Nat → Int32) (ng : Nat → Nat → Int32) (nc : Option Nat) (tf0 : Nat → Int32) (tg0 : Nat → Nat → Int32) (tc0 : Option Nat) (tv0 : Nat → Int32) (cn : Nat) (cf : Nat → Nat → Int32) (cg : Nat → Nat → Nat → Int32) (a1 : Int32) (o : Int32 × (Nat → Int32) × (Nat → Nat → Int32) × Option Nat × (Nat → Int32)) (hf : k_X6_bestUp a1 nf ng nc tf0 tg0 tc0 tv0 cn cf cg = some o) : CI l D cA yX6_bestUp cX6_bestUp 6 (some .int) 5 120 [.ref oo, .int a1] (List.flatten [(Po oo qn qk qt qx qa ts wa pf (chv qc sp)), (Cw qn cA (chv qc nc) nf ng), (Cw qt cA (chv qc tc0) tf0 tg0), (Vw (qt 15) cA tv0), (chPool cn qc cA cf cg)]) 0 0 (fun r w => r = o.1 ∧ w = (List.flatten [(Po oo qn qk qt qx qa ts wa pf (chv qc sp)), (Cw qn cA (chv qc nc) nf ng), (Cw qt cA (chv qc o.2.2.2.1) o.2.1 o.2.2.1), (Vw (qt 15) cA o.2.2.2.2), (chPool cn qc cA cf cg)])) := by
  intro sz
  refine met_start (by decide) rfl ?_
  intro p e s m args below meth c ls hsz hargs C0 hname hP hD hS hl
  generalize hAe : va_A (List.flatten [(Po oo qn qk qt qx qa ts wa pf (chv qc sp)), (Cw qn cA (chv qc nc) nf ng), (Cw qt cA (chv qc tc0) tf0 tg0), (Vw (qt 15) cA tv0), (chPool cn qc cA cf cg)]) sz = A at C0 hD hS ⊢
  obtain ⟨hx, hb, hr, hml, hown, hts, hlk, hK, hA⟩ := id C0
  replace hl : lv_has ls 6 [(0, .ref oo), (1, .int a1)] := hl
  obtain ⟨Q, hQ⟩ : ∃ Q : State → Prop, Q = QI below D A (fun r w => r = o.1 ∧ w = (List.flatten [(Po oo qn qk qt qx qa ts wa pf (chv qc sp)), (Cw qn cA (chv qc nc) nf ng), (Cw qt cA (chv qc o.2.2.2.1) o.2.1 o.2.2.1), (Vw (qt 15) cA o.2.2.2.2), (chPool cn qc cA cf cg)])) args s 0 0 := ⟨_, rfl⟩
  refine cast (by rw [hQ]) (?_ : W p l e (RMx 5 120 0 0) s m args below meth c s.heap [] 0 0 Q (F0 m 0 ls []))
  have J12 : ∀ n : Nat, ∀ (x2 : Int32) (x3 : Int32) (x4 : Int32) (tf : Nat → Int32) (tg : Nat → Nat → Int32) (tc : Option Nat) (tv : Nat → Int32), k_X6_bestUp_12 a1 nf ng nc cn cf cg n x2 x3 x4 tf tg tc tv = some o → ∀ (H : Heap) (locs : List Loc), va_P D vwCl (List.flatten [(Po oo qn qk qt qx qa ts wa pf (chv qc sp)), (Cw qn cA (chv qc nc) nf ng), (Cw qt cA (chv qc tc) tf tg), (Vw (qt 15) cA tv), (chPool cn qc cA cf cg)]) H → va_D A (List.flatten [(Po oo qn qk qt qx qa ts wa pf (chv qc sp)), (Cw qn cA (chv qc nc) nf ng), (Cw qt cA (chv qc tc) tf tg), (Vw (qt 15) cA tv), (chPool cn qc cA cf cg)]) → va_S A s.heap H locs → ∀ ls : Array Slot, lv_has ls 6 [(0, .ref oo), (1, .int a1), (2, .int x2), (3, .int x3), (4, .int x4)] → W p l e (RMx 5 120 0 0) s m args below meth c H locs 0 0 Q (F0 m 12 ls []) := by
    intro  n
    induction n with
    | zero =>
      intro x2 x3 x4 tf tg tc tv hf
      rw [k_X6_bestUp_12] at hf
      cases hf
    | succ n ih =>
      intro x2 x3 x4 tf tg tc tv hf H locs hP hD hS ls hl
      rw [k_X6_bestUp_12] at hf
      refine lv_iload hx hb dX6_bestUp_12 (lv_at hl 4 rfl) ?_
      refine lv_aload_n hx hb dX6_bestUp_14 rfl (lv_at hl 0 rfl) ?_
      refine va_get (D := D) (ci := 6) (v := .ref (qn 0)) (C := RX6) (T := TX6) (N := 10) hx hb hts fw_6 hown hK hP 0 rfl rfl 0 (by decide) (hts _ m_fieldLink_P_12_P_now_LP_Cellar) (fun _ h9 => h9) rfl dX6_bestUp_15 ?_
      obtain ⟨r1q, hq2, hf⟩ := b1_of hf
      refine callVI (As := []) (rest := [.int x4]) (wr := segpick [(Po oo qn qk qt qx qa ts wa pf (chv qc sp)), (Cw qn cA (chv qc nc) nf ng), (Cw qt cA (chv qc tc) tf tg), (Vw (qt 15) cA tv), (chPool cn qc cA cf cg)] [0, 2, 3, 4]) C0 (c_X1_all qn qc nf ng nc _ hq2) lk_X6_275_X1_all rfl hP hD hS (seg_out [(Po oo qn qk qt qx qa ts wa pf (chv qc sp)), (Cw qn cA (chv qc nc) nf ng), (Cw qt cA (chv qc tc) tf tg), (Vw (qt 15) cA tv), (chPool cn qc cA cf cg)] [1] [0, 2, 3, 4] 5 rfl (by decide)) 1 1 rfl rfl rfl hl.1 rfl rfl (Nat.le_of_ble_eq_true rfl) dX6_bestUp_18 ⟨Nat.zero_le _, Nat.zero_le _⟩ (fun r1 w H locs hw hP hD hS => ?_)
      obtain ⟨e1, e2⟩ := hw
      replace e1 : r1 = r1q := e1
      subst e1
      subst e2
      replace hP : va_P D vwCl (List.flatten [(Po oo qn qk qt qx qa ts wa pf (chv qc sp)), (Cw qn cA (chv qc nc) nf ng), (Cw qt cA (chv qc tc) tf tg), (Vw (qt 15) cA tv), (chPool cn qc cA cf cg)]) H := hP.perm (seg_out [(Po oo qn qk qt qx qa ts wa pf (chv qc sp)), (Cw qn cA (chv qc nc) nf ng), (Cw qt cA (chv qc tc) tf tg), (Vw (qt 15) cA tv), (chPool cn qc cA cf cg)] [1] [0, 2, 3, 4] 5 rfl (by decide)).symm
      replace hD : va_D A (List.flatten [(Po oo qn qk qt qx qa ts wa pf (chv qc sp)), (Cw qn cA (chv qc nc) nf ng), (Cw qt cA (chv qc tc) tf tg), (Vw (qt 15) cA tv), (chPool cn qc cA cf cg)]) := hD.perm (seg_out [(Po oo qn qk qt qx qa ts wa pf (chv qc sp)), (Cw qn cA (chv qc nc) nf ng), (Cw qt cA (chv qc tc) tf tg), (Vw (qt 15) cA tv), (chPool cn qc cA cf cg)] [1] [0, 2, 3, 4] 5 rfl (by decide)).symm
      refine lv_icmp_gt (tgt := 69) hx hb dX6_bestUp_21 (by decide) (fun c3 => ?_) (fun c3 => ?_)
      · replace hf := it_of c3 hf
        refine lv_iload_n hx hb dX6_bestUp_69 rfl (lv_at hl 2 rfl) ?_
        rw [hQ]
        exact ret_i C0 hP hD hS (by have e := Option.some.inj hf; rw [← e]; exact ⟨rfl, rfl⟩) dX6_bestUp_70
      · replace hf := ie_of c3 hf
        refine lv_aload_n hx hb dX6_bestUp_24 rfl (lv_at hl 0 rfl) ?_
        refine lv_iload_n hx hb dX6_bestUp_25 rfl (lv_at hl 1 rfl) ?_
        refine lv_iload hx hb dX6_bestUp_26 (lv_at hl 4 rfl) ?_
        obtain ⟨r4q, tf_5, tg_6, tc_7, tv_8, hq9, hf⟩ := b5_of hf
        refine callVI (As := [.int a1, .int x4]) (rest := []) (wr := []) C0 (c_X6_truthsBehind oo qn qk qt qx qa ts wa qc pf sp nf ng nc tf tg tc tv cn cf cg a1 x4 _ hq9) lk_X6_159_X6_truthsBehind rfl hP hD hS perm_nil 0 6 rfl rfl rfl hl.1 rfl rfl (Nat.le_of_ble_eq_true rfl) dX6_bestUp_28 ⟨Nat.zero_le _, Nat.zero_le _⟩ (fun r4 w H locs hw hP hD hS => ?_)
        obtain ⟨e1, e2⟩ := hw
        replace e1 : r4 = r4q := e1
        subst e1
        subst e2
        replace hP : va_P D vwCl (List.flatten [(Po oo qn qk qt qx qa ts wa pf (chv qc sp)), (Cw qn cA (chv qc nc) nf ng), (Cw qt cA (chv qc tc_7) tf_5 tg_6), (Vw (qt 15) cA tv_8), (chPool cn qc cA cf cg)]) H := hP.nil
        replace hD : va_D A (List.flatten [(Po oo qn qk qt qx qa ts wa pf (chv qc sp)), (Cw qn cA (chv qc nc) nf ng), (Cw qt cA (chv qc tc_7) tf_5 tg_6), (Vw (qt 15) cA tv_8), (chPool cn qc cA cf cg)]) := hD.nil
        refine lv_istore (lv' := [(5, .int r4), (0, .ref oo), (1, .int a1), (2, .int x2), (3, .int x3), (4, .int x4)]) hx hb dX6_bestUp_31 hl (by decide) rfl (fun ls hl => ?_)
        refine lv_iload hx hb dX6_bestUp_33 (lv_at hl 0 rfl) ?_
        refine lv_iload_n hx hb dX6_bestUp_35 rfl (lv_at hl 4 rfl) ?_
        refine lv_icmp_gt (tgt := 57) hx hb dX6_bestUp_36 (by decide) (fun c10 => ?_) (fun c10 => ?_)
        · replace hf := it_of c10 hf
          refine lv_iload hx hb dX6_bestUp_57 (lv_at hl 5 rfl) ?_
          refine lv_istore_n (lv' := [(2, .int x4), (5, .int r4), (0, .ref oo), (1, .int a1), (3, .int x3), (4, .int x4)]) hx hb dX6_bestUp_59 rfl hl (by decide) rfl (fun ls hl => ?_)
          refine lv_iload hx hb dX6_bestUp_60 (lv_at hl 1 rfl) ?_
          refine lv_istore_n (lv' := [(3, .int r4), (2, .int x4), (5, .int r4), (0, .ref oo), (1, .int a1), (4, .int x4)]) hx hb dX6_bestUp_62 rfl hl (by decide) rfl (fun ls hl => ?_)
          refine lv_iinc (v := (x4 + 1)) (lv' := [(4, .int (x4 + 1)), (3, .int r4), (2, .int x4), (5, .int r4), (0, .ref oo), (1, .int a1)]) hx hb dX6_bestUp_63 hl (k := 5) rfl rfl (by decide) rfl (fun ls hl => ?_)
          refine lv_goto (tgt := 12) hx hb dX6_bestUp_66 (by decide) ?_
          exact ih x4 r4 (x4 + 1) tf_5 tg_6 tc_7 tv_8 hf _ _ hP hD hS _ (lv_sub hl [4, 5, 2, 1, 0] rfl)
        · replace hf := ie_of c10 hf
          refine lv_iload hx hb dX6_bestUp_39 (lv_at hl 0 rfl) ?_
          refine lv_iload_n hx hb dX6_bestUp_41 rfl (lv_at hl 4 rfl) ?_
          refine lv_icmp_ne (tgt := 63) hx hb dX6_bestUp_42 (by decide) (fun c11 => ?_) (fun c11 => ?_)
          · replace hf := ie_of c11 hf
            refine lv_iinc (v := (x4 + 1)) (lv' := [(4, .int (x4 + 1)), (5, .int r4), (0, .ref oo), (1, .int a1), (2, .int x2), (3, .int x3)]) hx hb dX6_bestUp_63 hl (k := 5) rfl rfl (by decide) rfl (fun ls hl => ?_)
            refine lv_goto (tgt := 12) hx hb dX6_bestUp_66 (by decide) ?_
            exact ih x2 x3 (x4 + 1) tf_5 tg_6 tc_7 tv_8 hf _ _ hP hD hS _ (lv_sub hl [2, 3, 4, 5, 0] rfl)
          · replace hf := it_of c11 hf
            refine lv_iload hx hb dX6_bestUp_45 (lv_at hl 5 rfl) ?_
            obtain ⟨r12q, hq13, hf⟩ := b1_of hf
            refine callSI (As := [.int x4]) (rest := []) (wr := (List.flatten [(Po oo qn qk qt qx qa ts wa pf (chv qc sp)), (Cw qn cA (chv qc nc) nf ng), (Cw qt cA (chv qc tc_7) tf_5 tg_6), (Vw (qt 15) cA tv_8), (chPool cn qc cA cf cg)])) C0 (c_J6_bitCount_0f7a4 x4 _ hq13) lk_X6_184_J6_bitCount_0f7a4 rfl hP hD hS (List.Perm.refl _) hl.1 rfl rfl (Nat.le_of_ble_eq_true rfl) dX6_bestUp_47 ⟨Nat.zero_le _, Nat.zero_le _⟩ (fun r12 w H locs hw hP hD hS => ?_)
            obtain ⟨e1, e2⟩ := hw
            replace e1 : r12 = r12q := e1
            subst e1
            subst e2
            replace hP : va_P D vwCl (List.flatten [(Po oo qn qk qt qx qa ts wa pf (chv qc sp)), (Cw qn cA (chv qc nc) nf ng), (Cw qt cA (chv qc tc_7) tf_5 tg_6), (Vw (qt 15) cA tv_8), (chPool cn qc cA cf cg)]) H := hP
            replace hD : va_D A (List.flatten [(Po oo qn qk qt qx qa ts wa pf (chv qc sp)), (Cw qn cA (chv qc nc) nf ng), (Cw qt cA (chv qc tc_7) tf_5 tg_6), (Vw (qt 15) cA tv_8), (chPool cn qc cA cf cg)]) := hD
            refine lv_iload_n hx hb dX6_bestUp_50 rfl (lv_at hl 3 rfl) ?_
            obtain ⟨r14q, hq15, hf⟩ := b1_of hf
            refine callSI (As := [.int x2]) (rest := [.int r12]) (wr := (List.flatten [(Po oo qn qk qt qx qa ts wa pf (chv qc sp)), (Cw qn cA (chv qc nc) nf ng), (Cw qt cA (chv qc tc_7) tf_5 tg_6), (Vw (qt 15) cA tv_8), (chPool cn qc cA cf cg)])) C0 (c_J6_bitCount_0f7a4 x2 _ hq15) lk_X6_184_J6_bitCount_0f7a4 rfl hP hD hS (List.Perm.refl _) hl.1 rfl rfl (Nat.le_of_ble_eq_true rfl) dX6_bestUp_51 ⟨Nat.zero_le _, Nat.zero_le _⟩ (fun r14 w H locs hw hP hD hS => ?_)
            obtain ⟨e1, e2⟩ := hw
            replace e1 : r14 = r14q := e1
            subst e1
            subst e2
            replace hP : va_P D vwCl (List.flatten [(Po oo qn qk qt qx qa ts wa pf (chv qc sp)), (Cw qn cA (chv qc nc) nf ng), (Cw qt cA (chv qc tc_7) tf_5 tg_6), (Vw (qt 15) cA tv_8), (chPool cn qc cA cf cg)]) H := hP
            replace hD : va_D A (List.flatten [(Po oo qn qk qt qx qa ts wa pf (chv qc sp)), (Cw qn cA (chv qc nc) nf ng), (Cw qt cA (chv qc tc_7) tf_5 tg_6), (Vw (qt 15) cA tv_8), (chPool cn qc cA cf cg)]) := hD
            refine lv_icmp_ge (tgt := 63) hx hb dX6_bestUp_54 (by decide) (fun c16 => ?_) (fun c16 => ?_)
            · replace hf := it_of c16 hf
              refine lv_iinc (v := (x4 + 1)) (lv' := [(4, .int (x4 + 1)), (5, .int r4), (0, .ref oo), (1, .int a1), (2, .int x2), (3, .int x3)]) hx hb dX6_bestUp_63 hl (k := 5) rfl rfl (by decide) rfl (fun ls hl => ?_)
              refine lv_goto (tgt := 12) hx hb dX6_bestUp_66 (by decide) ?_
              exact ih x2 x3 (x4 + 1) tf_5 tg_6 tc_7 tv_8 hf _ _ hP hD hS _ (lv_sub hl [2, 3, 4, 5, 0] rfl)
            · replace hf := ie_of c16 hf
              refine lv_iload hx hb dX6_bestUp_57 (lv_at hl 5 rfl) ?_
              refine lv_istore_n (lv' := [(2, .int x4), (5, .int r4), (0, .ref oo), (1, .int a1), (3, .int x3), (4, .int x4)]) hx hb dX6_bestUp_59 rfl hl (by decide) rfl (fun ls hl => ?_)
              refine lv_iload hx hb dX6_bestUp_60 (lv_at hl 1 rfl) ?_
              refine lv_istore_n (lv' := [(3, .int r4), (2, .int x4), (5, .int r4), (0, .ref oo), (1, .int a1), (4, .int x4)]) hx hb dX6_bestUp_62 rfl hl (by decide) rfl (fun ls hl => ?_)
              refine lv_iinc (v := (x4 + 1)) (lv' := [(4, .int (x4 + 1)), (3, .int r4), (2, .int x4), (5, .int r4), (0, .ref oo), (1, .int a1)]) hx hb dX6_bestUp_63 hl (k := 5) rfl rfl (by decide) rfl (fun ls hl => ?_)
              refine lv_goto (tgt := 12) hx hb dX6_bestUp_66 (by decide) ?_
              exact ih x4 r4 (x4 + 1) tf_5 tg_6 tc_7 tv_8 hf _ _ hP hD hS _ (lv_sub hl [4, 5, 2, 1, 0] rfl)
  unfold k_X6_bestUp at hf
  refine lv_iconst (v := 0) hx hb dX6_bestUp_0 (by decide) ?_
  refine lv_istore_n (lv' := [(2, .int 0), (0, .ref oo), (1, .int a1)]) hx hb dX6_bestUp_1 rfl hl (by decide) rfl (fun ls hl => ?_)
  refine lv_aload_n hx hb dX6_bestUp_2 rfl (lv_at hl 1 rfl) ?_
  refine lv_iload_n hx hb dX6_bestUp_3 rfl (lv_at hl 2 rfl) ?_
  refine lv_iconst (v := 0) hx hb dX6_bestUp_4 (by decide) ?_
  obtain ⟨r1q, tf_2, tg_3, tc_4, tv_5, hq6, hf⟩ := b5_of hf
  refine callVI (As := [.int a1, .int 0]) (rest := []) (wr := []) C0 (c_X6_truthsBehind oo qn qk qt qx qa ts wa qc pf sp nf ng nc tf0 tg0 tc0 tv0 cn cf cg a1 0 _ hq6) lk_X6_159_X6_truthsBehind rfl hP hD hS perm_nil 0 6 rfl rfl rfl hl.1 rfl rfl (Nat.le_of_ble_eq_true rfl) dX6_bestUp_5 ⟨Nat.zero_le _, Nat.zero_le _⟩ (fun r1 w H locs hw hP hD hS => ?_)
  obtain ⟨e1, e2⟩ := hw
  replace e1 : r1 = r1q := e1
  subst e1
  subst e2
  replace hP : va_P D vwCl (List.flatten [(Po oo qn qk qt qx qa ts wa pf (chv qc sp)), (Cw qn cA (chv qc nc) nf ng), (Cw qt cA (chv qc tc_4) tf_2 tg_3), (Vw (qt 15) cA tv_5), (chPool cn qc cA cf cg)]) H := hP.nil
  replace hD : va_D A (List.flatten [(Po oo qn qk qt qx qa ts wa pf (chv qc sp)), (Cw qn cA (chv qc nc) nf ng), (Cw qt cA (chv qc tc_4) tf_2 tg_3), (Vw (qt 15) cA tv_5), (chPool cn qc cA cf cg)]) := hD.nil
  refine lv_istore_n (lv' := [(3, .int r1), (2, .int 0), (0, .ref oo), (1, .int a1)]) hx hb dX6_bestUp_8 rfl hl (by decide) rfl (fun ls hl => ?_)
  refine lv_iconst (v := 1) hx hb dX6_bestUp_9 (by decide) ?_
  refine lv_istore (lv' := [(4, .int 1), (3, .int r1), (2, .int 0), (0, .ref oo), (1, .int a1)]) hx hb dX6_bestUp_10 hl (by decide) rfl (fun ls hl => ?_)
  exact J12 100000 0 r1 1 tf_2 tg_3 tc_4 tv_5 hf _ _ hP hD hS _ (lv_sub hl [3, 4, 2, 1, 0] rfl)
-- X6 fright
noncomputable def k_X6_fright_38 (a1 : Int32) (nf : Nat → Int32) (ng : Nat → Nat → Int32) (nc : Option Nat) (cn : Nat) (cf : Nat → Nat → Int32) (cg : Nat → Nat → Nat → Int32) (kc5 : Int32 → Int32 → (Nat → Int32) → (Nat → Nat → Int32) → Option Nat → (Nat → Int32) → Option (Int32 × (Nat → Int32) × (Nat → Nat → Int32) × Option Nat × (Nat → Int32))) (x2 : Int32) (x3 : Int32) (t0 : Int32) (tf : Nat → Int32) (tg : Nat → Nat → Int32) (tc : Option Nat) (tv : Nat → Int32) : Option (Int32 × (Nat → Int32) × (Nat → Nat → Int32) × Option Nat × (Nat → Int32)) := if t0 = 0 then kc5 x2 (x3 + 1) tf tg tc tv else b1 (k_X1_all nf) (fun r2 => b5 (k_X6_truthsBehind a1 (r2 &&& (x3 ^^^ (-1))) nf ng nc tf tg tc tv cn cf cg) (fun r4 tf_5 tg_6 tc_7 tv_8 => if r4 ≤ (nf 3) then kc5 x2 (x3 + 1) tf_5 tg_6 tc_7 tv_8 else kc5 x3 (x3 + 1) tf_5 tg_6 tc_7 tv_8))
noncomputable def k_X6_fright_33 (a1 : Int32) (nf : Nat → Int32) (ng : Nat → Nat → Int32) (nc : Option Nat) (cn : Nat) (cf : Nat → Nat → Int32) (cg : Nat → Nat → Nat → Int32) (kc5 : Int32 → Int32 → (Nat → Int32) → (Nat → Nat → Int32) → Option Nat → (Nat → Int32) → Option (Int32 × (Nat → Int32) × (Nat → Nat → Int32) × Option Nat × (Nat → Int32))) (x2 : Int32) (x3 : Int32) (tf : Nat → Int32) (tg : Nat → Nat → Int32) (tc : Option Nat) (tv : Nat → Int32) : Option (Int32 × (Nat → Int32) × (Nat → Nat → Int32) × Option Nat × (Nat → Int32)) := k_X6_fright_38 a1 nf ng nc cn cf cg kc5 x2 x3 1 tf tg tc tv
noncomputable def k_X6_fright_5 (a1 : Int32) (nf : Nat → Int32) (ng : Nat → Nat → Int32) (nc : Option Nat) (cn : Nat) (cf : Nat → Nat → Int32) (cg : Nat → Nat → Nat → Int32) : Nat → Int32 → Int32 → (Nat → Int32) → (Nat → Nat → Int32) → Option Nat → (Nat → Int32) → Option (Int32 × (Nat → Int32) × (Nat → Nat → Int32) × Option Nat × (Nat → Int32))
  | 0, _, _, _, _, _, _ => none
  | n + 1, x2, x3, tf, tg, tc, tv => b1 (k_X1_all nf) (fun r1 => if r1 < x3 then some (x2, tf, tg, tc, tv) else if x2 = (-5) then k_X6_fright_33 a1 nf ng nc cn cf cg (k_X6_fright_5 a1 nf ng nc cn cf cg n) x2 x3 tf tg tc tv else b1 (k_J6_bitCount_0f7a4 x3) (fun r5 => b1 (k_J6_bitCount_0f7a4 x2) (fun r7 => if r7 ≤ r5 then k_X6_fright_38 a1 nf ng nc cn cf cg (k_X6_fright_5 a1 nf ng nc cn cf cg n) x2 x3 0 tf tg tc tv else k_X6_fright_33 a1 nf ng nc cn cf cg (k_X6_fright_5 a1 nf ng nc cn cf cg n) x2 x3 tf tg tc tv)))
noncomputable def k_X6_fright (a1 : Int32) (nf : Nat → Int32) (ng : Nat → Nat → Int32) (nc : Option Nat) (tf0 : Nat → Int32) (tg0 : Nat → Nat → Int32) (tc0 : Option Nat) (tv0 : Nat → Int32) (cn : Nat) (cf : Nat → Nat → Int32) (cg : Nat → Nat → Nat → Int32) : Option (Int32 × (Nat → Int32) × (Nat → Nat → Int32) × Option Nat × (Nat → Int32)) := k_X6_fright_5 a1 nf ng nc cn cf cg 100000 (-5) 0 tf0 tg0 tc0 tv0
set_option maxHeartbeats 4000000 in
set_option maxRecDepth 100000 in
theorem c_X6_fright {l : Launch} {D : va_G} {cA : Nat → ClassId} (oo : Nat) (qn : Nat → Nat) (qk : Nat → Nat) (qt : Nat → Nat) (qx : Nat → Nat) (qa : Nat → Nat) (ts : Nat) (wa : Nat) (qc : Nat → Nat → Nat) (pf : Nat → Int32) (sp : Option Nat) (nf : Nat → Int32) (ng : Nat → Nat → Int32) (nc : Option Nat) (tf0 : Nat → Int32) (tg0 : Nat → Nat → Int32) (tc0 : Option Nat) (tv0 : Nat → Int32) (cn : Nat) (cf : Nat → Nat → Int32) (cg : Nat → Nat → Nat → Int32) (a1 : Int32) (o : Int32 × (Nat → Int32) × (Nat → Nat → Int32) × Option Nat × (Nat → Int32)) (hf : k_X6_fright a1 nf ng nc tf0 tg0 tc0 tv0 cn cf cg = some o) : CI l D cA yX6_fright cX6_fright 5 (some .int) 5 120 [.ref oo, .int a1] (List.flatten [(Po oo qn qk qt qx qa ts wa pf (chv qc sp)), (Cw qn cA (chv qc nc) nf ng), (Cw qt cA (chv qc tc0) tf0 tg0), (Vw (qt 15) cA tv0), (chPool cn qc cA cf cg)]) 0 0 (fun r w => r = o.1 ∧ w = (List.flatten [(Po oo qn qk qt qx qa ts wa pf (chv qc sp)), (Cw qn cA (chv qc nc) nf ng), (Cw qt cA (chv qc o.2.2.2.1) o.2.1 o.2.2.1), (Vw (qt 15) cA o.2.2.2.2), (chPool cn qc cA cf cg)])) := by
  intro sz
  refine met_start (by decide) rfl ?_
  intro p e s m args below meth c ls hsz hargs C0 hname hP hD hS hl
  generalize hAe : va_A (List.flatten [(Po oo qn qk qt qx qa ts wa pf (chv qc sp)), (Cw qn cA (chv qc nc) nf ng), (Cw qt cA (chv qc tc0) tf0 tg0), (Vw (qt 15) cA tv0), (chPool cn qc cA cf cg)]) sz = A at C0 hD hS ⊢
  obtain ⟨hx, hb, hr, hml, hown, hts, hlk, hK, hA⟩ := id C0
  replace hl : lv_has ls 5 [(0, .ref oo), (1, .int a1)] := hl
  obtain ⟨Q, hQ⟩ : ∃ Q : State → Prop, Q = QI below D A (fun r w => r = o.1 ∧ w = (List.flatten [(Po oo qn qk qt qx qa ts wa pf (chv qc sp)), (Cw qn cA (chv qc nc) nf ng), (Cw qt cA (chv qc o.2.2.2.1) o.2.1 o.2.2.1), (Vw (qt 15) cA o.2.2.2.2), (chPool cn qc cA cf cg)])) args s 0 0 := ⟨_, rfl⟩
  refine cast (by rw [hQ]) (?_ : W p l e (RMx 5 120 0 0) s m args below meth c s.heap [] 0 0 Q (F0 m 0 ls []))
  have J38 : ∀ (kc5 : Int32 → Int32 → (Nat → Int32) → (Nat → Nat → Int32) → Option Nat → (Nat → Int32) → Option (Int32 × (Nat → Int32) × (Nat → Nat → Int32) × Option Nat × (Nat → Int32))) (hkc5 : ∀ (x2 : Int32) (x3 : Int32) (tf : Nat → Int32) (tg : Nat → Nat → Int32) (tc : Option Nat) (tv : Nat → Int32), kc5 x2 x3 tf tg tc tv = some o → ∀ (H : Heap) (locs : List Loc), va_P D vwCl (List.flatten [(Po oo qn qk qt qx qa ts wa pf (chv qc sp)), (Cw qn cA (chv qc nc) nf ng), (Cw qt cA (chv qc tc) tf tg), (Vw (qt 15) cA tv), (chPool cn qc cA cf cg)]) H → va_D A (List.flatten [(Po oo qn qk qt qx qa ts wa pf (chv qc sp)), (Cw qn cA (chv qc nc) nf ng), (Cw qt cA (chv qc tc) tf tg), (Vw (qt 15) cA tv), (chPool cn qc cA cf cg)]) → va_S A s.heap H locs → ∀ ls : Array Slot, lv_has ls 5 [(0, .ref oo), (1, .int a1), (2, .int x2), (3, .int x3)] → W p l e (RMx 5 120 0 0) s m args below meth c H locs 0 0 Q (F0 m 5 ls [])), ∀ (x2 : Int32) (x3 : Int32) (t0 : Int32) (tf : Nat → Int32) (tg : Nat → Nat → Int32) (tc : Option Nat) (tv : Nat → Int32), k_X6_fright_38 a1 nf ng nc cn cf cg kc5 x2 x3 t0 tf tg tc tv = some o → ∀ (H : Heap) (locs : List Loc), va_P D vwCl (List.flatten [(Po oo qn qk qt qx qa ts wa pf (chv qc sp)), (Cw qn cA (chv qc nc) nf ng), (Cw qt cA (chv qc tc) tf tg), (Vw (qt 15) cA tv), (chPool cn qc cA cf cg)]) H → va_D A (List.flatten [(Po oo qn qk qt qx qa ts wa pf (chv qc sp)), (Cw qn cA (chv qc nc) nf ng), (Cw qt cA (chv qc tc) tf tg), (Vw (qt 15) cA tv), (chPool cn qc cA cf cg)]) → va_S A s.heap H locs → ∀ ls : Array Slot, lv_has ls 5 [(0, .ref oo), (1, .int a1), (2, .int x2), (3, .int x3)] → W p l e (RMx 5 120 0 0) s m args below meth c H locs 0 0 Q (F0 m 38 ls [.int t0]) := by
    intro kc5 hkc5 x2 x3 t0 tf tg tc tv hf H locs hP hD hS ls hl
    unfold k_X6_fright_38 at hf
    refine lv_istore (lv' := [(4, .int t0), (0, .ref oo), (1, .int a1), (2, .int x2), (3, .int x3)]) hx hb dX6_fright_38 hl (by decide) rfl (fun ls hl => ?_)
    refine lv_iload hx hb dX6_fright_40 (lv_at hl 0 rfl) ?_
    refine lv_if_eq (tgt := 73) hx hb dX6_fright_42 (by decide) (fun c1 => ?_) (fun c1 => ?_)
    · replace hf := it_of c1 hf
      refine lv_iinc (v := (x3 + 1)) (lv' := [(3, .int (x3 + 1)), (4, .int t0), (0, .ref oo), (1, .int a1), (2, .int x2)]) hx hb dX6_fright_73 hl (k := 4) rfl rfl (by decide) rfl (fun ls hl => ?_)
      refine lv_goto (tgt := 5) hx hb dX6_fright_76 (by decide) ?_
      exact hkc5 x2 (x3 + 1) tf tg tc tv hf _ _ hP hD hS _ (lv_sub hl [2, 3, 4, 0] rfl)
    · replace hf := ie_of c1 hf
      refine lv_aload_n hx hb dX6_fright_45 rfl (lv_at hl 1 rfl) ?_
      refine lv_iload_n hx hb dX6_fright_46 rfl (lv_at hl 2 rfl) ?_
      refine lv_aload_n hx hb dX6_fright_47 rfl (lv_at hl 1 rfl) ?_
      refine va_get (D := D) (ci := 6) (v := .ref (qn 0)) (C := RX6) (T := TX6) (N := 10) hx hb hts fw_6 hown hK hP 0 rfl rfl 0 (by decide) (hts _ m_fieldLink_P_12_P_now_LP_Cellar) (fun _ h9 => h9) rfl dX6_fright_48 ?_
      obtain ⟨r2q, hq3, hf⟩ := b1_of hf
      refine callVI (As := []) (rest := [.int a1, .ref oo]) (wr := segpick [(Po oo qn qk qt qx qa ts wa pf (chv qc sp)), (Cw qn cA (chv qc nc) nf ng), (Cw qt cA (chv qc tc) tf tg), (Vw (qt 15) cA tv), (chPool cn qc cA cf cg)] [0, 2, 3, 4]) C0 (c_X1_all qn qc nf ng nc _ hq3) lk_X6_275_X1_all rfl hP hD hS (seg_out [(Po oo qn qk qt qx qa ts wa pf (chv qc sp)), (Cw qn cA (chv qc nc) nf ng), (Cw qt cA (chv qc tc) tf tg), (Vw (qt 15) cA tv), (chPool cn qc cA cf cg)] [1] [0, 2, 3, 4] 5 rfl (by decide)) 1 1 rfl rfl rfl hl.1 rfl rfl (Nat.le_of_ble_eq_true rfl) dX6_fright_51 ⟨Nat.zero_le _, Nat.zero_le _⟩ (fun r2 w H locs hw hP hD hS => ?_)
      obtain ⟨e1, e2⟩ := hw
      replace e1 : r2 = r2q := e1
      subst e1
      subst e2
      replace hP : va_P D vwCl (List.flatten [(Po oo qn qk qt qx qa ts wa pf (chv qc sp)), (Cw qn cA (chv qc nc) nf ng), (Cw qt cA (chv qc tc) tf tg), (Vw (qt 15) cA tv), (chPool cn qc cA cf cg)]) H := hP.perm (seg_out [(Po oo qn qk qt qx qa ts wa pf (chv qc sp)), (Cw qn cA (chv qc nc) nf ng), (Cw qt cA (chv qc tc) tf tg), (Vw (qt 15) cA tv), (chPool cn qc cA cf cg)] [1] [0, 2, 3, 4] 5 rfl (by decide)).symm
      replace hD : va_D A (List.flatten [(Po oo qn qk qt qx qa ts wa pf (chv qc sp)), (Cw qn cA (chv qc nc) nf ng), (Cw qt cA (chv qc tc) tf tg), (Vw (qt 15) cA tv), (chPool cn qc cA cf cg)]) := hD.perm (seg_out [(Po oo qn qk qt qx qa ts wa pf (chv qc sp)), (Cw qn cA (chv qc nc) nf ng), (Cw qt cA (chv qc tc) tf tg), (Vw (qt 15) cA tv), (chPool cn qc cA cf cg)] [1] [0, 2, 3, 4] 5 rfl (by decide)).symm
      refine lv_iload_n hx hb dX6_fright_54 rfl (lv_at hl 4 rfl) ?_
      refine lv_iconst (v := (-1)) hx hb dX6_fright_55 (by decide) ?_
      refine lv_ixor hx hb dX6_fright_56 ?_
      refine lv_iand hx hb dX6_fright_57 ?_
      obtain ⟨r4q, tf_5, tg_6, tc_7, tv_8, hq9, hf⟩ := b5_of hf
      refine callVI (As := [.int a1, .int (r2 &&& (x3 ^^^ (-1)))]) (rest := []) (wr := []) C0 (c_X6_truthsBehind oo qn qk qt qx qa ts wa qc pf sp nf ng nc tf tg tc tv cn cf cg a1 (r2 &&& (x3 ^^^ (-1))) _ hq9) lk_X6_159_X6_truthsBehind rfl hP hD hS perm_nil 0 6 rfl rfl rfl hl.1 rfl rfl (Nat.le_of_ble_eq_true rfl) dX6_fright_58 ⟨Nat.zero_le _, Nat.zero_le _⟩ (fun r4 w H locs hw hP hD hS => ?_)
      obtain ⟨e1, e2⟩ := hw
      replace e1 : r4 = r4q := e1
      subst e1
      subst e2
      replace hP : va_P D vwCl (List.flatten [(Po oo qn qk qt qx qa ts wa pf (chv qc sp)), (Cw qn cA (chv qc nc) nf ng), (Cw qt cA (chv qc tc_7) tf_5 tg_6), (Vw (qt 15) cA tv_8), (chPool cn qc cA cf cg)]) H := hP.nil
      replace hD : va_D A (List.flatten [(Po oo qn qk qt qx qa ts wa pf (chv qc sp)), (Cw qn cA (chv qc nc) nf ng), (Cw qt cA (chv qc tc_7) tf_5 tg_6), (Vw (qt 15) cA tv_8), (chPool cn qc cA cf cg)]) := hD.nil
      refine lv_aload_n hx hb dX6_fright_61 rfl (lv_at hl 1 rfl) ?_
      refine va_get (D := D) (ci := 6) (v := .ref (qn 0)) (C := RX6) (T := TX6) (N := 10) hx hb hts fw_6 hown hK hP 0 rfl rfl 0 (by decide) (hts _ m_fieldLink_P_12_P_now_LP_Cellar) (fun _ h9 => h9) rfl dX6_fright_62 ?_
      refine va_get (D := D) (ci := 1) (v := .int (nf 3)) (C := RX1) (T := TX1) (N := 16) hx hb hts fw_1 hown hK hP 1 rfl rfl 3 (by decide) (hts _ m_fieldLink_P_126_P_Cellar_truths_I) (fun _ h9 => h9) rfl dX6_fright_65 ?_
      refine lv_icmp_le (tgt := 73) hx hb dX6_fright_68 (by decide) (fun c10 => ?_) (fun c10 => ?_)
      · replace hf := it_of c10 hf
        refine lv_iinc (v := (x3 + 1)) (lv' := [(3, .int (x3 + 1)), (4, .int t0), (0, .ref oo), (1, .int a1), (2, .int x2)]) hx hb dX6_fright_73 hl (k := 4) rfl rfl (by decide) rfl (fun ls hl => ?_)
        refine lv_goto (tgt := 5) hx hb dX6_fright_76 (by decide) ?_
        exact hkc5 x2 (x3 + 1) tf_5 tg_6 tc_7 tv_8 hf _ _ hP hD hS _ (lv_sub hl [2, 3, 4, 0] rfl)
      · replace hf := ie_of c10 hf
        refine lv_iload_n hx hb dX6_fright_71 rfl (lv_at hl 4 rfl) ?_
        refine lv_istore_n (lv' := [(2, .int x3), (4, .int t0), (0, .ref oo), (1, .int a1), (3, .int x3)]) hx hb dX6_fright_72 rfl hl (by decide) rfl (fun ls hl => ?_)
        refine lv_iinc (v := (x3 + 1)) (lv' := [(3, .int (x3 + 1)), (2, .int x3), (4, .int t0), (0, .ref oo), (1, .int a1)]) hx hb dX6_fright_73 hl (k := 4) rfl rfl (by decide) rfl (fun ls hl => ?_)
        refine lv_goto (tgt := 5) hx hb dX6_fright_76 (by decide) ?_
        exact hkc5 x3 (x3 + 1) tf_5 tg_6 tc_7 tv_8 hf _ _ hP hD hS _ (lv_sub hl [3, 4, 1, 0] rfl)
  have J33 : ∀ (kc5 : Int32 → Int32 → (Nat → Int32) → (Nat → Nat → Int32) → Option Nat → (Nat → Int32) → Option (Int32 × (Nat → Int32) × (Nat → Nat → Int32) × Option Nat × (Nat → Int32))) (hkc5 : ∀ (x2 : Int32) (x3 : Int32) (tf : Nat → Int32) (tg : Nat → Nat → Int32) (tc : Option Nat) (tv : Nat → Int32), kc5 x2 x3 tf tg tc tv = some o → ∀ (H : Heap) (locs : List Loc), va_P D vwCl (List.flatten [(Po oo qn qk qt qx qa ts wa pf (chv qc sp)), (Cw qn cA (chv qc nc) nf ng), (Cw qt cA (chv qc tc) tf tg), (Vw (qt 15) cA tv), (chPool cn qc cA cf cg)]) H → va_D A (List.flatten [(Po oo qn qk qt qx qa ts wa pf (chv qc sp)), (Cw qn cA (chv qc nc) nf ng), (Cw qt cA (chv qc tc) tf tg), (Vw (qt 15) cA tv), (chPool cn qc cA cf cg)]) → va_S A s.heap H locs → ∀ ls : Array Slot, lv_has ls 5 [(0, .ref oo), (1, .int a1), (2, .int x2), (3, .int x3)] → W p l e (RMx 5 120 0 0) s m args below meth c H locs 0 0 Q (F0 m 5 ls [])), ∀ (x2 : Int32) (x3 : Int32) (tf : Nat → Int32) (tg : Nat → Nat → Int32) (tc : Option Nat) (tv : Nat → Int32), k_X6_fright_33 a1 nf ng nc cn cf cg kc5 x2 x3 tf tg tc tv = some o → ∀ (H : Heap) (locs : List Loc), va_P D vwCl (List.flatten [(Po oo qn qk qt qx qa ts wa pf (chv qc sp)), (Cw qn cA (chv qc nc) nf ng), (Cw qt cA (chv qc tc) tf tg), (Vw (qt 15) cA tv), (chPool cn qc cA cf cg)]) H → va_D A (List.flatten [(Po oo qn qk qt qx qa ts wa pf (chv qc sp)), (Cw qn cA (chv qc nc) nf ng), (Cw qt cA (chv qc tc) tf tg), (Vw (qt 15) cA tv), (chPool cn qc cA cf cg)]) → va_S A s.heap H locs → ∀ ls : Array Slot, lv_has ls 5 [(0, .ref oo), (1, .int a1), (2, .int x2), (3, .int x3)] → W p l e (RMx 5 120 0 0) s m args below meth c H locs 0 0 Q (F0 m 33 ls []) := by
    intro kc5 hkc5 x2 x3 tf tg tc tv hf H locs hP hD hS ls hl
    unfold k_X6_fright_33 at hf
    refine lv_iconst (v := 1) hx hb dX6_fright_33 (by decide) ?_
    refine lv_goto (tgt := 38) hx hb dX6_fright_34 (by decide) ?_
    exact J38 _ hkc5 x2 x3 1 tf tg tc tv hf _ _ hP hD hS _ (lv_sub hl [0, 1, 2, 3] rfl)
  have J5 : ∀ n : Nat, ∀ (x2 : Int32) (x3 : Int32) (tf : Nat → Int32) (tg : Nat → Nat → Int32) (tc : Option Nat) (tv : Nat → Int32), k_X6_fright_5 a1 nf ng nc cn cf cg n x2 x3 tf tg tc tv = some o → ∀ (H : Heap) (locs : List Loc), va_P D vwCl (List.flatten [(Po oo qn qk qt qx qa ts wa pf (chv qc sp)), (Cw qn cA (chv qc nc) nf ng), (Cw qt cA (chv qc tc) tf tg), (Vw (qt 15) cA tv), (chPool cn qc cA cf cg)]) H → va_D A (List.flatten [(Po oo qn qk qt qx qa ts wa pf (chv qc sp)), (Cw qn cA (chv qc nc) nf ng), (Cw qt cA (chv qc tc) tf tg), (Vw (qt 15) cA tv), (chPool cn qc cA cf cg)]) → va_S A s.heap H locs → ∀ ls : Array Slot, lv_has ls 5 [(0, .ref oo), (1, .int a1), (2, .int x2), (3, .int x3)] → W p l e (RMx 5 120 0 0) s m args below meth c H locs 0 0 Q (F0 m 5 ls []) := by
    intro  n
    induction n with
    | zero =>
      intro x2 x3 tf tg tc tv hf
      rw [k_X6_fright_5] at hf
      cases hf
    | succ n ih =>
      intro x2 x3 tf tg tc tv hf H locs hP hD hS ls hl
      rw [k_X6_fright_5] at hf
      refine lv_iload_n hx hb dX6_fright_5 rfl (lv_at hl 3 rfl) ?_
      refine lv_aload_n hx hb dX6_fright_6 rfl (lv_at hl 0 rfl) ?_
      refine va_get (D := D) (ci := 6) (v := .ref (qn 0)) (C := RX6) (T := TX6) (N := 10) hx hb hts fw_6 hown hK hP 0 rfl rfl 0 (by decide) (hts _ m_fieldLink_P_12_P_now_LP_Cellar) (fun _ h9 => h9) rfl dX6_fright_7 ?_
      obtain ⟨r1q, hq2, hf⟩ := b1_of hf
      refine callVI (As := []) (rest := [.int x3]) (wr := segpick [(Po oo qn qk qt qx qa ts wa pf (chv qc sp)), (Cw qn cA (chv qc nc) nf ng), (Cw qt cA (chv qc tc) tf tg), (Vw (qt 15) cA tv), (chPool cn qc cA cf cg)] [0, 2, 3, 4]) C0 (c_X1_all qn qc nf ng nc _ hq2) lk_X6_275_X1_all rfl hP hD hS (seg_out [(Po oo qn qk qt qx qa ts wa pf (chv qc sp)), (Cw qn cA (chv qc nc) nf ng), (Cw qt cA (chv qc tc) tf tg), (Vw (qt 15) cA tv), (chPool cn qc cA cf cg)] [1] [0, 2, 3, 4] 5 rfl (by decide)) 1 1 rfl rfl rfl hl.1 rfl rfl (Nat.le_of_ble_eq_true rfl) dX6_fright_10 ⟨Nat.zero_le _, Nat.zero_le _⟩ (fun r1 w H locs hw hP hD hS => ?_)
      obtain ⟨e1, e2⟩ := hw
      replace e1 : r1 = r1q := e1
      subst e1
      subst e2
      replace hP : va_P D vwCl (List.flatten [(Po oo qn qk qt qx qa ts wa pf (chv qc sp)), (Cw qn cA (chv qc nc) nf ng), (Cw qt cA (chv qc tc) tf tg), (Vw (qt 15) cA tv), (chPool cn qc cA cf cg)]) H := hP.perm (seg_out [(Po oo qn qk qt qx qa ts wa pf (chv qc sp)), (Cw qn cA (chv qc nc) nf ng), (Cw qt cA (chv qc tc) tf tg), (Vw (qt 15) cA tv), (chPool cn qc cA cf cg)] [1] [0, 2, 3, 4] 5 rfl (by decide)).symm
      replace hD : va_D A (List.flatten [(Po oo qn qk qt qx qa ts wa pf (chv qc sp)), (Cw qn cA (chv qc nc) nf ng), (Cw qt cA (chv qc tc) tf tg), (Vw (qt 15) cA tv), (chPool cn qc cA cf cg)]) := hD.perm (seg_out [(Po oo qn qk qt qx qa ts wa pf (chv qc sp)), (Cw qn cA (chv qc nc) nf ng), (Cw qt cA (chv qc tc) tf tg), (Vw (qt 15) cA tv), (chPool cn qc cA cf cg)] [1] [0, 2, 3, 4] 5 rfl (by decide)).symm
      refine lv_icmp_gt (tgt := 79) hx hb dX6_fright_13 (by decide) (fun c3 => ?_) (fun c3 => ?_)
      · replace hf := it_of c3 hf
        refine lv_iload_n hx hb dX6_fright_79 rfl (lv_at hl 2 rfl) ?_
        rw [hQ]
        exact ret_i C0 hP hD hS (by have e := Option.some.inj hf; rw [← e]; exact ⟨rfl, rfl⟩) dX6_fright_80
      · replace hf := ie_of c3 hf
        refine lv_iload_n hx hb dX6_fright_16 rfl (lv_at hl 2 rfl) ?_
        refine lv_bipush (v := (-5)) hx hb dX6_fright_17 (by decide) ?_
        refine lv_icmp_eq (tgt := 33) hx hb dX6_fright_19 (by decide) (fun c4 => ?_) (fun c4 => ?_)
        · replace hf := it_of c4 hf
          exact J33 _ ih x2 x3 tf tg tc tv hf _ _ hP hD hS _ (lv_sub hl [0, 1, 2, 3] rfl)
        · replace hf := ie_of c4 hf
          refine lv_iload_n hx hb dX6_fright_22 rfl (lv_at hl 3 rfl) ?_
          obtain ⟨r5q, hq6, hf⟩ := b1_of hf
          refine callSI (As := [.int x3]) (rest := []) (wr := (List.flatten [(Po oo qn qk qt qx qa ts wa pf (chv qc sp)), (Cw qn cA (chv qc nc) nf ng), (Cw qt cA (chv qc tc) tf tg), (Vw (qt 15) cA tv), (chPool cn qc cA cf cg)])) C0 (c_J6_bitCount_0f7a4 x3 _ hq6) lk_X6_184_J6_bitCount_0f7a4 rfl hP hD hS (List.Perm.refl _) hl.1 rfl rfl (Nat.le_of_ble_eq_true rfl) dX6_fright_23 ⟨Nat.zero_le _, Nat.zero_le _⟩ (fun r5 w H locs hw hP hD hS => ?_)
          obtain ⟨e1, e2⟩ := hw
          replace e1 : r5 = r5q := e1
          subst e1
          subst e2
          replace hP : va_P D vwCl (List.flatten [(Po oo qn qk qt qx qa ts wa pf (chv qc sp)), (Cw qn cA (chv qc nc) nf ng), (Cw qt cA (chv qc tc) tf tg), (Vw (qt 15) cA tv), (chPool cn qc cA cf cg)]) H := hP
          replace hD : va_D A (List.flatten [(Po oo qn qk qt qx qa ts wa pf (chv qc sp)), (Cw qn cA (chv qc nc) nf ng), (Cw qt cA (chv qc tc) tf tg), (Vw (qt 15) cA tv), (chPool cn qc cA cf cg)]) := hD
          refine lv_iload_n hx hb dX6_fright_26 rfl (lv_at hl 2 rfl) ?_
          obtain ⟨r7q, hq8, hf⟩ := b1_of hf
          refine callSI (As := [.int x2]) (rest := [.int r5]) (wr := (List.flatten [(Po oo qn qk qt qx qa ts wa pf (chv qc sp)), (Cw qn cA (chv qc nc) nf ng), (Cw qt cA (chv qc tc) tf tg), (Vw (qt 15) cA tv), (chPool cn qc cA cf cg)])) C0 (c_J6_bitCount_0f7a4 x2 _ hq8) lk_X6_184_J6_bitCount_0f7a4 rfl hP hD hS (List.Perm.refl _) hl.1 rfl rfl (Nat.le_of_ble_eq_true rfl) dX6_fright_27 ⟨Nat.zero_le _, Nat.zero_le _⟩ (fun r7 w H locs hw hP hD hS => ?_)
          obtain ⟨e1, e2⟩ := hw
          replace e1 : r7 = r7q := e1
          subst e1
          subst e2
          replace hP : va_P D vwCl (List.flatten [(Po oo qn qk qt qx qa ts wa pf (chv qc sp)), (Cw qn cA (chv qc nc) nf ng), (Cw qt cA (chv qc tc) tf tg), (Vw (qt 15) cA tv), (chPool cn qc cA cf cg)]) H := hP
          replace hD : va_D A (List.flatten [(Po oo qn qk qt qx qa ts wa pf (chv qc sp)), (Cw qn cA (chv qc nc) nf ng), (Cw qt cA (chv qc tc) tf tg), (Vw (qt 15) cA tv), (chPool cn qc cA cf cg)]) := hD
          refine lv_icmp_ge (tgt := 37) hx hb dX6_fright_30 (by decide) (fun c9 => ?_) (fun c9 => ?_)
          · replace hf := it_of c9 hf
            refine lv_iconst (v := 0) hx hb dX6_fright_37 (by decide) ?_
            exact J38 _ ih x2 x3 0 tf tg tc tv hf _ _ hP hD hS _ (lv_sub hl [0, 1, 2, 3] rfl)
          · replace hf := ie_of c9 hf
            exact J33 _ ih x2 x3 tf tg tc tv hf _ _ hP hD hS _ (lv_sub hl [0, 1, 2, 3] rfl)
  unfold k_X6_fright at hf
  refine lv_bipush (v := (-5)) hx hb dX6_fright_0 (by decide) ?_
  refine lv_istore_n (lv' := [(2, .int (-5)), (0, .ref oo), (1, .int a1)]) hx hb dX6_fright_2 rfl hl (by decide) rfl (fun ls hl => ?_)
  refine lv_iconst (v := 0) hx hb dX6_fright_3 (by decide) ?_
  refine lv_istore_n (lv' := [(3, .int 0), (2, .int (-5)), (0, .ref oo), (1, .int a1)]) hx hb dX6_fright_4 rfl hl (by decide) rfl (fun ls hl => ?_)
  exact J5 100000 (-5) 0 tf0 tg0 tc0 tv0 hf _ _ hP hD hS _ (lv_sub hl [2, 3, 1, 0] rfl)
-- X6 best
noncomputable def k_X6_best (a1 : Int32) (a2 : Int32) (nf : Nat → Int32) (ng : Nat → Nat → Int32) (nc : Option Nat) (tf0 : Nat → Int32) (tg0 : Nat → Nat → Int32) (tc0 : Option Nat) (tv0 : Nat → Int32) (cn : Nat) (cf : Nat → Nat → Int32) (cg : Nat → Nat → Nat → Int32) : Option (Int32 × (Nat → Int32) × (Nat → Nat → Int32) × Option Nat × (Nat → Int32)) := b1 (k_X6_isWithin a2 2) (fun r1 => if r1 = 0 then some ((-1), tf0, tg0, tc0, tv0) else if a1 < 1 then some ((-2), tf0, tg0, tc0, tv0) else if a1 ≤ 12 then if a2 = 0 then b5 (k_X6_bestUp a1 nf ng nc tf0 tg0 tc0 tv0 cn cf cg) (fun r8 tf_9 tg_10 tc_11 tv_12 => some (r8, tf_9, tg_10, tc_11, tv_12)) else if a2 = 1 then b5 (k_X6_bestUp a1 nf ng nc tf0 tg0 tc0 tv0 cn cf cg) (fun r15 tf_16 tg_17 tc_18 tv_19 => b5 (k_X6_truthsBehind a1 r15 nf ng nc tf_16 tg_17 tc_18 tv_19 cn cf cg) (fun r21 tf_22 tg_23 tc_24 tv_25 => some (r21, tf_22, tg_23, tc_24, tv_25))) else b5 (k_X6_fright a1 nf ng nc tf0 tg0 tc0 tv0 cn cf cg) (fun r27 tf_28 tg_29 tc_30 tv_31 => some (r27, tf_28, tg_29, tc_30, tv_31)) else some ((-2), tf0, tg0, tc0, tv0))
set_option maxHeartbeats 4000000 in
set_option maxRecDepth 100000 in
theorem c_X6_best {l : Launch} {D : va_G} {cA : Nat → ClassId} (oo : Nat) (qn : Nat → Nat) (qk : Nat → Nat) (qt : Nat → Nat) (qx : Nat → Nat) (qa : Nat → Nat) (ts : Nat) (wa : Nat) (qc : Nat → Nat → Nat) (pf : Nat → Int32) (sp : Option Nat) (nf : Nat → Int32) (ng : Nat → Nat → Int32) (nc : Option Nat) (tf0 : Nat → Int32) (tg0 : Nat → Nat → Int32) (tc0 : Option Nat) (tv0 : Nat → Int32) (cn : Nat) (cf : Nat → Nat → Int32) (cg : Nat → Nat → Nat → Int32) (a1 : Int32) (a2 : Int32) (o : Int32 × (Nat → Int32) × (Nat → Nat → Int32) × Option Nat × (Nat → Int32)) (hf : k_X6_best a1 a2 nf ng nc tf0 tg0 tc0 tv0 cn cf cg = some o) : CI l D cA yX6_best cX6_best 3 (some .int) 6 145 [.ref oo, .int a1, .int a2] (List.flatten [(Po oo qn qk qt qx qa ts wa pf (chv qc sp)), (Cw qn cA (chv qc nc) nf ng), (Cw qt cA (chv qc tc0) tf0 tg0), (Vw (qt 15) cA tv0), (chPool cn qc cA cf cg)]) 0 0 (fun r w => r = o.1 ∧ w = (List.flatten [(Po oo qn qk qt qx qa ts wa pf (chv qc sp)), (Cw qn cA (chv qc nc) nf ng), (Cw qt cA (chv qc o.2.2.2.1) o.2.1 o.2.2.1), (Vw (qt 15) cA o.2.2.2.2), (chPool cn qc cA cf cg)])) := by
  intro sz
  refine met_start (by decide) rfl ?_
  intro p e s m args below meth c ls hsz hargs C0 hname hP hD hS hl
  generalize hAe : va_A (List.flatten [(Po oo qn qk qt qx qa ts wa pf (chv qc sp)), (Cw qn cA (chv qc nc) nf ng), (Cw qt cA (chv qc tc0) tf0 tg0), (Vw (qt 15) cA tv0), (chPool cn qc cA cf cg)]) sz = A at C0 hD hS ⊢
  obtain ⟨hx, hb, hr, hml, hown, hts, hlk, hK, hA⟩ := id C0
  replace hl : lv_has ls 3 [(0, .ref oo), (1, .int a1), (2, .int a2)] := hl
  obtain ⟨Q, hQ⟩ : ∃ Q : State → Prop, Q = QI below D A (fun r w => r = o.1 ∧ w = (List.flatten [(Po oo qn qk qt qx qa ts wa pf (chv qc sp)), (Cw qn cA (chv qc nc) nf ng), (Cw qt cA (chv qc o.2.2.2.1) o.2.1 o.2.2.1), (Vw (qt 15) cA o.2.2.2.2), (chPool cn qc cA cf cg)])) args s 0 0 := ⟨_, rfl⟩
  refine cast (by rw [hQ]) (?_ : W p l e (RMx 6 145 0 0) s m args below meth c s.heap [] 0 0 Q (F0 m 0 ls []))
  unfold k_X6_best at hf
  refine lv_iload_n hx hb dX6_best_0 rfl (lv_at hl 2 rfl) ?_
  refine lv_iconst (v := 2) hx hb dX6_best_1 (by decide) ?_
  obtain ⟨r1q, hq2, hf⟩ := b1_of hf
  refine callSI (As := [.int a2, .int 2]) (rest := []) (wr := (List.flatten [(Po oo qn qk qt qx qa ts wa pf (chv qc sp)), (Cw qn cA (chv qc nc) nf ng), (Cw qt cA (chv qc tc0) tf0 tg0), (Vw (qt 15) cA tv0), (chPool cn qc cA cf cg)])) C0 (c_X6_isWithin a2 2 _ hq2) lk_X6_49_X6_isWithin rfl hP hD hS (List.Perm.refl _) hl.1 rfl rfl (Nat.le_of_ble_eq_true rfl) dX6_best_2 ⟨Nat.zero_le _, Nat.zero_le _⟩ (fun r1 w H locs hw hP hD hS => ?_)
  obtain ⟨⟨e1, e2⟩, z3⟩ := hw
  replace e1 : r1 = r1q := e1
  subst e1
  subst e2
  replace hP : va_P D vwCl (List.flatten [(Po oo qn qk qt qx qa ts wa pf (chv qc sp)), (Cw qn cA (chv qc nc) nf ng), (Cw qt cA (chv qc tc0) tf0 tg0), (Vw (qt 15) cA tv0), (chPool cn qc cA cf cg)]) H := hP
  replace hD : va_D A (List.flatten [(Po oo qn qk qt qx qa ts wa pf (chv qc sp)), (Cw qn cA (chv qc nc) nf ng), (Cw qt cA (chv qc tc0) tf0 tg0), (Vw (qt 15) cA tv0), (chPool cn qc cA cf cg)]) := hD
  refine lv_if_ne (tgt := 10) hx hb dX6_best_5 (by decide) (fun c4 => ?_) (fun c4 => ?_)
  · replace hf := ie_of c4 hf
    refine lv_iload_n hx hb dX6_best_10 rfl (lv_at hl 1 rfl) ?_
    refine lv_iconst (v := 1) hx hb dX6_best_11 (by decide) ?_
    refine lv_icmp_lt (tgt := 21) hx hb dX6_best_12 (by decide) (fun c5 => ?_) (fun c5 => ?_)
    · replace hf := it_of c5 hf
      refine lv_bipush (v := (-2)) hx hb dX6_best_21 (by decide) ?_
      rw [hQ]
      exact ret_i C0 hP hD hS (by have e := Option.some.inj hf; rw [← e]; exact ⟨rfl, rfl⟩) dX6_best_23
    · replace hf := ie_of c5 hf
      refine lv_iload_n hx hb dX6_best_15 rfl (lv_at hl 1 rfl) ?_
      refine lv_bipush (v := 12) hx hb dX6_best_16 (by decide) ?_
      refine lv_icmp_le (tgt := 24) hx hb dX6_best_18 (by decide) (fun c6 => ?_) (fun c6 => ?_)
      · replace hf := it_of c6 hf
        refine lv_iload_n hx hb dX6_best_24 rfl (lv_at hl 2 rfl) ?_
        by_cases c7 : a2 = 0
        · replace hf := it_of c7 hf
          refine lv_lookup (off := 27) (tgt := 52) hx hb dX6_best_25 (by decide) (by rw [c7]; decide) (by decide) ?_
          refine lv_aload_n hx hb dX6_best_52 rfl (lv_at hl 0 rfl) ?_
          refine lv_iload_n hx hb dX6_best_53 rfl (lv_at hl 1 rfl) ?_
          obtain ⟨r8q, tf_9, tg_10, tc_11, tv_12, hq13, hf⟩ := b5_of hf
          refine callVI (As := [.int a1]) (rest := []) (wr := []) C0 (c_X6_bestUp oo qn qk qt qx qa ts wa qc pf sp nf ng nc tf0 tg0 tc0 tv0 cn cf cg a1 _ hq13) lk_X6_156_X6_bestUp rfl hP hD hS perm_nil 0 6 rfl rfl rfl hl.1 rfl rfl (Nat.le_of_ble_eq_true rfl) dX6_best_54 ⟨Nat.zero_le _, Nat.zero_le _⟩ (fun r8 w H locs hw hP hD hS => ?_)
          obtain ⟨e1, e2⟩ := hw
          replace e1 : r8 = r8q := e1
          subst e1
          subst e2
          replace hP : va_P D vwCl (List.flatten [(Po oo qn qk qt qx qa ts wa pf (chv qc sp)), (Cw qn cA (chv qc nc) nf ng), (Cw qt cA (chv qc tc_11) tf_9 tg_10), (Vw (qt 15) cA tv_12), (chPool cn qc cA cf cg)]) H := hP.nil
          replace hD : va_D A (List.flatten [(Po oo qn qk qt qx qa ts wa pf (chv qc sp)), (Cw qn cA (chv qc nc) nf ng), (Cw qt cA (chv qc tc_11) tf_9 tg_10), (Vw (qt 15) cA tv_12), (chPool cn qc cA cf cg)]) := hD.nil
          rw [hQ]
          exact ret_i C0 hP hD hS (by have e := Option.some.inj hf; rw [← e]; exact ⟨rfl, rfl⟩) dX6_best_57
        · replace hf := ie_of c7 hf
          by_cases c14 : a2 = 1
          · replace hf := it_of c14 hf
            refine lv_lookup (off := 33) (tgt := 58) hx hb dX6_best_25 (by decide) (by rw [c14]; decide) (by decide) ?_
            refine lv_aload_n hx hb dX6_best_58 rfl (lv_at hl 0 rfl) ?_
            refine lv_iload_n hx hb dX6_best_59 rfl (lv_at hl 1 rfl) ?_
            refine lv_aload_n hx hb dX6_best_60 rfl (lv_at hl 0 rfl) ?_
            refine lv_iload_n hx hb dX6_best_61 rfl (lv_at hl 1 rfl) ?_
            obtain ⟨r15q, tf_16, tg_17, tc_18, tv_19, hq20, hf⟩ := b5_of hf
            refine callVI (As := [.int a1]) (rest := [.int a1, .ref oo]) (wr := []) C0 (c_X6_bestUp oo qn qk qt qx qa ts wa qc pf sp nf ng nc tf0 tg0 tc0 tv0 cn cf cg a1 _ hq20) lk_X6_156_X6_bestUp rfl hP hD hS perm_nil 0 6 rfl rfl rfl hl.1 rfl rfl (Nat.le_of_ble_eq_true rfl) dX6_best_62 ⟨Nat.zero_le _, Nat.zero_le _⟩ (fun r15 w H locs hw hP hD hS => ?_)
            obtain ⟨e1, e2⟩ := hw
            replace e1 : r15 = r15q := e1
            subst e1
            subst e2
            replace hP : va_P D vwCl (List.flatten [(Po oo qn qk qt qx qa ts wa pf (chv qc sp)), (Cw qn cA (chv qc nc) nf ng), (Cw qt cA (chv qc tc_18) tf_16 tg_17), (Vw (qt 15) cA tv_19), (chPool cn qc cA cf cg)]) H := hP.nil
            replace hD : va_D A (List.flatten [(Po oo qn qk qt qx qa ts wa pf (chv qc sp)), (Cw qn cA (chv qc nc) nf ng), (Cw qt cA (chv qc tc_18) tf_16 tg_17), (Vw (qt 15) cA tv_19), (chPool cn qc cA cf cg)]) := hD.nil
            obtain ⟨r21q, tf_22, tg_23, tc_24, tv_25, hq26, hf⟩ := b5_of hf
            refine callVI (As := [.int a1, .int r15]) (rest := []) (wr := []) C0 (c_X6_truthsBehind oo qn qk qt qx qa ts wa qc pf sp nf ng nc tf_16 tg_17 tc_18 tv_19 cn cf cg a1 r15 _ hq26) lk_X6_159_X6_truthsBehind rfl hP hD hS perm_nil 0 6 rfl rfl rfl hl.1 rfl rfl (Nat.le_of_ble_eq_true rfl) dX6_best_65 ⟨Nat.zero_le _, Nat.zero_le _⟩ (fun r21 w H locs hw hP hD hS => ?_)
            obtain ⟨e1, e2⟩ := hw
            replace e1 : r21 = r21q := e1
            subst e1
            subst e2
            replace hP : va_P D vwCl (List.flatten [(Po oo qn qk qt qx qa ts wa pf (chv qc sp)), (Cw qn cA (chv qc nc) nf ng), (Cw qt cA (chv qc tc_24) tf_22 tg_23), (Vw (qt 15) cA tv_25), (chPool cn qc cA cf cg)]) H := hP.nil
            replace hD : va_D A (List.flatten [(Po oo qn qk qt qx qa ts wa pf (chv qc sp)), (Cw qn cA (chv qc nc) nf ng), (Cw qt cA (chv qc tc_24) tf_22 tg_23), (Vw (qt 15) cA tv_25), (chPool cn qc cA cf cg)]) := hD.nil
            rw [hQ]
            exact ret_i C0 hP hD hS (by have e := Option.some.inj hf; rw [← e]; exact ⟨rfl, rfl⟩) dX6_best_68
          · replace hf := ie_of c14 hf
            refine lv_lookup (off := 44) (tgt := 69) hx hb dX6_best_25 (by decide) (by rw [lv_osw c7 (by decide), lv_osw c14 (by decide)]; rfl) (by decide) ?_
            refine lv_aload_n hx hb dX6_best_69 rfl (lv_at hl 0 rfl) ?_
            refine lv_iload_n hx hb dX6_best_70 rfl (lv_at hl 1 rfl) ?_
            obtain ⟨r27q, tf_28, tg_29, tc_30, tv_31, hq32, hf⟩ := b5_of hf
            refine callVI (As := [.int a1]) (rest := []) (wr := []) C0 (c_X6_fright oo qn qk qt qx qa ts wa qc pf sp nf ng nc tf0 tg0 tc0 tv0 cn cf cg a1 _ hq32) lk_X6_163_X6_fright rfl hP hD hS perm_nil 0 6 rfl rfl rfl hl.1 rfl rfl (Nat.le_of_ble_eq_true rfl) dX6_best_71 ⟨Nat.zero_le _, Nat.zero_le _⟩ (fun r27 w H locs hw hP hD hS => ?_)
            obtain ⟨e1, e2⟩ := hw
            replace e1 : r27 = r27q := e1
            subst e1
            subst e2
            replace hP : va_P D vwCl (List.flatten [(Po oo qn qk qt qx qa ts wa pf (chv qc sp)), (Cw qn cA (chv qc nc) nf ng), (Cw qt cA (chv qc tc_30) tf_28 tg_29), (Vw (qt 15) cA tv_31), (chPool cn qc cA cf cg)]) H := hP.nil
            replace hD : va_D A (List.flatten [(Po oo qn qk qt qx qa ts wa pf (chv qc sp)), (Cw qn cA (chv qc nc) nf ng), (Cw qt cA (chv qc tc_30) tf_28 tg_29), (Vw (qt 15) cA tv_31), (chPool cn qc cA cf cg)]) := hD.nil
            rw [hQ]
            exact ret_i C0 hP hD hS (by have e := Option.some.inj hf; rw [← e]; exact ⟨rfl, rfl⟩) dX6_best_74
      · replace hf := ie_of c6 hf
        refine lv_bipush (v := (-2)) hx hb dX6_best_21 (by decide) ?_
        rw [hQ]
        exact ret_i C0 hP hD hS (by have e := Option.some.inj hf; rw [← e]; exact ⟨rfl, rfl⟩) dX6_best_23
  · replace hf := it_of c4 hf
    refine lv_iconst (v := (-1)) hx hb dX6_best_8 (by decide) ?_
    rw [hQ]
    exact ret_i C0 hP hD hS (by have e := Option.some.inj hf; rw [← e]; exact ⟨rfl, rfl⟩) dX6_best_9
-- X6 hear
noncomputable def k_X6_hear (a1 : Int32) (a2 : Int32) (nhc0 : Int32) (nha0 : Nat → Int32) (nhb0 : Nat → Int32) : Option (Int32 × Int32 × (Nat → Int32) × (Nat → Int32)) := if a1 = (-1) then b2 (k_X3_empty nhc0) (fun r19 nhc_20 => some (r19, nhc_20, nha0, nhb0)) else b1 (k_X6_isWithin a1 12) (fun r2 => if r2 = 0 then some ((-2), nhc0, nha0, nhb0) else b1 (k_X6_isWithin a2 999) (fun r6 => if r6 = 0 then some ((-2), nhc0, nha0, nhb0) else b1 (k_X3_isFull 5 nhc0) (fun r10 => if r10 = 0 then b4 (k_X3_add 5 a1 a2 nhc0 nha0 nhb0) (fun r14 nhc_15 nha_16 nhb_17 => some (r14, nhc_15, nha_16, nhb_17)) else some ((-4), nhc0, nha0, nhb0))))
set_option maxHeartbeats 4000000 in
set_option maxRecDepth 100000 in
theorem c_X6_hear {l : Launch} {D : va_G} {cA : Nat → ClassId} (oo : Nat) (qn : Nat → Nat) (qk : Nat → Nat) (qt : Nat → Nat) (qx : Nat → Nat) (qa : Nat → Nat) (ts : Nat) (wa : Nat) (qc : Nat → Nat → Nat) (pf : Nat → Int32) (sp : Option Nat) (nf : Nat → Int32) (ng : Nat → Nat → Int32) (nc : Option Nat) (nhc0 : Int32) (nha0 : Nat → Int32) (nhb0 : Nat → Int32) (a1 : Int32) (a2 : Int32) (o : Int32 × Int32 × (Nat → Int32) × (Nat → Int32)) (hf : k_X6_hear a1 a2 nhc0 nha0 nhb0 = some o) : CI l D cA yX6_hear cX6_hear 3 (some .int) 1 22 [.ref oo, .int a1, .int a2] (List.flatten [(Po oo qn qk qt qx qa ts wa pf (chv qc sp)), (Cw qn cA (chv qc nc) nf ng), (Rw (qn 12) (qn 20) (qn 21) cA 5 nhc0 nha0 nhb0)]) 0 0 (fun r w => r = o.1 ∧ w = (List.flatten [(Po oo qn qk qt qx qa ts wa pf (chv qc sp)), (Cw qn cA (chv qc nc) nf ng), (Rw (qn 12) (qn 20) (qn 21) cA 5 o.2.1 o.2.2.1 o.2.2.2)])) := by
  intro sz
  refine met_start (by decide) rfl ?_
  intro p e s m args below meth c ls hsz hargs C0 hname hP hD hS hl
  generalize hAe : va_A (List.flatten [(Po oo qn qk qt qx qa ts wa pf (chv qc sp)), (Cw qn cA (chv qc nc) nf ng), (Rw (qn 12) (qn 20) (qn 21) cA 5 nhc0 nha0 nhb0)]) sz = A at C0 hD hS ⊢
  obtain ⟨hx, hb, hr, hml, hown, hts, hlk, hK, hA⟩ := id C0
  replace hl : lv_has ls 3 [(0, .ref oo), (1, .int a1), (2, .int a2)] := hl
  obtain ⟨Q, hQ⟩ : ∃ Q : State → Prop, Q = QI below D A (fun r w => r = o.1 ∧ w = (List.flatten [(Po oo qn qk qt qx qa ts wa pf (chv qc sp)), (Cw qn cA (chv qc nc) nf ng), (Rw (qn 12) (qn 20) (qn 21) cA 5 o.2.1 o.2.2.1 o.2.2.2)])) args s 0 0 := ⟨_, rfl⟩
  refine cast (by rw [hQ]) (?_ : W p l e (RMx 1 22 0 0) s m args below meth c s.heap [] 0 0 Q (F0 m 0 ls []))
  unfold k_X6_hear at hf
  refine lv_iload_n hx hb dX6_hear_0 rfl (lv_at hl 1 rfl) ?_
  refine lv_iconst (v := (-1)) hx hb dX6_hear_1 (by decide) ?_
  refine lv_icmp_ne (tgt := 16) hx hb dX6_hear_2 (by decide) (fun c1 => ?_) (fun c1 => ?_)
  · replace hf := ie_of c1 hf
    refine lv_iload_n hx hb dX6_hear_16 rfl (lv_at hl 1 rfl) ?_
    refine lv_bipush (v := 12) hx hb dX6_hear_17 (by decide) ?_
    obtain ⟨r2q, hq3, hf⟩ := b1_of hf
    refine callSI (As := [.int a1, .int 12]) (rest := []) (wr := (List.flatten [(Po oo qn qk qt qx qa ts wa pf (chv qc sp)), (Cw qn cA (chv qc nc) nf ng), (Rw (qn 12) (qn 20) (qn 21) cA 5 nhc0 nha0 nhb0)])) C0 (c_X6_isWithin a1 12 _ hq3) lk_X6_49_X6_isWithin rfl hP hD hS (List.Perm.refl _) hl.1 rfl rfl (Nat.le_of_ble_eq_true rfl) dX6_hear_19 ⟨Nat.zero_le _, Nat.zero_le _⟩ (fun r2 w H locs hw hP hD hS => ?_)
    obtain ⟨⟨e1, e2⟩, z4⟩ := hw
    replace e1 : r2 = r2q := e1
    subst e1
    subst e2
    replace hP : va_P D vwCl (List.flatten [(Po oo qn qk qt qx qa ts wa pf (chv qc sp)), (Cw qn cA (chv qc nc) nf ng), (Rw (qn 12) (qn 20) (qn 21) cA 5 nhc0 nha0 nhb0)]) H := hP
    replace hD : va_D A (List.flatten [(Po oo qn qk qt qx qa ts wa pf (chv qc sp)), (Cw qn cA (chv qc nc) nf ng), (Rw (qn 12) (qn 20) (qn 21) cA 5 nhc0 nha0 nhb0)]) := hD
    refine lv_if_eq (tgt := 35) hx hb dX6_hear_22 (by decide) (fun c5 => ?_) (fun c5 => ?_)
    · replace hf := it_of c5 hf
      refine lv_bipush (v := (-2)) hx hb dX6_hear_35 (by decide) ?_
      rw [hQ]
      exact ret_i C0 hP hD hS (by have e := Option.some.inj hf; rw [← e]; exact ⟨rfl, rfl⟩) dX6_hear_37
    · replace hf := ie_of c5 hf
      refine lv_iload_n hx hb dX6_hear_25 rfl (lv_at hl 2 rfl) ?_
      refine lv_sipush (v := 999) hx hb dX6_hear_26 (by decide) ?_
      obtain ⟨r6q, hq7, hf⟩ := b1_of hf
      refine callSI (As := [.int a2, .int 999]) (rest := []) (wr := (List.flatten [(Po oo qn qk qt qx qa ts wa pf (chv qc sp)), (Cw qn cA (chv qc nc) nf ng), (Rw (qn 12) (qn 20) (qn 21) cA 5 nhc0 nha0 nhb0)])) C0 (c_X6_isWithin a2 999 _ hq7) lk_X6_49_X6_isWithin rfl hP hD hS (List.Perm.refl _) hl.1 rfl rfl (Nat.le_of_ble_eq_true rfl) dX6_hear_29 ⟨Nat.zero_le _, Nat.zero_le _⟩ (fun r6 w H locs hw hP hD hS => ?_)
      obtain ⟨⟨e1, e2⟩, z8⟩ := hw
      replace e1 : r6 = r6q := e1
      subst e1
      subst e2
      replace hP : va_P D vwCl (List.flatten [(Po oo qn qk qt qx qa ts wa pf (chv qc sp)), (Cw qn cA (chv qc nc) nf ng), (Rw (qn 12) (qn 20) (qn 21) cA 5 nhc0 nha0 nhb0)]) H := hP
      replace hD : va_D A (List.flatten [(Po oo qn qk qt qx qa ts wa pf (chv qc sp)), (Cw qn cA (chv qc nc) nf ng), (Rw (qn 12) (qn 20) (qn 21) cA 5 nhc0 nha0 nhb0)]) := hD
      refine lv_if_ne (tgt := 38) hx hb dX6_hear_32 (by decide) (fun c9 => ?_) (fun c9 => ?_)
      · replace hf := ie_of c9 hf
        refine lv_aload_n hx hb dX6_hear_38 rfl (lv_at hl 0 rfl) ?_
        refine va_get (D := D) (ci := 6) (v := .ref (qn 0)) (C := RX6) (T := TX6) (N := 10) hx hb hts fw_6 hown hK hP 0 rfl rfl 0 (by decide) (hts _ m_fieldLink_P_12_P_now_LP_Cellar) (fun _ h9 => h9) rfl dX6_hear_39 ?_
        refine va_get (D := D) (ci := 1) (v := .ref (qn 12)) (C := RX1) (T := TX1) (N := 16) hx hb hts fw_1 hown hK hP 1 rfl rfl 12 (by decide) (hts _ m_fieldLink_P_166_P_Cellar_heard_LP_Rows) (fun _ h9 => h9) rfl dX6_hear_42 ?_
        obtain ⟨r10q, hq11, hf⟩ := b1_of hf
        refine callVI (As := []) (rest := []) (wr := segpick [(Po oo qn qk qt qx qa ts wa pf (chv qc sp)), (Cw qn cA (chv qc nc) nf ng), (Rw (qn 12) (qn 20) (qn 21) cA 5 nhc0 nha0 nhb0)] [0, 1]) C0 (c_X3_isFull (qn 12) (qn 20) (qn 21) 5 nhc0 nha0 nhb0 _ hq11) lk_X6_175_X3_isFull rfl hP hD hS (seg_out [(Po oo qn qk qt qx qa ts wa pf (chv qc sp)), (Cw qn cA (chv qc nc) nf ng), (Rw (qn 12) (qn 20) (qn 21) cA 5 nhc0 nha0 nhb0)] [2] [0, 1] 3 rfl (by decide)) 7 3 rfl rfl rfl hl.1 rfl rfl (Nat.le_of_ble_eq_true rfl) dX6_hear_45 ⟨Nat.zero_le _, Nat.zero_le _⟩ (fun r10 w H locs hw hP hD hS => ?_)
        obtain ⟨⟨e1, e2⟩, z12⟩ := hw
        replace e1 : r10 = r10q := e1
        subst e1
        subst e2
        replace hP : va_P D vwCl (List.flatten [(Po oo qn qk qt qx qa ts wa pf (chv qc sp)), (Cw qn cA (chv qc nc) nf ng), (Rw (qn 12) (qn 20) (qn 21) cA 5 nhc0 nha0 nhb0)]) H := hP.perm (seg_out [(Po oo qn qk qt qx qa ts wa pf (chv qc sp)), (Cw qn cA (chv qc nc) nf ng), (Rw (qn 12) (qn 20) (qn 21) cA 5 nhc0 nha0 nhb0)] [2] [0, 1] 3 rfl (by decide)).symm
        replace hD : va_D A (List.flatten [(Po oo qn qk qt qx qa ts wa pf (chv qc sp)), (Cw qn cA (chv qc nc) nf ng), (Rw (qn 12) (qn 20) (qn 21) cA 5 nhc0 nha0 nhb0)]) := hD.perm (seg_out [(Po oo qn qk qt qx qa ts wa pf (chv qc sp)), (Cw qn cA (chv qc nc) nf ng), (Rw (qn 12) (qn 20) (qn 21) cA 5 nhc0 nha0 nhb0)] [2] [0, 1] 3 rfl (by decide)).symm
        refine lv_if_eq (tgt := 56) hx hb dX6_hear_48 (by decide) (fun c13 => ?_) (fun c13 => ?_)
        · replace hf := it_of c13 hf
          refine lv_aload_n hx hb dX6_hear_56 rfl (lv_at hl 0 rfl) ?_
          refine va_get (D := D) (ci := 6) (v := .ref (qn 0)) (C := RX6) (T := TX6) (N := 10) hx hb hts fw_6 hown hK hP 0 rfl rfl 0 (by decide) (hts _ m_fieldLink_P_12_P_now_LP_Cellar) (fun _ h9 => h9) rfl dX6_hear_57 ?_
          refine va_get (D := D) (ci := 1) (v := .ref (qn 12)) (C := RX1) (T := TX1) (N := 16) hx hb hts fw_1 hown hK hP 1 rfl rfl 12 (by decide) (hts _ m_fieldLink_P_166_P_Cellar_heard_LP_Rows) (fun _ h9 => h9) rfl dX6_hear_60 ?_
          refine lv_iload_n hx hb dX6_hear_63 rfl (lv_at hl 1 rfl) ?_
          refine lv_iload_n hx hb dX6_hear_64 rfl (lv_at hl 2 rfl) ?_
          obtain ⟨r14q, nhc_15, nha_16, nhb_17, hq18, hf⟩ := b4_of hf
          refine callVI (As := [.int a1, .int a2]) (rest := []) (wr := segpick [(Po oo qn qk qt qx qa ts wa pf (chv qc sp)), (Cw qn cA (chv qc nc) nf ng), (Rw (qn 12) (qn 20) (qn 21) cA 5 nhc0 nha0 nhb0)] [0, 1]) C0 (c_X3_add (qn 12) (qn 20) (qn 21) 5 nhc0 nha0 nhb0 a1 a2 _ hq18) lk_X6_179_X3_add rfl hP hD hS (seg_out [(Po oo qn qk qt qx qa ts wa pf (chv qc sp)), (Cw qn cA (chv qc nc) nf ng), (Rw (qn 12) (qn 20) (qn 21) cA 5 nhc0 nha0 nhb0)] [2] [0, 1] 3 rfl (by decide)) 7 3 rfl rfl rfl hl.1 rfl rfl (Nat.le_of_ble_eq_true rfl) dX6_hear_65 ⟨Nat.zero_le _, Nat.zero_le _⟩ (fun r14 w H locs hw hP hD hS => ?_)
          obtain ⟨e1, e2⟩ := hw
          replace e1 : r14 = r14q := e1
          subst e1
          subst e2
          replace hP : va_P D vwCl (List.flatten [(Po oo qn qk qt qx qa ts wa pf (chv qc sp)), (Cw qn cA (chv qc nc) nf ng), (Rw (qn 12) (qn 20) (qn 21) cA 5 nhc_15 nha_16 nhb_17)]) H := hP.perm (seg_out [(Po oo qn qk qt qx qa ts wa pf (chv qc sp)), (Cw qn cA (chv qc nc) nf ng), (Rw (qn 12) (qn 20) (qn 21) cA 5 nhc_15 nha_16 nhb_17)] [2] [0, 1] 3 rfl (by decide)).symm
          replace hD : va_D A (List.flatten [(Po oo qn qk qt qx qa ts wa pf (chv qc sp)), (Cw qn cA (chv qc nc) nf ng), (Rw (qn 12) (qn 20) (qn 21) cA 5 nhc_15 nha_16 nhb_17)]) := hD.perm (seg_out [(Po oo qn qk qt qx qa ts wa pf (chv qc sp)), (Cw qn cA (chv qc nc) nf ng), (Rw (qn 12) (qn 20) (qn 21) cA 5 nhc_15 nha_16 nhb_17)] [2] [0, 1] 3 rfl (by decide)).symm
          rw [hQ]
          exact ret_i C0 hP hD hS (by have e := Option.some.inj hf; rw [← e]; exact ⟨rfl, rfl⟩) dX6_hear_68
        · replace hf := ie_of c13 hf
          refine lv_bipush (v := (-4)) hx hb dX6_hear_51 (by decide) ?_
          refine lv_goto (tgt := 68) hx hb dX6_hear_53 (by decide) ?_
          rw [hQ]
          exact ret_i C0 hP hD hS (by have e := Option.some.inj hf; rw [← e]; exact ⟨rfl, rfl⟩) dX6_hear_68
      · replace hf := it_of c9 hf
        refine lv_bipush (v := (-2)) hx hb dX6_hear_35 (by decide) ?_
        rw [hQ]
        exact ret_i C0 hP hD hS (by have e := Option.some.inj hf; rw [← e]; exact ⟨rfl, rfl⟩) dX6_hear_37
  · replace hf := it_of c1 hf
    refine lv_aload_n hx hb dX6_hear_5 rfl (lv_at hl 0 rfl) ?_
    refine va_get (D := D) (ci := 6) (v := .ref (qn 0)) (C := RX6) (T := TX6) (N := 10) hx hb hts fw_6 hown hK hP 0 rfl rfl 0 (by decide) (hts _ m_fieldLink_P_12_P_now_LP_Cellar) (fun _ h9 => h9) rfl dX6_hear_6 ?_
    refine va_get (D := D) (ci := 1) (v := .ref (qn 12)) (C := RX1) (T := TX1) (N := 16) hx hb hts fw_1 hown hK hP 1 rfl rfl 12 (by decide) (hts _ m_fieldLink_P_166_P_Cellar_heard_LP_Rows) (fun _ h9 => h9) rfl dX6_hear_9 ?_
    obtain ⟨r19q, nhc_20, hq21, hf⟩ := b2_of hf
    refine callVI (As := []) (rest := []) (wr := segpick [(Po oo qn qk qt qx qa ts wa pf (chv qc sp)), (Cw qn cA (chv qc nc) nf ng), (Rw (qn 12) (qn 20) (qn 21) cA 5 nhc0 nha0 nhb0)] [0, 1]) C0 (c_X3_empty (qn 12) (qn 20) (qn 21) 5 nhc0 nha0 nhb0 _ hq21) lk_X6_170_X3_empty rfl hP hD hS (seg_out [(Po oo qn qk qt qx qa ts wa pf (chv qc sp)), (Cw qn cA (chv qc nc) nf ng), (Rw (qn 12) (qn 20) (qn 21) cA 5 nhc0 nha0 nhb0)] [2] [0, 1] 3 rfl (by decide)) 7 3 rfl rfl rfl hl.1 rfl rfl (Nat.le_of_ble_eq_true rfl) dX6_hear_12 ⟨Nat.zero_le _, Nat.zero_le _⟩ (fun r19 w H locs hw hP hD hS => ?_)
    obtain ⟨e1, e2⟩ := hw
    replace e1 : r19 = r19q := e1
    subst e1
    subst e2
    replace hP : va_P D vwCl (List.flatten [(Po oo qn qk qt qx qa ts wa pf (chv qc sp)), (Cw qn cA (chv qc nc) nf ng), (Rw (qn 12) (qn 20) (qn 21) cA 5 nhc_20 nha0 nhb0)]) H := hP.perm (seg_out [(Po oo qn qk qt qx qa ts wa pf (chv qc sp)), (Cw qn cA (chv qc nc) nf ng), (Rw (qn 12) (qn 20) (qn 21) cA 5 nhc_20 nha0 nhb0)] [2] [0, 1] 3 rfl (by decide)).symm
    replace hD : va_D A (List.flatten [(Po oo qn qk qt qx qa ts wa pf (chv qc sp)), (Cw qn cA (chv qc nc) nf ng), (Rw (qn 12) (qn 20) (qn 21) cA 5 nhc_20 nha0 nhb0)]) := hD.perm (seg_out [(Po oo qn qk qt qx qa ts wa pf (chv qc sp)), (Cw qn cA (chv qc nc) nf ng), (Rw (qn 12) (qn 20) (qn 21) cA 5 nhc_20 nha0 nhb0)] [2] [0, 1] 3 rfl (by decide)).symm
    rw [hQ]
    exact ret_i C0 hP hD hS (by have e := Option.some.inj hf; rw [← e]; exact ⟨rfl, rfl⟩) dX6_hear_15
-- X6 likelyNumbers
noncomputable def k_X6_likelyNumbers_4 (a1 : Int32) (nf : Nat → Int32) (ng : Nat → Nat → Int32) (nc : Option Nat) (nhc : Int32) (nha : Nat → Int32) (nhb : Nat → Int32) (cn : Nat) (cf : Nat → Nat → Int32) (cg : Nat → Nat → Nat → Int32) : Nat → Int32 → Int32 → (Nat → Int32) → (Nat → Nat → Int32) → Option Nat → (Nat → Int32) → Option (Int32 × (Nat → Int32) × (Nat → Nat → Int32) × Option Nat × (Nat → Int32))
  | 0, _, _, _, _, _, _ => none
  | n + 1, x2, x3, tf, tg, tc, tv => if 9 < x3 then some (x2, tf, tg, tc, tv) else b3 (k_X6_begin nf ng nc tf tg tc) (fun tf_2 tg_3 tc_4 => gd a1 6 (b4 (k_X6_isAsHeard nhc nha nhb tf_2 (va_up tg_3 8 (upd (tg_3 8) (Int32.toNatClampNeg a1) x3)) tc_4 tv cn cf cg) (fun r7 tf_8 tg_9 tv_10 => if r7 = 0 then k_X6_likelyNumbers_4 a1 nf ng nc nhc nha nhb cn cf cg n x2 (x3 + 1) tf_8 tg_9 tc_4 tv_10 else k_X6_likelyNumbers_4 a1 nf ng nc nhc nha nhb cn cf cg n (x2 ||| (1 <<< (x3 &&& 31))) (x3 + 1) tf_8 tg_9 tc_4 tv_10)))
noncomputable def k_X6_likelyNumbers (a1 : Int32) (nf : Nat → Int32) (ng : Nat → Nat → Int32) (nc : Option Nat) (nhc : Int32) (nha : Nat → Int32) (nhb : Nat → Int32) (tf0 : Nat → Int32) (tg0 : Nat → Nat → Int32) (tc0 : Option Nat) (tv0 : Nat → Int32) (cn : Nat) (cf : Nat → Nat → Int32) (cg : Nat → Nat → Nat → Int32) : Option (Int32 × (Nat → Int32) × (Nat → Nat → Int32) × Option Nat × (Nat → Int32)) := k_X6_likelyNumbers_4 a1 nf ng nc nhc nha nhb cn cf cg 100000 0 0 tf0 tg0 tc0 tv0
set_option maxHeartbeats 4000000 in
set_option maxRecDepth 100000 in
theorem c_X6_likelyNumbers {l : Launch} {D : va_G} {cA : Nat → ClassId} (oo : Nat) (qn : Nat → Nat) (qk : Nat → Nat) (qt : Nat → Nat) (qx : Nat → Nat) (qa : Nat → Nat) (ts : Nat) (wa : Nat) (qc : Nat → Nat → Nat) (pf : Nat → Int32) (sp : Option Nat) (nf : Nat → Int32) (ng : Nat → Nat → Int32) (nc : Option Nat) (nhc : Int32) (nha : Nat → Int32) (nhb : Nat → Int32) (tf0 : Nat → Int32) (tg0 : Nat → Nat → Int32) (tc0 : Option Nat) (tv0 : Nat → Int32) (cn : Nat) (cf : Nat → Nat → Int32) (cg : Nat → Nat → Nat → Int32) (a1 : Int32) (o : Int32 × (Nat → Int32) × (Nat → Nat → Int32) × Option Nat × (Nat → Int32)) (hf : k_X6_likelyNumbers a1 nf ng nc nhc nha nhb tf0 tg0 tc0 tv0 cn cf cg = some o) : CI l D cA yX6_likelyNumbers cX6_likelyNumbers 5 (some .int) 5 121 [.ref oo, .int a1] (List.flatten [(Po oo qn qk qt qx qa ts wa pf (chv qc sp)), (Cw qn cA (chv qc nc) nf ng), (Rw (qn 12) (qn 20) (qn 21) cA 5 nhc nha nhb), (Cw qt cA (chv qc tc0) tf0 tg0), (Vw (qt 15) cA tv0), (chPool cn qc cA cf cg)]) 0 0 (fun r w => r = o.1 ∧ w = (List.flatten [(Po oo qn qk qt qx qa ts wa pf (chv qc sp)), (Cw qn cA (chv qc nc) nf ng), (Rw (qn 12) (qn 20) (qn 21) cA 5 nhc nha nhb), (Cw qt cA (chv qc o.2.2.2.1) o.2.1 o.2.2.1), (Vw (qt 15) cA o.2.2.2.2), (chPool cn qc cA cf cg)])) := by
  intro sz
  refine met_start (by decide) rfl ?_
  intro p e s m args below meth c ls hsz hargs C0 hname hP hD hS hl
  generalize hAe : va_A (List.flatten [(Po oo qn qk qt qx qa ts wa pf (chv qc sp)), (Cw qn cA (chv qc nc) nf ng), (Rw (qn 12) (qn 20) (qn 21) cA 5 nhc nha nhb), (Cw qt cA (chv qc tc0) tf0 tg0), (Vw (qt 15) cA tv0), (chPool cn qc cA cf cg)]) sz = A at C0 hD hS ⊢
  obtain ⟨hx, hb, hr, hml, hown, hts, hlk, hK, hA⟩ := id C0
  replace hl : lv_has ls 5 [(0, .ref oo), (1, .int a1)] := hl
  obtain ⟨Q, hQ⟩ : ∃ Q : State → Prop, Q = QI below D A (fun r w => r = o.1 ∧ w = (List.flatten [(Po oo qn qk qt qx qa ts wa pf (chv qc sp)), (Cw qn cA (chv qc nc) nf ng), (Rw (qn 12) (qn 20) (qn 21) cA 5 nhc nha nhb), (Cw qt cA (chv qc o.2.2.2.1) o.2.1 o.2.2.1), (Vw (qt 15) cA o.2.2.2.2), (chPool cn qc cA cf cg)])) args s 0 0 := ⟨_, rfl⟩
  refine cast (by rw [hQ]) (?_ : W p l e (RMx 5 121 0 0) s m args below meth c s.heap [] 0 0 Q (F0 m 0 ls []))
  have J4 : ∀ n : Nat, ∀ (x2 : Int32) (x3 : Int32) (tf : Nat → Int32) (tg : Nat → Nat → Int32) (tc : Option Nat) (tv : Nat → Int32), k_X6_likelyNumbers_4 a1 nf ng nc nhc nha nhb cn cf cg n x2 x3 tf tg tc tv = some o → ∀ (H : Heap) (locs : List Loc), va_P D vwCl (List.flatten [(Po oo qn qk qt qx qa ts wa pf (chv qc sp)), (Cw qn cA (chv qc nc) nf ng), (Rw (qn 12) (qn 20) (qn 21) cA 5 nhc nha nhb), (Cw qt cA (chv qc tc) tf tg), (Vw (qt 15) cA tv), (chPool cn qc cA cf cg)]) H → va_D A (List.flatten [(Po oo qn qk qt qx qa ts wa pf (chv qc sp)), (Cw qn cA (chv qc nc) nf ng), (Rw (qn 12) (qn 20) (qn 21) cA 5 nhc nha nhb), (Cw qt cA (chv qc tc) tf tg), (Vw (qt 15) cA tv), (chPool cn qc cA cf cg)]) → va_S A s.heap H locs → ∀ ls : Array Slot, lv_has ls 5 [(0, .ref oo), (1, .int a1), (2, .int x2), (3, .int x3)] → W p l e (RMx 5 121 0 0) s m args below meth c H locs 0 0 Q (F0 m 4 ls []) := by
    intro  n
    induction n with
    | zero =>
      intro x2 x3 tf tg tc tv hf
      rw [k_X6_likelyNumbers_4] at hf
      cases hf
    | succ n ih =>
      intro x2 x3 tf tg tc tv hf H locs hP hD hS ls hl
      rw [k_X6_likelyNumbers_4] at hf
      refine lv_iload_n hx hb dX6_likelyNumbers_4 rfl (lv_at hl 3 rfl) ?_
      refine lv_bipush (v := 9) hx hb dX6_likelyNumbers_5 (by decide) ?_
      refine lv_icmp_gt (tgt := 45) hx hb dX6_likelyNumbers_7 (by decide) (fun c1 => ?_) (fun c1 => ?_)
      · replace hf := it_of c1 hf
        refine lv_iload_n hx hb dX6_likelyNumbers_45 rfl (lv_at hl 2 rfl) ?_
        rw [hQ]
        exact ret_i C0 hP hD hS (by have e := Option.some.inj hf; rw [← e]; exact ⟨rfl, rfl⟩) dX6_likelyNumbers_46
      · replace hf := ie_of c1 hf
        refine lv_aload_n hx hb dX6_likelyNumbers_10 rfl (lv_at hl 0 rfl) ?_
        obtain ⟨tf_2, tg_3, tc_4, hq5, hf⟩ := b3_of hf
        refine callVR (As := []) (rest := []) (wr := segpick [(Po oo qn qk qt qx qa ts wa pf (chv qc sp)), (Cw qn cA (chv qc nc) nf ng), (Rw (qn 12) (qn 20) (qn 21) cA 5 nhc nha nhb), (Cw qt cA (chv qc tc) tf tg), (Vw (qt 15) cA tv), (chPool cn qc cA cf cg)] [2, 4, 5]) C0 (c_X6_begin oo qn qk qt qx qa ts wa qc pf sp nf ng nc tf tg tc _ hq5) lk_X6_151_X6_begin rfl hP hD hS (seg_out [(Po oo qn qk qt qx qa ts wa pf (chv qc sp)), (Cw qn cA (chv qc nc) nf ng), (Rw (qn 12) (qn 20) (qn 21) cA 5 nhc nha nhb), (Cw qt cA (chv qc tc) tf tg), (Vw (qt 15) cA tv), (chPool cn qc cA cf cg)] [0, 1, 3] [2, 4, 5] 6 rfl (by decide)) 0 6 rfl rfl rfl hl.1 rfl rfl (Nat.le_of_ble_eq_true rfl) dX6_likelyNumbers_11 ⟨Nat.zero_le _, Nat.zero_le _⟩ (fun rhq5_ w H locs hw hP hD hS => ?_)
        obtain ⟨e1, e2⟩ := hw
        subst e1
        subst e2
        replace hP : va_P D vwCl (List.flatten [(Po oo qn qk qt qx qa ts wa pf (chv qc sp)), (Cw qn cA (chv qc nc) nf ng), (Rw (qn 12) (qn 20) (qn 21) cA 5 nhc nha nhb), (Cw qt cA (chv qc tc_4) tf_2 tg_3), (Vw (qt 15) cA tv), (chPool cn qc cA cf cg)]) H := hP.perm (seg_out [(Po oo qn qk qt qx qa ts wa pf (chv qc sp)), (Cw qn cA (chv qc nc) nf ng), (Rw (qn 12) (qn 20) (qn 21) cA 5 nhc nha nhb), (Cw qt cA (chv qc tc_4) tf_2 tg_3), (Vw (qt 15) cA tv), (chPool cn qc cA cf cg)] [0, 1, 3] [2, 4, 5] 6 rfl (by decide)).symm
        replace hD : va_D A (List.flatten [(Po oo qn qk qt qx qa ts wa pf (chv qc sp)), (Cw qn cA (chv qc nc) nf ng), (Rw (qn 12) (qn 20) (qn 21) cA 5 nhc nha nhb), (Cw qt cA (chv qc tc_4) tf_2 tg_3), (Vw (qt 15) cA tv), (chPool cn qc cA cf cg)]) := hD.perm (seg_out [(Po oo qn qk qt qx qa ts wa pf (chv qc sp)), (Cw qn cA (chv qc nc) nf ng), (Rw (qn 12) (qn 20) (qn 21) cA 5 nhc nha nhb), (Cw qt cA (chv qc tc_4) tf_2 tg_3), (Vw (qt 15) cA tv), (chPool cn qc cA cf cg)] [0, 1, 3] [2, 4, 5] 6 rfl (by decide)).symm
        refine lv_astore (lv' := [(4, .ref (qt 0)), (0, .ref oo), (1, .int a1), (2, .int x2), (3, .int x3)]) hx hb dX6_likelyNumbers_14 hl (by decide) rfl (fun ls hl => ?_)
        refine lv_aload hx hb dX6_likelyNumbers_16 (lv_at hl 0 rfl) ?_
        refine va_get (D := D) (ci := 1) (v := .ref (qt 8)) (C := RX1) (T := TX1) (N := 16) hx hb hts fw_1 hown hK hP 10 rfl rfl 8 (by decide) (hts _ m_fieldLink_P_68_P_Cellar_v_aI) (fun _ h9 => h9) rfl dX6_likelyNumbers_18 ?_
        refine lv_iload_n hx hb dX6_likelyNumbers_21 rfl (lv_at hl 2 rfl) ?_
        refine lv_iload_n hx hb dX6_likelyNumbers_22 rfl (lv_at hl 4 rfl) ?_
        obtain ⟨hi6, hf⟩ := gd_of hf
        refine va_iast hx hb hK hP hD hS 12 0 rfl rfl hi6 dX6_likelyNumbers_23 (fun H locs hP hD hS => ?_)
        replace hP : va_P D vwCl (List.flatten [(Po oo qn qk qt qx qa ts wa pf (chv qc sp)), (Cw qn cA (chv qc nc) nf ng), (Rw (qn 12) (qn 20) (qn 21) cA 5 nhc nha nhb), (Cw qt cA (chv qc tc_4) tf_2 (va_up tg_3 8 (upd (tg_3 8) (Int32.toNatClampNeg a1) x3))), (Vw (qt 15) cA tv), (chPool cn qc cA cf cg)]) H := hP
        replace hD : va_D A (List.flatten [(Po oo qn qk qt qx qa ts wa pf (chv qc sp)), (Cw qn cA (chv qc nc) nf ng), (Rw (qn 12) (qn 20) (qn 21) cA 5 nhc nha nhb), (Cw qt cA (chv qc tc_4) tf_2 (va_up tg_3 8 (upd (tg_3 8) (Int32.toNatClampNeg a1) x3))), (Vw (qt 15) cA tv), (chPool cn qc cA cf cg)]) := hD
        refine lv_aload_n hx hb dX6_likelyNumbers_24 rfl (lv_at hl 1 rfl) ?_
        refine lv_aload hx hb dX6_likelyNumbers_25 (lv_at hl 0 rfl) ?_
        obtain ⟨r7q, tf_8, tg_9, tv_10, hq11, hf⟩ := b4_of hf
        refine callVI (As := [.ref (qt 0)]) (rest := []) (wr := []) C0 (c_X6_isAsHeard oo qn qk qt qx qa ts wa qc pf sp nf ng nc nhc nha nhb tf_2 (va_up tg_3 8 (upd (tg_3 8) (Int32.toNatClampNeg a1) x3)) tc_4 tv cn cf cg _ hq11) lk_X6_284_X6_isAsHeard rfl hP hD hS perm_nil 0 6 rfl rfl rfl hl.1 rfl rfl (Nat.le_of_ble_eq_true rfl) dX6_likelyNumbers_27 ⟨Nat.zero_le _, Nat.zero_le _⟩ (fun r7 w H locs hw hP hD hS => ?_)
        obtain ⟨⟨e1, e2⟩, z12⟩ := hw
        replace e1 : r7 = r7q := e1
        subst e1
        subst e2
        replace hP : va_P D vwCl (List.flatten [(Po oo qn qk qt qx qa ts wa pf (chv qc sp)), (Cw qn cA (chv qc nc) nf ng), (Rw (qn 12) (qn 20) (qn 21) cA 5 nhc nha nhb), (Cw qt cA (chv qc tc_4) tf_8 tg_9), (Vw (qt 15) cA tv_10), (chPool cn qc cA cf cg)]) H := hP.nil
        replace hD : va_D A (List.flatten [(Po oo qn qk qt qx qa ts wa pf (chv qc sp)), (Cw qn cA (chv qc nc) nf ng), (Rw (qn 12) (qn 20) (qn 21) cA 5 nhc nha nhb), (Cw qt cA (chv qc tc_4) tf_8 tg_9), (Vw (qt 15) cA tv_10), (chPool cn qc cA cf cg)]) := hD.nil
        refine lv_if_eq (tgt := 39) hx hb dX6_likelyNumbers_30 (by decide) (fun c13 => ?_) (fun c13 => ?_)
        · replace hf := it_of c13 hf
          refine lv_iinc (v := (x3 + 1)) (lv' := [(3, .int (x3 + 1)), (4, .ref (qt 0)), (0, .ref oo), (1, .int a1), (2, .int x2)]) hx hb dX6_likelyNumbers_39 hl (k := 4) rfl rfl (by decide) rfl (fun ls hl => ?_)
          refine lv_goto (tgt := 4) hx hb dX6_likelyNumbers_42 (by decide) ?_
          exact ih x2 (x3 + 1) tf_8 tg_9 tc_4 tv_10 hf _ _ hP hD hS _ (lv_sub hl [2, 3, 4, 0] rfl)
        · replace hf := ie_of c13 hf
          refine lv_iload_n hx hb dX6_likelyNumbers_33 rfl (lv_at hl 3 rfl) ?_
          refine lv_iconst (v := 1) hx hb dX6_likelyNumbers_34 (by decide) ?_
          refine lv_iload_n hx hb dX6_likelyNumbers_35 rfl (lv_at hl 4 rfl) ?_
          refine lv_ishl hx hb dX6_likelyNumbers_36 ?_
          refine lv_ior hx hb dX6_likelyNumbers_37 ?_
          refine lv_istore_n (lv' := [(2, .int (x2 ||| (1 <<< (x3 &&& 31)))), (4, .ref (qt 0)), (0, .ref oo), (1, .int a1), (3, .int x3)]) hx hb dX6_likelyNumbers_38 rfl hl (by decide) rfl (fun ls hl => ?_)
          refine lv_iinc (v := (x3 + 1)) (lv' := [(3, .int (x3 + 1)), (2, .int (x2 ||| (1 <<< (x3 &&& 31)))), (4, .ref (qt 0)), (0, .ref oo), (1, .int a1)]) hx hb dX6_likelyNumbers_39 hl (k := 4) rfl rfl (by decide) rfl (fun ls hl => ?_)
          refine lv_goto (tgt := 4) hx hb dX6_likelyNumbers_42 (by decide) ?_
          exact ih (x2 ||| (1 <<< (x3 &&& 31))) (x3 + 1) tf_8 tg_9 tc_4 tv_10 hf _ _ hP hD hS _ (lv_sub hl [3, 4, 1, 0] rfl)
  unfold k_X6_likelyNumbers at hf
  refine lv_iconst (v := 0) hx hb dX6_likelyNumbers_0 (by decide) ?_
  refine lv_istore_n (lv' := [(2, .int 0), (0, .ref oo), (1, .int a1)]) hx hb dX6_likelyNumbers_1 rfl hl (by decide) rfl (fun ls hl => ?_)
  refine lv_iconst (v := 0) hx hb dX6_likelyNumbers_2 (by decide) ?_
  refine lv_istore_n (lv' := [(3, .int 0), (2, .int 0), (0, .ref oo), (1, .int a1)]) hx hb dX6_likelyNumbers_3 rfl hl (by decide) rfl (fun ls hl => ?_)
  exact J4 100000 0 0 tf0 tg0 tc0 tv0 hf _ _ hP hD hS _ (lv_sub hl [2, 3, 1, 0] rfl)
-- X6 leastOf
noncomputable def k_X6_leastOf_2 (a0 : Int32) : Nat → Int32 → Option Int32
  | 0, _ => none
  | n + 1, x1 => if 9 < x1 then some (-5) else if ((a0 >>> (x1 &&& 31)) &&& 1) = 0 then k_X6_leastOf_2 a0 n (x1 + 1) else some x1
noncomputable def k_X6_leastOf (a0 : Int32) : Option Int32 := k_X6_leastOf_2 a0 100000 0
set_option maxHeartbeats 4000000 in
set_option maxRecDepth 100000 in
theorem c_X6_leastOf {l : Launch} {D : va_G} {cA : Nat → ClassId}   (a0 : Int32) (o : Int32) (hf : k_X6_leastOf a0 = some o) : CI l D cA yX6_leastOf cX6_leastOf 2 (some .int) 0 0 [.int a0] ([] : va_W) 0 0 (fun r w => r = o ∧ w = ([] : va_W)) := by
  intro sz
  refine met_start (by decide) rfl ?_
  intro p e s m args below meth c ls hsz hargs C0 hname hP hD hS hl
  generalize hAe : va_A ([] : va_W) sz = A at C0 hD hS ⊢
  obtain ⟨hx, hb, hr, hml, hown, hts, hlk, hK, hA⟩ := id C0
  replace hl : lv_has ls 2 [(0, .int a0)] := hl
  obtain ⟨Q, hQ⟩ : ∃ Q : State → Prop, Q = QI below D A (fun r w => r = o ∧ w = ([] : va_W)) args s 0 0 := ⟨_, rfl⟩
  refine cast (by rw [hQ]) (?_ : W p l e (RMx 0 0 0 0) s m args below meth c s.heap [] 0 0 Q (F0 m 0 ls []))
  have J2 : ∀ n : Nat, ∀ (x1 : Int32), k_X6_leastOf_2 a0 n x1 = some o → ∀ (H : Heap) (locs : List Loc), va_P D vwCl ([] : va_W) H → va_D A ([] : va_W) → va_S A s.heap H locs → ∀ ls : Array Slot, lv_has ls 2 [(0, .int a0), (1, .int x1)] → W p l e (RMx 0 0 0 0) s m args below meth c H locs 0 0 Q (F0 m 2 ls []) := by
    intro  n
    induction n with
    | zero =>
      intro x1 hf
      rw [k_X6_leastOf_2] at hf
      cases hf
    | succ n ih =>
      intro x1 hf H locs hP hD hS ls hl
      rw [k_X6_leastOf_2] at hf
      refine lv_iload_n hx hb dX6_leastOf_2 rfl (lv_at hl 1 rfl) ?_
      refine lv_bipush (v := 9) hx hb dX6_leastOf_3 (by decide) ?_
      refine lv_icmp_gt (tgt := 24) hx hb dX6_leastOf_5 (by decide) (fun c1 => ?_) (fun c1 => ?_)
      · replace hf := it_of c1 hf
        refine lv_bipush (v := (-5)) hx hb dX6_leastOf_24 (by decide) ?_
        rw [hQ]
        exact ret_i C0 hP hD hS (by have e := Option.some.inj hf; rw [← e]; exact ⟨rfl, rfl⟩) dX6_leastOf_26
      · replace hf := ie_of c1 hf
        refine lv_iload_n hx hb dX6_leastOf_8 rfl (lv_at hl 0 rfl) ?_
        refine lv_iload_n hx hb dX6_leastOf_9 rfl (lv_at hl 1 rfl) ?_
        refine lv_ishr hx hb dX6_leastOf_10 ?_
        refine lv_iconst (v := 1) hx hb dX6_leastOf_11 (by decide) ?_
        refine lv_iand hx hb dX6_leastOf_12 ?_
        refine lv_if_eq (tgt := 18) hx hb dX6_leastOf_13 (by decide) (fun c2 => ?_) (fun c2 => ?_)
        · replace hf := it_of c2 hf
          refine lv_iinc (v := (x1 + 1)) (lv' := [(1, .int (x1 + 1)), (0, .int a0)]) hx hb dX6_leastOf_18 hl (k := 1) rfl rfl (by decide) rfl (fun ls hl => ?_)
          refine lv_goto (tgt := 2) hx hb dX6_leastOf_21 (by decide) ?_
          exact ih (x1 + 1) hf _ _ hP hD hS _ (lv_sub hl [1, 0] rfl)
        · replace hf := ie_of c2 hf
          refine lv_iload_n hx hb dX6_leastOf_16 rfl (lv_at hl 1 rfl) ?_
          rw [hQ]
          exact ret_i C0 hP hD hS (by have e := Option.some.inj hf; rw [← e]; exact ⟨rfl, rfl⟩) dX6_leastOf_17
  unfold k_X6_leastOf at hf
  refine lv_iconst (v := 0) hx hb dX6_leastOf_0 (by decide) ?_
  refine lv_istore_n (lv' := [(1, .int 0), (0, .int a0)]) hx hb dX6_leastOf_1 rfl hl (by decide) rfl (fun ls hl => ?_)
  exact J2 100000 0 hf _ _ hP hD hS _ (lv_sub hl [1, 0] rfl)
-- X6 can
noncomputable def k_X6_can (a1 : Int32) (a2 : Int32) (nf : Nat → Int32) (ng : Nat → Nat → Int32) (nc : Option Nat) (nhc : Int32) (nha : Nat → Int32) (nhb : Nat → Int32) (tf0 : Nat → Int32) (tg0 : Nat → Nat → Int32) (tc0 : Option Nat) (tv0 : Nat → Int32) (cn : Nat) (cf : Nat → Nat → Int32) (cg : Nat → Nat → Nat → Int32) : Option (Int32 × (Nat → Int32) × (Nat → Nat → Int32) × Option Nat × (Nat → Int32)) := b1 (k_X1_has a1 nf) (fun r1 => if r1 = 0 then some ((-1), tf0, tg0, tc0, tv0) else b1 (k_X6_isWithin a2 1) (fun r5 => if r5 = 0 then some ((-1), tf0, tg0, tc0, tv0) else b5 (k_X6_likelyNumbers a1 nf ng nc nhc nha nhb tf0 tg0 tc0 tv0 cn cf cg) (fun r9 tf_10 tg_11 tc_12 tv_13 => if a2 = 0 then b1 (k_J6_bitCount_0f7a4 r9) (fun r18 => some (r18, tf_10, tg_11, tc_12, tv_13)) else b1 (k_X6_leastOf r9) (fun r16 => some (r16, tf_10, tg_11, tc_12, tv_13)))))
set_option maxHeartbeats 4000000 in
set_option maxRecDepth 100000 in
theorem c_X6_can {l : Launch} {D : va_G} {cA : Nat → ClassId} (oo : Nat) (qn : Nat → Nat) (qk : Nat → Nat) (qt : Nat → Nat) (qx : Nat → Nat) (qa : Nat → Nat) (ts : Nat) (wa : Nat) (qc : Nat → Nat → Nat) (pf : Nat → Int32) (sp : Option Nat) (nf : Nat → Int32) (ng : Nat → Nat → Int32) (nc : Option Nat) (nhc : Int32) (nha : Nat → Int32) (nhb : Nat → Int32) (tf0 : Nat → Int32) (tg0 : Nat → Nat → Int32) (tc0 : Option Nat) (tv0 : Nat → Int32) (cn : Nat) (cf : Nat → Nat → Int32) (cg : Nat → Nat → Nat → Int32) (a1 : Int32) (a2 : Int32) (o : Int32 × (Nat → Int32) × (Nat → Nat → Int32) × Option Nat × (Nat → Int32)) (hf : k_X6_can a1 a2 nf ng nc nhc nha nhb tf0 tg0 tc0 tv0 cn cf cg = some o) : CI l D cA yX6_can cX6_can 4 (some .int) 6 145 [.ref oo, .int a1, .int a2] (List.flatten [(Po oo qn qk qt qx qa ts wa pf (chv qc sp)), (Cw qn cA (chv qc nc) nf ng), (Rw (qn 12) (qn 20) (qn 21) cA 5 nhc nha nhb), (Cw qt cA (chv qc tc0) tf0 tg0), (Vw (qt 15) cA tv0), (chPool cn qc cA cf cg)]) 0 0 (fun r w => r = o.1 ∧ w = (List.flatten [(Po oo qn qk qt qx qa ts wa pf (chv qc sp)), (Cw qn cA (chv qc nc) nf ng), (Rw (qn 12) (qn 20) (qn 21) cA 5 nhc nha nhb), (Cw qt cA (chv qc o.2.2.2.1) o.2.1 o.2.2.1), (Vw (qt 15) cA o.2.2.2.2), (chPool cn qc cA cf cg)])) := by
  intro sz
  refine met_start (by decide) rfl ?_
  intro p e s m args below meth c ls hsz hargs C0 hname hP hD hS hl
  generalize hAe : va_A (List.flatten [(Po oo qn qk qt qx qa ts wa pf (chv qc sp)), (Cw qn cA (chv qc nc) nf ng), (Rw (qn 12) (qn 20) (qn 21) cA 5 nhc nha nhb), (Cw qt cA (chv qc tc0) tf0 tg0), (Vw (qt 15) cA tv0), (chPool cn qc cA cf cg)]) sz = A at C0 hD hS ⊢
  obtain ⟨hx, hb, hr, hml, hown, hts, hlk, hK, hA⟩ := id C0
  replace hl : lv_has ls 4 [(0, .ref oo), (1, .int a1), (2, .int a2)] := hl
  obtain ⟨Q, hQ⟩ : ∃ Q : State → Prop, Q = QI below D A (fun r w => r = o.1 ∧ w = (List.flatten [(Po oo qn qk qt qx qa ts wa pf (chv qc sp)), (Cw qn cA (chv qc nc) nf ng), (Rw (qn 12) (qn 20) (qn 21) cA 5 nhc nha nhb), (Cw qt cA (chv qc o.2.2.2.1) o.2.1 o.2.2.1), (Vw (qt 15) cA o.2.2.2.2), (chPool cn qc cA cf cg)])) args s 0 0 := ⟨_, rfl⟩
  refine cast (by rw [hQ]) (?_ : W p l e (RMx 6 145 0 0) s m args below meth c s.heap [] 0 0 Q (F0 m 0 ls []))
  unfold k_X6_can at hf
  refine lv_aload_n hx hb dX6_can_0 rfl (lv_at hl 0 rfl) ?_
  refine va_get (D := D) (ci := 6) (v := .ref (qn 0)) (C := RX6) (T := TX6) (N := 10) hx hb hts fw_6 hown hK hP 0 rfl rfl 0 (by decide) (hts _ m_fieldLink_P_12_P_now_LP_Cellar) (fun _ h9 => h9) rfl dX6_can_1 ?_
  refine lv_iload_n hx hb dX6_can_4 rfl (lv_at hl 1 rfl) ?_
  obtain ⟨r1q, hq2, hf⟩ := b1_of hf
  refine callVI (As := [.int a1]) (rest := []) (wr := segpick [(Po oo qn qk qt qx qa ts wa pf (chv qc sp)), (Cw qn cA (chv qc nc) nf ng), (Rw (qn 12) (qn 20) (qn 21) cA 5 nhc nha nhb), (Cw qt cA (chv qc tc0) tf0 tg0), (Vw (qt 15) cA tv0), (chPool cn qc cA cf cg)] [0, 2, 3, 4, 5]) C0 (c_X1_has qn qc nf ng nc a1 _ hq2) lk_X6_61_X1_has rfl hP hD hS (seg_out [(Po oo qn qk qt qx qa ts wa pf (chv qc sp)), (Cw qn cA (chv qc nc) nf ng), (Rw (qn 12) (qn 20) (qn 21) cA 5 nhc nha nhb), (Cw qt cA (chv qc tc0) tf0 tg0), (Vw (qt 15) cA tv0), (chPool cn qc cA cf cg)] [1] [0, 2, 3, 4, 5] 6 rfl (by decide)) 1 1 rfl rfl rfl hl.1 rfl rfl (Nat.le_of_ble_eq_true rfl) dX6_can_5 ⟨Nat.zero_le _, Nat.zero_le _⟩ (fun r1 w H locs hw hP hD hS => ?_)
  obtain ⟨⟨e1, e2⟩, z3⟩ := hw
  replace e1 : r1 = r1q := e1
  subst e1
  subst e2
  replace hP : va_P D vwCl (List.flatten [(Po oo qn qk qt qx qa ts wa pf (chv qc sp)), (Cw qn cA (chv qc nc) nf ng), (Rw (qn 12) (qn 20) (qn 21) cA 5 nhc nha nhb), (Cw qt cA (chv qc tc0) tf0 tg0), (Vw (qt 15) cA tv0), (chPool cn qc cA cf cg)]) H := hP.perm (seg_out [(Po oo qn qk qt qx qa ts wa pf (chv qc sp)), (Cw qn cA (chv qc nc) nf ng), (Rw (qn 12) (qn 20) (qn 21) cA 5 nhc nha nhb), (Cw qt cA (chv qc tc0) tf0 tg0), (Vw (qt 15) cA tv0), (chPool cn qc cA cf cg)] [1] [0, 2, 3, 4, 5] 6 rfl (by decide)).symm
  replace hD : va_D A (List.flatten [(Po oo qn qk qt qx qa ts wa pf (chv qc sp)), (Cw qn cA (chv qc nc) nf ng), (Rw (qn 12) (qn 20) (qn 21) cA 5 nhc nha nhb), (Cw qt cA (chv qc tc0) tf0 tg0), (Vw (qt 15) cA tv0), (chPool cn qc cA cf cg)]) := hD.perm (seg_out [(Po oo qn qk qt qx qa ts wa pf (chv qc sp)), (Cw qn cA (chv qc nc) nf ng), (Rw (qn 12) (qn 20) (qn 21) cA 5 nhc nha nhb), (Cw qt cA (chv qc tc0) tf0 tg0), (Vw (qt 15) cA tv0), (chPool cn qc cA cf cg)] [1] [0, 2, 3, 4, 5] 6 rfl (by decide)).symm
  refine lv_if_eq (tgt := 19) hx hb dX6_can_8 (by decide) (fun c4 => ?_) (fun c4 => ?_)
  · replace hf := it_of c4 hf
    refine lv_iconst (v := (-1)) hx hb dX6_can_19 (by decide) ?_
    rw [hQ]
    exact ret_i C0 hP hD hS (by have e := Option.some.inj hf; rw [← e]; exact ⟨rfl, rfl⟩) dX6_can_20
  · replace hf := ie_of c4 hf
    refine lv_iload_n hx hb dX6_can_11 rfl (lv_at hl 2 rfl) ?_
    refine lv_iconst (v := 1) hx hb dX6_can_12 (by decide) ?_
    obtain ⟨r5q, hq6, hf⟩ := b1_of hf
    refine callSI (As := [.int a2, .int 1]) (rest := []) (wr := (List.flatten [(Po oo qn qk qt qx qa ts wa pf (chv qc sp)), (Cw qn cA (chv qc nc) nf ng), (Rw (qn 12) (qn 20) (qn 21) cA 5 nhc nha nhb), (Cw qt cA (chv qc tc0) tf0 tg0), (Vw (qt 15) cA tv0), (chPool cn qc cA cf cg)])) C0 (c_X6_isWithin a2 1 _ hq6) lk_X6_49_X6_isWithin rfl hP hD hS (List.Perm.refl _) hl.1 rfl rfl (Nat.le_of_ble_eq_true rfl) dX6_can_13 ⟨Nat.zero_le _, Nat.zero_le _⟩ (fun r5 w H locs hw hP hD hS => ?_)
    obtain ⟨⟨e1, e2⟩, z7⟩ := hw
    replace e1 : r5 = r5q := e1
    subst e1
    subst e2
    replace hP : va_P D vwCl (List.flatten [(Po oo qn qk qt qx qa ts wa pf (chv qc sp)), (Cw qn cA (chv qc nc) nf ng), (Rw (qn 12) (qn 20) (qn 21) cA 5 nhc nha nhb), (Cw qt cA (chv qc tc0) tf0 tg0), (Vw (qt 15) cA tv0), (chPool cn qc cA cf cg)]) H := hP
    replace hD : va_D A (List.flatten [(Po oo qn qk qt qx qa ts wa pf (chv qc sp)), (Cw qn cA (chv qc nc) nf ng), (Rw (qn 12) (qn 20) (qn 21) cA 5 nhc nha nhb), (Cw qt cA (chv qc tc0) tf0 tg0), (Vw (qt 15) cA tv0), (chPool cn qc cA cf cg)]) := hD
    refine lv_if_ne (tgt := 21) hx hb dX6_can_16 (by decide) (fun c8 => ?_) (fun c8 => ?_)
    · replace hf := ie_of c8 hf
      refine lv_aload_n hx hb dX6_can_21 rfl (lv_at hl 0 rfl) ?_
      refine lv_iload_n hx hb dX6_can_22 rfl (lv_at hl 1 rfl) ?_
      obtain ⟨r9q, tf_10, tg_11, tc_12, tv_13, hq14, hf⟩ := b5_of hf
      refine callVI (As := [.int a1]) (rest := []) (wr := []) C0 (c_X6_likelyNumbers oo qn qk qt qx qa ts wa qc pf sp nf ng nc nhc nha nhb tf0 tg0 tc0 tv0 cn cf cg a1 _ hq14) lk_X6_181_X6_likelyNumbers rfl hP hD hS perm_nil 0 6 rfl rfl rfl hl.1 rfl rfl (Nat.le_of_ble_eq_true rfl) dX6_can_23 ⟨Nat.zero_le _, Nat.zero_le _⟩ (fun r9 w H locs hw hP hD hS => ?_)
      obtain ⟨e1, e2⟩ := hw
      replace e1 : r9 = r9q := e1
      subst e1
      subst e2
      replace hP : va_P D vwCl (List.flatten [(Po oo qn qk qt qx qa ts wa pf (chv qc sp)), (Cw qn cA (chv qc nc) nf ng), (Rw (qn 12) (qn 20) (qn 21) cA 5 nhc nha nhb), (Cw qt cA (chv qc tc_12) tf_10 tg_11), (Vw (qt 15) cA tv_13), (chPool cn qc cA cf cg)]) H := hP.nil
      replace hD : va_D A (List.flatten [(Po oo qn qk qt qx qa ts wa pf (chv qc sp)), (Cw qn cA (chv qc nc) nf ng), (Rw (qn 12) (qn 20) (qn 21) cA 5 nhc nha nhb), (Cw qt cA (chv qc tc_12) tf_10 tg_11), (Vw (qt 15) cA tv_13), (chPool cn qc cA cf cg)]) := hD.nil
      refine lv_istore_n (lv' := [(3, .int r9), (0, .ref oo), (1, .int a1), (2, .int a2)]) hx hb dX6_can_26 rfl hl (by decide) rfl (fun ls hl => ?_)
      refine lv_iload_n hx hb dX6_can_27 rfl (lv_at hl 3 rfl) ?_
      refine lv_if_ne (tgt := 38) hx hb dX6_can_28 (by decide) (fun c15 => ?_) (fun c15 => ?_)
      · replace hf := ie_of c15 hf
        refine lv_iload_n hx hb dX6_can_38 rfl (lv_at hl 0 rfl) ?_
        obtain ⟨r16q, hq17, hf⟩ := b1_of hf
        refine callSI (As := [.int r9]) (rest := []) (wr := (List.flatten [(Po oo qn qk qt qx qa ts wa pf (chv qc sp)), (Cw qn cA (chv qc nc) nf ng), (Rw (qn 12) (qn 20) (qn 21) cA 5 nhc nha nhb), (Cw qt cA (chv qc tc_12) tf_10 tg_11), (Vw (qt 15) cA tv_13), (chPool cn qc cA cf cg)])) C0 (c_X6_leastOf r9 _ hq17) lk_X6_189_X6_leastOf rfl hP hD hS (List.Perm.refl _) hl.1 rfl rfl (Nat.le_of_ble_eq_true rfl) dX6_can_39 ⟨Nat.zero_le _, Nat.zero_le _⟩ (fun r16 w H locs hw hP hD hS => ?_)
        obtain ⟨e1, e2⟩ := hw
        replace e1 : r16 = r16q := e1
        subst e1
        subst e2
        replace hP : va_P D vwCl (List.flatten [(Po oo qn qk qt qx qa ts wa pf (chv qc sp)), (Cw qn cA (chv qc nc) nf ng), (Rw (qn 12) (qn 20) (qn 21) cA 5 nhc nha nhb), (Cw qt cA (chv qc tc_12) tf_10 tg_11), (Vw (qt 15) cA tv_13), (chPool cn qc cA cf cg)]) H := hP
        replace hD : va_D A (List.flatten [(Po oo qn qk qt qx qa ts wa pf (chv qc sp)), (Cw qn cA (chv qc nc) nf ng), (Rw (qn 12) (qn 20) (qn 21) cA 5 nhc nha nhb), (Cw qt cA (chv qc tc_12) tf_10 tg_11), (Vw (qt 15) cA tv_13), (chPool cn qc cA cf cg)]) := hD
        rw [hQ]
        exact ret_i C0 hP hD hS (by have e := Option.some.inj hf; rw [← e]; exact ⟨rfl, rfl⟩) dX6_can_42
      · replace hf := it_of c15 hf
        refine lv_iload_n hx hb dX6_can_31 rfl (lv_at hl 0 rfl) ?_
        obtain ⟨r18q, hq19, hf⟩ := b1_of hf
        refine callSI (As := [.int r9]) (rest := []) (wr := (List.flatten [(Po oo qn qk qt qx qa ts wa pf (chv qc sp)), (Cw qn cA (chv qc nc) nf ng), (Rw (qn 12) (qn 20) (qn 21) cA 5 nhc nha nhb), (Cw qt cA (chv qc tc_12) tf_10 tg_11), (Vw (qt 15) cA tv_13), (chPool cn qc cA cf cg)])) C0 (c_J6_bitCount_0f7a4 r9 _ hq19) lk_X6_184_J6_bitCount_0f7a4 rfl hP hD hS (List.Perm.refl _) hl.1 rfl rfl (Nat.le_of_ble_eq_true rfl) dX6_can_32 ⟨Nat.zero_le _, Nat.zero_le _⟩ (fun r18 w H locs hw hP hD hS => ?_)
        obtain ⟨e1, e2⟩ := hw
        replace e1 : r18 = r18q := e1
        subst e1
        subst e2
        replace hP : va_P D vwCl (List.flatten [(Po oo qn qk qt qx qa ts wa pf (chv qc sp)), (Cw qn cA (chv qc nc) nf ng), (Rw (qn 12) (qn 20) (qn 21) cA 5 nhc nha nhb), (Cw qt cA (chv qc tc_12) tf_10 tg_11), (Vw (qt 15) cA tv_13), (chPool cn qc cA cf cg)]) H := hP
        replace hD : va_D A (List.flatten [(Po oo qn qk qt qx qa ts wa pf (chv qc sp)), (Cw qn cA (chv qc nc) nf ng), (Rw (qn 12) (qn 20) (qn 21) cA 5 nhc nha nhb), (Cw qt cA (chv qc tc_12) tf_10 tg_11), (Vw (qt 15) cA tv_13), (chPool cn qc cA cf cg)]) := hD
        refine lv_goto (tgt := 42) hx hb dX6_can_35 (by decide) ?_
        rw [hQ]
        exact ret_i C0 hP hD hS (by have e := Option.some.inj hf; rw [← e]; exact ⟨rfl, rfl⟩) dX6_can_42
    · replace hf := it_of c8 hf
      refine lv_iconst (v := (-1)) hx hb dX6_can_19 (by decide) ?_
      rw [hQ]
      exact ret_i C0 hP hD hS (by have e := Option.some.inj hf; rw [← e]; exact ⟨rfl, rfl⟩) dX6_can_20
-- X6 lowest
noncomputable def k_X6_lowest_13 (a0 : Int32) (a1 : Int32) : Nat → Int32 → Int32 → Option Int64
  | 0, _, _ => none
  | n + 1, x3, x4 => if x4 ≤ 1 then some (Int32.toInt64 x3) else gz x4 (if (a0 - a0 / x4 * x4) = 0 then gz x4 (if (a1 - a1 / x4 * x4) = 0 then gz x4 (some (Int32.toInt64 (x3 / x4))) else k_X6_lowest_13 a0 a1 n x3 (x4 + (-1))) else k_X6_lowest_13 a0 a1 n x3 (x4 + (-1)))
noncomputable def k_X6_lowest (a0 : Int32) (a1 : Int32) (a2 : Int32) : Option Int64 := if a2 = 0 then k_X6_lowest_13 a0 a1 100000 a0 a1 else k_X6_lowest_13 a0 a1 100000 a1 a1
set_option maxHeartbeats 4000000 in
set_option maxRecDepth 100000 in
theorem c_X6_lowest {l : Launch} {D : va_G} {cA : Nat → ClassId}   (a0 : Int32) (a1 : Int32) (a2 : Int32) (o : Int64) (hf : k_X6_lowest a0 a1 a2 = some o) : CL l D cA yX6_lowest cX6_lowest 5 (some .long) 0 0 [.int a0, .int a1, .int a2] ([] : va_W) 0 0 (fun r w => r = o ∧ w = ([] : va_W)) := by
  intro sz
  refine met_start (by decide) rfl ?_
  intro p e s m args below meth c ls hsz hargs C0 hname hP hD hS hl
  generalize hAe : va_A ([] : va_W) sz = A at C0 hD hS ⊢
  obtain ⟨hx, hb, hr, hml, hown, hts, hlk, hK, hA⟩ := id C0
  replace hl : lv_has ls 5 [(0, .int a0), (1, .int a1), (2, .int a2)] := hl
  obtain ⟨Q, hQ⟩ : ∃ Q : State → Prop, Q = QL below D A (fun r w => r = o ∧ w = ([] : va_W)) args s 0 0 := ⟨_, rfl⟩
  refine cast (by rw [hQ]) (?_ : W p l e (RMx 0 0 0 0) s m args below meth c s.heap [] 0 0 Q (F0 m 0 ls []))
  have J13 : ∀ n : Nat, ∀ (x3 : Int32) (x4 : Int32), k_X6_lowest_13 a0 a1 n x3 x4 = some o → ∀ (H : Heap) (locs : List Loc), va_P D vwCl ([] : va_W) H → va_D A ([] : va_W) → va_S A s.heap H locs → ∀ ls : Array Slot, lv_has ls 5 [(0, .int a0), (1, .int a1), (3, .int x3), (4, .int x4)] → W p l e (RMx 0 0 0 0) s m args below meth c H locs 0 0 Q (F0 m 13 ls []) := by
    intro  n
    induction n with
    | zero =>
      intro x3 x4 hf
      rw [k_X6_lowest_13] at hf
      cases hf
    | succ n ih =>
      intro x3 x4 hf H locs hP hD hS ls hl
      rw [k_X6_lowest_13] at hf
      refine lv_iload hx hb dX6_lowest_13 (lv_at hl 3 rfl) ?_
      refine lv_iconst (v := 1) hx hb dX6_lowest_15 (by decide) ?_
      refine lv_icmp_le (tgt := 45) hx hb dX6_lowest_16 (by decide) (fun c1 => ?_) (fun c1 => ?_)
      · replace hf := it_of c1 hf
        refine lv_iload_n hx hb dX6_lowest_45 rfl (lv_at hl 2 rfl) ?_
        refine lv_i2l (v := (Int32.toInt64 x3)) hx hb dX6_lowest_46 rfl ?_
        rw [hQ]
        exact ret_l C0 hP hD hS (by have e := Option.some.inj hf; rw [← e]; exact ⟨rfl, rfl⟩) dX6_lowest_47
      · replace hf := ie_of c1 hf
        refine lv_iload_n hx hb dX6_lowest_19 rfl (lv_at hl 0 rfl) ?_
        refine lv_iload hx hb dX6_lowest_20 (lv_at hl 3 rfl) ?_
        obtain ⟨hz2, hf⟩ := gz_of hf
        refine lv_irem hx hb dX6_lowest_22 hz2 ?_
        refine lv_if_ne (tgt := 39) hx hb dX6_lowest_23 (by decide) (fun c3 => ?_) (fun c3 => ?_)
        · replace hf := ie_of c3 hf
          refine lv_iinc (v := (x4 + (-1))) (lv' := [(4, .int (x4 + (-1))), (0, .int a0), (1, .int a1), (3, .int x3)]) hx hb dX6_lowest_39 hl (k := 3) rfl rfl (by decide) rfl (fun ls hl => ?_)
          refine lv_goto (tgt := 13) hx hb dX6_lowest_42 (by decide) ?_
          exact ih x3 (x4 + (-1)) hf _ _ hP hD hS _ (lv_sub hl [1, 2, 3, 0] rfl)
        · replace hf := it_of c3 hf
          refine lv_iload_n hx hb dX6_lowest_26 rfl (lv_at hl 1 rfl) ?_
          refine lv_iload hx hb dX6_lowest_27 (lv_at hl 3 rfl) ?_
          obtain ⟨hz4, hf⟩ := gz_of hf
          refine lv_irem hx hb dX6_lowest_29 hz4 ?_
          refine lv_if_ne (tgt := 39) hx hb dX6_lowest_30 (by decide) (fun c5 => ?_) (fun c5 => ?_)
          · replace hf := ie_of c5 hf
            refine lv_iinc (v := (x4 + (-1))) (lv' := [(4, .int (x4 + (-1))), (0, .int a0), (1, .int a1), (3, .int x3)]) hx hb dX6_lowest_39 hl (k := 3) rfl rfl (by decide) rfl (fun ls hl => ?_)
            refine lv_goto (tgt := 13) hx hb dX6_lowest_42 (by decide) ?_
            exact ih x3 (x4 + (-1)) hf _ _ hP hD hS _ (lv_sub hl [1, 2, 3, 0] rfl)
          · replace hf := it_of c5 hf
            refine lv_iload_n hx hb dX6_lowest_33 rfl (lv_at hl 2 rfl) ?_
            refine lv_iload hx hb dX6_lowest_34 (lv_at hl 3 rfl) ?_
            obtain ⟨hz6, hf⟩ := gz_of hf
            refine lv_idiv hx hb dX6_lowest_36 hz6 ?_
            refine lv_i2l (v := (Int32.toInt64 (x3 / x4))) hx hb dX6_lowest_37 rfl ?_
            rw [hQ]
            exact ret_l C0 hP hD hS (by have e := Option.some.inj hf; rw [← e]; exact ⟨rfl, rfl⟩) dX6_lowest_38
  unfold k_X6_lowest at hf
  refine lv_iload_n hx hb dX6_lowest_0 rfl (lv_at hl 2 rfl) ?_
  refine lv_if_ne (tgt := 8) hx hb dX6_lowest_1 (by decide) (fun c1 => ?_) (fun c1 => ?_)
  · replace hf := ie_of c1 hf
    refine lv_iload_n hx hb dX6_lowest_8 rfl (lv_at hl 1 rfl) ?_
    refine lv_istore_n (lv' := [(3, .int a1), (0, .int a0), (1, .int a1), (2, .int a2)]) hx hb dX6_lowest_9 rfl hl (by decide) rfl (fun ls hl => ?_)
    refine lv_iload_n hx hb dX6_lowest_10 rfl (lv_at hl 2 rfl) ?_
    refine lv_istore (lv' := [(4, .int a1), (3, .int a1), (0, .int a0), (1, .int a1), (2, .int a2)]) hx hb dX6_lowest_11 hl (by decide) rfl (fun ls hl => ?_)
    exact J13 100000 a1 a1 hf _ _ hP hD hS _ (lv_sub hl [2, 3, 1, 0] rfl)
  · replace hf := it_of c1 hf
    refine lv_iload_n hx hb dX6_lowest_4 rfl (lv_at hl 0 rfl) ?_
    refine lv_goto (tgt := 9) hx hb dX6_lowest_5 (by decide) ?_
    refine lv_istore_n (lv' := [(3, .int a0), (0, .int a0), (1, .int a1), (2, .int a2)]) hx hb dX6_lowest_9 rfl hl (by decide) rfl (fun ls hl => ?_)
    refine lv_iload_n hx hb dX6_lowest_10 rfl (lv_at hl 2 rfl) ?_
    refine lv_istore (lv' := [(4, .int a1), (3, .int a0), (0, .int a0), (1, .int a1), (2, .int a2)]) hx hb dX6_lowest_11 hl (by decide) rfl (fun ls hl => ?_)
    exact J13 100000 a0 a1 hf _ _ hP hD hS _ (lv_sub hl [2, 3, 1, 0] rfl)
-- X6 odds
noncomputable def k_X6_odds_36 (a1 : Int32) (a2 : Int32) (nf : Nat → Int32) (ng : Nat → Nat → Int32) (nc : Option Nat) (cn : Nat) (cf : Nat → Nat → Int32) (cg : Nat → Nat → Nat → Int32) : Nat → Int32 → Int32 → (Nat → Int32) → (Nat → Nat → Int32) → Option Nat → (Nat → Int32) → Option (Int64 × (Nat → Int32) × (Nat → Nat → Int32) × Option Nat × (Nat → Int32))
  | 0, _, _, _, _, _, _ => none
  | n + 1, x3, x4, tf, tg, tc, tv => if (nf 0) ≤ x4 then b1 (k_X6_lowest x3 (nf 0) a2) (fun r2 => some (r2, tf, tg, tc, tv)) else b5 (k_X6_truthsBehind a1 ((nf 1) ^^^ (1 <<< (x4 &&& 31))) nf ng nc tf tg tc tv cn cf cg) (fun r4 tf_5 tg_6 tc_7 tv_8 => if r4 ≤ (nf 3) then k_X6_odds_36 a1 a2 nf ng nc cn cf cg n x3 (x4 + 1) tf_5 tg_6 tc_7 tv_8 else k_X6_odds_36 a1 a2 nf ng nc cn cf cg n (x3 + 1) (x4 + 1) tf_5 tg_6 tc_7 tv_8)
noncomputable def k_X6_odds (a1 : Int32) (a2 : Int32) (nf : Nat → Int32) (ng : Nat → Nat → Int32) (nc : Option Nat) (tf0 : Nat → Int32) (tg0 : Nat → Nat → Int32) (tc0 : Option Nat) (tv0 : Nat → Int32) (cn : Nat) (cf : Nat → Nat → Int32) (cg : Nat → Nat → Nat → Int32) : Option (Int64 × (Nat → Int32) × (Nat → Nat → Int32) × Option Nat × (Nat → Int32)) := b1 (k_X6_isWithin a1 20) (fun r1 => if r1 = 0 then some ((-9223372036854775808), tf0, tg0, tc0, tv0) else b1 (k_X6_isWithin a2 1) (fun r5 => if r5 = 0 then some ((-9223372036854775808), tf0, tg0, tc0, tv0) else if (nf 0) = 0 then some ((-9223372036854775808), tf0, tg0, tc0, tv0) else k_X6_odds_36 a1 a2 nf ng nc cn cf cg 100000 0 0 tf0 tg0 tc0 tv0))
set_option maxHeartbeats 4000000 in
set_option maxRecDepth 100000 in
theorem c_X6_odds {l : Launch} {D : va_G} {cA : Nat → ClassId} (oo : Nat) (qn : Nat → Nat) (qk : Nat → Nat) (qt : Nat → Nat) (qx : Nat → Nat) (qa : Nat → Nat) (ts : Nat) (wa : Nat) (qc : Nat → Nat → Nat) (pf : Nat → Int32) (sp : Option Nat) (nf : Nat → Int32) (ng : Nat → Nat → Int32) (nc : Option Nat) (tf0 : Nat → Int32) (tg0 : Nat → Nat → Int32) (tc0 : Option Nat) (tv0 : Nat → Int32) (cn : Nat) (cf : Nat → Nat → Int32) (cg : Nat → Nat → Nat → Int32) (a1 : Int32) (a2 : Int32) (o : Int64 × (Nat → Int32) × (Nat → Nat → Int32) × Option Nat × (Nat → Int32)) (hf : k_X6_odds a1 a2 nf ng nc tf0 tg0 tc0 tv0 cn cf cg = some o) : CL l D cA yX6_odds cX6_odds 5 (some .long) 5 120 [.ref oo, .int a1, .int a2] (List.flatten [(Po oo qn qk qt qx qa ts wa pf (chv qc sp)), (Cw qn cA (chv qc nc) nf ng), (Cw qt cA (chv qc tc0) tf0 tg0), (Vw (qt 15) cA tv0), (chPool cn qc cA cf cg)]) 0 0 (fun r w => r = o.1 ∧ w = (List.flatten [(Po oo qn qk qt qx qa ts wa pf (chv qc sp)), (Cw qn cA (chv qc nc) nf ng), (Cw qt cA (chv qc o.2.2.2.1) o.2.1 o.2.2.1), (Vw (qt 15) cA o.2.2.2.2), (chPool cn qc cA cf cg)])) := by
  intro sz
  refine met_start (by decide) rfl ?_
  intro p e s m args below meth c ls hsz hargs C0 hname hP hD hS hl
  generalize hAe : va_A (List.flatten [(Po oo qn qk qt qx qa ts wa pf (chv qc sp)), (Cw qn cA (chv qc nc) nf ng), (Cw qt cA (chv qc tc0) tf0 tg0), (Vw (qt 15) cA tv0), (chPool cn qc cA cf cg)]) sz = A at C0 hD hS ⊢
  obtain ⟨hx, hb, hr, hml, hown, hts, hlk, hK, hA⟩ := id C0
  replace hl : lv_has ls 5 [(0, .ref oo), (1, .int a1), (2, .int a2)] := hl
  obtain ⟨Q, hQ⟩ : ∃ Q : State → Prop, Q = QL below D A (fun r w => r = o.1 ∧ w = (List.flatten [(Po oo qn qk qt qx qa ts wa pf (chv qc sp)), (Cw qn cA (chv qc nc) nf ng), (Cw qt cA (chv qc o.2.2.2.1) o.2.1 o.2.2.1), (Vw (qt 15) cA o.2.2.2.2), (chPool cn qc cA cf cg)])) args s 0 0 := ⟨_, rfl⟩
  refine cast (by rw [hQ]) (?_ : W p l e (RMx 5 120 0 0) s m args below meth c s.heap [] 0 0 Q (F0 m 0 ls []))
  have J36 : ∀ n : Nat, ∀ (x3 : Int32) (x4 : Int32) (tf : Nat → Int32) (tg : Nat → Nat → Int32) (tc : Option Nat) (tv : Nat → Int32), k_X6_odds_36 a1 a2 nf ng nc cn cf cg n x3 x4 tf tg tc tv = some o → ∀ (H : Heap) (locs : List Loc), va_P D vwCl (List.flatten [(Po oo qn qk qt qx qa ts wa pf (chv qc sp)), (Cw qn cA (chv qc nc) nf ng), (Cw qt cA (chv qc tc) tf tg), (Vw (qt 15) cA tv), (chPool cn qc cA cf cg)]) H → va_D A (List.flatten [(Po oo qn qk qt qx qa ts wa pf (chv qc sp)), (Cw qn cA (chv qc nc) nf ng), (Cw qt cA (chv qc tc) tf tg), (Vw (qt 15) cA tv), (chPool cn qc cA cf cg)]) → va_S A s.heap H locs → ∀ ls : Array Slot, lv_has ls 5 [(0, .ref oo), (1, .int a1), (2, .int a2), (3, .int x3), (4, .int x4)] → W p l e (RMx 5 120 0 0) s m args below meth c H locs 0 0 Q (F0 m 36 ls []) := by
    intro  n
    induction n with
    | zero =>
      intro x3 x4 tf tg tc tv hf
      rw [k_X6_odds_36] at hf
      cases hf
    | succ n ih =>
      intro x3 x4 tf tg tc tv hf H locs hP hD hS ls hl
      rw [k_X6_odds_36] at hf
      refine lv_iload hx hb dX6_odds_36 (lv_at hl 4 rfl) ?_
      refine lv_aload_n hx hb dX6_odds_38 rfl (lv_at hl 0 rfl) ?_
      refine va_get (D := D) (ci := 6) (v := .ref (qn 0)) (C := RX6) (T := TX6) (N := 10) hx hb hts fw_6 hown hK hP 0 rfl rfl 0 (by decide) (hts _ m_fieldLink_P_12_P_now_LP_Cellar) (fun _ h9 => h9) rfl dX6_odds_39 ?_
      refine va_get (D := D) (ci := 1) (v := .int (nf 0)) (C := RX1) (T := TX1) (N := 16) hx hb hts fw_1 hown hK hP 1 rfl rfl 0 (by decide) (hts _ m_fieldLink_P_53_P_Cellar_men_I) (fun _ h9 => h9) rfl dX6_odds_42 ?_
      refine lv_icmp_ge (tgt := 84) hx hb dX6_odds_45 (by decide) (fun c1 => ?_) (fun c1 => ?_)
      · replace hf := it_of c1 hf
        refine lv_iload_n hx hb dX6_odds_84 rfl (lv_at hl 3 rfl) ?_
        refine lv_aload_n hx hb dX6_odds_85 rfl (lv_at hl 0 rfl) ?_
        refine va_get (D := D) (ci := 6) (v := .ref (qn 0)) (C := RX6) (T := TX6) (N := 10) hx hb hts fw_6 hown hK hP 0 rfl rfl 0 (by decide) (hts _ m_fieldLink_P_12_P_now_LP_Cellar) (fun _ h9 => h9) rfl dX6_odds_86 ?_
        refine va_get (D := D) (ci := 1) (v := .int (nf 0)) (C := RX1) (T := TX1) (N := 16) hx hb hts fw_1 hown hK hP 1 rfl rfl 0 (by decide) (hts _ m_fieldLink_P_53_P_Cellar_men_I) (fun _ h9 => h9) rfl dX6_odds_89 ?_
        refine lv_iload_n hx hb dX6_odds_92 rfl (lv_at hl 2 rfl) ?_
        obtain ⟨r2q, hq3, hf⟩ := b1_of hf
        refine callSL (As := [.int x3, .int (nf 0), .int a2]) (rest := []) (wr := (List.flatten [(Po oo qn qk qt qx qa ts wa pf (chv qc sp)), (Cw qn cA (chv qc nc) nf ng), (Cw qt cA (chv qc tc) tf tg), (Vw (qt 15) cA tv), (chPool cn qc cA cf cg)])) C0 (c_X6_lowest x3 (nf 0) a2 _ hq3) lk_X6_194_X6_lowest rfl hP hD hS (List.Perm.refl _) hl.1 rfl rfl (Nat.le_of_ble_eq_true rfl) dX6_odds_93 ⟨Nat.zero_le _, Nat.zero_le _⟩ (fun r2 w H locs hw hP hD hS => ?_)
        obtain ⟨e1, e2⟩ := hw
        replace e1 : r2 = r2q := e1
        subst e1
        subst e2
        replace hP : va_P D vwCl (List.flatten [(Po oo qn qk qt qx qa ts wa pf (chv qc sp)), (Cw qn cA (chv qc nc) nf ng), (Cw qt cA (chv qc tc) tf tg), (Vw (qt 15) cA tv), (chPool cn qc cA cf cg)]) H := hP
        replace hD : va_D A (List.flatten [(Po oo qn qk qt qx qa ts wa pf (chv qc sp)), (Cw qn cA (chv qc nc) nf ng), (Cw qt cA (chv qc tc) tf tg), (Vw (qt 15) cA tv), (chPool cn qc cA cf cg)]) := hD
        rw [hQ]
        exact ret_l C0 hP hD hS (by have e := Option.some.inj hf; rw [← e]; exact ⟨rfl, rfl⟩) dX6_odds_96
      · replace hf := ie_of c1 hf
        refine lv_aload_n hx hb dX6_odds_48 rfl (lv_at hl 0 rfl) ?_
        refine lv_iload_n hx hb dX6_odds_49 rfl (lv_at hl 1 rfl) ?_
        refine lv_aload_n hx hb dX6_odds_50 rfl (lv_at hl 0 rfl) ?_
        refine va_get (D := D) (ci := 6) (v := .ref (qn 0)) (C := RX6) (T := TX6) (N := 10) hx hb hts fw_6 hown hK hP 0 rfl rfl 0 (by decide) (hts _ m_fieldLink_P_12_P_now_LP_Cellar) (fun _ h9 => h9) rfl dX6_odds_51 ?_
        refine va_get (D := D) (ci := 1) (v := .int (nf 1)) (C := RX1) (T := TX1) (N := 16) hx hb hts fw_1 hown hK hP 1 rfl rfl 1 (by decide) (hts _ m_fieldLink_P_135_P_Cellar_up_I) (fun _ h9 => h9) rfl dX6_odds_54 ?_
        refine lv_iconst (v := 1) hx hb dX6_odds_57 (by decide) ?_
        refine lv_iload hx hb dX6_odds_58 (lv_at hl 4 rfl) ?_
        refine lv_ishl hx hb dX6_odds_60 ?_
        refine lv_ixor hx hb dX6_odds_61 ?_
        obtain ⟨r4q, tf_5, tg_6, tc_7, tv_8, hq9, hf⟩ := b5_of hf
        refine callVI (As := [.int a1, .int ((nf 1) ^^^ (1 <<< (x4 &&& 31)))]) (rest := []) (wr := []) C0 (c_X6_truthsBehind oo qn qk qt qx qa ts wa qc pf sp nf ng nc tf tg tc tv cn cf cg a1 ((nf 1) ^^^ (1 <<< (x4 &&& 31))) _ hq9) lk_X6_159_X6_truthsBehind rfl hP hD hS perm_nil 0 6 rfl rfl rfl hl.1 rfl rfl (Nat.le_of_ble_eq_true rfl) dX6_odds_62 ⟨Nat.zero_le _, Nat.zero_le _⟩ (fun r4 w H locs hw hP hD hS => ?_)
        obtain ⟨e1, e2⟩ := hw
        replace e1 : r4 = r4q := e1
        subst e1
        subst e2
        replace hP : va_P D vwCl (List.flatten [(Po oo qn qk qt qx qa ts wa pf (chv qc sp)), (Cw qn cA (chv qc nc) nf ng), (Cw qt cA (chv qc tc_7) tf_5 tg_6), (Vw (qt 15) cA tv_8), (chPool cn qc cA cf cg)]) H := hP.nil
        replace hD : va_D A (List.flatten [(Po oo qn qk qt qx qa ts wa pf (chv qc sp)), (Cw qn cA (chv qc nc) nf ng), (Cw qt cA (chv qc tc_7) tf_5 tg_6), (Vw (qt 15) cA tv_8), (chPool cn qc cA cf cg)]) := hD.nil
        refine lv_aload_n hx hb dX6_odds_65 rfl (lv_at hl 0 rfl) ?_
        refine va_get (D := D) (ci := 6) (v := .ref (qn 0)) (C := RX6) (T := TX6) (N := 10) hx hb hts fw_6 hown hK hP 0 rfl rfl 0 (by decide) (hts _ m_fieldLink_P_12_P_now_LP_Cellar) (fun _ h9 => h9) rfl dX6_odds_66 ?_
        refine va_get (D := D) (ci := 1) (v := .int (nf 3)) (C := RX1) (T := TX1) (N := 16) hx hb hts fw_1 hown hK hP 1 rfl rfl 3 (by decide) (hts _ m_fieldLink_P_126_P_Cellar_truths_I) (fun _ h9 => h9) rfl dX6_odds_69 ?_
        refine lv_icmp_le (tgt := 78) hx hb dX6_odds_72 (by decide) (fun c10 => ?_) (fun c10 => ?_)
        · replace hf := it_of c10 hf
          refine lv_iinc (v := (x4 + 1)) (lv' := [(4, .int (x4 + 1)), (0, .ref oo), (1, .int a1), (2, .int a2), (3, .int x3)]) hx hb dX6_odds_78 hl (k := 4) rfl rfl (by decide) rfl (fun ls hl => ?_)
          refine lv_goto (tgt := 36) hx hb dX6_odds_81 (by decide) ?_
          exact ih x3 (x4 + 1) tf_5 tg_6 tc_7 tv_8 hf _ _ hP hD hS _ (lv_sub hl [1, 2, 3, 4, 0] rfl)
        · replace hf := ie_of c10 hf
          refine lv_iinc (v := (x3 + 1)) (lv' := [(3, .int (x3 + 1)), (0, .ref oo), (1, .int a1), (2, .int a2), (4, .int x4)]) hx hb dX6_odds_75 hl (k := 3) rfl rfl (by decide) rfl (fun ls hl => ?_)
          refine lv_iinc (v := (x4 + 1)) (lv' := [(4, .int (x4 + 1)), (3, .int (x3 + 1)), (0, .ref oo), (1, .int a1), (2, .int a2)]) hx hb dX6_odds_78 hl (k := 4) rfl rfl (by decide) rfl (fun ls hl => ?_)
          refine lv_goto (tgt := 36) hx hb dX6_odds_81 (by decide) ?_
          exact ih (x3 + 1) (x4 + 1) tf_5 tg_6 tc_7 tv_8 hf _ _ hP hD hS _ (lv_sub hl [2, 3, 4, 1, 0] rfl)
  unfold k_X6_odds at hf
  refine lv_iload_n hx hb dX6_odds_0 rfl (lv_at hl 1 rfl) ?_
  refine lv_bipush (v := 20) hx hb dX6_odds_1 (by decide) ?_
  obtain ⟨r1q, hq2, hf⟩ := b1_of hf
  refine callSI (As := [.int a1, .int 20]) (rest := []) (wr := (List.flatten [(Po oo qn qk qt qx qa ts wa pf (chv qc sp)), (Cw qn cA (chv qc nc) nf ng), (Cw qt cA (chv qc tc0) tf0 tg0), (Vw (qt 15) cA tv0), (chPool cn qc cA cf cg)])) C0 (c_X6_isWithin a1 20 _ hq2) lk_X6_49_X6_isWithin rfl hP hD hS (List.Perm.refl _) hl.1 rfl rfl (Nat.le_of_ble_eq_true rfl) dX6_odds_3 ⟨Nat.zero_le _, Nat.zero_le _⟩ (fun r1 w H locs hw hP hD hS => ?_)
  obtain ⟨⟨e1, e2⟩, z3⟩ := hw
  replace e1 : r1 = r1q := e1
  subst e1
  subst e2
  replace hP : va_P D vwCl (List.flatten [(Po oo qn qk qt qx qa ts wa pf (chv qc sp)), (Cw qn cA (chv qc nc) nf ng), (Cw qt cA (chv qc tc0) tf0 tg0), (Vw (qt 15) cA tv0), (chPool cn qc cA cf cg)]) H := hP
  replace hD : va_D A (List.flatten [(Po oo qn qk qt qx qa ts wa pf (chv qc sp)), (Cw qn cA (chv qc nc) nf ng), (Cw qt cA (chv qc tc0) tf0 tg0), (Vw (qt 15) cA tv0), (chPool cn qc cA cf cg)]) := hD
  refine lv_if_eq (tgt := 27) hx hb dX6_odds_6 (by decide) (fun c4 => ?_) (fun c4 => ?_)
  · replace hf := it_of c4 hf
    refine lv_ldc2 (v := (-9223372036854775808)) hx hb hown (hts _ m_constantLong_P_192_n9223372036854775808) dX6_odds_27 ?_
    rw [hQ]
    exact ret_l C0 hP hD hS (by have e := Option.some.inj hf; rw [← e]; exact ⟨rfl, rfl⟩) dX6_odds_30
  · replace hf := ie_of c4 hf
    refine lv_iload_n hx hb dX6_odds_9 rfl (lv_at hl 2 rfl) ?_
    refine lv_iconst (v := 1) hx hb dX6_odds_10 (by decide) ?_
    obtain ⟨r5q, hq6, hf⟩ := b1_of hf
    refine callSI (As := [.int a2, .int 1]) (rest := []) (wr := (List.flatten [(Po oo qn qk qt qx qa ts wa pf (chv qc sp)), (Cw qn cA (chv qc nc) nf ng), (Cw qt cA (chv qc tc0) tf0 tg0), (Vw (qt 15) cA tv0), (chPool cn qc cA cf cg)])) C0 (c_X6_isWithin a2 1 _ hq6) lk_X6_49_X6_isWithin rfl hP hD hS (List.Perm.refl _) hl.1 rfl rfl (Nat.le_of_ble_eq_true rfl) dX6_odds_11 ⟨Nat.zero_le _, Nat.zero_le _⟩ (fun r5 w H locs hw hP hD hS => ?_)
    obtain ⟨⟨e1, e2⟩, z7⟩ := hw
    replace e1 : r5 = r5q := e1
    subst e1
    subst e2
    replace hP : va_P D vwCl (List.flatten [(Po oo qn qk qt qx qa ts wa pf (chv qc sp)), (Cw qn cA (chv qc nc) nf ng), (Cw qt cA (chv qc tc0) tf0 tg0), (Vw (qt 15) cA tv0), (chPool cn qc cA cf cg)]) H := hP
    replace hD : va_D A (List.flatten [(Po oo qn qk qt qx qa ts wa pf (chv qc sp)), (Cw qn cA (chv qc nc) nf ng), (Cw qt cA (chv qc tc0) tf0 tg0), (Vw (qt 15) cA tv0), (chPool cn qc cA cf cg)]) := hD
    refine lv_if_eq (tgt := 27) hx hb dX6_odds_14 (by decide) (fun c8 => ?_) (fun c8 => ?_)
    · replace hf := it_of c8 hf
      refine lv_ldc2 (v := (-9223372036854775808)) hx hb hown (hts _ m_constantLong_P_192_n9223372036854775808) dX6_odds_27 ?_
      rw [hQ]
      exact ret_l C0 hP hD hS (by have e := Option.some.inj hf; rw [← e]; exact ⟨rfl, rfl⟩) dX6_odds_30
    · replace hf := ie_of c8 hf
      refine lv_aload_n hx hb dX6_odds_17 rfl (lv_at hl 0 rfl) ?_
      refine va_get (D := D) (ci := 6) (v := .ref (qn 0)) (C := RX6) (T := TX6) (N := 10) hx hb hts fw_6 hown hK hP 0 rfl rfl 0 (by decide) (hts _ m_fieldLink_P_12_P_now_LP_Cellar) (fun _ h9 => h9) rfl dX6_odds_18 ?_
      refine va_get (D := D) (ci := 1) (v := .int (nf 0)) (C := RX1) (T := TX1) (N := 16) hx hb hts fw_1 hown hK hP 1 rfl rfl 0 (by decide) (hts _ m_fieldLink_P_53_P_Cellar_men_I) (fun _ h9 => h9) rfl dX6_odds_21 ?_
      refine lv_if_ne (tgt := 31) hx hb dX6_odds_24 (by decide) (fun c9 => ?_) (fun c9 => ?_)
      · replace hf := ie_of c9 hf
        refine lv_iconst (v := 0) hx hb dX6_odds_31 (by decide) ?_
        refine lv_istore_n (lv' := [(3, .int 0), (0, .ref oo), (1, .int a1), (2, .int a2)]) hx hb dX6_odds_32 rfl hl (by decide) rfl (fun ls hl => ?_)
        refine lv_iconst (v := 0) hx hb dX6_odds_33 (by decide) ?_
        refine lv_istore (lv' := [(4, .int 0), (3, .int 0), (0, .ref oo), (1, .int a1), (2, .int a2)]) hx hb dX6_odds_34 hl (by decide) rfl (fun ls hl => ?_)
        exact J36 100000 0 0 tf0 tg0 tc0 tv0 hf _ _ hP hD hS _ (lv_sub hl [2, 3, 4, 1, 0] rfl)
      · replace hf := it_of c9 hf
        refine lv_ldc2 (v := (-9223372036854775808)) hx hb hown (hts _ m_constantLong_P_192_n9223372036854775808) dX6_odds_27 ?_
        rw [hQ]
        exact ret_l C0 hP hD hS (by have e := Option.some.inj hf; rw [← e]; exact ⟨rfl, rfl⟩) dX6_odds_30

theorem fam_succ (F : Nat → va_W) (n : Nat) : fam F (n + 1) = fam F n ++ F n := by
  unfold fam
  rw [List.range_succ, List.flatMap_append]
  simp
theorem fam_congr {F G : Nat → va_W} : ∀ {n : Nat}, (∀ k, k < n → F k = G k) → fam F n = fam G n := by
  intro n
  induction n with
  | zero => intro _; rfl
  | succ n ih => intro h; rw [fam_succ, fam_succ, ih (fun k hk => h k (by omega)), h n (by omega)]
theorem pool_grow {n : Nat} {qc qc0 : Nat → Nat → Nat} {cA : Nat → ClassId} {f : Nat → Nat → Int32} {g : Nat → Nat → Nat → Int32} {f1 : Nat → Int32} {g1 : Nat → Nat → Int32} (h : ∀ j, j < n → qc j = qc0 j) : chPool n qc0 cA f g ++ Chw (qc n) cA f1 g1 = chPool (n + 1) qc cA (va_up f n f1) (va_up g n g1) := by
  unfold chPool
  rw [fam_succ, fam_congr (F := fun k => Chw (qc0 k) cA (f k) (g k)) (G := fun k => Chw (qc k) cA (va_up f n f1 k) (va_up g n g1 k)) (fun k hk => by show Chw (qc0 k) cA (f k) (g k) = _; rw [h k hk, show va_up f n f1 k = f k from if_neg (by omega), show va_up g n g1 k = g k from if_neg (by omega)])]
  show _ ++ Chw (qc n) cA f1 g1 = _ ++ Chw (qc n) cA (va_up f n f1 n) (va_up g n g1 n)
  rw [show va_up f n f1 n = f1 from if_pos rfl, show va_up g n g1 n = g1 from if_pos rfl]
theorem m_fieldLink_P_105_P_spare_LP_Charter : (Cond.fieldLink RX6 105 "CellarPlot" "spare" "LCellarPlot$Charter;") ∈ BW := bw_in (tw_1 _ (List.mem_of_getElem? (i := 189) (by decide +kernel))) rfl
theorem m_methodLink_P_112_P_Text_readInto_LP_Charter_I : (Cond.methodLink RX6 112 yX5_readInto) ∈ BW := bw_in (tw_2 _ (List.mem_of_getElem? (i := 128) (by decide +kernel))) rfl
theorem m_instanceMethod_P_Text_readInto_LP_Charter_I : (Cond.instanceMethod yX5_readInto) ∈ BW := bw_in (tw_2 _ (List.mem_of_getElem? (i := 129) (by decide +kernel))) rfl
theorem m_selects_P_Text_P_Text_readInto_LP_Charter_I_P_Text_readInto_LP_Charter_I : (Cond.selects RX5 yX5_readInto yX5_readInto) ∈ BW := bw_in (tw_2 _ (List.mem_of_getElem? (i := 130) (by decide +kernel))) rfl
theorem m_code_P_Text_readInto_LP_Charter_I : (Cond.code yX5_readInto cX5_readInto 3 (some .int)) ∈ BW := bw_in (tw_2 _ (List.mem_of_getElem? (i := 131) (by decide +kernel))) rfl
theorem m_fieldLink_P_116_P_Cellar_charter_LP_Charter : (Cond.fieldLink RX6 116 "CellarPlot$Cellar" "charter" "LCellarPlot$Charter;") ∈ BW := bw_in (tw_1 _ (List.mem_of_getElem? (i := 64) (by decide +kernel))) rfl
theorem m_classLink_P_109_P_Charter : (Cond.classLink RX6 109 RX2) ∈ BW := bw_in (tw_2 _ (List.mem_of_getElem? (i := 94) (by decide +kernel))) rfl
theorem m_instantiable_P_Charter_9 : (Cond.instantiable RX2 9) ∈ BW := bw_in (tw_2 _ (List.mem_of_getElem? (i := 14) (by decide +kernel))) rfl
theorem m_instanceMethod_P_Charter_init__V : (Cond.instanceMethod yX2_init) ∈ BW := bw_in (tw_2 _ (List.mem_of_getElem? (i := 96) (by decide +kernel))) rfl
theorem m_code_P_Charter_init__V : (Cond.code yX2_init cX2_init 1 none) ∈ BW := bw_in (tw_2 _ (List.mem_of_getElem? (i := 97) (by decide +kernel))) rfl
theorem lk_X6_112_X5_readInto : LinkV RX6 112 yX5_readInto cX5_readInto 3 (some .int) 1 := ⟨m_methodLink_P_112_P_Text_readInto_LP_Charter_I, m_instanceMethod_P_Text_readInto_LP_Charter_I, m_selects_P_Text_P_Text_readInto_LP_Charter_I_P_Text_readInto_LP_Charter_I, m_initialized_P_Text, m_code_P_Text_readInto_LP_Charter_I, by decide +kernel, by decide +kernel, by decide +kernel⟩
noncomputable def k_X6_charter_30 (pf xf xs : Nat → Int32) (nc : Option Nat) (cn : Nat) (cf : Nat → Nat → Int32) (cg : Nat → Nat → Nat → Int32) (i : Nat) : Option (Int32 × (Nat → Int32) × Option Nat × Option Nat × (Nat → Int32) × (Nat → Nat → Int32) × (Nat → Nat → Nat → Int32)) := gp i cn (b4 (k_X5_readInto xf xs (cf i) (cg i)) (fun r2 xf_3 cf_4 cg_5 => if r2 = (-1) then some ((((pf 7) + 1) - 1), (upd pf 7 ((pf 7) + 1)), none, (some i), (upd xf_3 0 0), (va_up cf i cf_4), (va_up cg i cg_5)) else some (((-10) - r2), pf, (some i), nc, (upd xf_3 0 0), (va_up cf i cf_4), (va_up cg i cg_5))))
noncomputable def k_X6_charter (pf : Nat → Int32) (sp : Option Nat) (xf xs : Nat → Int32) (nc : Option Nat) (cn : Nat) (cf : Nat → Nat → Int32) (cg : Nat → Nat → Nat → Int32) : Option (Int32 × (Nat → Int32) × Option Nat × Option Nat × (Nat → Int32) × Nat × (Nat → Nat → Int32) × (Nat → Nat → Nat → Int32)) := if (pf 7) < 6 then oc sp (b7 (k_X6_charter_30 pf xf xs nc (cn + 1) (va_up cf cn (fun _ => 0)) (va_up cg cn (fun _ _ => 0)) cn) (fun r pf1 sp1 nc1 xf1 cf1 cg1 => some (r, pf1, sp1, nc1, xf1, (cn + 1), cf1, cg1))) (fun i => b7 (k_X6_charter_30 pf xf xs nc cn cf cg i) (fun r pf1 sp1 nc1 xf1 cf1 cg1 => some (r, pf1, sp1, nc1, xf1, cn, cf1, cg1))) else some ((-4), pf, sp, nc, xf, cn, cf, cg)
set_option maxHeartbeats 4000000 in
set_option maxRecDepth 100000 in
theorem c_X6_charter {l : Launch} {D : va_G} {cA : Nat → ClassId} {adK adV : Nat → Nat} (oo : Nat) (qn qk qt qx qa : Nat → Nat) (ts wa : Nat) (qc0 : Nat → Nat → Nat) (pf0 : Nat → Int32) (sp0 : Option Nat) (nf : Nat → Int32) (ng : Nat → Nat → Int32) (nc0 : Option Nat) (xf0 xs : Nat → Int32) (xv0 : Value) (cn0 : Nat) (cf0 : Nat → Nat → Int32) (cg0 : Nat → Nat → Nat → Int32) (hnc : ∀ j, nc0 = some j → j < cn0) (o : Int32 × (Nat → Int32) × Option Nat × Option Nat × (Nat → Int32) × Nat × (Nat → Nat → Int32) × (Nat → Nat → Nat → Int32)) (hf : k_X6_charter pf0 sp0 xf0 xs nc0 cn0 cf0 cg0 = some o) : CIs l D cA adK adV yX6_charter cX6_charter 2 (some .int) 21 480 [.ref oo] (List.flatten [(Po oo qn qk qt qx qa ts wa pf0 (chv qc0 sp0)), (Cw qn cA (chv qc0 nc0) nf ng), (Tw qx cA xf0 xs xv0), (chPool cn0 qc0 cA cf0 cg0)]) 7 339 (fun r w => ∃ (qc1 : Nat → Nat → Nat) (xv1 : Value), (∀ j, j < cn0 → qc1 j = qc0 j) ∧ r = o.1 ∧ w = (List.flatten [(Po oo qn qk qt qx qa ts wa o.2.1 (chv qc1 o.2.2.1)), (Cw qn cA (chv qc1 o.2.2.2.1) nf ng), (Tw qx cA o.2.2.2.2.1 xs xv1), (chPool o.2.2.2.2.2.1 qc1 cA o.2.2.2.2.2.2.1 o.2.2.2.2.2.2.2)])) := by
  intro sz
  refine met_start_s (by decide) rfl ?_
  intro p e s m args below meth c ls hsz hargs C0 hname hStr hP hD hS hl
  generalize hAe : va_A (List.flatten [(Po oo qn qk qt qx qa ts wa pf0 (chv qc0 sp0)), (Cw qn cA (chv qc0 nc0) nf ng), (Tw qx cA xf0 xs xv0), (chPool cn0 qc0 cA cf0 cg0)]) sz = A at C0 hStr hD hS ⊢
  obtain ⟨hx, hb, hr, hml, hown, hts, hlk, hK, hA⟩ := id C0
  have hNs := hStr.2.2.2.2.2.2.2
  replace hl : lv_has ls 2 [(0, .ref oo)] := hl
  obtain ⟨Q, hQ⟩ : ∃ Q : State → Prop, Q = QI below D A (fun r w => ∃ (qc1 : Nat → Nat → Nat) (xv1 : Value), (∀ j, j < cn0 → qc1 j = qc0 j) ∧ r = o.1 ∧ w = (List.flatten [(Po oo qn qk qt qx qa ts wa o.2.1 (chv qc1 o.2.2.1)), (Cw qn cA (chv qc1 o.2.2.2.1) nf ng), (Tw qx cA o.2.2.2.2.1 xs xv1), (chPool o.2.2.2.2.2.1 qc1 cA o.2.2.2.2.2.2.1 o.2.2.2.2.2.2.2)])) args s 7 339 := ⟨_, rfl⟩
  refine cast (by rw [hQ]) (?_ : W p l e (RMx 21 480 7 339) s m args below meth c s.heap [] 0 0 Q (F0 m 0 ls []))
  have tail : ∀ (qc : Nat → Nat → Nat) (pf xf : Nat → Int32) (xv : Value) (nc : Option Nat) (cn : Nat) (cf : Nat → Nat → Int32) (cg : Nat → Nat → Nat → Int32) (i : Nat) (o1 : Int32 × (Nat → Int32) × Option Nat × Option Nat × (Nat → Int32) × (Nat → Nat → Int32) × (Nat → Nat → Nat → Int32)), (∀ j, j < cn0 → qc j = qc0 j) → k_X6_charter_30 pf xf xs nc cn cf cg i = some o1 → o = (o1.1, o1.2.1, o1.2.2.1, o1.2.2.2.1, o1.2.2.2.2.1, cn, o1.2.2.2.2.2.1, o1.2.2.2.2.2.2) → ∀ (H : Heap) (locs : List Loc), va_P D vwCl (List.flatten [(Po oo qn qk qt qx qa ts wa pf (chv qc (some i))), (Cw qn cA (chv qc nc) nf ng), (Tw qx cA xf xs xv), (chPool cn qc cA cf cg)]) H → va_D A (List.flatten [(Po oo qn qk qt qx qa ts wa pf (chv qc (some i))), (Cw qn cA (chv qc nc) nf ng), (Tw qx cA xf xs xv), (chPool cn qc cA cf cg)]) → va_S A s.heap H locs → ∀ ls : Array Slot, lv_has ls 2 [(0, .ref oo)] → W p l e (RMx 21 480 7 339) s m args below meth c H locs 7 339 Q (F0 m 30 ls []) := by
    intro qc pf xf xv nc cn cf cg i o1 hqq hf ho H locs hP hD hS ls hl
    unfold k_X6_charter_30 at hf
    refine lv_aload_n hx hb dX6_charter_30 rfl (lv_at hl 0 rfl) ?_
    refine va_get (D := D) (ci := 6) (v := .ref (qx 0)) (C := RX6) (T := TX6) (N := 10) hx hb hts fw_6 hown hK hP 0 rfl rfl 3 (by decide) (hts _ m_fieldLink_P_27_P_text_LP_Text) (fun _ h9 => h9) rfl dX6_charter_31 ?_
    refine lv_aload_n hx hb dX6_charter_34 rfl (lv_at hl 0 rfl) ?_
    refine va_get (D := D) (ci := 6) (v := chv qc (some i)) (C := RX6) (T := TX6) (N := 10) hx hb hts fw_6 hown hK hP 0 rfl rfl 8 (by decide) (hts _ m_fieldLink_P_105_P_spare_LP_Charter) (fun _ h9 => h9) rfl dX6_charter_35 ?_
    obtain ⟨hg1, hf⟩ := gp_of hf
    obtain ⟨r2q, xf_3, cf_4, cg_5, hq6, hf⟩ := b4_of hf
    refine callVIs (As := [.ref (qc i 0)]) (rest := []) (wr := segpick [(Po oo qn qk qt qx qa ts wa pf (chv qc (some i))), (Cw qn cA (chv qc nc) nf ng), (Tw qx cA xf xs xv), (Chw (qc i) cA (cf i) (cg i)), (chPoolR cn qc cA cf cg i)] [0, 1, 4]) C0 (c_X5_readInto qx (qc i) xf xs xv (cf i) (cg i) _ hq6) lk_X6_112_X5_readInto rfl hStr hP hD hS ((seg_split [(Po oo qn qk qt qx qa ts wa pf (chv qc (some i))), (Cw qn cA (chv qc nc) nf ng), (Tw qx cA xf xs xv)] (chPool cn qc cA cf cg) (Chw (qc i) cA (cf i) (cg i)) (chPoolR cn qc cA cf cg i) [] (pool_out hg1)).trans (seg_out [(Po oo qn qk qt qx qa ts wa pf (chv qc (some i))), (Cw qn cA (chv qc nc) nf ng), (Tw qx cA xf xs xv), (Chw (qc i) cA (cf i) (cg i)), (chPoolR cn qc cA cf cg i)] [2, 3] [0, 1, 4] 5 rfl (by decide))) (recv_w (q0 := 7) (ci := 5) C0 hP rfl rfl rfl) hl.1 rfl rfl (Nat.le_of_ble_eq_true rfl) dX6_charter_38 ⟨Nat.le_refl _, Nat.le_refl _⟩ (fun r2 w H locs hw hP hD hS => ?_)
    obtain ⟨e1, e2⟩ := hw
    replace e1 : r2 = r2q := e1
    subst e1
    subst e2
    replace hP : va_P D vwCl (List.flatten [(Po oo qn qk qt qx qa ts wa pf (chv qc (some i))), (Cw qn cA (chv qc nc) nf ng), (Tw qx cA xf_3 xs (.ref (qc i 0))), (chPool cn qc cA (va_up cf i cf_4) (va_up cg i cg_5))]) H := hP.perm ((seg_out [(Po oo qn qk qt qx qa ts wa pf (chv qc (some i))), (Cw qn cA (chv qc nc) nf ng), (Tw qx cA xf_3 xs (.ref (qc i 0))), (Chw (qc i) cA cf_4 cg_5), (chPoolR cn qc cA cf cg i)] [2, 3] [0, 1, 4] 5 rfl (by decide)).symm.trans (seg_split [(Po oo qn qk qt qx qa ts wa pf (chv qc (some i))), (Cw qn cA (chv qc nc) nf ng), (Tw qx cA xf_3 xs (.ref (qc i 0)))] (chPool cn qc cA (va_up cf i cf_4) (va_up cg i cg_5)) (Chw (qc i) cA cf_4 cg_5) (chPoolR cn qc cA cf cg i) [] (pool_in hg1)).symm)
    replace hD : va_D A (List.flatten [(Po oo qn qk qt qx qa ts wa pf (chv qc (some i))), (Cw qn cA (chv qc nc) nf ng), (Tw qx cA xf_3 xs (.ref (qc i 0))), (chPool cn qc cA (va_up cf i cf_4) (va_up cg i cg_5))]) := hD.perm ((seg_out [(Po oo qn qk qt qx qa ts wa pf (chv qc (some i))), (Cw qn cA (chv qc nc) nf ng), (Tw qx cA xf_3 xs (.ref (qc i 0))), (Chw (qc i) cA cf_4 cg_5), (chPoolR cn qc cA cf cg i)] [2, 3] [0, 1, 4] 5 rfl (by decide)).symm.trans (seg_split [(Po oo qn qk qt qx qa ts wa pf (chv qc (some i))), (Cw qn cA (chv qc nc) nf ng), (Tw qx cA xf_3 xs (.ref (qc i 0)))] (chPool cn qc cA (va_up cf i cf_4) (va_up cg i cg_5)) (Chw (qc i) cA cf_4 cg_5) (chPoolR cn qc cA cf cg i) [] (pool_in hg1)).symm)
    refine lv_istore_n (lv' := [(1, .int r2), (0, .ref oo)]) hx hb dX6_charter_41 rfl hl (by decide) rfl (fun ls hl => ?_)
    refine lv_aload_n hx hb dX6_charter_42 rfl (lv_at hl 1 rfl) ?_
    refine va_get (D := D) (ci := 6) (v := .ref (qx 0)) (C := RX6) (T := TX6) (N := 10) hx hb hts fw_6 hown hK hP 0 rfl rfl 3 (by decide) (hts _ m_fieldLink_P_27_P_text_LP_Text) (fun _ h9 => h9) rfl dX6_charter_43 ?_
    refine lv_iconst (v := 0) hx hb dX6_charter_46 (by decide) ?_
    refine va_put (D := D) (ci := 5) (v := .int 0) (ty := .int) (C := RX5) (T := TX5) (N := 4) hx hb hts fw_5 tyX5 tyX5_ok nmX5 hown hK hP hD hS 7 rfl rfl 0 (by decide) (hts _ m_fieldLink_P_97_P_Text_length_I) (fun _ h9 => h9) rfl (by decide +kernel) rfl rfl (Nat.le_of_ble_eq_true rfl) dX6_charter_47 (fun H locs hP hD hS => ?_)
    replace hP : va_P D vwCl (List.flatten [(Po oo qn qk qt qx qa ts wa pf (chv qc (some i))), (Cw qn cA (chv qc nc) nf ng), (Tw qx cA (upd xf_3 0 0) xs (.ref (qc i 0))), (chPool cn qc cA (va_up cf i cf_4) (va_up cg i cg_5))]) H := hP
    replace hD : va_D A (List.flatten [(Po oo qn qk qt qx qa ts wa pf (chv qc (some i))), (Cw qn cA (chv qc nc) nf ng), (Tw qx cA (upd xf_3 0 0) xs (.ref (qc i 0))), (chPool cn qc cA (va_up cf i cf_4) (va_up cg i cg_5))]) := hD
    refine lv_iload_n hx hb dX6_charter_50 rfl (lv_at hl 0 rfl) ?_
    refine lv_iconst (v := (-1)) hx hb dX6_charter_51 (by decide) ?_
    refine lv_icmp_eq (tgt := 60) hx hb dX6_charter_52 (by decide) (fun c7 => ?_) (fun c7 => ?_)
    · replace hf := it_of c7 hf
      refine lv_aload_n hx hb dX6_charter_60 rfl (lv_at hl 1 rfl) ?_
      refine va_get (D := D) (ci := 6) (v := .ref (qn 0)) (C := RX6) (T := TX6) (N := 10) hx hb hts fw_6 hown hK hP 0 rfl rfl 0 (by decide) (hts _ m_fieldLink_P_12_P_now_LP_Cellar) (fun _ h9 => h9) rfl dX6_charter_61 ?_
      refine lv_aload_n hx hb dX6_charter_64 rfl (lv_at hl 1 rfl) ?_
      refine va_get (D := D) (ci := 6) (v := chv qc (some i)) (C := RX6) (T := TX6) (N := 10) hx hb hts fw_6 hown hK hP 0 rfl rfl 8 (by decide) (hts _ m_fieldLink_P_105_P_spare_LP_Charter) (fun _ h9 => h9) rfl dX6_charter_65 ?_
      refine va_put (D := D) (ci := 1) (v := .ref (qc i 0)) (ty := (.object "CellarPlot$Charter")) (C := RX1) (T := TX1) (N := 16) hx hb hts fw_1 tyX1 tyX1_ok nmX1 hown hK hP hD hS 1 rfl rfl 6 (by decide) (hts _ m_fieldLink_P_116_P_Cellar_charter_LP_Charter) (fun _ h9 => h9) rfl (by decide +kernel) (rfl) (rfl) (Nat.le_of_ble_eq_true rfl) dX6_charter_68 (fun H locs hP hD hS => ?_)
      replace hP : va_P D vwCl (List.flatten [(Po oo qn qk qt qx qa ts wa pf (chv qc (some i))), (Cw qn cA (chv qc (some i)) nf ng), (Tw qx cA (upd xf_3 0 0) xs (.ref (qc i 0))), (chPool cn qc cA (va_up cf i cf_4) (va_up cg i cg_5))]) H := hP
      replace hD : va_D A (List.flatten [(Po oo qn qk qt qx qa ts wa pf (chv qc (some i))), (Cw qn cA (chv qc (some i)) nf ng), (Tw qx cA (upd xf_3 0 0) xs (.ref (qc i 0))), (chPool cn qc cA (va_up cf i cf_4) (va_up cg i cg_5))]) := hD
      refine lv_aload_n hx hb dX6_charter_71 rfl (lv_at hl 1 rfl) ?_
      refine lv_null hx hb dX6_charter_72 ?_
      refine va_put (D := D) (ci := 6) (v := .null) (ty := (.object "CellarPlot$Charter")) (C := RX6) (T := TX6) (N := 10) hx hb hts fw_6 tyX6 tyX6_ok nmX6 hown hK hP hD hS 0 rfl rfl 8 (by decide) (hts _ m_fieldLink_P_105_P_spare_LP_Charter) (fun _ h9 => h9) rfl (by decide +kernel) (rfl) (rfl) (Nat.le_of_ble_eq_true rfl) dX6_charter_73 (fun H locs hP hD hS => ?_)
      replace hP : va_P D vwCl (List.flatten [(Po oo qn qk qt qx qa ts wa pf (chv qc none)), (Cw qn cA (chv qc (some i)) nf ng), (Tw qx cA (upd xf_3 0 0) xs (.ref (qc i 0))), (chPool cn qc cA (va_up cf i cf_4) (va_up cg i cg_5))]) H := hP
      replace hD : va_D A (List.flatten [(Po oo qn qk qt qx qa ts wa pf (chv qc none)), (Cw qn cA (chv qc (some i)) nf ng), (Tw qx cA (upd xf_3 0 0) xs (.ref (qc i 0))), (chPool cn qc cA (va_up cf i cf_4) (va_up cg i cg_5))]) := hD
      refine lv_aload_n hx hb dX6_charter_76 rfl (lv_at hl 1 rfl) ?_
      refine lv_dup hx hb dX6_charter_77 rfl ?_
      refine va_get (D := D) (ci := 6) (v := .int (pf 7)) (C := RX6) (T := TX6) (N := 10) hx hb hts fw_6 hown hK hP 0 rfl rfl 7 (by decide) (hts _ m_fieldLink_P_102_P_charters_I) (fun _ h9 => h9) rfl dX6_charter_78 ?_
      refine lv_iconst (v := 1) hx hb dX6_charter_81 (by decide) ?_
      refine lv_iadd hx hb dX6_charter_82 ?_
      refine va_put (D := D) (ci := 6) (v := .int ((pf 7) + 1)) (ty := .int) (C := RX6) (T := TX6) (N := 10) hx hb hts fw_6 tyX6 tyX6_ok nmX6 hown hK hP hD hS 0 rfl rfl 7 (by decide) (hts _ m_fieldLink_P_102_P_charters_I) (fun _ h9 => h9) rfl (by decide +kernel) rfl rfl (Nat.le_of_ble_eq_true rfl) dX6_charter_83 (fun H locs hP hD hS => ?_)
      replace hP : va_P D vwCl (List.flatten [(Po oo qn qk qt qx qa ts wa (upd pf 7 ((pf 7) + 1)) (chv qc none)), (Cw qn cA (chv qc (some i)) nf ng), (Tw qx cA (upd xf_3 0 0) xs (.ref (qc i 0))), (chPool cn qc cA (va_up cf i cf_4) (va_up cg i cg_5))]) H := hP
      replace hD : va_D A (List.flatten [(Po oo qn qk qt qx qa ts wa (upd pf 7 ((pf 7) + 1)) (chv qc none)), (Cw qn cA (chv qc (some i)) nf ng), (Tw qx cA (upd xf_3 0 0) xs (.ref (qc i 0))), (chPool cn qc cA (va_up cf i cf_4) (va_up cg i cg_5))]) := hD
      refine lv_aload_n hx hb dX6_charter_86 rfl (lv_at hl 1 rfl) ?_
      refine va_get (D := D) (ci := 6) (v := .int ((pf 7) + 1)) (C := RX6) (T := TX6) (N := 10) hx hb hts fw_6 hown hK hP 0 rfl rfl 7 (by decide) (hts _ m_fieldLink_P_102_P_charters_I) (fun _ h9 => h9) rfl dX6_charter_87 ?_
      refine lv_iconst (v := 1) hx hb dX6_charter_90 (by decide) ?_
      refine lv_isub hx hb dX6_charter_91 ?_
      rw [hQ]
      exact ret_i C0 hP hD hS (by have e := Option.some.inj hf; rw [ho, ← e]; exact ⟨qc, _, hqq, rfl, rfl⟩) dX6_charter_92
    · replace hf := ie_of c7 hf
      refine lv_bipush (v := (-10)) hx hb dX6_charter_55 (by decide) ?_
      refine lv_iload_n hx hb dX6_charter_57 rfl (lv_at hl 0 rfl) ?_
      refine lv_isub hx hb dX6_charter_58 ?_
      rw [hQ]
      exact ret_i C0 hP hD hS (by have e := Option.some.inj hf; rw [ho, ← e]; exact ⟨qc, _, hqq, rfl, rfl⟩) dX6_charter_59
  unfold k_X6_charter at hf
  refine lv_aload_n hx hb dX6_charter_0 rfl (lv_at hl 0 rfl) ?_
  refine va_get (D := D) (ci := 6) (v := .int (pf0 7)) (C := RX6) (T := TX6) (N := 10) hx hb hts fw_6 hown hK hP 0 rfl rfl 7 (by decide) (hts _ m_fieldLink_P_102_P_charters_I) (fun _ h9 => h9) rfl dX6_charter_1 ?_
  refine lv_bipush (v := 6) hx hb dX6_charter_4 (by decide) ?_
  refine lv_icmp_lt (tgt := 12) hx hb dX6_charter_6 (by decide) (fun c1 => ?_) (fun c1 => ?_)
  · replace hf := it_of c1 hf
    refine lv_aload_n hx hb dX6_charter_12 rfl (lv_at hl 0 rfl) ?_
    refine va_get (D := D) (ci := 6) (v := chv qc0 sp0) (C := RX6) (T := TX6) (N := 10) hx hb hts fw_6 hown hK hP 0 rfl rfl 8 (by decide) (hts _ m_fieldLink_P_105_P_spare_LP_Charter) (fun _ h9 => h9) rfl dX6_charter_13 ?_
    rcases sp0 with _ | i
    · replace hf := oc_n hf
      refine lv_ifnonnullN hx hb dX6_charter_16 ?_
      obtain ⟨r1, p1, s1, n1, x1, f1, g1, hq, hf⟩ := b7_of hf
      refine lv_aload_n hx hb dX6_charter_19 rfl (lv_at hl 0 rfl) ?_
      refine va_new (ci := 2) (fs := [.int 0, .int 0, .int 0, .null, .null, .null, .null, .null, .null]) (C := RX2) (T := TX2) (N := 9) hx hb hts fw_2 tyX2 tyX2_ok hown (hts _ m_classLink_P_109_P_Charter) (hts _ m_instantiable_P_Charter_9) (hts _ m_initialized_P_Charter) hK hP hD hS hA rfl (fun j hj => by rcases (show j = 0 ∨ j = 1 ∨ j = 2 ∨ j = 3 ∨ j = 4 ∨ j = 5 ∨ j = 6 ∨ j = 7 ∨ j = 8 by omega) with rfl | rfl | rfl | rfl | rfl | rfl | rfl | rfl | rfl <;> rfl) (Nat.le_of_ble_eq_true rfl) (Nat.le_of_ble_eq_true rfl) dX6_charter_20 (fun q1 H hP hD hS => ?_)
      replace hP : va_P D vwCl (List.flatten [(Po oo qn qk qt qx qa ts wa pf0 (chv qc0 none)), (Cw qn cA (chv qc0 nc0) nf ng), (Tw qx cA xf0 xs xv0), (chPool cn0 qc0 cA cf0 cg0), [(q1, .inr (2, [.int 0, .int 0, .int 0, .null, .null, .null, .null, .null, .null]))]]) H := va_P.snc (segs := [(Po oo qn qk qt qx qa ts wa pf0 (chv qc0 none)), (Cw qn cA (chv qc0 nc0) nf ng), (Tw qx cA xf0 xs xv0), (chPool cn0 qc0 cA cf0 cg0)]) hP
      replace hD : va_D A (List.flatten [(Po oo qn qk qt qx qa ts wa pf0 (chv qc0 none)), (Cw qn cA (chv qc0 nc0) nf ng), (Tw qx cA xf0 xs xv0), (chPool cn0 qc0 cA cf0 cg0), [(q1, .inr (2, [.int 0, .int 0, .int 0, .null, .null, .null, .null, .null, .null]))]]) := va_D.snc (segs := [(Po oo qn qk qt qx qa ts wa pf0 (chv qc0 none)), (Cw qn cA (chv qc0 nc0) nf ng), (Tw qx cA xf0 xs xv0), (chPool cn0 qc0 cA cf0 cg0)]) hD
      refine W.widen (k := 1) (n := 9) (Nat.le_of_ble_eq_true rfl) (Nat.le_of_ble_eq_true rfl) ?_
      refine lv_dup hx hb dX6_charter_23 rfl ?_
      refine callIN (As := []) (rest := [.ref q1, .ref oo]) (wr := List.flatten [(Po oo qn qk qt qx qa ts wa pf0 (chv qc0 none)), (Cw qn cA (chv qc0 nc0) nf ng), (Tw qx cA xf0 xs xv0), (chPool cn0 qc0 cA cf0 cg0)]) C0 (c_X2_init q1) hNs.2.2.2.2.1 (m_instanceMethod_P_Charter_init__V) (m_initialized_P_Charter) (m_code_P_Charter_init__V) ⟨by decide +kernel, by decide +kernel, by decide +kernel⟩ rfl hP hD hS (seg_outW [(Po oo qn qk qt qx qa ts wa pf0 (chv qc0 none)), (Cw qn cA (chv qc0 nc0) nf ng), (Tw qx cA xf0 xs xv0), (chPool cn0 qc0 cA cf0 cg0), [(q1, .inr (2, [.int 0, .int 0, .int 0, .null, .null, .null, .null, .null, .null]))]] 4 [0, 1, 2, 3] 5 [(q1, .inr (2, [.int 0, .int 0, .int 0, .null, .null, .null, .null, .null, .null]))] [(Po oo qn qk qt qx qa ts wa pf0 (chv qc0 none)), (Cw qn cA (chv qc0 nc0) nf ng), (Tw qx cA xf0 xs xv0), (chPool cn0 qc0 cA cf0 cg0)] rfl rfl rfl (by decide)) hl.1 rfl rfl (Nat.le_of_ble_eq_true rfl) dX6_charter_24 ⟨Nat.le_of_ble_eq_true rfl, Nat.le_of_ble_eq_true rfl⟩ (fun w H locs hw hPn hDn hS => ?_)
      obtain ⟨f2, e1, e2⟩ := hw
      subst e2
      subst e1
      obtain ⟨qc, hqc⟩ : ∃ qc : Nat → Nat → Nat, qc = fun k => if k = cn0 then f2 else qc0 k := ⟨_, rfl⟩
      have hqq : ∀ j, j < cn0 → qc j = qc0 j := fun j hj => by rw [hqc]; exact if_neg (Nat.ne_of_lt hj)
      have hq1 : qc cn0 = f2 := by rw [hqc]; exact if_pos rfl
      have en : chv qc0 nc0 = chv qc nc0 := by
        rcases nc0 with _ | j
        · rfl
        · show Value.ref (qc0 j 0) = Value.ref (qc j 0)
          rw [hqq j (hnc j rfl)]
      have ep : ∀ X : va_W, (chPool cn0 qc0 cA cf0 cg0 ++ (Chw f2 cA (fun _ => 0) (fun _ _ => 0) ++ X)) = chPool (cn0 + 1) qc cA (va_up cf0 cn0 (fun _ => 0)) (va_up cg0 cn0 (fun _ _ => 0)) ++ X := fun X => by rw [← hq1, ← List.append_assoc, pool_grow hqq]
      have hPm := hPn.perm (seg_outW [(Po oo qn qk qt qx qa ts wa pf0 .null), (Cw qn cA (chv qc0 nc0) nf ng), (Tw qx cA xf0 xs xv0), (chPool cn0 qc0 cA cf0 cg0), Chw f2 cA (fun _ => 0) (fun _ _ => 0)] 4 [0, 1, 2, 3] 5 (Chw f2 cA (fun _ => 0) (fun _ _ => 0)) [(Po oo qn qk qt qx qa ts wa pf0 .null), (Cw qn cA (chv qc0 nc0) nf ng), (Tw qx cA xf0 xs xv0), (chPool cn0 qc0 cA cf0 cg0)] rfl rfl rfl (by decide)).symm
      have hDm := hDn.perm (seg_outW [(Po oo qn qk qt qx qa ts wa pf0 .null), (Cw qn cA (chv qc0 nc0) nf ng), (Tw qx cA xf0 xs xv0), (chPool cn0 qc0 cA cf0 cg0), Chw f2 cA (fun _ => 0) (fun _ _ => 0)] 4 [0, 1, 2, 3] 5 (Chw f2 cA (fun _ => 0) (fun _ _ => 0)) [(Po oo qn qk qt qx qa ts wa pf0 .null), (Cw qn cA (chv qc0 nc0) nf ng), (Tw qx cA xf0 xs xv0), (chPool cn0 qc0 cA cf0 cg0)] rfl rfl rfl (by decide)).symm
      have ew : List.flatten [(Po oo qn qk qt qx qa ts wa pf0 .null), (Cw qn cA (chv qc0 nc0) nf ng), (Tw qx cA xf0 xs xv0), (chPool cn0 qc0 cA cf0 cg0), Chw f2 cA (fun _ => 0) (fun _ _ => 0)] = List.flatten [(Po oo qn qk qt qx qa ts wa pf0 .null), (Cw qn cA (chv qc nc0) nf ng), (Tw qx cA xf0 xs xv0), (chPool (cn0 + 1) qc cA (va_up cf0 cn0 (fun _ => 0)) (va_up cg0 cn0 (fun _ _ => 0)))] := by
        simp only [List.flatten_cons, List.flatten_nil, List.append_nil]
        have := ep []
        simp only [List.append_nil] at this
        rw [en, ← this]
      rw [ew] at hPm hDm
      clear hPn hDn hP hD
      have hP := hPm
      have hD := hDm
      clear hPm hDm
      refine W.widen (k := 7) (n := 339) (Nat.le_of_ble_eq_true rfl) (Nat.le_of_ble_eq_true rfl) ?_
      refine va_put (D := D) (ci := 6) (v := .ref (f2 0)) (ty := (.object "CellarPlot$Charter")) (C := RX6) (T := TX6) (N := 10) hx hb hts fw_6 tyX6 tyX6_ok nmX6 hown hK hP hD hS 0 rfl rfl 8 (by decide) (hts _ m_fieldLink_P_105_P_spare_LP_Charter) (fun _ h9 => h9) rfl (by decide +kernel) rfl rfl (Nat.le_of_ble_eq_true rfl) dX6_charter_27 (fun H locs hP hD hS => ?_)
      replace hP : va_P D vwCl (List.flatten [(Po oo qn qk qt qx qa ts wa pf0 (.ref (f2 0))), (Cw qn cA (chv qc nc0) nf ng), (Tw qx cA xf0 xs xv0), (chPool (cn0 + 1) qc cA (va_up cf0 cn0 (fun _ => 0)) (va_up cg0 cn0 (fun _ _ => 0)))]) H := hP
      replace hD : va_D A (List.flatten [(Po oo qn qk qt qx qa ts wa pf0 (.ref (f2 0))), (Cw qn cA (chv qc nc0) nf ng), (Tw qx cA xf0 xs xv0), (chPool (cn0 + 1) qc cA (va_up cf0 cn0 (fun _ => 0)) (va_up cg0 cn0 (fun _ _ => 0)))]) := hD
      have es : Value.ref (f2 0) = chv qc (some cn0) := by show _ = Value.ref (qc cn0 0); rw [hq1]
      rw [es] at hP hD
      exact tail qc pf0 xf0 xv0 nc0 (cn0 + 1) _ _ cn0 _ hqq hq (Option.some.inj hf).symm _ _ hP hD hS _ hl
    · replace hf := oc_s hf
      obtain ⟨r1, p1, s1, n1, x1, f1, g1, hq, hf⟩ := b7_of hf
      refine lv_ifnonnull (tgt := 30) hx hb dX6_charter_16 (by decide) ?_
      refine W.widen (k := 7) (n := 339) (Nat.le_of_ble_eq_true rfl) (Nat.le_of_ble_eq_true rfl) ?_
      exact tail qc0 pf0 xf0 xv0 nc0 cn0 cf0 cg0 i _ (fun _ _ => rfl) hq (Option.some.inj hf).symm _ _ hP hD hS _ hl
  · replace hf := ie_of c1 hf
    refine lv_bipush (v := (-4)) hx hb dX6_charter_9 (by decide) ?_
    refine W.widen (k := 7) (n := 339) (Nat.le_of_ble_eq_true rfl) (Nat.le_of_ble_eq_true rfl) ?_
    rw [hQ]
    exact ret_i C0 hP hD hS (by have e := Option.some.inj hf; rw [← e]; exact ⟨qc0, xv0, fun _ _ => rfl, rfl, rfl⟩) dX6_charter_11

-- X3 isFull
noncomputable def k_X3_isFull (nn : Nat) (rc : Int32) : Option Int32 := if rc < (nI nn) then some 0 else some 1
set_option maxHeartbeats 4000000 in
set_option maxRecDepth 100000 in
theorem c_X3_isFull {l : Launch} {D : va_G} {cA : Nat → ClassId} (oo : Nat) (ox : Nat) (oy : Nat) (nn : Nat) (rc : Int32) (ra : Nat → Int32) (rb : Nat → Int32)  (o : Int32) (hf : k_X3_isFull nn rc = some o) : CI l D cA yX3_isFull cX3_isFull 1 (some .boolean) 0 0 [.ref oo] (Rw oo ox oy cA nn rc ra rb) 0 0 (fun r w => (r = o ∧ w = (Rw oo ox oy cA nn rc ra rb)) ∧ narrow .boolean (.int r) = .int r) := by
  intro sz
  refine met_start (by decide) rfl ?_
  intro p e s m args below meth c ls hsz hargs C0 hname hP hD hS hl
  generalize hAe : va_A (Rw oo ox oy cA nn rc ra rb) sz = A at C0 hD hS ⊢
  obtain ⟨hx, hb, hr, hml, hown, hts, hlk, hK, hA⟩ := id C0
  replace hl : lv_has ls 1 [(0, .ref oo)] := hl
  obtain ⟨Q, hQ⟩ : ∃ Q : State → Prop, Q = QI below D A (fun r w => (r = o ∧ w = (Rw oo ox oy cA nn rc ra rb)) ∧ narrow .boolean (.int r) = .int r) args s 0 0 := ⟨_, rfl⟩
  refine cast (by rw [hQ]) (?_ : W p l e (RMx 0 0 0 0) s m args below meth c s.heap [] 0 0 Q (F0 m 0 ls []))
  unfold k_X3_isFull at hf
  refine lv_aload_n hx hb dX3_isFull_0 rfl (lv_at hl 0 rfl) ?_
  refine va_get (D := D) (ci := 3) (v := .int rc) (C := RX3) (T := TX3) (N := 3) hx hb hts fw_3 hown hK hP 0 rfl rfl 0 (by decide) (hts _ m_fieldLink_P_Rows_16_P_Rows_count_I) (fun _ h9 => h9) rfl dX3_isFull_1 ?_
  refine lv_aload_n hx hb dX3_isFull_4 rfl (lv_at hl 0 rfl) ?_
  refine va_get (D := D) (ci := 3) (v := .ref ox) (C := RX3) (T := TX3) (N := 3) hx hb hts fw_3 hown hK hP 0 rfl rfl 1 (by decide) (hts _ m_fieldLink_P_Rows_7_P_Rows_first_aI) (fun _ h9 => h9) rfl dX3_isFull_5 ?_
  refine va_alen (v := (nI nn)) hx hb hK hP 1 0 rfl rfl rfl dX3_isFull_8 ?_
  refine lv_icmp_lt (tgt := 16) hx hb dX3_isFull_9 (by decide) (fun c1 => ?_) (fun c1 => ?_)
  · replace hf := it_of c1 hf
    refine lv_iconst (v := 0) hx hb dX3_isFull_16 (by decide) ?_
    rw [hQ]
    exact ret_z C0 hP hD hS (by have e := Option.some.inj hf; rw [← e]; exact ⟨rfl, rfl⟩) rfl dX3_isFull_17
  · replace hf := ie_of c1 hf
    refine lv_iconst (v := 1) hx hb dX3_isFull_12 (by decide) ?_
    refine lv_goto (tgt := 17) hx hb dX3_isFull_13 (by decide) ?_
    rw [hQ]
    exact ret_z C0 hP hD hS (by have e := Option.some.inj hf; rw [← e]; exact ⟨rfl, rfl⟩) rfl dX3_isFull_17
-- X3 empty
noncomputable def k_X3_empty (rc0 : Int32) : Option (Int32 × Int32) := some (0, 0)
set_option maxHeartbeats 4000000 in
set_option maxRecDepth 100000 in
theorem c_X3_empty {l : Launch} {D : va_G} {cA : Nat → ClassId} (oo : Nat) (ox : Nat) (oy : Nat) (nn : Nat) (rc0 : Int32) (ra : Nat → Int32) (rb : Nat → Int32)  (o : Int32 × Int32) (hf : k_X3_empty rc0 = some o) : CI l D cA yX3_empty cX3_empty 1 (some .int) 0 0 [.ref oo] (Rw oo ox oy cA nn rc0 ra rb) 0 0 (fun r w => r = o.1 ∧ w = (Rw oo ox oy cA nn o.2 ra rb)) := by
  intro sz
  refine met_start (by decide) rfl ?_
  intro p e s m args below meth c ls hsz hargs C0 hname hP hD hS hl
  generalize hAe : va_A (Rw oo ox oy cA nn rc0 ra rb) sz = A at C0 hD hS ⊢
  obtain ⟨hx, hb, hr, hml, hown, hts, hlk, hK, hA⟩ := id C0
  replace hl : lv_has ls 1 [(0, .ref oo)] := hl
  obtain ⟨Q, hQ⟩ : ∃ Q : State → Prop, Q = QI below D A (fun r w => r = o.1 ∧ w = (Rw oo ox oy cA nn o.2 ra rb)) args s 0 0 := ⟨_, rfl⟩
  refine cast (by rw [hQ]) (?_ : W p l e (RMx 0 0 0 0) s m args below meth c s.heap [] 0 0 Q (F0 m 0 ls []))
  unfold k_X3_empty at hf
  refine lv_aload_n hx hb dX3_empty_0 rfl (lv_at hl 0 rfl) ?_
  refine lv_iconst (v := 0) hx hb dX3_empty_1 (by decide) ?_
  refine va_put (D := D) (ci := 3) (v := .int 0) (ty := .int) (C := RX3) (T := TX3) (N := 3) hx hb hts fw_3 tyX3 tyX3_ok nmX3 hown hK hP hD hS 0 rfl rfl 0 (by decide) (hts _ m_fieldLink_P_Rows_16_P_Rows_count_I) (fun _ h9 => h9) rfl (by decide +kernel) rfl rfl (Nat.le_of_ble_eq_true rfl) dX3_empty_2 (fun H locs hP hD hS => ?_)
  replace hP : va_P D vwCl (Rw oo ox oy cA nn 0 ra rb) H := hP
  replace hD : va_D A (Rw oo ox oy cA nn 0 ra rb) := hD
  refine lv_iconst (v := 0) hx hb dX3_empty_5 (by decide) ?_
  rw [hQ]
  exact ret_i C0 hP hD hS (by have e := Option.some.inj hf; rw [← e]; exact ⟨rfl, rfl⟩) dX3_empty_6
-- X3 add
noncomputable def k_X3_add (nn : Nat) (a1 : Int32) (a2 : Int32) (rc0 : Int32) (ra0 : Nat → Int32) (rb0 : Nat → Int32) : Option (Int32 × Int32 × (Nat → Int32) × (Nat → Int32)) := gd rc0 nn (gd rc0 nn (some ((rc0 + 1), (rc0 + 1), (upd ra0 (Int32.toNatClampNeg rc0) a1), (upd rb0 (Int32.toNatClampNeg rc0) a2))))
set_option maxHeartbeats 4000000 in
set_option maxRecDepth 100000 in
theorem c_X3_add {l : Launch} {D : va_G} {cA : Nat → ClassId} (oo : Nat) (ox : Nat) (oy : Nat) (nn : Nat) (rc0 : Int32) (ra0 : Nat → Int32) (rb0 : Nat → Int32) (a1 : Int32) (a2 : Int32) (o : Int32 × Int32 × (Nat → Int32) × (Nat → Int32)) (hf : k_X3_add nn a1 a2 rc0 ra0 rb0 = some o) : CI l D cA yX3_add cX3_add 3 (some .int) 0 0 [.ref oo, .int a1, .int a2] (Rw oo ox oy cA nn rc0 ra0 rb0) 0 0 (fun r w => r = o.1 ∧ w = (Rw oo ox oy cA nn o.2.1 o.2.2.1 o.2.2.2)) := by
  intro sz
  refine met_start (by decide) rfl ?_
  intro p e s m args below meth c ls hsz hargs C0 hname hP hD hS hl
  generalize hAe : va_A (Rw oo ox oy cA nn rc0 ra0 rb0) sz = A at C0 hD hS ⊢
  obtain ⟨hx, hb, hr, hml, hown, hts, hlk, hK, hA⟩ := id C0
  replace hl : lv_has ls 3 [(0, .ref oo), (1, .int a1), (2, .int a2)] := hl
  obtain ⟨Q, hQ⟩ : ∃ Q : State → Prop, Q = QI below D A (fun r w => r = o.1 ∧ w = (Rw oo ox oy cA nn o.2.1 o.2.2.1 o.2.2.2)) args s 0 0 := ⟨_, rfl⟩
  refine cast (by rw [hQ]) (?_ : W p l e (RMx 0 0 0 0) s m args below meth c s.heap [] 0 0 Q (F0 m 0 ls []))
  unfold k_X3_add at hf
  refine lv_aload_n hx hb dX3_add_0 rfl (lv_at hl 0 rfl) ?_
  refine va_get (D := D) (ci := 3) (v := .ref ox) (C := RX3) (T := TX3) (N := 3) hx hb hts fw_3 hown hK hP 0 rfl rfl 1 (by decide) (hts _ m_fieldLink_P_Rows_7_P_Rows_first_aI) (fun _ h9 => h9) rfl dX3_add_1 ?_
  refine lv_aload_n hx hb dX3_add_4 rfl (lv_at hl 0 rfl) ?_
  refine va_get (D := D) (ci := 3) (v := .int rc0) (C := RX3) (T := TX3) (N := 3) hx hb hts fw_3 hown hK hP 0 rfl rfl 0 (by decide) (hts _ m_fieldLink_P_Rows_16_P_Rows_count_I) (fun _ h9 => h9) rfl dX3_add_5 ?_
  refine lv_iload_n hx hb dX3_add_8 rfl (lv_at hl 1 rfl) ?_
  obtain ⟨hi1, hf⟩ := gd_of hf
  refine va_iast hx hb hK hP hD hS 1 0 rfl rfl hi1 dX3_add_9 (fun H locs hP hD hS => ?_)
  replace hP : va_P D vwCl (Rw oo ox oy cA nn rc0 (upd ra0 (Int32.toNatClampNeg rc0) a1) rb0) H := hP
  replace hD : va_D A (Rw oo ox oy cA nn rc0 (upd ra0 (Int32.toNatClampNeg rc0) a1) rb0) := hD
  refine lv_aload_n hx hb dX3_add_10 rfl (lv_at hl 0 rfl) ?_
  refine va_get (D := D) (ci := 3) (v := .ref oy) (C := RX3) (T := TX3) (N := 3) hx hb hts fw_3 hown hK hP 0 rfl rfl 2 (by decide) (hts _ m_fieldLink_P_Rows_13_P_Rows_second_aI) (fun _ h9 => h9) rfl dX3_add_11 ?_
  refine lv_aload_n hx hb dX3_add_14 rfl (lv_at hl 0 rfl) ?_
  refine va_get (D := D) (ci := 3) (v := .int rc0) (C := RX3) (T := TX3) (N := 3) hx hb hts fw_3 hown hK hP 0 rfl rfl 0 (by decide) (hts _ m_fieldLink_P_Rows_16_P_Rows_count_I) (fun _ h9 => h9) rfl dX3_add_15 ?_
  refine lv_iload_n hx hb dX3_add_18 rfl (lv_at hl 2 rfl) ?_
  obtain ⟨hi2, hf⟩ := gd_of hf
  refine va_iast hx hb hK hP hD hS 2 0 rfl rfl hi2 dX3_add_19 (fun H locs hP hD hS => ?_)
  replace hP : va_P D vwCl (Rw oo ox oy cA nn rc0 (upd ra0 (Int32.toNatClampNeg rc0) a1) (upd rb0 (Int32.toNatClampNeg rc0) a2)) H := hP
  replace hD : va_D A (Rw oo ox oy cA nn rc0 (upd ra0 (Int32.toNatClampNeg rc0) a1) (upd rb0 (Int32.toNatClampNeg rc0) a2)) := hD
  refine lv_aload_n hx hb dX3_add_20 rfl (lv_at hl 0 rfl) ?_
  refine lv_dup hx hb dX3_add_21 rfl ?_
  refine va_get (D := D) (ci := 3) (v := .int rc0) (C := RX3) (T := TX3) (N := 3) hx hb hts fw_3 hown hK hP 0 rfl rfl 0 (by decide) (hts _ m_fieldLink_P_Rows_16_P_Rows_count_I) (fun _ h9 => h9) rfl dX3_add_22 ?_
  refine lv_iconst (v := 1) hx hb dX3_add_25 (by decide) ?_
  refine lv_iadd hx hb dX3_add_26 ?_
  refine va_put (D := D) (ci := 3) (v := .int (rc0 + 1)) (ty := .int) (C := RX3) (T := TX3) (N := 3) hx hb hts fw_3 tyX3 tyX3_ok nmX3 hown hK hP hD hS 0 rfl rfl 0 (by decide) (hts _ m_fieldLink_P_Rows_16_P_Rows_count_I) (fun _ h9 => h9) rfl (by decide +kernel) rfl rfl (Nat.le_of_ble_eq_true rfl) dX3_add_27 (fun H locs hP hD hS => ?_)
  replace hP : va_P D vwCl (Rw oo ox oy cA nn (rc0 + 1) (upd ra0 (Int32.toNatClampNeg rc0) a1) (upd rb0 (Int32.toNatClampNeg rc0) a2)) H := hP
  replace hD : va_D A (Rw oo ox oy cA nn (rc0 + 1) (upd ra0 (Int32.toNatClampNeg rc0) a1) (upd rb0 (Int32.toNatClampNeg rc0) a2)) := hD
  refine lv_aload_n hx hb dX3_add_30 rfl (lv_at hl 0 rfl) ?_
  refine va_get (D := D) (ci := 3) (v := .int (rc0 + 1)) (C := RX3) (T := TX3) (N := 3) hx hb hts fw_3 hown hK hP 0 rfl rfl 0 (by decide) (hts _ m_fieldLink_P_Rows_16_P_Rows_count_I) (fun _ h9 => h9) rfl dX3_add_31 ?_
  rw [hQ]
  exact ret_i C0 hP hD hS (by have e := Option.some.inj hf; rw [← e]; exact ⟨rfl, rfl⟩) dX3_add_34
-- X3 greatestFirst
noncomputable def k_X3_greatestFirst_4 (nn : Nat) (rc : Int32) (ra : Nat → Int32) : Nat → Int32 → Int32 → Option Int32
  | 0, _, _ => none
  | n + 1, x1, x2 => if rc ≤ x2 then some x1 else gd x2 nn (nm (if x1 < (ra (Int32.toNatClampNeg x2)) then (ra (Int32.toNatClampNeg x2)) else x1) (fun mm3 => k_X3_greatestFirst_4 nn rc ra n mm3 (x2 + 1)))
noncomputable def k_X3_greatestFirst (nn : Nat) (rc : Int32) (ra : Nat → Int32) : Option Int32 := k_X3_greatestFirst_4 nn rc ra 100000 (-1) 0
set_option maxHeartbeats 4000000 in
set_option maxRecDepth 100000 in
theorem c_X3_greatestFirst {l : Launch} {D : va_G} {cA : Nat → ClassId} (oo : Nat) (ox : Nat) (oy : Nat) (nn : Nat) (rc : Int32) (ra : Nat → Int32) (rb : Nat → Int32)  (o : Int32) (hf : k_X3_greatestFirst nn rc ra = some o) : CI l D cA yX3_greatestFirst cX3_greatestFirst 3 (some .int) 1 21 [.ref oo] (Rw oo ox oy cA nn rc ra rb) 0 0 (fun r w => r = o ∧ w = (Rw oo ox oy cA nn rc ra rb)) := by
  intro sz
  refine met_start (by decide) rfl ?_
  intro p e s m args below meth c ls hsz hargs C0 hname hP hD hS hl
  generalize hAe : va_A (Rw oo ox oy cA nn rc ra rb) sz = A at C0 hD hS ⊢
  obtain ⟨hx, hb, hr, hml, hown, hts, hlk, hK, hA⟩ := id C0
  replace hl : lv_has ls 3 [(0, .ref oo)] := hl
  obtain ⟨Q, hQ⟩ : ∃ Q : State → Prop, Q = QI below D A (fun r w => r = o ∧ w = (Rw oo ox oy cA nn rc ra rb)) args s 0 0 := ⟨_, rfl⟩
  refine cast (by rw [hQ]) (?_ : W p l e (RMx 1 21 0 0) s m args below meth c s.heap [] 0 0 Q (F0 m 0 ls []))
  have J4 : ∀ n : Nat, ∀ (x1 : Int32) (x2 : Int32), k_X3_greatestFirst_4 nn rc ra n x1 x2 = some o → ∀ (H : Heap) (locs : List Loc), va_P D vwCl (Rw oo ox oy cA nn rc ra rb) H → va_D A (Rw oo ox oy cA nn rc ra rb) → va_S A s.heap H locs → ∀ ls : Array Slot, lv_has ls 3 [(0, .ref oo), (1, .int x1), (2, .int x2)] → W p l e (RMx 1 21 0 0) s m args below meth c H locs 0 0 Q (F0 m 4 ls []) := by
    intro  n
    induction n with
    | zero =>
      intro x1 x2 hf
      rw [k_X3_greatestFirst_4] at hf
      cases hf
    | succ n ih =>
      intro x1 x2 hf H locs hP hD hS ls hl
      rw [k_X3_greatestFirst_4] at hf
      refine lv_iload_n hx hb dX3_greatestFirst_4 rfl (lv_at hl 2 rfl) ?_
      refine lv_aload_n hx hb dX3_greatestFirst_5 rfl (lv_at hl 0 rfl) ?_
      refine va_get (D := D) (ci := 3) (v := .int rc) (C := RX3) (T := TX3) (N := 3) hx hb hts fw_3 hown hK hP 0 rfl rfl 0 (by decide) (hts _ m_fieldLink_P_Rows_16_P_Rows_count_I) (fun _ h9 => h9) rfl dX3_greatestFirst_6 ?_
      refine lv_icmp_ge (tgt := 29) hx hb dX3_greatestFirst_9 (by decide) (fun c1 => ?_) (fun c1 => ?_)
      · replace hf := it_of c1 hf
        refine lv_iload_n hx hb dX3_greatestFirst_29 rfl (lv_at hl 1 rfl) ?_
        rw [hQ]
        exact ret_i C0 hP hD hS (by have e := Option.some.inj hf; rw [← e]; exact ⟨rfl, rfl⟩) dX3_greatestFirst_30
      · replace hf := ie_of c1 hf
        refine lv_iload_n hx hb dX3_greatestFirst_12 rfl (lv_at hl 1 rfl) ?_
        refine lv_aload_n hx hb dX3_greatestFirst_13 rfl (lv_at hl 0 rfl) ?_
        refine va_get (D := D) (ci := 3) (v := .ref ox) (C := RX3) (T := TX3) (N := 3) hx hb hts fw_3 hown hK hP 0 rfl rfl 1 (by decide) (hts _ m_fieldLink_P_Rows_7_P_Rows_first_aI) (fun _ h9 => h9) rfl dX3_greatestFirst_14 ?_
        refine lv_iload_n hx hb dX3_greatestFirst_17 rfl (lv_at hl 2 rfl) ?_
        obtain ⟨hi2, hf⟩ := gd_of hf
        refine va_iald hx hb hK hP 1 0 rfl rfl hi2 dX3_greatestFirst_18 ?_
        refine va_mmax hx hb (by rw [hml]; exact hl.1.symm) hown (hts _ m_methodLink_P_Rows_20_java_lang_Math_max_II_I) (hts _ m_static_java_lang_Math_max_II_I) (hts _ m_initialized_java_lang_Math) (hts _ m_code_java_lang_Math_max_II_I) (Nat.le_of_ble_eq_true rfl) (Nat.le_of_ble_eq_true rfl) (Nat.zero_le _) (Nat.zero_le _) dX3_greatestFirst_19 ?_
        refine lv_topi (fun mm3 emm3 => ?_)
        replace hf := nm_i emm3 hf
        refine lv_istore_n (lv' := [(1, .int mm3), (0, .ref oo), (2, .int x2)]) hx hb dX3_greatestFirst_22 rfl hl (by decide) rfl (fun ls hl => ?_)
        refine lv_iinc (v := (x2 + 1)) (lv' := [(2, .int (x2 + 1)), (1, .int mm3), (0, .ref oo)]) hx hb dX3_greatestFirst_23 hl (k := 2) rfl rfl (by decide) rfl (fun ls hl => ?_)
        refine lv_goto (tgt := 4) hx hb dX3_greatestFirst_26 (by decide) ?_
        exact ih mm3 (x2 + 1) hf _ _ hP hD hS _ (lv_sub hl [2, 1, 0] rfl)
  unfold k_X3_greatestFirst at hf
  refine lv_iconst (v := (-1)) hx hb dX3_greatestFirst_0 (by decide) ?_
  refine lv_istore_n (lv' := [(1, .int (-1)), (0, .ref oo)]) hx hb dX3_greatestFirst_1 rfl hl (by decide) rfl (fun ls hl => ?_)
  refine lv_iconst (v := 0) hx hb dX3_greatestFirst_2 (by decide) ?_
  refine lv_istore_n (lv' := [(2, .int 0), (1, .int (-1)), (0, .ref oo)]) hx hb dX3_greatestFirst_3 rfl hl (by decide) rfl (fun ls hl => ?_)
  exact J4 100000 (-1) 0 hf _ _ hP hD hS _ (lv_sub hl [2, 1, 0] rfl)
-- X3 copy
noncomputable def k_X3_copy (nn : Nat) (rc0 : Int32) (ra0 : Nat → Int32) (rb0 : Nat → Int32) (rc2 : Int32) (ra2 : Nat → Int32) (rb2 : Nat → Int32) : Option (Int32 × (Nat → Int32) × (Nat → Int32)) := gcp 0 0 rc2 nn nn (gcp 0 0 rc2 nn nn (some (rc2, (va_cpy ra2 ra0 (Int32.toNatClampNeg 0) (Int32.toNatClampNeg 0) (Int32.toNatClampNeg rc2)), (va_cpy rb2 rb0 (Int32.toNatClampNeg 0) (Int32.toNatClampNeg 0) (Int32.toNatClampNeg rc2)))))
set_option maxHeartbeats 4000000 in
set_option maxRecDepth 100000 in
theorem c_X3_copy {l : Launch} {D : va_G} {cA : Nat → ClassId} (oo : Nat) (ox : Nat) (oy : Nat) (so : Nat) (sx : Nat) (sy : Nat) (nn : Nat) (rc0 : Int32) (ra0 : Nat → Int32) (rb0 : Nat → Int32) (rc2 : Int32) (ra2 : Nat → Int32) (rb2 : Nat → Int32)  (o : Int32 × (Nat → Int32) × (Nat → Int32)) (hf : k_X3_copy nn rc0 ra0 rb0 rc2 ra2 rb2 = some o) : CV l D cA yX3_copy cX3_copy 2 none 1 40 [.ref oo, .ref so] (List.flatten [(Rw oo ox oy cA nn rc0 ra0 rb0), (Rw so sx sy cA nn rc2 ra2 rb2)]) 0 0 (fun w => w = (List.flatten [(Rw oo ox oy cA nn o.1 o.2.1 o.2.2), (Rw so sx sy cA nn rc2 ra2 rb2)])) := by
  intro sz
  refine met_start (by decide) rfl ?_
  intro p e s m args below meth c ls hsz hargs C0 hname hP hD hS hl
  generalize hAe : va_A (List.flatten [(Rw oo ox oy cA nn rc0 ra0 rb0), (Rw so sx sy cA nn rc2 ra2 rb2)]) sz = A at C0 hD hS ⊢
  obtain ⟨hx, hb, hr, hml, hown, hts, hlk, hK, hA⟩ := id C0
  replace hl : lv_has ls 2 [(0, .ref oo), (1, .ref so)] := hl
  obtain ⟨Q, hQ⟩ : ∃ Q : State → Prop, Q = QV below D A (fun w => w = (List.flatten [(Rw oo ox oy cA nn o.1 o.2.1 o.2.2), (Rw so sx sy cA nn rc2 ra2 rb2)])) args s 0 0 := ⟨_, rfl⟩
  refine cast (by rw [hQ]) (?_ : W p l e (RMx 1 40 0 0) s m args below meth c s.heap [] 0 0 Q (F0 m 0 ls []))
  unfold k_X3_copy at hf
  refine lv_aload_n hx hb dX3_copy_0 rfl (lv_at hl 0 rfl) ?_
  refine lv_aload_n hx hb dX3_copy_1 rfl (lv_at hl 1 rfl) ?_
  refine va_get (D := D) (ci := 3) (v := .int rc2) (C := RX3) (T := TX3) (N := 3) hx hb hts fw_3 hown hK hP 3 rfl rfl 0 (by decide) (hts _ m_fieldLink_P_Rows_16_P_Rows_count_I) (fun _ h9 => h9) rfl dX3_copy_2 ?_
  refine va_put (D := D) (ci := 3) (v := .int rc2) (ty := .int) (C := RX3) (T := TX3) (N := 3) hx hb hts fw_3 tyX3 tyX3_ok nmX3 hown hK hP hD hS 0 rfl rfl 0 (by decide) (hts _ m_fieldLink_P_Rows_16_P_Rows_count_I) (fun _ h9 => h9) rfl (by decide +kernel) rfl rfl (Nat.le_of_ble_eq_true rfl) dX3_copy_5 (fun H locs hP hD hS => ?_)
  replace hP : va_P D vwCl (List.flatten [(Rw oo ox oy cA nn rc2 ra0 rb0), (Rw so sx sy cA nn rc2 ra2 rb2)]) H := hP
  replace hD : va_D A (List.flatten [(Rw oo ox oy cA nn rc2 ra0 rb0), (Rw so sx sy cA nn rc2 ra2 rb2)]) := hD
  refine lv_aload_n hx hb dX3_copy_8 rfl (lv_at hl 1 rfl) ?_
  refine va_get (D := D) (ci := 3) (v := .ref sx) (C := RX3) (T := TX3) (N := 3) hx hb hts fw_3 hown hK hP 3 rfl rfl 1 (by decide) (hts _ m_fieldLink_P_Rows_7_P_Rows_first_aI) (fun _ h9 => h9) rfl dX3_copy_9 ?_
  refine lv_iconst (v := 0) hx hb dX3_copy_12 (by decide) ?_
  refine lv_aload_n hx hb dX3_copy_13 rfl (lv_at hl 0 rfl) ?_
  refine va_get (D := D) (ci := 3) (v := .ref ox) (C := RX3) (T := TX3) (N := 3) hx hb hts fw_3 hown hK hP 0 rfl rfl 1 (by decide) (hts _ m_fieldLink_P_Rows_7_P_Rows_first_aI) (fun _ h9 => h9) rfl dX3_copy_14 ?_
  refine lv_iconst (v := 0) hx hb dX3_copy_17 (by decide) ?_
  refine lv_aload_n hx hb dX3_copy_18 rfl (lv_at hl 0 rfl) ?_
  refine va_get (D := D) (ci := 3) (v := .int rc2) (C := RX3) (T := TX3) (N := 3) hx hb hts fw_3 hown hK hP 0 rfl rfl 0 (by decide) (hts _ m_fieldLink_P_Rows_16_P_Rows_count_I) (fun _ h9 => h9) rfl dX3_copy_19 ?_
  obtain ⟨⟨hc11, hc12, hc13, hc14, hc15⟩, hf⟩ := gcp_of hf
  refine va_copyi (ty := .int) hx hb (by rw [hml]; exact hl.1.symm) hown (hts _ m_methodLink_P_Rows_26_java_lang_System_arraycopy_Ljava_lang_ObjectILjava_lang_ObjectII_V) (hts _ m_native_java_lang_System_arraycopy_Ljava_lang_ObjectILjava_lang_ObjectII_V) (hts _ m_static_java_lang_System_arraycopy_Ljava_lang_ObjectILjava_lang_ObjectII_V) (hts _ m_initialized_java_lang_System) hK hP hD hS 4 1 0 0 rfl rfl rfl rfl rfl hc11 hc12 hc13 hc14 hc15 (fun _ _ => rfl) (Nat.le_of_ble_eq_true rfl) (Nat.le_of_ble_eq_true rfl) dX3_copy_22 (fun H locs hP hD hS => ?_)
  replace hP : va_P D vwCl (List.flatten [(Rw oo ox oy cA nn rc2 (va_cpy ra2 ra0 (Int32.toNatClampNeg 0) (Int32.toNatClampNeg 0) (Int32.toNatClampNeg rc2)) rb0), (Rw so sx sy cA nn rc2 ra2 rb2)]) H := hP
  replace hD : va_D A (List.flatten [(Rw oo ox oy cA nn rc2 (va_cpy ra2 ra0 (Int32.toNatClampNeg 0) (Int32.toNatClampNeg 0) (Int32.toNatClampNeg rc2)) rb0), (Rw so sx sy cA nn rc2 ra2 rb2)]) := hD
  refine lv_aload_n hx hb dX3_copy_25 rfl (lv_at hl 1 rfl) ?_
  refine va_get (D := D) (ci := 3) (v := .ref sy) (C := RX3) (T := TX3) (N := 3) hx hb hts fw_3 hown hK hP 3 rfl rfl 2 (by decide) (hts _ m_fieldLink_P_Rows_13_P_Rows_second_aI) (fun _ h9 => h9) rfl dX3_copy_26 ?_
  refine lv_iconst (v := 0) hx hb dX3_copy_29 (by decide) ?_
  refine lv_aload_n hx hb dX3_copy_30 rfl (lv_at hl 0 rfl) ?_
  refine va_get (D := D) (ci := 3) (v := .ref oy) (C := RX3) (T := TX3) (N := 3) hx hb hts fw_3 hown hK hP 0 rfl rfl 2 (by decide) (hts _ m_fieldLink_P_Rows_13_P_Rows_second_aI) (fun _ h9 => h9) rfl dX3_copy_31 ?_
  refine lv_iconst (v := 0) hx hb dX3_copy_34 (by decide) ?_
  refine lv_aload_n hx hb dX3_copy_35 rfl (lv_at hl 0 rfl) ?_
  refine va_get (D := D) (ci := 3) (v := .int rc2) (C := RX3) (T := TX3) (N := 3) hx hb hts fw_3 hown hK hP 0 rfl rfl 0 (by decide) (hts _ m_fieldLink_P_Rows_16_P_Rows_count_I) (fun _ h9 => h9) rfl dX3_copy_36 ?_
  obtain ⟨⟨hc21, hc22, hc23, hc24, hc25⟩, hf⟩ := gcp_of hf
  refine va_copyi (ty := .int) hx hb (by rw [hml]; exact hl.1.symm) hown (hts _ m_methodLink_P_Rows_26_java_lang_System_arraycopy_Ljava_lang_ObjectILjava_lang_ObjectII_V) (hts _ m_native_java_lang_System_arraycopy_Ljava_lang_ObjectILjava_lang_ObjectII_V) (hts _ m_static_java_lang_System_arraycopy_Ljava_lang_ObjectILjava_lang_ObjectII_V) (hts _ m_initialized_java_lang_System) hK hP hD hS 5 2 0 0 rfl rfl rfl rfl rfl hc21 hc22 hc23 hc24 hc25 (fun _ _ => rfl) (Nat.le_of_ble_eq_true rfl) (Nat.le_of_ble_eq_true rfl) dX3_copy_39 (fun H locs hP hD hS => ?_)
  replace hP : va_P D vwCl (List.flatten [(Rw oo ox oy cA nn rc2 (va_cpy ra2 ra0 (Int32.toNatClampNeg 0) (Int32.toNatClampNeg 0) (Int32.toNatClampNeg rc2)) (va_cpy rb2 rb0 (Int32.toNatClampNeg 0) (Int32.toNatClampNeg 0) (Int32.toNatClampNeg rc2))), (Rw so sx sy cA nn rc2 ra2 rb2)]) H := hP
  replace hD : va_D A (List.flatten [(Rw oo ox oy cA nn rc2 (va_cpy ra2 ra0 (Int32.toNatClampNeg 0) (Int32.toNatClampNeg 0) (Int32.toNatClampNeg rc2)) (va_cpy rb2 rb0 (Int32.toNatClampNeg 0) (Int32.toNatClampNeg 0) (Int32.toNatClampNeg rc2))), (Rw so sx sy cA nn rc2 ra2 rb2)]) := hD
  rw [hQ]
  exact ret_v C0 hP hD hS (by have e := Option.some.inj hf; first | (rw [← e]; done) | (rw [← e]; exact rfl)) dX3_copy_42
-- X2 clear
noncomputable def k_X2_clear (cif0 : Nat → Int32) : Option (Nat → Int32) := nm (upd (upd (upd cif0 0 10) 1 0) 2 0) (fun cif_1 => some cif_1)
set_option maxHeartbeats 4000000 in
set_option maxRecDepth 100000 in
theorem c_X2_clear {l : Launch} {D : va_G} {cA : Nat → ClassId} (q : Nat → Nat) (cif0 : Nat → Int32) (cig : Nat → Nat → Int32)  (o : Nat → Int32) (hf : k_X2_clear cif0 = some o) : CV l D cA yX2_clear cX2_clear 1 none 0 0 [.ref (q 0)] (Chw q cA cif0 cig) 0 0 (fun w => w = (Chw q cA o cig)) := by
  intro sz
  refine met_start (by decide) rfl ?_
  intro p e s m args below meth c ls hsz hargs C0 hname hP hD hS hl
  generalize hAe : va_A (Chw q cA cif0 cig) sz = A at C0 hD hS ⊢
  obtain ⟨hx, hb, hr, hml, hown, hts, hlk, hK, hA⟩ := id C0
  replace hl : lv_has ls 1 [(0, .ref (q 0))] := hl
  obtain ⟨Q, hQ⟩ : ∃ Q : State → Prop, Q = QV below D A (fun w => w = (Chw q cA o cig)) args s 0 0 := ⟨_, rfl⟩
  refine cast (by rw [hQ]) (?_ : W p l e (RMx 0 0 0 0) s m args below meth c s.heap [] 0 0 Q (F0 m 0 ls []))
  unfold k_X2_clear at hf
  refine lv_aload_n hx hb dX2_clear_0 rfl (lv_at hl 0 rfl) ?_
  refine lv_bipush (v := 10) hx hb dX2_clear_1 (by decide) ?_
  refine va_put (D := D) (ci := 2) (v := .int 10) (ty := .int) (C := RX2) (T := TX2) (N := 9) hx hb hts fw_2 tyX2 tyX2_ok nmX2 hown hK hP hD hS 0 rfl rfl 0 (by decide) (hts _ m_fieldLink_P_Charter_30_P_Charter_calm_I) (fun _ h9 => h9) rfl (by decide +kernel) rfl rfl (Nat.le_of_ble_eq_true rfl) dX2_clear_3 (fun H locs hP hD hS => ?_)
  replace hP : va_P D vwCl (Chw q cA (upd cif0 0 10) cig) H := hP
  replace hD : va_D A (Chw q cA (upd cif0 0 10) cig) := hD
  refine lv_aload_n hx hb dX2_clear_6 rfl (lv_at hl 0 rfl) ?_
  refine lv_iconst (v := 0) hx hb dX2_clear_7 (by decide) ?_
  refine va_put (D := D) (ci := 2) (v := .int 0) (ty := .int) (C := RX2) (T := TX2) (N := 9) hx hb hts fw_2 tyX2 tyX2_ok nmX2 hown hK hP hD hS 0 rfl rfl 1 (by decide) (hts _ m_fieldLink_P_Charter_34_P_Charter_clauses_I) (fun _ h9 => h9) rfl (by decide +kernel) rfl rfl (Nat.le_of_ble_eq_true rfl) dX2_clear_8 (fun H locs hP hD hS => ?_)
  replace hP : va_P D vwCl (Chw q cA (upd (upd cif0 0 10) 1 0) cig) H := hP
  replace hD : va_D A (Chw q cA (upd (upd cif0 0 10) 1 0) cig) := hD
  refine lv_aload_n hx hb dX2_clear_11 rfl (lv_at hl 0 rfl) ?_
  refine lv_iconst (v := 0) hx hb dX2_clear_12 (by decide) ?_
  refine va_put (D := D) (ci := 2) (v := .int 0) (ty := .int) (C := RX2) (T := TX2) (N := 9) hx hb hts fw_2 tyX2 tyX2_ok nmX2 hown hK hP hD hS 0 rfl rfl 2 (by decide) (hts _ m_fieldLink_P_Charter_37_P_Charter_steps_I) (fun _ h9 => h9) rfl (by decide +kernel) rfl rfl (Nat.le_of_ble_eq_true rfl) dX2_clear_13 (fun H locs hP hD hS => ?_)
  replace hP : va_P D vwCl (Chw q cA (upd (upd (upd cif0 0 10) 1 0) 2 0) cig) H := hP
  replace hD : va_D A (Chw q cA (upd (upd (upd cif0 0 10) 1 0) 2 0) cig) := hD
  obtain ⟨cif_1, hv2, hf⟩ := nm_of hf
  replace hP : va_P D vwCl (Chw q cA cif_1 cig) H := by rw [hv2]; exact hP
  replace hD : va_D A (Chw q cA cif_1 cig) := by rw [hv2]; exact hD
  rw [hQ]
  exact ret_v C0 hP hD hS (by have e := Option.some.inj hf; first | (rw [← e]; done) | (rw [← e]; exact rfl)) dX2_clear_16
-- X2 addStep
noncomputable def k_X2_addStep (a1 : Int32) (cif0 : Nat → Int32) (cig0 : Nat → Nat → Int32) : Option (Int32 × (Nat → Int32) × (Nat → Nat → Int32)) := if (cif0 2) < 100 then gd (cif0 2) 100 (some (1, (upd cif0 2 ((cif0 2) + 1)), (va_up cig0 6 (upd (cig0 6) (Int32.toNatClampNeg (cif0 2)) a1)))) else some (0, cif0, cig0)
set_option maxHeartbeats 4000000 in
set_option maxRecDepth 100000 in
theorem c_X2_addStep {l : Launch} {D : va_G} {cA : Nat → ClassId} (q : Nat → Nat) (cif0 : Nat → Int32) (cig0 : Nat → Nat → Int32) (a1 : Int32) (o : Int32 × (Nat → Int32) × (Nat → Nat → Int32)) (hf : k_X2_addStep a1 cif0 cig0 = some o) : CI l D cA yX2_addStep cX2_addStep 2 (some .boolean) 0 0 [.ref (q 0), .int a1] (Chw q cA cif0 cig0) 0 0 (fun r w => (r = o.1 ∧ w = (Chw q cA o.2.1 o.2.2)) ∧ narrow .boolean (.int r) = .int r) := by
  intro sz
  refine met_start (by decide) rfl ?_
  intro p e s m args below meth c ls hsz hargs C0 hname hP hD hS hl
  generalize hAe : va_A (Chw q cA cif0 cig0) sz = A at C0 hD hS ⊢
  obtain ⟨hx, hb, hr, hml, hown, hts, hlk, hK, hA⟩ := id C0
  replace hl : lv_has ls 2 [(0, .ref (q 0)), (1, .int a1)] := hl
  obtain ⟨Q, hQ⟩ : ∃ Q : State → Prop, Q = QI below D A (fun r w => (r = o.1 ∧ w = (Chw q cA o.2.1 o.2.2)) ∧ narrow .boolean (.int r) = .int r) args s 0 0 := ⟨_, rfl⟩
  refine cast (by rw [hQ]) (?_ : W p l e (RMx 0 0 0 0) s m args below meth c s.heap [] 0 0 Q (F0 m 0 ls []))
  unfold k_X2_addStep at hf
  refine lv_aload_n hx hb dX2_addStep_0 rfl (lv_at hl 0 rfl) ?_
  refine va_get (D := D) (ci := 2) (v := .int (cif0 2)) (C := RX2) (T := TX2) (N := 9) hx hb hts fw_2 hown hK hP 0 rfl rfl 2 (by decide) (hts _ m_fieldLink_P_Charter_37_P_Charter_steps_I) (fun _ h9 => h9) rfl dX2_addStep_1 ?_
  refine lv_bipush (v := 100) hx hb dX2_addStep_4 (by decide) ?_
  refine lv_icmp_lt (tgt := 11) hx hb dX2_addStep_6 (by decide) (fun c1 => ?_) (fun c1 => ?_)
  · replace hf := it_of c1 hf
    refine lv_aload_n hx hb dX2_addStep_11 rfl (lv_at hl 0 rfl) ?_
    refine va_get (D := D) (ci := 2) (v := .ref (q 6)) (C := RX2) (T := TX2) (N := 9) hx hb hts fw_2 hown hK hP 0 rfl rfl 6 (by decide) (hts _ m_fieldLink_P_Charter_21_P_Charter_does_aI) (fun _ h9 => h9) rfl dX2_addStep_12 ?_
    refine lv_aload_n hx hb dX2_addStep_15 rfl (lv_at hl 0 rfl) ?_
    refine va_get (D := D) (ci := 2) (v := .int (cif0 2)) (C := RX2) (T := TX2) (N := 9) hx hb hts fw_2 hown hK hP 0 rfl rfl 2 (by decide) (hts _ m_fieldLink_P_Charter_37_P_Charter_steps_I) (fun _ h9 => h9) rfl dX2_addStep_16 ?_
    refine lv_iload_n hx hb dX2_addStep_19 rfl (lv_at hl 1 rfl) ?_
    obtain ⟨hi2, hf⟩ := gd_of hf
    refine va_iast hx hb hK hP hD hS 4 0 rfl rfl hi2 dX2_addStep_20 (fun H locs hP hD hS => ?_)
    replace hP : va_P D vwCl (Chw q cA cif0 (va_up cig0 6 (upd (cig0 6) (Int32.toNatClampNeg (cif0 2)) a1))) H := hP
    replace hD : va_D A (Chw q cA cif0 (va_up cig0 6 (upd (cig0 6) (Int32.toNatClampNeg (cif0 2)) a1))) := hD
    refine lv_aload_n hx hb dX2_addStep_21 rfl (lv_at hl 0 rfl) ?_
    refine lv_dup hx hb dX2_addStep_22 rfl ?_
    refine va_get (D := D) (ci := 2) (v := .int (cif0 2)) (C := RX2) (T := TX2) (N := 9) hx hb hts fw_2 hown hK hP 0 rfl rfl 2 (by decide) (hts _ m_fieldLink_P_Charter_37_P_Charter_steps_I) (fun _ h9 => h9) rfl dX2_addStep_23 ?_
    refine lv_iconst (v := 1) hx hb dX2_addStep_26 (by decide) ?_
    refine lv_iadd hx hb dX2_addStep_27 ?_
    refine va_put (D := D) (ci := 2) (v := .int ((cif0 2) + 1)) (ty := .int) (C := RX2) (T := TX2) (N := 9) hx hb hts fw_2 tyX2 tyX2_ok nmX2 hown hK hP hD hS 0 rfl rfl 2 (by decide) (hts _ m_fieldLink_P_Charter_37_P_Charter_steps_I) (fun _ h9 => h9) rfl (by decide +kernel) rfl rfl (Nat.le_of_ble_eq_true rfl) dX2_addStep_28 (fun H locs hP hD hS => ?_)
    replace hP : va_P D vwCl (Chw q cA (upd cif0 2 ((cif0 2) + 1)) (va_up cig0 6 (upd (cig0 6) (Int32.toNatClampNeg (cif0 2)) a1))) H := hP
    replace hD : va_D A (Chw q cA (upd cif0 2 ((cif0 2) + 1)) (va_up cig0 6 (upd (cig0 6) (Int32.toNatClampNeg (cif0 2)) a1))) := hD
    refine lv_iconst (v := 1) hx hb dX2_addStep_31 (by decide) ?_
    rw [hQ]
    exact ret_z C0 hP hD hS (by have e := Option.some.inj hf; rw [← e]; exact ⟨rfl, rfl⟩) rfl dX2_addStep_32
  · replace hf := ie_of c1 hf
    refine lv_iconst (v := 0) hx hb dX2_addStep_9 (by decide) ?_
    rw [hQ]
    exact ret_z C0 hP hD hS (by have e := Option.some.inj hf; rw [← e]; exact ⟨rfl, rfl⟩) rfl dX2_addStep_10
-- X2 addTest
noncomputable def k_X2_addTest_79  (t1 : Int32) (t2 : Int32) (cif : Nat → Int32) (cig : Nat → Nat → Int32) : Option (Int32 × (Nat → Int32) × (Nat → Nat → Int32)) := gd t1 100 (some (1, cif, (va_up cig 8 (upd (cig 8) (Int32.toNatClampNeg t1) t2))))
noncomputable def k_X2_addTest_43 (a2 : Int32) (a3 : Int32) (t1 : Int32) (t2 : Int32) (cif : Nat → Int32) (cig : Nat → Nat → Int32) : Option (Int32 × (Nat → Int32) × (Nat → Nat → Int32)) := gd t1 100 (if a2 = 62 then k_X2_addTest_79 ((cif 2) - 1) 9999 cif (va_up cig 7 (upd (cig 7) (Int32.toNatClampNeg t1) t2)) else if a2 = 60 then k_X2_addTest_79 ((cif 2) - 1) (a3 - 1) cif (va_up cig 7 (upd (cig 7) (Int32.toNatClampNeg t1) t2)) else k_X2_addTest_79 ((cif 2) - 1) a3 cif (va_up cig 7 (upd (cig 7) (Int32.toNatClampNeg t1) t2)))
noncomputable def k_X2_addTest (a1 : Int32) (a2 : Int32) (a3 : Int32) (cif0 : Nat → Int32) (cig0 : Nat → Nat → Int32) : Option (Int32 × (Nat → Int32) × (Nat → Nat → Int32)) := b3 (k_X2_addStep a1 cif0 cig0) (fun r1 cif_2 cig_3 => if r1 = 0 then some (0, cif_2, cig_3) else if a2 = 60 then k_X2_addTest_43 a2 a3 ((cif_2 2) - 1) 0 cif_2 cig_3 else if a2 = 62 then k_X2_addTest_43 a2 a3 ((cif_2 2) - 1) (a3 + 1) cif_2 cig_3 else k_X2_addTest_43 a2 a3 ((cif_2 2) - 1) a3 cif_2 cig_3)
set_option maxHeartbeats 4000000 in
set_option maxRecDepth 100000 in
theorem c_X2_addTest {l : Launch} {D : va_G} {cA : Nat → ClassId} (q : Nat → Nat) (cif0 : Nat → Int32) (cig0 : Nat → Nat → Int32) (a1 : Int32) (a2 : Int32) (a3 : Int32) (o : Int32 × (Nat → Int32) × (Nat → Nat → Int32)) (hf : k_X2_addTest a1 a2 a3 cif0 cig0 = some o) : CI l D cA yX2_addTest cX2_addTest 4 (some .boolean) 1 21 [.ref (q 0), .int a1, .int a2, .int a3] (Chw q cA cif0 cig0) 0 0 (fun r w => (r = o.1 ∧ w = (Chw q cA o.2.1 o.2.2)) ∧ narrow .boolean (.int r) = .int r) := by
  intro sz
  refine met_start (by decide) rfl ?_
  intro p e s m args below meth c ls hsz hargs C0 hname hP hD hS hl
  generalize hAe : va_A (Chw q cA cif0 cig0) sz = A at C0 hD hS ⊢
  obtain ⟨hx, hb, hr, hml, hown, hts, hlk, hK, hA⟩ := id C0
  replace hl : lv_has ls 4 [(0, .ref (q 0)), (1, .int a1), (2, .int a2), (3, .int a3)] := hl
  obtain ⟨Q, hQ⟩ : ∃ Q : State → Prop, Q = QI below D A (fun r w => (r = o.1 ∧ w = (Chw q cA o.2.1 o.2.2)) ∧ narrow .boolean (.int r) = .int r) args s 0 0 := ⟨_, rfl⟩
  refine cast (by rw [hQ]) (?_ : W p l e (RMx 1 21 0 0) s m args below meth c s.heap [] 0 0 Q (F0 m 0 ls []))
  have J79 : ∀ (t1 : Int32) (t2 : Int32) (cif : Nat → Int32) (cig : Nat → Nat → Int32), k_X2_addTest_79 t1 t2 cif cig = some o → ∀ (H : Heap) (locs : List Loc), va_P D vwCl (Chw q cA cif cig) H → va_D A (Chw q cA cif cig) → va_S A s.heap H locs → ∀ ls : Array Slot, lv_has ls 4 [] → W p l e (RMx 1 21 0 0) s m args below meth c H locs 0 0 Q (F0 m 79 ls [.int t2, .int t1, .ref (q 8)]) := by
    intro  t1 t2 cif cig hf H locs hP hD hS ls hl
    unfold k_X2_addTest_79 at hf
    obtain ⟨hi1, hf⟩ := gd_of hf
    refine va_iast hx hb hK hP hD hS 6 0 rfl rfl hi1 dX2_addTest_79 (fun H locs hP hD hS => ?_)
    replace hP : va_P D vwCl (Chw q cA cif (va_up cig 8 (upd (cig 8) (Int32.toNatClampNeg t1) t2))) H := hP
    replace hD : va_D A (Chw q cA cif (va_up cig 8 (upd (cig 8) (Int32.toNatClampNeg t1) t2))) := hD
    refine lv_iconst (v := 1) hx hb dX2_addTest_80 (by decide) ?_
    rw [hQ]
    exact ret_z C0 hP hD hS (by have e := Option.some.inj hf; rw [← e]; exact ⟨rfl, rfl⟩) rfl dX2_addTest_81
  have J43 : ∀ (t1 : Int32) (t2 : Int32) (cif : Nat → Int32) (cig : Nat → Nat → Int32), k_X2_addTest_43 a2 a3 t1 t2 cif cig = some o → ∀ (H : Heap) (locs : List Loc), va_P D vwCl (Chw q cA cif cig) H → va_D A (Chw q cA cif cig) → va_S A s.heap H locs → ∀ ls : Array Slot, lv_has ls 4 [(0, .ref (q 0)), (2, .int a2), (3, .int a3)] → W p l e (RMx 1 21 0 0) s m args below meth c H locs 0 0 Q (F0 m 43 ls [.int t2, .int t1, .ref (q 7)]) := by
    intro  t1 t2 cif cig hf H locs hP hD hS ls hl
    unfold k_X2_addTest_43 at hf
    obtain ⟨hi1, hf⟩ := gd_of hf
    refine va_iast hx hb hK hP hD hS 5 0 rfl rfl hi1 dX2_addTest_43 (fun H locs hP hD hS => ?_)
    replace hP : va_P D vwCl (Chw q cA cif (va_up cig 7 (upd (cig 7) (Int32.toNatClampNeg t1) t2))) H := hP
    replace hD : va_D A (Chw q cA cif (va_up cig 7 (upd (cig 7) (Int32.toNatClampNeg t1) t2))) := hD
    refine lv_aload_n hx hb dX2_addTest_44 rfl (lv_at hl 0 rfl) ?_
    refine va_get (D := D) (ci := 2) (v := .ref (q 8)) (C := RX2) (T := TX2) (N := 9) hx hb hts fw_2 hown hK hP 0 rfl rfl 8 (by decide) (hts _ m_fieldLink_P_Charter_27_P_Charter_high_aI) (fun _ h9 => h9) rfl dX2_addTest_45 ?_
    refine lv_aload_n hx hb dX2_addTest_48 rfl (lv_at hl 0 rfl) ?_
    refine va_get (D := D) (ci := 2) (v := .int (cif 2)) (C := RX2) (T := TX2) (N := 9) hx hb hts fw_2 hown hK hP 0 rfl rfl 2 (by decide) (hts _ m_fieldLink_P_Charter_37_P_Charter_steps_I) (fun _ h9 => h9) rfl dX2_addTest_49 ?_
    refine lv_iconst (v := 1) hx hb dX2_addTest_52 (by decide) ?_
    refine lv_isub hx hb dX2_addTest_53 ?_
    refine lv_iload_n hx hb dX2_addTest_54 rfl (lv_at hl 1 rfl) ?_
    refine lv_bipush (v := 62) hx hb dX2_addTest_55 (by decide) ?_
    refine lv_icmp_ne (tgt := 66) hx hb dX2_addTest_57 (by decide) (fun c2 => ?_) (fun c2 => ?_)
    · replace hf := ie_of c2 hf
      refine lv_iload_n hx hb dX2_addTest_66 rfl (lv_at hl 1 rfl) ?_
      refine lv_bipush (v := 60) hx hb dX2_addTest_67 (by decide) ?_
      refine lv_icmp_ne (tgt := 78) hx hb dX2_addTest_69 (by decide) (fun c3 => ?_) (fun c3 => ?_)
      · replace hf := ie_of c3 hf
        refine lv_iload_n hx hb dX2_addTest_78 rfl (lv_at hl 2 rfl) ?_
        exact J79 ((cif 2) - 1) a3 cif (va_up cig 7 (upd (cig 7) (Int32.toNatClampNeg t1) t2)) hf _ _ hP hD hS _ (lv_sub hl [] rfl)
      · replace hf := it_of c3 hf
        refine lv_iload_n hx hb dX2_addTest_72 rfl (lv_at hl 2 rfl) ?_
        refine lv_iconst (v := 1) hx hb dX2_addTest_73 (by decide) ?_
        refine lv_isub hx hb dX2_addTest_74 ?_
        refine lv_goto (tgt := 79) hx hb dX2_addTest_75 (by decide) ?_
        exact J79 ((cif 2) - 1) (a3 - 1) cif (va_up cig 7 (upd (cig 7) (Int32.toNatClampNeg t1) t2)) hf _ _ hP hD hS _ (lv_sub hl [] rfl)
    · replace hf := it_of c2 hf
      refine lv_sipush (v := 9999) hx hb dX2_addTest_60 (by decide) ?_
      refine lv_goto (tgt := 79) hx hb dX2_addTest_63 (by decide) ?_
      exact J79 ((cif 2) - 1) 9999 cif (va_up cig 7 (upd (cig 7) (Int32.toNatClampNeg t1) t2)) hf _ _ hP hD hS _ (lv_sub hl [] rfl)
  unfold k_X2_addTest at hf
  refine lv_aload_n hx hb dX2_addTest_0 rfl (lv_at hl 0 rfl) ?_
  refine lv_iload_n hx hb dX2_addTest_1 rfl (lv_at hl 1 rfl) ?_
  obtain ⟨r1q, cif_2, cig_3, hq4, hf⟩ := b3_of hf
  refine callVI (As := [.int a1]) (rest := []) (wr := []) C0 (c_X2_addStep q cif0 cig0 a1 _ hq4) lk_X2_40_X2_addStep rfl hP hD hS perm_nil 0 2 rfl rfl rfl hl.1 rfl rfl (Nat.le_of_ble_eq_true rfl) dX2_addTest_2 ⟨Nat.zero_le _, Nat.zero_le _⟩ (fun r1 w H locs hw hP hD hS => ?_)
  obtain ⟨⟨e1, e2⟩, z5⟩ := hw
  replace e1 : r1 = r1q := e1
  subst e1
  subst e2
  replace hP : va_P D vwCl (Chw q cA cif_2 cig_3) H := hP.nil
  replace hD : va_D A (Chw q cA cif_2 cig_3) := hD.nil
  refine lv_if_ne (tgt := 10) hx hb dX2_addTest_5 (by decide) (fun c6 => ?_) (fun c6 => ?_)
  · replace hf := ie_of c6 hf
    refine lv_aload_n hx hb dX2_addTest_10 rfl (lv_at hl 0 rfl) ?_
    refine va_get (D := D) (ci := 2) (v := .ref (q 7)) (C := RX2) (T := TX2) (N := 9) hx hb hts fw_2 hown hK hP 0 rfl rfl 7 (by decide) (hts _ m_fieldLink_P_Charter_24_P_Charter_low_aI) (fun _ h9 => h9) rfl dX2_addTest_11 ?_
    refine lv_aload_n hx hb dX2_addTest_14 rfl (lv_at hl 0 rfl) ?_
    refine va_get (D := D) (ci := 2) (v := .int (cif_2 2)) (C := RX2) (T := TX2) (N := 9) hx hb hts fw_2 hown hK hP 0 rfl rfl 2 (by decide) (hts _ m_fieldLink_P_Charter_37_P_Charter_steps_I) (fun _ h9 => h9) rfl dX2_addTest_15 ?_
    refine lv_iconst (v := 1) hx hb dX2_addTest_18 (by decide) ?_
    refine lv_isub hx hb dX2_addTest_19 ?_
    refine lv_iload_n hx hb dX2_addTest_20 rfl (lv_at hl 2 rfl) ?_
    refine lv_bipush (v := 60) hx hb dX2_addTest_21 (by decide) ?_
    refine lv_icmp_ne (tgt := 30) hx hb dX2_addTest_23 (by decide) (fun c7 => ?_) (fun c7 => ?_)
    · replace hf := ie_of c7 hf
      refine lv_iload_n hx hb dX2_addTest_30 rfl (lv_at hl 2 rfl) ?_
      refine lv_bipush (v := 62) hx hb dX2_addTest_31 (by decide) ?_
      refine lv_icmp_ne (tgt := 42) hx hb dX2_addTest_33 (by decide) (fun c8 => ?_) (fun c8 => ?_)
      · replace hf := ie_of c8 hf
        refine lv_iload_n hx hb dX2_addTest_42 rfl (lv_at hl 3 rfl) ?_
        exact J43 ((cif_2 2) - 1) a3 cif_2 cig_3 hf _ _ hP hD hS _ (lv_sub hl [0, 2, 3] rfl)
      · replace hf := it_of c8 hf
        refine lv_iload_n hx hb dX2_addTest_36 rfl (lv_at hl 3 rfl) ?_
        refine lv_iconst (v := 1) hx hb dX2_addTest_37 (by decide) ?_
        refine lv_iadd hx hb dX2_addTest_38 ?_
        refine lv_goto (tgt := 43) hx hb dX2_addTest_39 (by decide) ?_
        exact J43 ((cif_2 2) - 1) (a3 + 1) cif_2 cig_3 hf _ _ hP hD hS _ (lv_sub hl [0, 2, 3] rfl)
    · replace hf := it_of c7 hf
      refine lv_iconst (v := 0) hx hb dX2_addTest_26 (by decide) ?_
      refine lv_goto (tgt := 43) hx hb dX2_addTest_27 (by decide) ?_
      exact J43 ((cif_2 2) - 1) 0 cif_2 cig_3 hf _ _ hP hD hS _ (lv_sub hl [0, 2, 3] rfl)
  · replace hf := it_of c6 hf
    refine lv_iconst (v := 0) hx hb dX2_addTest_8 (by decide) ?_
    rw [hQ]
    exact ret_z C0 hP hD hS (by have e := Option.some.inj hf; rw [← e]; exact ⟨rfl, rfl⟩) rfl dX2_addTest_9
-- X2 addClause
noncomputable def k_X2_addClause (a1 : Int32) (a2 : Int32) (cif0 : Nat → Int32) (cig0 : Nat → Nat → Int32) : Option (Int32 × (Nat → Int32) × (Nat → Nat → Int32)) := if (cif0 1) < 10 then gd (cif0 1) 10 (gd (cif0 1) 10 (nm (va_up (va_up cig0 3 (upd (cig0 3) (Int32.toNatClampNeg (cif0 1)) a1)) 4 (upd (cig0 4) (Int32.toNatClampNeg (cif0 1)) a2)) (fun cig_4 => gd (cif0 1) 10 (if a1 = 2 then some (1, (upd (upd cif0 1 ((cif0 1) + 1)) 0 a2), (va_up cig_4 5 (upd (cig_4 5) (Int32.toNatClampNeg (cif0 1)) (cif0 2)))) else some (1, (upd cif0 1 ((cif0 1) + 1)), (va_up cig_4 5 (upd (cig_4 5) (Int32.toNatClampNeg (cif0 1)) (cif0 2)))))))) else some (0, cif0, cig0)
set_option maxHeartbeats 4000000 in
set_option maxRecDepth 100000 in
theorem c_X2_addClause {l : Launch} {D : va_G} {cA : Nat → ClassId} (q : Nat → Nat) (cif0 : Nat → Int32) (cig0 : Nat → Nat → Int32) (a1 : Int32) (a2 : Int32) (o : Int32 × (Nat → Int32) × (Nat → Nat → Int32)) (hf : k_X2_addClause a1 a2 cif0 cig0 = some o) : CI l D cA yX2_addClause cX2_addClause 3 (some .boolean) 0 0 [.ref (q 0), .int a1, .int a2] (Chw q cA cif0 cig0) 0 0 (fun r w => (r = o.1 ∧ w = (Chw q cA o.2.1 o.2.2)) ∧ narrow .boolean (.int r) = .int r) := by
  intro sz
  refine met_start (by decide) rfl ?_
  intro p e s m args below meth c ls hsz hargs C0 hname hP hD hS hl
  generalize hAe : va_A (Chw q cA cif0 cig0) sz = A at C0 hD hS ⊢
  obtain ⟨hx, hb, hr, hml, hown, hts, hlk, hK, hA⟩ := id C0
  replace hl : lv_has ls 3 [(0, .ref (q 0)), (1, .int a1), (2, .int a2)] := hl
  obtain ⟨Q, hQ⟩ : ∃ Q : State → Prop, Q = QI below D A (fun r w => (r = o.1 ∧ w = (Chw q cA o.2.1 o.2.2)) ∧ narrow .boolean (.int r) = .int r) args s 0 0 := ⟨_, rfl⟩
  refine cast (by rw [hQ]) (?_ : W p l e (RMx 0 0 0 0) s m args below meth c s.heap [] 0 0 Q (F0 m 0 ls []))
  unfold k_X2_addClause at hf
  refine lv_aload_n hx hb dX2_addClause_0 rfl (lv_at hl 0 rfl) ?_
  refine va_get (D := D) (ci := 2) (v := .int (cif0 1)) (C := RX2) (T := TX2) (N := 9) hx hb hts fw_2 hown hK hP 0 rfl rfl 1 (by decide) (hts _ m_fieldLink_P_Charter_34_P_Charter_clauses_I) (fun _ h9 => h9) rfl dX2_addClause_1 ?_
  refine lv_bipush (v := 10) hx hb dX2_addClause_4 (by decide) ?_
  refine lv_icmp_lt (tgt := 11) hx hb dX2_addClause_6 (by decide) (fun c1 => ?_) (fun c1 => ?_)
  · replace hf := it_of c1 hf
    refine lv_aload_n hx hb dX2_addClause_11 rfl (lv_at hl 0 rfl) ?_
    refine va_get (D := D) (ci := 2) (v := .ref (q 3)) (C := RX2) (T := TX2) (N := 9) hx hb hts fw_2 hown hK hP 0 rfl rfl 3 (by decide) (hts _ m_fieldLink_P_Charter_9_P_Charter_sort_aI) (fun _ h9 => h9) rfl dX2_addClause_12 ?_
    refine lv_aload_n hx hb dX2_addClause_15 rfl (lv_at hl 0 rfl) ?_
    refine va_get (D := D) (ci := 2) (v := .int (cif0 1)) (C := RX2) (T := TX2) (N := 9) hx hb hts fw_2 hown hK hP 0 rfl rfl 1 (by decide) (hts _ m_fieldLink_P_Charter_34_P_Charter_clauses_I) (fun _ h9 => h9) rfl dX2_addClause_16 ?_
    refine lv_iload_n hx hb dX2_addClause_19 rfl (lv_at hl 1 rfl) ?_
    obtain ⟨hi2, hf⟩ := gd_of hf
    refine va_iast hx hb hK hP hD hS 1 0 rfl rfl hi2 dX2_addClause_20 (fun H locs hP hD hS => ?_)
    replace hP : va_P D vwCl (Chw q cA cif0 (va_up cig0 3 (upd (cig0 3) (Int32.toNatClampNeg (cif0 1)) a1))) H := hP
    replace hD : va_D A (Chw q cA cif0 (va_up cig0 3 (upd (cig0 3) (Int32.toNatClampNeg (cif0 1)) a1))) := hD
    refine lv_aload_n hx hb dX2_addClause_21 rfl (lv_at hl 0 rfl) ?_
    refine va_get (D := D) (ci := 2) (v := .ref (q 4)) (C := RX2) (T := TX2) (N := 9) hx hb hts fw_2 hown hK hP 0 rfl rfl 4 (by decide) (hts _ m_fieldLink_P_Charter_15_P_Charter_number_aI) (fun _ h9 => h9) rfl dX2_addClause_22 ?_
    refine lv_aload_n hx hb dX2_addClause_25 rfl (lv_at hl 0 rfl) ?_
    refine va_get (D := D) (ci := 2) (v := .int (cif0 1)) (C := RX2) (T := TX2) (N := 9) hx hb hts fw_2 hown hK hP 0 rfl rfl 1 (by decide) (hts _ m_fieldLink_P_Charter_34_P_Charter_clauses_I) (fun _ h9 => h9) rfl dX2_addClause_26 ?_
    refine lv_iload_n hx hb dX2_addClause_29 rfl (lv_at hl 2 rfl) ?_
    obtain ⟨hi3, hf⟩ := gd_of hf
    refine va_iast hx hb hK hP hD hS 2 0 rfl rfl hi3 dX2_addClause_30 (fun H locs hP hD hS => ?_)
    replace hP : va_P D vwCl (Chw q cA cif0 (va_up (va_up cig0 3 (upd (cig0 3) (Int32.toNatClampNeg (cif0 1)) a1)) 4 (upd (cig0 4) (Int32.toNatClampNeg (cif0 1)) a2))) H := hP
    replace hD : va_D A (Chw q cA cif0 (va_up (va_up cig0 3 (upd (cig0 3) (Int32.toNatClampNeg (cif0 1)) a1)) 4 (upd (cig0 4) (Int32.toNatClampNeg (cif0 1)) a2))) := hD
    obtain ⟨cig_4, hv5, hf⟩ := nm_of hf
    replace hP : va_P D vwCl (Chw q cA cif0 cig_4) H := by rw [hv5]; exact hP
    replace hD : va_D A (Chw q cA cif0 cig_4) := by rw [hv5]; exact hD
    refine lv_aload_n hx hb dX2_addClause_31 rfl (lv_at hl 0 rfl) ?_
    refine va_get (D := D) (ci := 2) (v := .ref (q 5)) (C := RX2) (T := TX2) (N := 9) hx hb hts fw_2 hown hK hP 0 rfl rfl 5 (by decide) (hts _ m_fieldLink_P_Charter_18_P_Charter_end_aI) (fun _ h9 => h9) rfl dX2_addClause_32 ?_
    refine lv_aload_n hx hb dX2_addClause_35 rfl (lv_at hl 0 rfl) ?_
    refine va_get (D := D) (ci := 2) (v := .int (cif0 1)) (C := RX2) (T := TX2) (N := 9) hx hb hts fw_2 hown hK hP 0 rfl rfl 1 (by decide) (hts _ m_fieldLink_P_Charter_34_P_Charter_clauses_I) (fun _ h9 => h9) rfl dX2_addClause_36 ?_
    refine lv_aload_n hx hb dX2_addClause_39 rfl (lv_at hl 0 rfl) ?_
    refine va_get (D := D) (ci := 2) (v := .int (cif0 2)) (C := RX2) (T := TX2) (N := 9) hx hb hts fw_2 hown hK hP 0 rfl rfl 2 (by decide) (hts _ m_fieldLink_P_Charter_37_P_Charter_steps_I) (fun _ h9 => h9) rfl dX2_addClause_40 ?_
    obtain ⟨hi6, hf⟩ := gd_of hf
    refine va_iast hx hb hK hP hD hS 3 0 rfl rfl hi6 dX2_addClause_43 (fun H locs hP hD hS => ?_)
    replace hP : va_P D vwCl (Chw q cA cif0 (va_up cig_4 5 (upd (cig_4 5) (Int32.toNatClampNeg (cif0 1)) (cif0 2)))) H := hP
    replace hD : va_D A (Chw q cA cif0 (va_up cig_4 5 (upd (cig_4 5) (Int32.toNatClampNeg (cif0 1)) (cif0 2)))) := hD
    refine lv_aload_n hx hb dX2_addClause_44 rfl (lv_at hl 0 rfl) ?_
    refine lv_dup hx hb dX2_addClause_45 rfl ?_
    refine va_get (D := D) (ci := 2) (v := .int (cif0 1)) (C := RX2) (T := TX2) (N := 9) hx hb hts fw_2 hown hK hP 0 rfl rfl 1 (by decide) (hts _ m_fieldLink_P_Charter_34_P_Charter_clauses_I) (fun _ h9 => h9) rfl dX2_addClause_46 ?_
    refine lv_iconst (v := 1) hx hb dX2_addClause_49 (by decide) ?_
    refine lv_iadd hx hb dX2_addClause_50 ?_
    refine va_put (D := D) (ci := 2) (v := .int ((cif0 1) + 1)) (ty := .int) (C := RX2) (T := TX2) (N := 9) hx hb hts fw_2 tyX2 tyX2_ok nmX2 hown hK hP hD hS 0 rfl rfl 1 (by decide) (hts _ m_fieldLink_P_Charter_34_P_Charter_clauses_I) (fun _ h9 => h9) rfl (by decide +kernel) rfl rfl (Nat.le_of_ble_eq_true rfl) dX2_addClause_51 (fun H locs hP hD hS => ?_)
    replace hP : va_P D vwCl (Chw q cA (upd cif0 1 ((cif0 1) + 1)) (va_up cig_4 5 (upd (cig_4 5) (Int32.toNatClampNeg (cif0 1)) (cif0 2)))) H := hP
    replace hD : va_D A (Chw q cA (upd cif0 1 ((cif0 1) + 1)) (va_up cig_4 5 (upd (cig_4 5) (Int32.toNatClampNeg (cif0 1)) (cif0 2)))) := hD
    refine lv_iload_n hx hb dX2_addClause_54 rfl (lv_at hl 1 rfl) ?_
    refine lv_iconst (v := 2) hx hb dX2_addClause_55 (by decide) ?_
    refine lv_icmp_ne (tgt := 64) hx hb dX2_addClause_56 (by decide) (fun c7 => ?_) (fun c7 => ?_)
    · replace hf := ie_of c7 hf
      refine lv_iconst (v := 1) hx hb dX2_addClause_64 (by decide) ?_
      rw [hQ]
      exact ret_z C0 hP hD hS (by have e := Option.some.inj hf; rw [← e]; exact ⟨rfl, rfl⟩) rfl dX2_addClause_65
    · replace hf := it_of c7 hf
      refine lv_aload_n hx hb dX2_addClause_59 rfl (lv_at hl 0 rfl) ?_
      refine lv_iload_n hx hb dX2_addClause_60 rfl (lv_at hl 2 rfl) ?_
      refine va_put (D := D) (ci := 2) (v := .int a2) (ty := .int) (C := RX2) (T := TX2) (N := 9) hx hb hts fw_2 tyX2 tyX2_ok nmX2 hown hK hP hD hS 0 rfl rfl 0 (by decide) (hts _ m_fieldLink_P_Charter_30_P_Charter_calm_I) (fun _ h9 => h9) rfl (by decide +kernel) rfl rfl (Nat.le_of_ble_eq_true rfl) dX2_addClause_61 (fun H locs hP hD hS => ?_)
      replace hP : va_P D vwCl (Chw q cA (upd (upd cif0 1 ((cif0 1) + 1)) 0 a2) (va_up cig_4 5 (upd (cig_4 5) (Int32.toNatClampNeg (cif0 1)) (cif0 2)))) H := hP
      replace hD : va_D A (Chw q cA (upd (upd cif0 1 ((cif0 1) + 1)) 0 a2) (va_up cig_4 5 (upd (cig_4 5) (Int32.toNatClampNeg (cif0 1)) (cif0 2)))) := hD
      refine lv_iconst (v := 1) hx hb dX2_addClause_64 (by decide) ?_
      rw [hQ]
      exact ret_z C0 hP hD hS (by have e := Option.some.inj hf; rw [← e]; exact ⟨rfl, rfl⟩) rfl dX2_addClause_65
  · replace hf := ie_of c1 hf
    refine lv_iconst (v := 0) hx hb dX2_addClause_9 (by decide) ?_
    rw [hQ]
    exact ret_z C0 hP hD hS (by have e := Option.some.inj hf; rw [← e]; exact ⟨rfl, rfl⟩) rfl dX2_addClause_10
-- X2 holds
noncomputable def k_X2_holds_6 (a2 : Int32) (cig : Nat → Nat → Int32) (mv : Nat → Int32) : Nat → Int32 → Int32 → Option Int32
  | 0, _, _ => none
  | n + 1, x4, x5 => if a2 ≤ x5 then if (x4 &&& 1) = 0 then some 0 else some 1 else gd x5 100 (if ((cig 6) (Int32.toNatClampNeg x5)) = 6 then k_X2_holds_6 a2 cig mv n (x4 ^^^ 1) (x5 + 1) else if ((cig 6) (Int32.toNatClampNeg x5)) = 7 then k_X2_holds_6 a2 cig mv n ((x4 >>> (1 &&& 31)) &&& (x4 ||| (-2))) (x5 + 1) else if ((cig 6) (Int32.toNatClampNeg x5)) = 8 then k_X2_holds_6 a2 cig mv n ((x4 >>> (1 &&& 31)) ||| (x4 &&& 1)) (x5 + 1) else gd x5 100 (gd ((cig 6) (Int32.toNatClampNeg x5)) 6 (gd x5 100 (if (mv (Int32.toNatClampNeg ((cig 6) (Int32.toNatClampNeg x5)))) < ((cig 7) (Int32.toNatClampNeg x5)) then k_X2_holds_6 a2 cig mv n ((x4 <<< (1 &&& 31)) ||| 0) (x5 + 1) else gd x5 100 (if ((cig 8) (Int32.toNatClampNeg x5)) < (mv (Int32.toNatClampNeg ((cig 6) (Int32.toNatClampNeg x5)))) then k_X2_holds_6 a2 cig mv n ((x4 <<< (1 &&& 31)) ||| 0) (x5 + 1) else k_X2_holds_6 a2 cig mv n ((x4 <<< (1 &&& 31)) ||| 1) (x5 + 1))))))
noncomputable def k_X2_holds (a1 : Int32) (a2 : Int32) (cig : Nat → Nat → Int32) (mv : Nat → Int32) : Option Int32 := k_X2_holds_6 a2 cig mv 100000 0 a1
set_option maxHeartbeats 4000000 in
set_option maxRecDepth 100000 in
theorem c_X2_holds {l : Launch} {D : va_G} {cA : Nat → ClassId} (q : Nat → Nat) (vv : Nat) (cif : Nat → Int32) (cig : Nat → Nat → Int32) (mv : Nat → Int32) (a1 : Int32) (a2 : Int32) (o : Int32) (hf : k_X2_holds a1 a2 cig mv = some o) : CI l D cA yX2_holds cX2_holds 7 (some .boolean) 0 0 [.ref (q 0), .int a1, .int a2, .ref vv] (List.flatten [(Chw q cA cif cig), (Vw vv cA mv)]) 0 0 (fun r w => (r = o ∧ w = (List.flatten [(Chw q cA cif cig), (Vw vv cA mv)])) ∧ narrow .boolean (.int r) = .int r) := by
  intro sz
  refine met_start (by decide) rfl ?_
  intro p e s m args below meth c ls hsz hargs C0 hname hP hD hS hl
  generalize hAe : va_A (List.flatten [(Chw q cA cif cig), (Vw vv cA mv)]) sz = A at C0 hD hS ⊢
  obtain ⟨hx, hb, hr, hml, hown, hts, hlk, hK, hA⟩ := id C0
  replace hl : lv_has ls 7 [(0, .ref (q 0)), (1, .int a1), (2, .int a2), (3, .ref vv)] := hl
  obtain ⟨Q, hQ⟩ : ∃ Q : State → Prop, Q = QI below D A (fun r w => (r = o ∧ w = (List.flatten [(Chw q cA cif cig), (Vw vv cA mv)])) ∧ narrow .boolean (.int r) = .int r) args s 0 0 := ⟨_, rfl⟩
  refine cast (by rw [hQ]) (?_ : W p l e (RMx 0 0 0 0) s m args below meth c s.heap [] 0 0 Q (F0 m 0 ls []))
  have J6 : ∀ n : Nat, ∀ (x4 : Int32) (x5 : Int32), k_X2_holds_6 a2 cig mv n x4 x5 = some o → ∀ (H : Heap) (locs : List Loc), va_P D vwCl (List.flatten [(Chw q cA cif cig), (Vw vv cA mv)]) H → va_D A (List.flatten [(Chw q cA cif cig), (Vw vv cA mv)]) → va_S A s.heap H locs → ∀ ls : Array Slot, lv_has ls 7 [(0, .ref (q 0)), (2, .int a2), (3, .ref vv), (4, .int x4), (5, .int x5)] → W p l e (RMx 0 0 0 0) s m args below meth c H locs 0 0 Q (F0 m 6 ls []) := by
    intro  n
    induction n with
    | zero =>
      intro x4 x5 hf
      rw [k_X2_holds_6] at hf
      cases hf
    | succ n ih =>
      intro x4 x5 hf H locs hP hD hS ls hl
      rw [k_X2_holds_6] at hf
      refine lv_iload hx hb dX2_holds_6 (lv_at hl 4 rfl) ?_
      refine lv_iload_n hx hb dX2_holds_8 rfl (lv_at hl 1 rfl) ?_
      refine lv_icmp_ge (tgt := 135) hx hb dX2_holds_9 (by decide) (fun c1 => ?_) (fun c1 => ?_)
      · replace hf := it_of c1 hf
        refine lv_iload hx hb dX2_holds_135 (lv_at hl 3 rfl) ?_
        refine lv_iconst (v := 1) hx hb dX2_holds_137 (by decide) ?_
        refine lv_iand hx hb dX2_holds_138 ?_
        refine lv_if_eq (tgt := 146) hx hb dX2_holds_139 (by decide) (fun c2 => ?_) (fun c2 => ?_)
        · replace hf := it_of c2 hf
          refine lv_iconst (v := 0) hx hb dX2_holds_146 (by decide) ?_
          rw [hQ]
          exact ret_z C0 hP hD hS (by have e := Option.some.inj hf; rw [← e]; exact ⟨rfl, rfl⟩) rfl dX2_holds_147
        · replace hf := ie_of c2 hf
          refine lv_iconst (v := 1) hx hb dX2_holds_142 (by decide) ?_
          refine lv_goto (tgt := 147) hx hb dX2_holds_143 (by decide) ?_
          rw [hQ]
          exact ret_z C0 hP hD hS (by have e := Option.some.inj hf; rw [← e]; exact ⟨rfl, rfl⟩) rfl dX2_holds_147
      · replace hf := ie_of c1 hf
        refine lv_aload_n hx hb dX2_holds_12 rfl (lv_at hl 0 rfl) ?_
        refine va_get (D := D) (ci := 2) (v := .ref (q 6)) (C := RX2) (T := TX2) (N := 9) hx hb hts fw_2 hown hK hP 0 rfl rfl 6 (by decide) (hts _ m_fieldLink_P_Charter_21_P_Charter_does_aI) (fun _ h9 => h9) rfl dX2_holds_13 ?_
        refine lv_iload hx hb dX2_holds_16 (lv_at hl 4 rfl) ?_
        obtain ⟨hi3, hf⟩ := gd_of hf
        refine va_iald hx hb hK hP 4 0 rfl rfl hi3 dX2_holds_18 ?_
        by_cases c4 : ((cig 6) (Int32.toNatClampNeg x5)) = 6
        · replace hf := it_of c4 hf
          refine lv_tableIn (off := 25) (tgt := 44) hx hb dX2_holds_19 (by rw [c4]; decide) (by rw [c4]; decide) (by rw [c4]; decide) (by decide) ?_
          refine lv_iload hx hb dX2_holds_44 (lv_at hl 3 rfl) ?_
          refine lv_iconst (v := 1) hx hb dX2_holds_46 (by decide) ?_
          refine lv_ixor hx hb dX2_holds_47 ?_
          refine lv_istore (lv' := [(4, .int (x4 ^^^ 1)), (0, .ref (q 0)), (2, .int a2), (3, .ref vv), (5, .int x5)]) hx hb dX2_holds_48 hl (by decide) rfl (fun ls hl => ?_)
          refine lv_goto (tgt := 129) hx hb dX2_holds_50 (by decide) ?_
          refine lv_iinc (v := (x5 + 1)) (lv' := [(5, .int (x5 + 1)), (4, .int (x4 ^^^ 1)), (0, .ref (q 0)), (2, .int a2), (3, .ref vv)]) hx hb dX2_holds_129 hl (k := 4) rfl rfl (by decide) rfl (fun ls hl => ?_)
          refine lv_goto (tgt := 6) hx hb dX2_holds_132 (by decide) ?_
          exact ih (x4 ^^^ 1) (x5 + 1) hf _ _ hP hD hS _ (lv_sub hl [2, 3, 4, 1, 0] rfl)
        · replace hf := ie_of c4 hf
          by_cases c5 : ((cig 6) (Int32.toNatClampNeg x5)) = 7
          · replace hf := it_of c5 hf
            refine lv_tableIn (off := 34) (tgt := 53) hx hb dX2_holds_19 (by rw [c5]; decide) (by rw [c5]; decide) (by rw [c5]; decide) (by decide) ?_
            refine lv_iload hx hb dX2_holds_53 (lv_at hl 3 rfl) ?_
            refine lv_iconst (v := 1) hx hb dX2_holds_55 (by decide) ?_
            refine lv_ishr hx hb dX2_holds_56 ?_
            refine lv_iload hx hb dX2_holds_57 (lv_at hl 3 rfl) ?_
            refine lv_bipush (v := (-2)) hx hb dX2_holds_59 (by decide) ?_
            refine lv_ior hx hb dX2_holds_61 ?_
            refine lv_iand hx hb dX2_holds_62 ?_
            refine lv_istore (lv' := [(4, .int ((x4 >>> (1 &&& 31)) &&& (x4 ||| (-2)))), (0, .ref (q 0)), (2, .int a2), (3, .ref vv), (5, .int x5)]) hx hb dX2_holds_63 hl (by decide) rfl (fun ls hl => ?_)
            refine lv_goto (tgt := 129) hx hb dX2_holds_65 (by decide) ?_
            refine lv_iinc (v := (x5 + 1)) (lv' := [(5, .int (x5 + 1)), (4, .int ((x4 >>> (1 &&& 31)) &&& (x4 ||| (-2)))), (0, .ref (q 0)), (2, .int a2), (3, .ref vv)]) hx hb dX2_holds_129 hl (k := 4) rfl rfl (by decide) rfl (fun ls hl => ?_)
            refine lv_goto (tgt := 6) hx hb dX2_holds_132 (by decide) ?_
            exact ih ((x4 >>> (1 &&& 31)) &&& (x4 ||| (-2))) (x5 + 1) hf _ _ hP hD hS _ (lv_sub hl [2, 3, 4, 1, 0] rfl)
          · replace hf := ie_of c5 hf
            by_cases c6 : ((cig 6) (Int32.toNatClampNeg x5)) = 8
            · replace hf := it_of c6 hf
              refine lv_tableIn (off := 49) (tgt := 68) hx hb dX2_holds_19 (by rw [c6]; decide) (by rw [c6]; decide) (by rw [c6]; decide) (by decide) ?_
              refine lv_iload hx hb dX2_holds_68 (lv_at hl 3 rfl) ?_
              refine lv_iconst (v := 1) hx hb dX2_holds_70 (by decide) ?_
              refine lv_ishr hx hb dX2_holds_71 ?_
              refine lv_iload hx hb dX2_holds_72 (lv_at hl 3 rfl) ?_
              refine lv_iconst (v := 1) hx hb dX2_holds_74 (by decide) ?_
              refine lv_iand hx hb dX2_holds_75 ?_
              refine lv_ior hx hb dX2_holds_76 ?_
              refine lv_istore (lv' := [(4, .int ((x4 >>> (1 &&& 31)) ||| (x4 &&& 1))), (0, .ref (q 0)), (2, .int a2), (3, .ref vv), (5, .int x5)]) hx hb dX2_holds_77 hl (by decide) rfl (fun ls hl => ?_)
              refine lv_goto (tgt := 129) hx hb dX2_holds_79 (by decide) ?_
              refine lv_iinc (v := (x5 + 1)) (lv' := [(5, .int (x5 + 1)), (4, .int ((x4 >>> (1 &&& 31)) ||| (x4 &&& 1))), (0, .ref (q 0)), (2, .int a2), (3, .ref vv)]) hx hb dX2_holds_129 hl (k := 4) rfl rfl (by decide) rfl (fun ls hl => ?_)
              refine lv_goto (tgt := 6) hx hb dX2_holds_132 (by decide) ?_
              exact ih ((x4 >>> (1 &&& 31)) ||| (x4 &&& 1)) (x5 + 1) hf _ _ hP hD hS _ (lv_sub hl [2, 3, 4, 1, 0] rfl)
            · replace hf := ie_of c6 hf
              refine lv_tableOut (tgt := 82) hx hb dX2_holds_19 (by have := lv_neT c4 (a := 6) (by decide); have := lv_neT c5 (a := 7) (by decide); have := lv_neT c6 (a := 8) (by decide); omega) (by decide) ?_
              refine lv_aload_n hx hb dX2_holds_82 rfl (lv_at hl 2 rfl) ?_
              refine lv_aload_n hx hb dX2_holds_83 rfl (lv_at hl 0 rfl) ?_
              refine va_get (D := D) (ci := 2) (v := .ref (q 6)) (C := RX2) (T := TX2) (N := 9) hx hb hts fw_2 hown hK hP 0 rfl rfl 6 (by decide) (hts _ m_fieldLink_P_Charter_21_P_Charter_does_aI) (fun _ h9 => h9) rfl dX2_holds_84 ?_
              refine lv_iload hx hb dX2_holds_87 (lv_at hl 4 rfl) ?_
              obtain ⟨hi7, hf⟩ := gd_of hf
              refine va_iald hx hb hK hP 4 0 rfl rfl hi7 dX2_holds_89 ?_
              obtain ⟨hi8, hf⟩ := gd_of hf
              refine va_iald hx hb hK hP 7 0 rfl rfl hi8 dX2_holds_90 ?_
              refine lv_istore (lv' := [(6, .int (mv (Int32.toNatClampNeg ((cig 6) (Int32.toNatClampNeg x5))))), (0, .ref (q 0)), (2, .int a2), (3, .ref vv), (4, .int x4), (5, .int x5)]) hx hb dX2_holds_91 hl (by decide) rfl (fun ls hl => ?_)
              refine lv_iload hx hb dX2_holds_93 (lv_at hl 4 rfl) ?_
              refine lv_iconst (v := 1) hx hb dX2_holds_95 (by decide) ?_
              refine lv_ishl hx hb dX2_holds_96 ?_
              refine lv_iload hx hb dX2_holds_97 (lv_at hl 0 rfl) ?_
              refine lv_aload_n hx hb dX2_holds_99 rfl (lv_at hl 1 rfl) ?_
              refine va_get (D := D) (ci := 2) (v := .ref (q 7)) (C := RX2) (T := TX2) (N := 9) hx hb hts fw_2 hown hK hP 0 rfl rfl 7 (by decide) (hts _ m_fieldLink_P_Charter_24_P_Charter_low_aI) (fun _ h9 => h9) rfl dX2_holds_100 ?_
              refine lv_iload hx hb dX2_holds_103 (lv_at hl 5 rfl) ?_
              obtain ⟨hi9, hf⟩ := gd_of hf
              refine va_iald hx hb hK hP 5 0 rfl rfl hi9 dX2_holds_105 ?_
              refine lv_icmp_lt (tgt := 125) hx hb dX2_holds_106 (by decide) (fun c10 => ?_) (fun c10 => ?_)
              · replace hf := it_of c10 hf
                refine lv_iconst (v := 0) hx hb dX2_holds_125 (by decide) ?_
                refine lv_ior hx hb dX2_holds_126 ?_
                refine lv_istore (lv' := [(4, .int ((x4 <<< (1 &&& 31)) ||| 0)), (6, .int (mv (Int32.toNatClampNeg ((cig 6) (Int32.toNatClampNeg x5))))), (0, .ref (q 0)), (2, .int a2), (3, .ref vv), (5, .int x5)]) hx hb dX2_holds_127 hl (by decide) rfl (fun ls hl => ?_)
                refine lv_iinc (v := (x5 + 1)) (lv' := [(5, .int (x5 + 1)), (4, .int ((x4 <<< (1 &&& 31)) ||| 0)), (6, .int (mv (Int32.toNatClampNeg ((cig 6) (Int32.toNatClampNeg x5))))), (0, .ref (q 0)), (2, .int a2), (3, .ref vv)]) hx hb dX2_holds_129 hl (k := 5) rfl rfl (by decide) rfl (fun ls hl => ?_)
                refine lv_goto (tgt := 6) hx hb dX2_holds_132 (by decide) ?_
                exact ih ((x4 <<< (1 &&& 31)) ||| 0) (x5 + 1) hf _ _ hP hD hS _ (lv_sub hl [3, 4, 5, 1, 0] rfl)
              · replace hf := ie_of c10 hf
                refine lv_iload hx hb dX2_holds_109 (lv_at hl 0 rfl) ?_
                refine lv_aload_n hx hb dX2_holds_111 rfl (lv_at hl 1 rfl) ?_
                refine va_get (D := D) (ci := 2) (v := .ref (q 8)) (C := RX2) (T := TX2) (N := 9) hx hb hts fw_2 hown hK hP 0 rfl rfl 8 (by decide) (hts _ m_fieldLink_P_Charter_27_P_Charter_high_aI) (fun _ h9 => h9) rfl dX2_holds_112 ?_
                refine lv_iload hx hb dX2_holds_115 (lv_at hl 5 rfl) ?_
                obtain ⟨hi11, hf⟩ := gd_of hf
                refine va_iald hx hb hK hP 6 0 rfl rfl hi11 dX2_holds_117 ?_
                refine lv_icmp_gt (tgt := 125) hx hb dX2_holds_118 (by decide) (fun c12 => ?_) (fun c12 => ?_)
                · replace hf := it_of c12 hf
                  refine lv_iconst (v := 0) hx hb dX2_holds_125 (by decide) ?_
                  refine lv_ior hx hb dX2_holds_126 ?_
                  refine lv_istore (lv' := [(4, .int ((x4 <<< (1 &&& 31)) ||| 0)), (6, .int (mv (Int32.toNatClampNeg ((cig 6) (Int32.toNatClampNeg x5))))), (0, .ref (q 0)), (2, .int a2), (3, .ref vv), (5, .int x5)]) hx hb dX2_holds_127 hl (by decide) rfl (fun ls hl => ?_)
                  refine lv_iinc (v := (x5 + 1)) (lv' := [(5, .int (x5 + 1)), (4, .int ((x4 <<< (1 &&& 31)) ||| 0)), (6, .int (mv (Int32.toNatClampNeg ((cig 6) (Int32.toNatClampNeg x5))))), (0, .ref (q 0)), (2, .int a2), (3, .ref vv)]) hx hb dX2_holds_129 hl (k := 5) rfl rfl (by decide) rfl (fun ls hl => ?_)
                  refine lv_goto (tgt := 6) hx hb dX2_holds_132 (by decide) ?_
                  exact ih ((x4 <<< (1 &&& 31)) ||| 0) (x5 + 1) hf _ _ hP hD hS _ (lv_sub hl [3, 4, 5, 1, 0] rfl)
                · replace hf := ie_of c12 hf
                  refine lv_iconst (v := 1) hx hb dX2_holds_121 (by decide) ?_
                  refine lv_goto (tgt := 126) hx hb dX2_holds_122 (by decide) ?_
                  refine lv_ior hx hb dX2_holds_126 ?_
                  refine lv_istore (lv' := [(4, .int ((x4 <<< (1 &&& 31)) ||| 1)), (6, .int (mv (Int32.toNatClampNeg ((cig 6) (Int32.toNatClampNeg x5))))), (0, .ref (q 0)), (2, .int a2), (3, .ref vv), (5, .int x5)]) hx hb dX2_holds_127 hl (by decide) rfl (fun ls hl => ?_)
                  refine lv_iinc (v := (x5 + 1)) (lv' := [(5, .int (x5 + 1)), (4, .int ((x4 <<< (1 &&& 31)) ||| 1)), (6, .int (mv (Int32.toNatClampNeg ((cig 6) (Int32.toNatClampNeg x5))))), (0, .ref (q 0)), (2, .int a2), (3, .ref vv)]) hx hb dX2_holds_129 hl (k := 5) rfl rfl (by decide) rfl (fun ls hl => ?_)
                  refine lv_goto (tgt := 6) hx hb dX2_holds_132 (by decide) ?_
                  exact ih ((x4 <<< (1 &&& 31)) ||| 1) (x5 + 1) hf _ _ hP hD hS _ (lv_sub hl [3, 4, 5, 1, 0] rfl)
  unfold k_X2_holds at hf
  refine lv_iconst (v := 0) hx hb dX2_holds_0 (by decide) ?_
  refine lv_istore (lv' := [(4, .int 0), (0, .ref (q 0)), (1, .int a1), (2, .int a2), (3, .ref vv)]) hx hb dX2_holds_1 hl (by decide) rfl (fun ls hl => ?_)
  refine lv_iload_n hx hb dX2_holds_3 rfl (lv_at hl 2 rfl) ?_
  refine lv_istore (lv' := [(5, .int a1), (4, .int 0), (0, .ref (q 0)), (1, .int a1), (2, .int a2), (3, .ref vv)]) hx hb dX2_holds_4 hl (by decide) rfl (fun ls hl => ?_)
  exact J6 100000 0 a1 hf _ _ hP hD hS _ (lv_sub hl [2, 4, 5, 1, 0] rfl)
-- X2 sumBy
noncomputable def k_X2_sumBy_72 (cig : Nat → Nat → Int32) (kc7 : Int32 → Int32 → Int32 → Option Int32) (x4 : Int32) (t0 : Int32) (t1 : Int32) : Option Int32 := gd x4 10 (kc7 (t0 + t1) ((cig 5) (Int32.toNatClampNeg x4)) (x4 + 1))
noncomputable def k_X2_sumBy_7 (cif : Nat → Int32) (cig : Nat → Nat → Int32) (mv : Nat → Int32) : Nat → Int32 → Int32 → Int32 → Option Int32
  | 0, _, _, _ => none
  | n + 1, x2, x3, x4 => if (cif 1) ≤ x4 then some x2 else gd x4 10 (if ((cig 3) (Int32.toNatClampNeg x4)) = 2 then gd x4 10 (k_X2_sumBy_7 cif cig mv n x2 ((cig 5) (Int32.toNatClampNeg x4)) (x4 + 1)) else gd x4 10 (b1 (k_X2_holds x3 ((cig 5) (Int32.toNatClampNeg x4)) cig mv) (fun r6 => if r6 = 0 then gd x4 10 (k_X2_sumBy_7 cif cig mv n x2 ((cig 5) (Int32.toNatClampNeg x4)) (x4 + 1)) else gd x4 10 (if ((cig 3) (Int32.toNatClampNeg x4)) = 0 then gd x4 10 (k_X2_sumBy_72 cig (k_X2_sumBy_7 cif cig mv n) x4 x2 ((cig 4) (Int32.toNatClampNeg x4))) else gd x4 10 (k_X2_sumBy_72 cig (k_X2_sumBy_7 cif cig mv n) x4 x2 (-((cig 4) (Int32.toNatClampNeg x4))))))))
noncomputable def k_X2_sumBy (cif : Nat → Int32) (cig : Nat → Nat → Int32) (mv : Nat → Int32) : Option Int32 := k_X2_sumBy_7 cif cig mv 100000 0 0 0
set_option maxHeartbeats 4000000 in
set_option maxRecDepth 100000 in
theorem c_X2_sumBy {l : Launch} {D : va_G} {cA : Nat → ClassId} (q : Nat → Nat) (vv : Nat) (cif : Nat → Int32) (cig : Nat → Nat → Int32) (mv : Nat → Int32)  (o : Int32) (hf : k_X2_sumBy cif cig mv = some o) : CI l D cA yX2_sumBy cX2_sumBy 5 (some .int) 1 26 [.ref (q 0), .ref vv] (List.flatten [(Chw q cA cif cig), (Vw vv cA mv)]) 0 0 (fun r w => r = o ∧ w = (List.flatten [(Chw q cA cif cig), (Vw vv cA mv)])) := by
  intro sz
  refine met_start (by decide) rfl ?_
  intro p e s m args below meth c ls hsz hargs C0 hname hP hD hS hl
  generalize hAe : va_A (List.flatten [(Chw q cA cif cig), (Vw vv cA mv)]) sz = A at C0 hD hS ⊢
  obtain ⟨hx, hb, hr, hml, hown, hts, hlk, hK, hA⟩ := id C0
  replace hl : lv_has ls 5 [(0, .ref (q 0)), (1, .ref vv)] := hl
  obtain ⟨Q, hQ⟩ : ∃ Q : State → Prop, Q = QI below D A (fun r w => r = o ∧ w = (List.flatten [(Chw q cA cif cig), (Vw vv cA mv)])) args s 0 0 := ⟨_, rfl⟩
  refine cast (by rw [hQ]) (?_ : W p l e (RMx 1 26 0 0) s m args below meth c s.heap [] 0 0 Q (F0 m 0 ls []))
  have J72 : ∀ (kc7 : Int32 → Int32 → Int32 → Option Int32) (hkc7 : ∀ (x2 : Int32) (x3 : Int32) (x4 : Int32), kc7 x2 x3 x4 = some o → ∀ (H : Heap) (locs : List Loc), va_P D vwCl (List.flatten [(Chw q cA cif cig), (Vw vv cA mv)]) H → va_D A (List.flatten [(Chw q cA cif cig), (Vw vv cA mv)]) → va_S A s.heap H locs → ∀ ls : Array Slot, lv_has ls 5 [(0, .ref (q 0)), (1, .ref vv), (2, .int x2), (3, .int x3), (4, .int x4)] → W p l e (RMx 1 26 0 0) s m args below meth c H locs 0 0 Q (F0 m 7 ls [])), ∀ (x4 : Int32) (t0 : Int32) (t1 : Int32), k_X2_sumBy_72 cig kc7 x4 t0 t1 = some o → ∀ (H : Heap) (locs : List Loc), va_P D vwCl (List.flatten [(Chw q cA cif cig), (Vw vv cA mv)]) H → va_D A (List.flatten [(Chw q cA cif cig), (Vw vv cA mv)]) → va_S A s.heap H locs → ∀ ls : Array Slot, lv_has ls 5 [(0, .ref (q 0)), (1, .ref vv), (4, .int x4)] → W p l e (RMx 1 26 0 0) s m args below meth c H locs 0 0 Q (F0 m 72 ls [.int t1, .int t0]) := by
    intro kc7 hkc7 x4 t0 t1 hf H locs hP hD hS ls hl
    unfold k_X2_sumBy_72 at hf
    refine lv_iadd hx hb dX2_sumBy_72 ?_
    refine lv_istore_n (lv' := [(2, .int (t0 + t1)), (0, .ref (q 0)), (1, .ref vv), (4, .int x4)]) hx hb dX2_sumBy_73 rfl hl (by decide) rfl (fun ls hl => ?_)
    refine lv_aload_n hx hb dX2_sumBy_74 rfl (lv_at hl 1 rfl) ?_
    refine va_get (D := D) (ci := 2) (v := .ref (q 5)) (C := RX2) (T := TX2) (N := 9) hx hb hts fw_2 hown hK hP 0 rfl rfl 5 (by decide) (hts _ m_fieldLink_P_Charter_18_P_Charter_end_aI) (fun _ h9 => h9) rfl dX2_sumBy_75 ?_
    refine lv_iload hx hb dX2_sumBy_78 (lv_at hl 3 rfl) ?_
    obtain ⟨hi1, hf⟩ := gd_of hf
    refine va_iald hx hb hK hP 3 0 rfl rfl hi1 dX2_sumBy_80 ?_
    refine lv_istore_n (lv' := [(3, .int ((cig 5) (Int32.toNatClampNeg x4))), (2, .int (t0 + t1)), (0, .ref (q 0)), (1, .ref vv), (4, .int x4)]) hx hb dX2_sumBy_81 rfl hl (by decide) rfl (fun ls hl => ?_)
    refine lv_iinc (v := (x4 + 1)) (lv' := [(4, .int (x4 + 1)), (3, .int ((cig 5) (Int32.toNatClampNeg x4))), (2, .int (t0 + t1)), (0, .ref (q 0)), (1, .ref vv)]) hx hb dX2_sumBy_82 hl (k := 4) rfl rfl (by decide) rfl (fun ls hl => ?_)
    refine lv_goto (tgt := 7) hx hb dX2_sumBy_85 (by decide) ?_
    exact hkc7 (t0 + t1) ((cig 5) (Int32.toNatClampNeg x4)) (x4 + 1) hf _ _ hP hD hS _ (lv_sub hl [3, 4, 2, 1, 0] rfl)
  have J7 : ∀ n : Nat, ∀ (x2 : Int32) (x3 : Int32) (x4 : Int32), k_X2_sumBy_7 cif cig mv n x2 x3 x4 = some o → ∀ (H : Heap) (locs : List Loc), va_P D vwCl (List.flatten [(Chw q cA cif cig), (Vw vv cA mv)]) H → va_D A (List.flatten [(Chw q cA cif cig), (Vw vv cA mv)]) → va_S A s.heap H locs → ∀ ls : Array Slot, lv_has ls 5 [(0, .ref (q 0)), (1, .ref vv), (2, .int x2), (3, .int x3), (4, .int x4)] → W p l e (RMx 1 26 0 0) s m args below meth c H locs 0 0 Q (F0 m 7 ls []) := by
    intro  n
    induction n with
    | zero =>
      intro x2 x3 x4 hf
      rw [k_X2_sumBy_7] at hf
      cases hf
    | succ n ih =>
      intro x2 x3 x4 hf H locs hP hD hS ls hl
      rw [k_X2_sumBy_7] at hf
      refine lv_iload hx hb dX2_sumBy_7 (lv_at hl 4 rfl) ?_
      refine lv_aload_n hx hb dX2_sumBy_9 rfl (lv_at hl 0 rfl) ?_
      refine va_get (D := D) (ci := 2) (v := .int (cif 1)) (C := RX2) (T := TX2) (N := 9) hx hb hts fw_2 hown hK hP 0 rfl rfl 1 (by decide) (hts _ m_fieldLink_P_Charter_34_P_Charter_clauses_I) (fun _ h9 => h9) rfl dX2_sumBy_10 ?_
      refine lv_icmp_ge (tgt := 88) hx hb dX2_sumBy_13 (by decide) (fun c1 => ?_) (fun c1 => ?_)
      · replace hf := it_of c1 hf
        refine lv_iload_n hx hb dX2_sumBy_88 rfl (lv_at hl 2 rfl) ?_
        rw [hQ]
        exact ret_i C0 hP hD hS (by have e := Option.some.inj hf; rw [← e]; exact ⟨rfl, rfl⟩) dX2_sumBy_89
      · replace hf := ie_of c1 hf
        refine lv_aload_n hx hb dX2_sumBy_16 rfl (lv_at hl 0 rfl) ?_
        refine va_get (D := D) (ci := 2) (v := .ref (q 3)) (C := RX2) (T := TX2) (N := 9) hx hb hts fw_2 hown hK hP 0 rfl rfl 3 (by decide) (hts _ m_fieldLink_P_Charter_9_P_Charter_sort_aI) (fun _ h9 => h9) rfl dX2_sumBy_17 ?_
        refine lv_iload hx hb dX2_sumBy_20 (lv_at hl 4 rfl) ?_
        obtain ⟨hi2, hf⟩ := gd_of hf
        refine va_iald hx hb hK hP 1 0 rfl rfl hi2 dX2_sumBy_22 ?_
        refine lv_iconst (v := 2) hx hb dX2_sumBy_23 (by decide) ?_
        refine lv_icmp_eq (tgt := 74) hx hb dX2_sumBy_24 (by decide) (fun c3 => ?_) (fun c3 => ?_)
        · replace hf := it_of c3 hf
          refine lv_aload_n hx hb dX2_sumBy_74 rfl (lv_at hl 0 rfl) ?_
          refine va_get (D := D) (ci := 2) (v := .ref (q 5)) (C := RX2) (T := TX2) (N := 9) hx hb hts fw_2 hown hK hP 0 rfl rfl 5 (by decide) (hts _ m_fieldLink_P_Charter_18_P_Charter_end_aI) (fun _ h9 => h9) rfl dX2_sumBy_75 ?_
          refine lv_iload hx hb dX2_sumBy_78 (lv_at hl 4 rfl) ?_
          obtain ⟨hi4, hf⟩ := gd_of hf
          refine va_iald hx hb hK hP 3 0 rfl rfl hi4 dX2_sumBy_80 ?_
          refine lv_istore_n (lv' := [(3, .int ((cig 5) (Int32.toNatClampNeg x4))), (0, .ref (q 0)), (1, .ref vv), (2, .int x2), (4, .int x4)]) hx hb dX2_sumBy_81 rfl hl (by decide) rfl (fun ls hl => ?_)
          refine lv_iinc (v := (x4 + 1)) (lv' := [(4, .int (x4 + 1)), (3, .int ((cig 5) (Int32.toNatClampNeg x4))), (0, .ref (q 0)), (1, .ref vv), (2, .int x2)]) hx hb dX2_sumBy_82 hl (k := 4) rfl rfl (by decide) rfl (fun ls hl => ?_)
          refine lv_goto (tgt := 7) hx hb dX2_sumBy_85 (by decide) ?_
          exact ih x2 ((cig 5) (Int32.toNatClampNeg x4)) (x4 + 1) hf _ _ hP hD hS _ (lv_sub hl [2, 3, 4, 1, 0] rfl)
        · replace hf := ie_of c3 hf
          refine lv_aload_n hx hb dX2_sumBy_27 rfl (lv_at hl 0 rfl) ?_
          refine lv_iload_n hx hb dX2_sumBy_28 rfl (lv_at hl 3 rfl) ?_
          refine lv_aload_n hx hb dX2_sumBy_29 rfl (lv_at hl 0 rfl) ?_
          refine va_get (D := D) (ci := 2) (v := .ref (q 5)) (C := RX2) (T := TX2) (N := 9) hx hb hts fw_2 hown hK hP 0 rfl rfl 5 (by decide) (hts _ m_fieldLink_P_Charter_18_P_Charter_end_aI) (fun _ h9 => h9) rfl dX2_sumBy_30 ?_
          refine lv_iload hx hb dX2_sumBy_33 (lv_at hl 4 rfl) ?_
          obtain ⟨hi5, hf⟩ := gd_of hf
          refine va_iald hx hb hK hP 3 0 rfl rfl hi5 dX2_sumBy_35 ?_
          refine lv_aload_n hx hb dX2_sumBy_36 rfl (lv_at hl 1 rfl) ?_
          obtain ⟨r6q, hq7, hf⟩ := b1_of hf
          refine callVI (As := [.int x3, .int ((cig 5) (Int32.toNatClampNeg x4)), .ref vv]) (rest := []) (wr := []) C0 (c_X2_holds q vv cif cig mv x3 ((cig 5) (Int32.toNatClampNeg x4)) _ hq7) lk_X2_44_X2_holds rfl hP hD hS perm_nil 0 2 rfl rfl rfl hl.1 rfl rfl (Nat.le_of_ble_eq_true rfl) dX2_sumBy_37 ⟨Nat.zero_le _, Nat.zero_le _⟩ (fun r6 w H locs hw hP hD hS => ?_)
          obtain ⟨⟨e1, e2⟩, z8⟩ := hw
          replace e1 : r6 = r6q := e1
          subst e1
          subst e2
          replace hP : va_P D vwCl (List.flatten [(Chw q cA cif cig), (Vw vv cA mv)]) H := hP.nil
          replace hD : va_D A (List.flatten [(Chw q cA cif cig), (Vw vv cA mv)]) := hD.nil
          refine lv_if_eq (tgt := 74) hx hb dX2_sumBy_40 (by decide) (fun c9 => ?_) (fun c9 => ?_)
          · replace hf := it_of c9 hf
            refine lv_aload_n hx hb dX2_sumBy_74 rfl (lv_at hl 0 rfl) ?_
            refine va_get (D := D) (ci := 2) (v := .ref (q 5)) (C := RX2) (T := TX2) (N := 9) hx hb hts fw_2 hown hK hP 0 rfl rfl 5 (by decide) (hts _ m_fieldLink_P_Charter_18_P_Charter_end_aI) (fun _ h9 => h9) rfl dX2_sumBy_75 ?_
            refine lv_iload hx hb dX2_sumBy_78 (lv_at hl 4 rfl) ?_
            obtain ⟨hi10, hf⟩ := gd_of hf
            refine va_iald hx hb hK hP 3 0 rfl rfl hi10 dX2_sumBy_80 ?_
            refine lv_istore_n (lv' := [(3, .int ((cig 5) (Int32.toNatClampNeg x4))), (0, .ref (q 0)), (1, .ref vv), (2, .int x2), (4, .int x4)]) hx hb dX2_sumBy_81 rfl hl (by decide) rfl (fun ls hl => ?_)
            refine lv_iinc (v := (x4 + 1)) (lv' := [(4, .int (x4 + 1)), (3, .int ((cig 5) (Int32.toNatClampNeg x4))), (0, .ref (q 0)), (1, .ref vv), (2, .int x2)]) hx hb dX2_sumBy_82 hl (k := 4) rfl rfl (by decide) rfl (fun ls hl => ?_)
            refine lv_goto (tgt := 7) hx hb dX2_sumBy_85 (by decide) ?_
            exact ih x2 ((cig 5) (Int32.toNatClampNeg x4)) (x4 + 1) hf _ _ hP hD hS _ (lv_sub hl [2, 3, 4, 1, 0] rfl)
          · replace hf := ie_of c9 hf
            refine lv_iload_n hx hb dX2_sumBy_43 rfl (lv_at hl 2 rfl) ?_
            refine lv_aload_n hx hb dX2_sumBy_44 rfl (lv_at hl 0 rfl) ?_
            refine va_get (D := D) (ci := 2) (v := .ref (q 3)) (C := RX2) (T := TX2) (N := 9) hx hb hts fw_2 hown hK hP 0 rfl rfl 3 (by decide) (hts _ m_fieldLink_P_Charter_9_P_Charter_sort_aI) (fun _ h9 => h9) rfl dX2_sumBy_45 ?_
            refine lv_iload hx hb dX2_sumBy_48 (lv_at hl 4 rfl) ?_
            obtain ⟨hi11, hf⟩ := gd_of hf
            refine va_iald hx hb hK hP 1 0 rfl rfl hi11 dX2_sumBy_50 ?_
            refine lv_if_ne (tgt := 64) hx hb dX2_sumBy_51 (by decide) (fun c12 => ?_) (fun c12 => ?_)
            · replace hf := ie_of c12 hf
              refine lv_aload_n hx hb dX2_sumBy_64 rfl (lv_at hl 0 rfl) ?_
              refine va_get (D := D) (ci := 2) (v := .ref (q 4)) (C := RX2) (T := TX2) (N := 9) hx hb hts fw_2 hown hK hP 0 rfl rfl 4 (by decide) (hts _ m_fieldLink_P_Charter_15_P_Charter_number_aI) (fun _ h9 => h9) rfl dX2_sumBy_65 ?_
              refine lv_iload hx hb dX2_sumBy_68 (lv_at hl 4 rfl) ?_
              obtain ⟨hi13, hf⟩ := gd_of hf
              refine va_iald hx hb hK hP 2 0 rfl rfl hi13 dX2_sumBy_70 ?_
              refine lv_ineg hx hb dX2_sumBy_71 ?_
              exact J72 _ ih x4 x2 (-((cig 4) (Int32.toNatClampNeg x4))) hf _ _ hP hD hS _ (lv_sub hl [0, 1, 4] rfl)
            · replace hf := it_of c12 hf
              refine lv_aload_n hx hb dX2_sumBy_54 rfl (lv_at hl 0 rfl) ?_
              refine va_get (D := D) (ci := 2) (v := .ref (q 4)) (C := RX2) (T := TX2) (N := 9) hx hb hts fw_2 hown hK hP 0 rfl rfl 4 (by decide) (hts _ m_fieldLink_P_Charter_15_P_Charter_number_aI) (fun _ h9 => h9) rfl dX2_sumBy_55 ?_
              refine lv_iload hx hb dX2_sumBy_58 (lv_at hl 4 rfl) ?_
              obtain ⟨hi14, hf⟩ := gd_of hf
              refine va_iald hx hb hK hP 2 0 rfl rfl hi14 dX2_sumBy_60 ?_
              refine lv_goto (tgt := 72) hx hb dX2_sumBy_61 (by decide) ?_
              exact J72 _ ih x4 x2 ((cig 4) (Int32.toNatClampNeg x4)) hf _ _ hP hD hS _ (lv_sub hl [0, 1, 4] rfl)
  unfold k_X2_sumBy at hf
  refine lv_iconst (v := 0) hx hb dX2_sumBy_0 (by decide) ?_
  refine lv_istore_n (lv' := [(2, .int 0), (0, .ref (q 0)), (1, .ref vv)]) hx hb dX2_sumBy_1 rfl hl (by decide) rfl (fun ls hl => ?_)
  refine lv_iconst (v := 0) hx hb dX2_sumBy_2 (by decide) ?_
  refine lv_istore_n (lv' := [(3, .int 0), (2, .int 0), (0, .ref (q 0)), (1, .ref vv)]) hx hb dX2_sumBy_3 rfl hl (by decide) rfl (fun ls hl => ?_)
  refine lv_iconst (v := 0) hx hb dX2_sumBy_4 (by decide) ?_
  refine lv_istore (lv' := [(4, .int 0), (3, .int 0), (2, .int 0), (0, .ref (q 0)), (1, .ref vv)]) hx hb dX2_sumBy_5 hl (by decide) rfl (fun ls hl => ?_)
  exact J7 100000 0 0 0 hf _ _ hP hD hS _ (lv_sub hl [3, 4, 2, 1, 0] rfl)
-- X1 has
noncomputable def k_X1_has (a1 : Int32) (mf : Nat → Int32) : Option Int32 := if a1 < 0 then some 0 else if (mf 0) ≤ a1 then some 0 else some 1
set_option maxHeartbeats 4000000 in
set_option maxRecDepth 100000 in
theorem c_X1_has {l : Launch} {D : va_G} {cA : Nat → ClassId} (q : Nat → Nat) (qc : Nat → Nat → Nat) (mf : Nat → Int32) (mg : Nat → Nat → Int32) (mc : Option Nat) (a1 : Int32) (o : Int32) (hf : k_X1_has a1 mf = some o) : CI l D cA yX1_has cX1_has 2 (some .boolean) 0 0 [.ref (q 0), .int a1] (Cw q cA (chv qc mc) mf mg) 0 0 (fun r w => (r = o ∧ w = (Cw q cA (chv qc mc) mf mg)) ∧ narrow .boolean (.int r) = .int r) := by
  intro sz
  refine met_start (by decide) rfl ?_
  intro p e s m args below meth c ls hsz hargs C0 hname hP hD hS hl
  generalize hAe : va_A (Cw q cA (chv qc mc) mf mg) sz = A at C0 hD hS ⊢
  obtain ⟨hx, hb, hr, hml, hown, hts, hlk, hK, hA⟩ := id C0
  replace hl : lv_has ls 2 [(0, .ref (q 0)), (1, .int a1)] := hl
  obtain ⟨Q, hQ⟩ : ∃ Q : State → Prop, Q = QI below D A (fun r w => (r = o ∧ w = (Cw q cA (chv qc mc) mf mg)) ∧ narrow .boolean (.int r) = .int r) args s 0 0 := ⟨_, rfl⟩
  refine cast (by rw [hQ]) (?_ : W p l e (RMx 0 0 0 0) s m args below meth c s.heap [] 0 0 Q (F0 m 0 ls []))
  unfold k_X1_has at hf
  refine lv_iload_n hx hb dX1_has_0 rfl (lv_at hl 1 rfl) ?_
  refine lv_if_lt (tgt := 16) hx hb dX1_has_1 (by decide) (fun c1 => ?_) (fun c1 => ?_)
  · replace hf := it_of c1 hf
    refine lv_iconst (v := 0) hx hb dX1_has_16 (by decide) ?_
    rw [hQ]
    exact ret_z C0 hP hD hS (by have e := Option.some.inj hf; rw [← e]; exact ⟨rfl, rfl⟩) rfl dX1_has_17
  · replace hf := ie_of c1 hf
    refine lv_iload_n hx hb dX1_has_4 rfl (lv_at hl 1 rfl) ?_
    refine lv_aload_n hx hb dX1_has_5 rfl (lv_at hl 0 rfl) ?_
    refine va_get (D := D) (ci := 1) (v := .int (mf 0)) (C := RX1) (T := TX1) (N := 16) hx hb hts fw_1 hown hK hP 0 rfl rfl 0 (by decide) (hts _ m_fieldLink_P_Cellar_45_P_Cellar_men_I) (fun _ h9 => h9) rfl dX1_has_6 ?_
    refine lv_icmp_ge (tgt := 16) hx hb dX1_has_9 (by decide) (fun c2 => ?_) (fun c2 => ?_)
    · replace hf := it_of c2 hf
      refine lv_iconst (v := 0) hx hb dX1_has_16 (by decide) ?_
      rw [hQ]
      exact ret_z C0 hP hD hS (by have e := Option.some.inj hf; rw [← e]; exact ⟨rfl, rfl⟩) rfl dX1_has_17
    · replace hf := ie_of c2 hf
      refine lv_iconst (v := 1) hx hb dX1_has_12 (by decide) ?_
      refine lv_goto (tgt := 17) hx hb dX1_has_13 (by decide) ?_
      rw [hQ]
      exact ret_z C0 hP hD hS (by have e := Option.some.inj hf; rw [← e]; exact ⟨rfl, rfl⟩) rfl dX1_has_17
-- X1 isUp
noncomputable def k_X1_isUp (a1 : Int32) (mf : Nat → Int32) : Option Int32 := if (((mf 1) >>> (a1 &&& 31)) &&& 1) = 0 then some 0 else some 1
set_option maxHeartbeats 4000000 in
set_option maxRecDepth 100000 in
theorem c_X1_isUp {l : Launch} {D : va_G} {cA : Nat → ClassId} (q : Nat → Nat) (qc : Nat → Nat → Nat) (mf : Nat → Int32) (mg : Nat → Nat → Int32) (mc : Option Nat) (a1 : Int32) (o : Int32) (hf : k_X1_isUp a1 mf = some o) : CI l D cA yX1_isUp cX1_isUp 2 (some .boolean) 0 0 [.ref (q 0), .int a1] (Cw q cA (chv qc mc) mf mg) 0 0 (fun r w => (r = o ∧ w = (Cw q cA (chv qc mc) mf mg)) ∧ narrow .boolean (.int r) = .int r) := by
  intro sz
  refine met_start (by decide) rfl ?_
  intro p e s m args below meth c ls hsz hargs C0 hname hP hD hS hl
  generalize hAe : va_A (Cw q cA (chv qc mc) mf mg) sz = A at C0 hD hS ⊢
  obtain ⟨hx, hb, hr, hml, hown, hts, hlk, hK, hA⟩ := id C0
  replace hl : lv_has ls 2 [(0, .ref (q 0)), (1, .int a1)] := hl
  obtain ⟨Q, hQ⟩ : ∃ Q : State → Prop, Q = QI below D A (fun r w => (r = o ∧ w = (Cw q cA (chv qc mc) mf mg)) ∧ narrow .boolean (.int r) = .int r) args s 0 0 := ⟨_, rfl⟩
  refine cast (by rw [hQ]) (?_ : W p l e (RMx 0 0 0 0) s m args below meth c s.heap [] 0 0 Q (F0 m 0 ls []))
  unfold k_X1_isUp at hf
  refine lv_aload_n hx hb dX1_isUp_0 rfl (lv_at hl 0 rfl) ?_
  refine va_get (D := D) (ci := 1) (v := .int (mf 1)) (C := RX1) (T := TX1) (N := 16) hx hb hts fw_1 hown hK hP 0 rfl rfl 1 (by decide) (hts _ m_fieldLink_P_Cellar_49_P_Cellar_up_I) (fun _ h9 => h9) rfl dX1_isUp_1 ?_
  refine lv_iload_n hx hb dX1_isUp_4 rfl (lv_at hl 1 rfl) ?_
  refine lv_ishr hx hb dX1_isUp_5 ?_
  refine lv_iconst (v := 1) hx hb dX1_isUp_6 (by decide) ?_
  refine lv_iand hx hb dX1_isUp_7 ?_
  refine lv_if_eq (tgt := 15) hx hb dX1_isUp_8 (by decide) (fun c1 => ?_) (fun c1 => ?_)
  · replace hf := it_of c1 hf
    refine lv_iconst (v := 0) hx hb dX1_isUp_15 (by decide) ?_
    rw [hQ]
    exact ret_z C0 hP hD hS (by have e := Option.some.inj hf; rw [← e]; exact ⟨rfl, rfl⟩) rfl dX1_isUp_16
  · replace hf := ie_of c1 hf
    refine lv_iconst (v := 1) hx hb dX1_isUp_11 (by decide) ?_
    refine lv_goto (tgt := 16) hx hb dX1_isUp_12 (by decide) ?_
    rw [hQ]
    exact ret_z C0 hP hD hS (by have e := Option.some.inj hf; rw [← e]; exact ⟨rfl, rfl⟩) rfl dX1_isUp_16
-- X1 all
noncomputable def k_X1_all (mf : Nat → Int32) : Option Int32 := some ((1 <<< ((mf 0) &&& 31)) - 1)
set_option maxHeartbeats 4000000 in
set_option maxRecDepth 100000 in
theorem c_X1_all {l : Launch} {D : va_G} {cA : Nat → ClassId} (q : Nat → Nat) (qc : Nat → Nat → Nat) (mf : Nat → Int32) (mg : Nat → Nat → Int32) (mc : Option Nat)  (o : Int32) (hf : k_X1_all mf = some o) : CI l D cA yX1_all cX1_all 1 (some .int) 0 0 [.ref (q 0)] (Cw q cA (chv qc mc) mf mg) 0 0 (fun r w => r = o ∧ w = (Cw q cA (chv qc mc) mf mg)) := by
  intro sz
  refine met_start (by decide) rfl ?_
  intro p e s m args below meth c ls hsz hargs C0 hname hP hD hS hl
  generalize hAe : va_A (Cw q cA (chv qc mc) mf mg) sz = A at C0 hD hS ⊢
  obtain ⟨hx, hb, hr, hml, hown, hts, hlk, hK, hA⟩ := id C0
  replace hl : lv_has ls 1 [(0, .ref (q 0))] := hl
  obtain ⟨Q, hQ⟩ : ∃ Q : State → Prop, Q = QI below D A (fun r w => r = o ∧ w = (Cw q cA (chv qc mc) mf mg)) args s 0 0 := ⟨_, rfl⟩
  refine cast (by rw [hQ]) (?_ : W p l e (RMx 0 0 0 0) s m args below meth c s.heap [] 0 0 Q (F0 m 0 ls []))
  unfold k_X1_all at hf
  refine lv_iconst (v := 1) hx hb dX1_all_0 (by decide) ?_
  refine lv_aload_n hx hb dX1_all_1 rfl (lv_at hl 0 rfl) ?_
  refine va_get (D := D) (ci := 1) (v := .int (mf 0)) (C := RX1) (T := TX1) (N := 16) hx hb hts fw_1 hown hK hP 0 rfl rfl 0 (by decide) (hts _ m_fieldLink_P_Cellar_45_P_Cellar_men_I) (fun _ h9 => h9) rfl dX1_all_2 ?_
  refine lv_ishl hx hb dX1_all_5 ?_
  refine lv_iconst (v := 1) hx hb dX1_all_6 (by decide) ?_
  refine lv_isub hx hb dX1_all_7 ?_
  rw [hQ]
  exact ret_i C0 hP hD hS (by have e := Option.some.inj hf; rw [← e]; exact ⟨rfl, rfl⟩) dX1_all_8
-- X1 put
noncomputable def k_X1_put (a1 : Int32) (a2 : Int32) (mf0 : Nat → Int32) : Option (Nat → Int32) := if a2 = 0 then some (upd mf0 1 ((mf0 1) &&& ((1 <<< (a1 &&& 31)) ^^^ (-1)))) else some (upd mf0 1 ((mf0 1) ||| (1 <<< (a1 &&& 31))))
set_option maxHeartbeats 4000000 in
set_option maxRecDepth 100000 in
theorem c_X1_put {l : Launch} {D : va_G} {cA : Nat → ClassId} (q : Nat → Nat) (qc : Nat → Nat → Nat) (mf0 : Nat → Int32) (mg : Nat → Nat → Int32) (mc : Option Nat) (a1 : Int32) (a2 : Int32) (o : Nat → Int32) (hf : k_X1_put a1 a2 mf0 = some o) : CV l D cA yX1_put cX1_put 3 none 0 0 [.ref (q 0), .int a1, .int a2] (Cw q cA (chv qc mc) mf0 mg) 0 0 (fun w => w = (Cw q cA (chv qc mc) o mg)) := by
  intro sz
  refine met_start (by decide) rfl ?_
  intro p e s m args below meth c ls hsz hargs C0 hname hP hD hS hl
  generalize hAe : va_A (Cw q cA (chv qc mc) mf0 mg) sz = A at C0 hD hS ⊢
  obtain ⟨hx, hb, hr, hml, hown, hts, hlk, hK, hA⟩ := id C0
  replace hl : lv_has ls 3 [(0, .ref (q 0)), (1, .int a1), (2, .int a2)] := hl
  obtain ⟨Q, hQ⟩ : ∃ Q : State → Prop, Q = QV below D A (fun w => w = (Cw q cA (chv qc mc) o mg)) args s 0 0 := ⟨_, rfl⟩
  refine cast (by rw [hQ]) (?_ : W p l e (RMx 0 0 0 0) s m args below meth c s.heap [] 0 0 Q (F0 m 0 ls []))
  unfold k_X1_put at hf
  refine lv_aload_n hx hb dX1_put_0 rfl (lv_at hl 0 rfl) ?_
  refine lv_iload_n hx hb dX1_put_1 rfl (lv_at hl 2 rfl) ?_
  refine lv_if_eq (tgt := 16) hx hb dX1_put_2 (by decide) (fun c1 => ?_) (fun c1 => ?_)
  · replace hf := it_of c1 hf
    refine lv_aload_n hx hb dX1_put_16 rfl (lv_at hl 0 rfl) ?_
    refine va_get (D := D) (ci := 1) (v := .int (mf0 1)) (C := RX1) (T := TX1) (N := 16) hx hb hts fw_1 hown hK hP 0 rfl rfl 1 (by decide) (hts _ m_fieldLink_P_Cellar_49_P_Cellar_up_I) (fun _ h9 => h9) rfl dX1_put_17 ?_
    refine lv_iconst (v := 1) hx hb dX1_put_20 (by decide) ?_
    refine lv_iload_n hx hb dX1_put_21 rfl (lv_at hl 1 rfl) ?_
    refine lv_ishl hx hb dX1_put_22 ?_
    refine lv_iconst (v := (-1)) hx hb dX1_put_23 (by decide) ?_
    refine lv_ixor hx hb dX1_put_24 ?_
    refine lv_iand hx hb dX1_put_25 ?_
    refine va_put (D := D) (ci := 1) (v := .int ((mf0 1) &&& ((1 <<< (a1 &&& 31)) ^^^ (-1)))) (ty := .int) (C := RX1) (T := TX1) (N := 16) hx hb hts fw_1 tyX1 tyX1_ok nmX1 hown hK hP hD hS 0 rfl rfl 1 (by decide) (hts _ m_fieldLink_P_Cellar_49_P_Cellar_up_I) (fun _ h9 => h9) rfl (by decide +kernel) rfl rfl (Nat.le_of_ble_eq_true rfl) dX1_put_26 (fun H locs hP hD hS => ?_)
    replace hP : va_P D vwCl (Cw q cA (chv qc mc) (upd mf0 1 ((mf0 1) &&& ((1 <<< (a1 &&& 31)) ^^^ (-1)))) mg) H := hP
    replace hD : va_D A (Cw q cA (chv qc mc) (upd mf0 1 ((mf0 1) &&& ((1 <<< (a1 &&& 31)) ^^^ (-1)))) mg) := hD
    rw [hQ]
    exact ret_v C0 hP hD hS (by have e := Option.some.inj hf; first | (rw [← e]; done) | (rw [← e]; exact rfl)) dX1_put_29
  · replace hf := ie_of c1 hf
    refine lv_aload_n hx hb dX1_put_5 rfl (lv_at hl 0 rfl) ?_
    refine va_get (D := D) (ci := 1) (v := .int (mf0 1)) (C := RX1) (T := TX1) (N := 16) hx hb hts fw_1 hown hK hP 0 rfl rfl 1 (by decide) (hts _ m_fieldLink_P_Cellar_49_P_Cellar_up_I) (fun _ h9 => h9) rfl dX1_put_6 ?_
    refine lv_iconst (v := 1) hx hb dX1_put_9 (by decide) ?_
    refine lv_iload_n hx hb dX1_put_10 rfl (lv_at hl 1 rfl) ?_
    refine lv_ishl hx hb dX1_put_11 ?_
    refine lv_ior hx hb dX1_put_12 ?_
    refine lv_goto (tgt := 26) hx hb dX1_put_13 (by decide) ?_
    refine va_put (D := D) (ci := 1) (v := .int ((mf0 1) ||| (1 <<< (a1 &&& 31)))) (ty := .int) (C := RX1) (T := TX1) (N := 16) hx hb hts fw_1 tyX1 tyX1_ok nmX1 hown hK hP hD hS 0 rfl rfl 1 (by decide) (hts _ m_fieldLink_P_Cellar_49_P_Cellar_up_I) (fun _ h9 => h9) rfl (by decide +kernel) rfl rfl (Nat.le_of_ble_eq_true rfl) dX1_put_26 (fun H locs hP hD hS => ?_)
    replace hP : va_P D vwCl (Cw q cA (chv qc mc) (upd mf0 1 ((mf0 1) ||| (1 <<< (a1 &&& 31)))) mg) H := hP
    replace hD : va_D A (Cw q cA (chv qc mc) (upd mf0 1 ((mf0 1) ||| (1 <<< (a1 &&& 31)))) mg) := hD
    rw [hQ]
    exact ret_v C0 hP hD hS (by have e := Option.some.inj hf; first | (rw [← e]; done) | (rw [← e]; exact rfl)) dX1_put_29
-- X1 add
noncomputable def k_X1_add_48  : Nat → Int32 → Int32 → (Nat → Int32) → (Nat → Nat → Int32) → Option (Int32 × (Nat → Int32) × (Nat → Nat → Int32))
  | 0, _, _, _, _ => none
  | n + 1, x4, x5, mf, mg => if 4 ≤ x5 then some (x4, (upd mf 0 ((mf 0) + 1)), mg) else gd ((x4 * 4) + x5) 24 (k_X1_add_48 n x4 (x5 + 1) mf (va_up mg 11 (upd (mg 11) (Int32.toNatClampNeg ((x4 * 4) + x5)) 0)))
noncomputable def k_X1_add (a1 : Int32) (a2 : Int32) (a3 : Int32) (mf0 : Nat → Int32) (mg0 : Nat → Nat → Int32) : Option (Int32 × (Nat → Int32) × (Nat → Nat → Int32)) := gd (mf0 0) 6 (gd (mf0 0) 6 (nm (va_up (va_up mg0 7 (upd (mg0 7) (Int32.toNatClampNeg (mf0 0)) a1)) 8 (upd (mg0 8) (Int32.toNatClampNeg (mf0 0)) a2)) (fun mg_3 => gd (mf0 0) 6 (gd (mf0 0) 6 (nm (va_up (va_up mg_3 9 (upd (mg_3 9) (Int32.toNatClampNeg (mf0 0)) a3)) 10 (upd (mg_3 10) (Int32.toNatClampNeg (mf0 0)) 0)) (fun mg_7 => b1 (k_X1_put (mf0 0) 0 mf0) (fun mf_9 => k_X1_add_48 100000 (mf0 0) 0 mf_9 mg_7)))))))
set_option maxHeartbeats 4000000 in
set_option maxRecDepth 100000 in
theorem c_X1_add {l : Launch} {D : va_G} {cA : Nat → ClassId} (q : Nat → Nat) (qc : Nat → Nat → Nat) (mf0 : Nat → Int32) (mg0 : Nat → Nat → Int32) (mc : Option Nat) (a1 : Int32) (a2 : Int32) (a3 : Int32) (o : Int32 × (Nat → Int32) × (Nat → Nat → Int32)) (hf : k_X1_add a1 a2 a3 mf0 mg0 = some o) : CI l D cA yX1_add cX1_add 6 (some .int) 1 22 [.ref (q 0), .int a1, .int a2, .int a3] (Cw q cA (chv qc mc) mf0 mg0) 0 0 (fun r w => r = o.1 ∧ w = (Cw q cA (chv qc mc) o.2.1 o.2.2)) := by
  intro sz
  refine met_start (by decide) rfl ?_
  intro p e s m args below meth c ls hsz hargs C0 hname hP hD hS hl
  generalize hAe : va_A (Cw q cA (chv qc mc) mf0 mg0) sz = A at C0 hD hS ⊢
  obtain ⟨hx, hb, hr, hml, hown, hts, hlk, hK, hA⟩ := id C0
  replace hl : lv_has ls 6 [(0, .ref (q 0)), (1, .int a1), (2, .int a2), (3, .int a3)] := hl
  obtain ⟨Q, hQ⟩ : ∃ Q : State → Prop, Q = QI below D A (fun r w => r = o.1 ∧ w = (Cw q cA (chv qc mc) o.2.1 o.2.2)) args s 0 0 := ⟨_, rfl⟩
  refine cast (by rw [hQ]) (?_ : W p l e (RMx 1 22 0 0) s m args below meth c s.heap [] 0 0 Q (F0 m 0 ls []))
  have J48 : ∀ n : Nat, ∀ (x4 : Int32) (x5 : Int32) (mf : Nat → Int32) (mg : Nat → Nat → Int32), k_X1_add_48 n x4 x5 mf mg = some o → ∀ (H : Heap) (locs : List Loc), va_P D vwCl (Cw q cA (chv qc mc) mf mg) H → va_D A (Cw q cA (chv qc mc) mf mg) → va_S A s.heap H locs → ∀ ls : Array Slot, lv_has ls 6 [(0, .ref (q 0)), (4, .int x4), (5, .int x5)] → W p l e (RMx 1 22 0 0) s m args below meth c H locs 0 0 Q (F0 m 48 ls []) := by
    intro  n
    induction n with
    | zero =>
      intro x4 x5 mf mg hf
      rw [k_X1_add_48] at hf
      cases hf
    | succ n ih =>
      intro x4 x5 mf mg hf H locs hP hD hS ls hl
      rw [k_X1_add_48] at hf
      refine lv_iload hx hb dX1_add_48 (lv_at hl 2 rfl) ?_
      refine lv_iconst (v := 4) hx hb dX1_add_50 (by decide) ?_
      refine lv_icmp_ge (tgt := 73) hx hb dX1_add_51 (by decide) (fun c1 => ?_) (fun c1 => ?_)
      · replace hf := it_of c1 hf
        refine lv_aload_n hx hb dX1_add_73 rfl (lv_at hl 0 rfl) ?_
        refine lv_dup hx hb dX1_add_74 rfl ?_
        refine va_get (D := D) (ci := 1) (v := .int (mf 0)) (C := RX1) (T := TX1) (N := 16) hx hb hts fw_1 hown hK hP 0 rfl rfl 0 (by decide) (hts _ m_fieldLink_P_Cellar_45_P_Cellar_men_I) (fun _ h9 => h9) rfl dX1_add_75 ?_
        refine lv_iconst (v := 1) hx hb dX1_add_78 (by decide) ?_
        refine lv_iadd hx hb dX1_add_79 ?_
        refine va_put (D := D) (ci := 1) (v := .int ((mf 0) + 1)) (ty := .int) (C := RX1) (T := TX1) (N := 16) hx hb hts fw_1 tyX1 tyX1_ok nmX1 hown hK hP hD hS 0 rfl rfl 0 (by decide) (hts _ m_fieldLink_P_Cellar_45_P_Cellar_men_I) (fun _ h9 => h9) rfl (by decide +kernel) rfl rfl (Nat.le_of_ble_eq_true rfl) dX1_add_80 (fun H locs hP hD hS => ?_)
        replace hP : va_P D vwCl (Cw q cA (chv qc mc) (upd mf 0 ((mf 0) + 1)) mg) H := hP
        replace hD : va_D A (Cw q cA (chv qc mc) (upd mf 0 ((mf 0) + 1)) mg) := hD
        refine lv_iload hx hb dX1_add_83 (lv_at hl 1 rfl) ?_
        rw [hQ]
        exact ret_i C0 hP hD hS (by have e := Option.some.inj hf; rw [← e]; exact ⟨rfl, rfl⟩) dX1_add_85
      · replace hf := ie_of c1 hf
        refine lv_aload_n hx hb dX1_add_54 rfl (lv_at hl 0 rfl) ?_
        refine va_get (D := D) (ci := 1) (v := .ref (q 11)) (C := RX1) (T := TX1) (N := 16) hx hb hts fw_1 hown hK hP 0 rfl rfl 11 (by decide) (hts _ m_fieldLink_P_Cellar_24_P_Cellar_rows_aI) (fun _ h9 => h9) rfl dX1_add_55 ?_
        refine lv_iload hx hb dX1_add_58 (lv_at hl 1 rfl) ?_
        refine lv_iconst (v := 4) hx hb dX1_add_60 (by decide) ?_
        refine lv_imul hx hb dX1_add_61 ?_
        refine lv_iload hx hb dX1_add_62 (lv_at hl 2 rfl) ?_
        refine lv_iadd hx hb dX1_add_64 ?_
        refine lv_iconst (v := 0) hx hb dX1_add_65 (by decide) ?_
        obtain ⟨hi2, hf⟩ := gd_of hf
        refine va_iast hx hb hK hP hD hS 5 0 rfl rfl hi2 dX1_add_66 (fun H locs hP hD hS => ?_)
        replace hP : va_P D vwCl (Cw q cA (chv qc mc) mf (va_up mg 11 (upd (mg 11) (Int32.toNatClampNeg ((x4 * 4) + x5)) 0))) H := hP
        replace hD : va_D A (Cw q cA (chv qc mc) mf (va_up mg 11 (upd (mg 11) (Int32.toNatClampNeg ((x4 * 4) + x5)) 0))) := hD
        refine lv_iinc (v := (x5 + 1)) (lv' := [(5, .int (x5 + 1)), (0, .ref (q 0)), (4, .int x4)]) hx hb dX1_add_67 hl (k := 2) rfl rfl (by decide) rfl (fun ls hl => ?_)
        refine lv_goto (tgt := 48) hx hb dX1_add_70 (by decide) ?_
        exact ih x4 (x5 + 1) mf (va_up mg 11 (upd (mg 11) (Int32.toNatClampNeg ((x4 * 4) + x5)) 0)) hf _ _ hP hD hS _ (lv_sub hl [1, 2, 0] rfl)
  unfold k_X1_add at hf
  refine lv_aload_n hx hb dX1_add_0 rfl (lv_at hl 0 rfl) ?_
  refine va_get (D := D) (ci := 1) (v := .int (mf0 0)) (C := RX1) (T := TX1) (N := 16) hx hb hts fw_1 hown hK hP 0 rfl rfl 0 (by decide) (hts _ m_fieldLink_P_Cellar_45_P_Cellar_men_I) (fun _ h9 => h9) rfl dX1_add_1 ?_
  refine lv_istore (lv' := [(4, .int (mf0 0)), (0, .ref (q 0)), (1, .int a1), (2, .int a2), (3, .int a3)]) hx hb dX1_add_4 hl (by decide) rfl (fun ls hl => ?_)
  refine lv_aload_n hx hb dX1_add_6 rfl (lv_at hl 1 rfl) ?_
  refine va_get (D := D) (ci := 1) (v := .ref (q 7)) (C := RX1) (T := TX1) (N := 16) hx hb hts fw_1 hown hK hP 0 rfl rfl 7 (by decide) (hts _ m_fieldLink_P_Cellar_9_P_Cellar_kind_aI) (fun _ h9 => h9) rfl dX1_add_7 ?_
  refine lv_iload hx hb dX1_add_10 (lv_at hl 0 rfl) ?_
  refine lv_iload_n hx hb dX1_add_12 rfl (lv_at hl 2 rfl) ?_
  obtain ⟨hi1, hf⟩ := gd_of hf
  refine va_iast hx hb hK hP hD hS 1 0 rfl rfl hi1 dX1_add_13 (fun H locs hP hD hS => ?_)
  replace hP : va_P D vwCl (Cw q cA (chv qc mc) mf0 (va_up mg0 7 (upd (mg0 7) (Int32.toNatClampNeg (mf0 0)) a1))) H := hP
  replace hD : va_D A (Cw q cA (chv qc mc) mf0 (va_up mg0 7 (upd (mg0 7) (Int32.toNatClampNeg (mf0 0)) a1))) := hD
  refine lv_aload_n hx hb dX1_add_14 rfl (lv_at hl 1 rfl) ?_
  refine va_get (D := D) (ci := 1) (v := .ref (q 8)) (C := RX1) (T := TX1) (N := 16) hx hb hts fw_1 hown hK hP 0 rfl rfl 8 (by decide) (hts _ m_fieldLink_P_Cellar_15_P_Cellar_v_aI) (fun _ h9 => h9) rfl dX1_add_15 ?_
  refine lv_iload hx hb dX1_add_18 (lv_at hl 0 rfl) ?_
  refine lv_iload_n hx hb dX1_add_20 rfl (lv_at hl 3 rfl) ?_
  obtain ⟨hi2, hf⟩ := gd_of hf
  refine va_iast hx hb hK hP hD hS 2 0 rfl rfl hi2 dX1_add_21 (fun H locs hP hD hS => ?_)
  replace hP : va_P D vwCl (Cw q cA (chv qc mc) mf0 (va_up (va_up mg0 7 (upd (mg0 7) (Int32.toNatClampNeg (mf0 0)) a1)) 8 (upd (mg0 8) (Int32.toNatClampNeg (mf0 0)) a2))) H := hP
  replace hD : va_D A (Cw q cA (chv qc mc) mf0 (va_up (va_up mg0 7 (upd (mg0 7) (Int32.toNatClampNeg (mf0 0)) a1)) 8 (upd (mg0 8) (Int32.toNatClampNeg (mf0 0)) a2))) := hD
  obtain ⟨mg_3, hv4, hf⟩ := nm_of hf
  replace hP : va_P D vwCl (Cw q cA (chv qc mc) mf0 mg_3) H := by rw [hv4]; exact hP
  replace hD : va_D A (Cw q cA (chv qc mc) mf0 mg_3) := by rw [hv4]; exact hD
  refine lv_aload_n hx hb dX1_add_22 rfl (lv_at hl 1 rfl) ?_
  refine va_get (D := D) (ci := 1) (v := .ref (q 9)) (C := RX1) (T := TX1) (N := 16) hx hb hts fw_1 hown hK hP 0 rfl rfl 9 (by decide) (hts _ m_fieldLink_P_Cellar_18_P_Cellar_nerve_aI) (fun _ h9 => h9) rfl dX1_add_23 ?_
  refine lv_iload hx hb dX1_add_26 (lv_at hl 0 rfl) ?_
  refine lv_iload_n hx hb dX1_add_28 rfl (lv_at hl 4 rfl) ?_
  obtain ⟨hi5, hf⟩ := gd_of hf
  refine va_iast hx hb hK hP hD hS 3 0 rfl rfl hi5 dX1_add_29 (fun H locs hP hD hS => ?_)
  replace hP : va_P D vwCl (Cw q cA (chv qc mc) mf0 (va_up mg_3 9 (upd (mg_3 9) (Int32.toNatClampNeg (mf0 0)) a3))) H := hP
  replace hD : va_D A (Cw q cA (chv qc mc) mf0 (va_up mg_3 9 (upd (mg_3 9) (Int32.toNatClampNeg (mf0 0)) a3))) := hD
  refine lv_aload_n hx hb dX1_add_30 rfl (lv_at hl 1 rfl) ?_
  refine va_get (D := D) (ci := 1) (v := .ref (q 10)) (C := RX1) (T := TX1) (N := 16) hx hb hts fw_1 hown hK hP 0 rfl rfl 10 (by decide) (hts _ m_fieldLink_P_Cellar_21_P_Cellar_spell_aI) (fun _ h9 => h9) rfl dX1_add_31 ?_
  refine lv_iload hx hb dX1_add_34 (lv_at hl 0 rfl) ?_
  refine lv_iconst (v := 0) hx hb dX1_add_36 (by decide) ?_
  obtain ⟨hi6, hf⟩ := gd_of hf
  refine va_iast hx hb hK hP hD hS 4 0 rfl rfl hi6 dX1_add_37 (fun H locs hP hD hS => ?_)
  replace hP : va_P D vwCl (Cw q cA (chv qc mc) mf0 (va_up (va_up mg_3 9 (upd (mg_3 9) (Int32.toNatClampNeg (mf0 0)) a3)) 10 (upd (mg_3 10) (Int32.toNatClampNeg (mf0 0)) 0))) H := hP
  replace hD : va_D A (Cw q cA (chv qc mc) mf0 (va_up (va_up mg_3 9 (upd (mg_3 9) (Int32.toNatClampNeg (mf0 0)) a3)) 10 (upd (mg_3 10) (Int32.toNatClampNeg (mf0 0)) 0))) := hD
  obtain ⟨mg_7, hv8, hf⟩ := nm_of hf
  replace hP : va_P D vwCl (Cw q cA (chv qc mc) mf0 mg_7) H := by rw [hv8]; exact hP
  replace hD : va_D A (Cw q cA (chv qc mc) mf0 mg_7) := by rw [hv8]; exact hD
  refine lv_aload_n hx hb dX1_add_38 rfl (lv_at hl 1 rfl) ?_
  refine lv_iload hx hb dX1_add_39 (lv_at hl 0 rfl) ?_
  refine lv_iconst (v := 0) hx hb dX1_add_41 (by decide) ?_
  obtain ⟨mf_9, hq10, hf⟩ := b1_of hf
  refine callVV (As := [.int (mf0 0), .int 0]) (rest := []) (wr := []) C0 (c_X1_put q qc mf0 mg_7 mc (mf0 0) 0 _ hq10) lk_X1_52_X1_put rfl hP hD hS perm_nil 0 1 rfl rfl rfl hl.1 rfl rfl (Nat.le_of_ble_eq_true rfl) dX1_add_42 ⟨Nat.zero_le _, Nat.zero_le _⟩ (fun w H locs hw hP hD hS => ?_)
  have e2 := hw
  subst e2
  replace hP : va_P D vwCl (Cw q cA (chv qc mc) mf_9 mg_7) H := hP.nil
  replace hD : va_D A (Cw q cA (chv qc mc) mf_9 mg_7) := hD.nil
  refine lv_iconst (v := 0) hx hb dX1_add_45 (by decide) ?_
  refine lv_istore (lv' := [(5, .int 0), (4, .int (mf0 0)), (0, .ref (q 0)), (1, .int a1), (2, .int a2), (3, .int a3)]) hx hb dX1_add_46 hl (by decide) rfl (fun ls hl => ?_)
  exact J48 100000 (mf0 0) 0 mf_9 mg_7 hf _ _ hP hD hS _ (lv_sub hl [2, 1, 0] rfl)

-- isDigit
noncomputable def k_X7_isDigit (fi : Nat → Int32) (fs : Nat → Int32) (ga : Nat → Nat → Int32) : Option Int32 := b1 (k_X7_next fi fs ga) (fun r1 => b1 (k_X7_in r1 48 57) (fun r3 => some r3))
set_option maxHeartbeats 4000000 in
set_option maxRecDepth 100000 in
theorem c_X7_isDigit {l : Launch} {D : va_G} {cA : Nat → ClassId} (h : Nat) (q : Nat → Nat) (fi : Nat → Int32) (fs : Nat → Int32) (ga : Nat → Nat → Int32) (gs : Nat → Nat → Int32) (pl : Nat → Int32) (it : Nat → Int64) (asd : Nat → Int64)  (o : Int32) (hf : k_X7_isDigit fi fs ga = some o) : CI l D cA yX7_isDigit cX7_isDigit 1 (some .boolean) 1 23 [.ref h] (Mw h q cA fi fs ga gs pl it asd) 0 0 (fun r w => (r = o ∧ w = (Mw h q cA fi fs ga gs pl it asd)) ∧ narrow .boolean (.int r) = .int r) := by
  intro sz
  refine met_start (by decide) rfl ?_
  intro p e s m args below meth c ls hsz hargs C0 hname hP hD hS hl
  generalize hAe : va_A (Mw h q cA fi fs ga gs pl it asd) sz = A at C0 hD hS ⊢
  obtain ⟨hx, hb, hr, hml, hown, hts, hlk, hK, hA⟩ := id C0
  replace hl : lv_has ls 1 [(0, .ref h)] := hl
  obtain ⟨Q, hQ⟩ : ∃ Q : State → Prop, Q = QI below D A (fun r w => (r = o ∧ w = (Mw h q cA fi fs ga gs pl it asd)) ∧ narrow .boolean (.int r) = .int r) args s 0 0 := ⟨_, rfl⟩
  refine cast (by rw [hQ]) (?_ : W p l e (RMx 1 23 0 0) s m args below meth c s.heap [] 0 0 Q (F0 m 0 ls []))
  unfold k_X7_isDigit at hf
  refine lv_aload_n hx hb dX7_isDigit_0 rfl (lv_at hl 0 rfl) ?_
  refine lv_aload_n hx hb dX7_isDigit_1 rfl (lv_at hl 0 rfl) ?_
  obtain ⟨r1q, hq2, hf⟩ := b1_of hf
  refine callVI (As := []) (rest := [.ref h]) (wr := []) C0 (c_X7_next h q fi fs ga gs pl it asd _ hq2) lk_X7_252_X7_next rfl hP hD hS perm_nil 0 7 rfl rfl rfl hl.1 rfl rfl (Nat.le_of_ble_eq_true rfl) dX7_isDigit_2 ⟨Nat.zero_le _, Nat.zero_le _⟩ (fun r1 w H locs hw hP hD hS => ?_)
  obtain ⟨e1, e2⟩ := hw
  replace e1 : r1 = r1q := e1
  subst e1
  subst e2
  replace hP : va_P D vwCl (Mw h q cA fi fs ga gs pl it asd) H := hP.nil
  replace hD : va_D A (Mw h q cA fi fs ga gs pl it asd) := hD.nil
  refine lv_bipush (v := 48) hx hb dX7_isDigit_5 (by decide) ?_
  refine lv_bipush (v := 57) hx hb dX7_isDigit_7 (by decide) ?_
  obtain ⟨r3q, hq4, hf⟩ := b1_of hf
  refine callVI (As := [.int r1, .int 48, .int 57]) (rest := []) (wr := (Mw h q cA fi fs ga gs pl it asd)) C0 (c_X7_in h r1 48 57 _ hq4) lk_X7_237_X7_in rfl hP hD hS (List.Perm.refl _) 0 7 rfl rfl rfl hl.1 rfl rfl (Nat.le_of_ble_eq_true rfl) dX7_isDigit_9 ⟨Nat.zero_le _, Nat.zero_le _⟩ (fun r3 w H locs hw hP hD hS => ?_)
  obtain ⟨⟨e1, e2⟩, z5⟩ := hw
  replace e1 : r3 = r3q := e1
  subst e1
  subst e2
  replace hP : va_P D vwCl (Mw h q cA fi fs ga gs pl it asd) H := hP
  replace hD : va_D A (Mw h q cA fi fs ga gs pl it asd) := hD
  rw [hQ]
  exact ret_z C0 hP hD hS (by have e := Option.some.inj hf; rw [← e]; exact ⟨rfl, rfl⟩) z5 dX7_isDigit_12
-- takesNumber
noncomputable def k_X7_takesNumber_16 (fi : Nat → Int32) (ga : Nat → Nat → Int32) : Nat → Int32 → (Nat → Int32) → Option (Int32 × (Nat → Int32))
  | 0, _, _ => none
  | n + 1, x1, fs => if 2 ≤ x1 then some (1, fs) else b1 (k_X7_isDigit fi fs ga) (fun r2 => if r2 = 0 then some (1, fs) else b1 (k_X7_next fi fs ga) (fun r6 => k_X7_takesNumber_16 fi ga n (x1 + 1) (upd (upd fs 15 (((10 * (fs 15)) + r6) - 48)) 14 ((fs 14) + 1))))
noncomputable def k_X7_takesNumber (fi : Nat → Int32) (fs0 : Nat → Int32) (ga : Nat → Nat → Int32) : Option (Int32 × (Nat → Int32)) := b1 (k_X7_isDigit fi fs0 ga) (fun r1 => if r1 = 0 then some (0, fs0) else k_X7_takesNumber_16 fi ga 100000 0 (upd fs0 15 0))
set_option maxHeartbeats 4000000 in
set_option maxRecDepth 100000 in
theorem c_X7_takesNumber {l : Launch} {D : va_G} {cA : Nat → ClassId} (h : Nat) (q : Nat → Nat) (fi : Nat → Int32) (fs0 : Nat → Int32) (ga : Nat → Nat → Int32) (gs : Nat → Nat → Int32) (pl : Nat → Int32) (it : Nat → Int64) (asd : Nat → Int64)  (o : Int32 × (Nat → Int32)) (hf : k_X7_takesNumber fi fs0 ga = some o) : CI l D cA yX7_takesNumber cX7_takesNumber 2 (some .boolean) 2 43 [.ref h] (Mw h q cA fi fs0 ga gs pl it asd) 0 0 (fun r w => (r = o.1 ∧ w = (Mw h q cA fi o.2 ga gs pl it asd)) ∧ narrow .boolean (.int r) = .int r) := by
  intro sz
  refine met_start (by decide) rfl ?_
  intro p e s m args below meth c ls hsz hargs C0 hname hP hD hS hl
  generalize hAe : va_A (Mw h q cA fi fs0 ga gs pl it asd) sz = A at C0 hD hS ⊢
  obtain ⟨hx, hb, hr, hml, hown, hts, hlk, hK, hA⟩ := id C0
  replace hl : lv_has ls 2 [(0, .ref h)] := hl
  obtain ⟨Q, hQ⟩ : ∃ Q : State → Prop, Q = QI below D A (fun r w => (r = o.1 ∧ w = (Mw h q cA fi o.2 ga gs pl it asd)) ∧ narrow .boolean (.int r) = .int r) args s 0 0 := ⟨_, rfl⟩
  refine cast (by rw [hQ]) (?_ : W p l e (RMx 2 43 0 0) s m args below meth c s.heap [] 0 0 Q (F0 m 0 ls []))
  have J16 : ∀ n : Nat, ∀ (x1 : Int32) (fs : Nat → Int32), k_X7_takesNumber_16 fi ga n x1 fs = some o → ∀ (H : Heap) (locs : List Loc), va_P D vwCl (Mw h q cA fi fs ga gs pl it asd) H → va_D A (Mw h q cA fi fs ga gs pl it asd) → va_S A s.heap H locs → ∀ ls : Array Slot, lv_has ls 2 [(0, .ref h), (1, .int x1)] → W p l e (RMx 2 43 0 0) s m args below meth c H locs 0 0 Q (F0 m 16 ls []) := by
    intro  n
    induction n with
    | zero =>
      intro x1 fs hf
      rw [k_X7_takesNumber_16] at hf
      cases hf
    | succ n ih =>
      intro x1 fs hf H locs hP hD hS ls hl
      rw [k_X7_takesNumber_16] at hf
      refine lv_iload_n hx hb dX7_takesNumber_16 rfl (lv_at hl 1 rfl) ?_
      refine lv_iconst (v := 2) hx hb dX7_takesNumber_17 (by decide) ?_
      refine lv_icmp_ge (tgt := 63) hx hb dX7_takesNumber_18 (by decide) (fun c1 => ?_) (fun c1 => ?_)
      · replace hf := it_of c1 hf
        refine lv_iconst (v := 1) hx hb dX7_takesNumber_63 (by decide) ?_
        rw [hQ]
        exact ret_z C0 hP hD hS (by have e := Option.some.inj hf; rw [← e]; exact ⟨rfl, rfl⟩) rfl dX7_takesNumber_64
      · replace hf := ie_of c1 hf
        refine lv_aload_n hx hb dX7_takesNumber_21 rfl (lv_at hl 0 rfl) ?_
        obtain ⟨r2q, hq3, hf⟩ := b1_of hf
        refine callVI (As := []) (rest := []) (wr := []) C0 (c_X7_isDigit h q fi fs ga gs pl it asd _ hq3) lk_X7_259_X7_isDigit rfl hP hD hS perm_nil 0 7 rfl rfl rfl hl.1 rfl rfl (Nat.le_of_ble_eq_true rfl) dX7_takesNumber_22 ⟨Nat.zero_le _, Nat.zero_le _⟩ (fun r2 w H locs hw hP hD hS => ?_)
        obtain ⟨⟨e1, e2⟩, z4⟩ := hw
        replace e1 : r2 = r2q := e1
        subst e1
        subst e2
        replace hP : va_P D vwCl (Mw h q cA fi fs ga gs pl it asd) H := hP.nil
        replace hD : va_D A (Mw h q cA fi fs ga gs pl it asd) := hD.nil
        refine lv_if_eq (tgt := 63) hx hb dX7_takesNumber_25 (by decide) (fun c5 => ?_) (fun c5 => ?_)
        · replace hf := it_of c5 hf
          refine lv_iconst (v := 1) hx hb dX7_takesNumber_63 (by decide) ?_
          rw [hQ]
          exact ret_z C0 hP hD hS (by have e := Option.some.inj hf; rw [← e]; exact ⟨rfl, rfl⟩) rfl dX7_takesNumber_64
        · replace hf := ie_of c5 hf
          refine lv_aload_n hx hb dX7_takesNumber_28 rfl (lv_at hl 0 rfl) ?_
          refine lv_bipush (v := 10) hx hb dX7_takesNumber_29 (by decide) ?_
          refine lv_aload_n hx hb dX7_takesNumber_31 rfl (lv_at hl 0 rfl) ?_
          refine va_get (D := D) (ci := 7) (v := .int (fs 15)) (C := RX7) (T := TX7) (N := 73) hx hb hts fw_7 hown hK hP 0 rfl rfl 15 (by decide) (hts _ m_fieldLink_M_56_M_digits_I) (fun _ h9 => h9) rfl dX7_takesNumber_32 ?_
          refine lv_imul hx hb dX7_takesNumber_35 ?_
          refine lv_aload_n hx hb dX7_takesNumber_36 rfl (lv_at hl 0 rfl) ?_
          obtain ⟨r6q, hq7, hf⟩ := b1_of hf
          refine callVI (As := []) (rest := [.int (10 * (fs 15)), .ref h]) (wr := []) C0 (c_X7_next h q fi fs ga gs pl it asd _ hq7) lk_X7_252_X7_next rfl hP hD hS perm_nil 0 7 rfl rfl rfl hl.1 rfl rfl (Nat.le_of_ble_eq_true rfl) dX7_takesNumber_37 ⟨Nat.zero_le _, Nat.zero_le _⟩ (fun r6 w H locs hw hP hD hS => ?_)
          obtain ⟨e1, e2⟩ := hw
          replace e1 : r6 = r6q := e1
          subst e1
          subst e2
          replace hP : va_P D vwCl (Mw h q cA fi fs ga gs pl it asd) H := hP.nil
          replace hD : va_D A (Mw h q cA fi fs ga gs pl it asd) := hD.nil
          refine lv_iadd hx hb dX7_takesNumber_40 ?_
          refine lv_bipush (v := 48) hx hb dX7_takesNumber_41 (by decide) ?_
          refine lv_isub hx hb dX7_takesNumber_43 ?_
          refine va_put (D := D) (ci := 7) (v := .int (((10 * (fs 15)) + r6) - 48)) (ty := .int) (C := RX7) (T := TX7) (N := 73) hx hb hts fw_7 tyX7 tyX7_ok nmX7 hown hK hP hD hS 0 rfl rfl 15 (by decide) (hts _ m_fieldLink_M_56_M_digits_I) (fun _ h9 => h9) rfl (by decide +kernel) rfl rfl (Nat.le_of_ble_eq_true rfl) dX7_takesNumber_44 (fun H locs hP hD hS => ?_)
          replace hP : va_P D vwCl (Mw h q cA fi (upd fs 15 (((10 * (fs 15)) + r6) - 48)) ga gs pl it asd) H := hP
          replace hD : va_D A (Mw h q cA fi (upd fs 15 (((10 * (fs 15)) + r6) - 48)) ga gs pl it asd) := hD
          refine lv_aload_n hx hb dX7_takesNumber_47 rfl (lv_at hl 0 rfl) ?_
          refine lv_dup hx hb dX7_takesNumber_48 rfl ?_
          refine va_get (D := D) (ci := 7) (v := .int (fs 14)) (C := RX7) (T := TX7) (N := 73) hx hb hts fw_7 hown hK hP 0 rfl rfl 14 (by decide) (hts _ m_fieldLink_M_53_M_at_I) (fun _ h9 => h9) rfl dX7_takesNumber_49 ?_
          refine lv_iconst (v := 1) hx hb dX7_takesNumber_52 (by decide) ?_
          refine lv_iadd hx hb dX7_takesNumber_53 ?_
          refine va_put (D := D) (ci := 7) (v := .int ((fs 14) + 1)) (ty := .int) (C := RX7) (T := TX7) (N := 73) hx hb hts fw_7 tyX7 tyX7_ok nmX7 hown hK hP hD hS 0 rfl rfl 14 (by decide) (hts _ m_fieldLink_M_53_M_at_I) (fun _ h9 => h9) rfl (by decide +kernel) rfl rfl (Nat.le_of_ble_eq_true rfl) dX7_takesNumber_54 (fun H locs hP hD hS => ?_)
          replace hP : va_P D vwCl (Mw h q cA fi (upd (upd fs 15 (((10 * (fs 15)) + r6) - 48)) 14 ((fs 14) + 1)) ga gs pl it asd) H := hP
          replace hD : va_D A (Mw h q cA fi (upd (upd fs 15 (((10 * (fs 15)) + r6) - 48)) 14 ((fs 14) + 1)) ga gs pl it asd) := hD
          refine lv_iinc (v := (x1 + 1)) (lv' := [(1, .int (x1 + 1)), (0, .ref h)]) hx hb dX7_takesNumber_57 hl (k := 1) rfl rfl (by decide) rfl (fun ls hl => ?_)
          refine lv_goto (tgt := 16) hx hb dX7_takesNumber_60 (by decide) ?_
          exact ih (x1 + 1) (upd (upd fs 15 (((10 * (fs 15)) + r6) - 48)) 14 ((fs 14) + 1)) hf _ _ hP hD hS _ (lv_sub hl [1, 0] rfl)
  unfold k_X7_takesNumber at hf
  refine lv_aload_n hx hb dX7_takesNumber_0 rfl (lv_at hl 0 rfl) ?_
  obtain ⟨r1q, hq2, hf⟩ := b1_of hf
  refine callVI (As := []) (rest := []) (wr := []) C0 (c_X7_isDigit h q fi fs0 ga gs pl it asd _ hq2) lk_X7_259_X7_isDigit rfl hP hD hS perm_nil 0 7 rfl rfl rfl hl.1 rfl rfl (Nat.le_of_ble_eq_true rfl) dX7_takesNumber_1 ⟨Nat.zero_le _, Nat.zero_le _⟩ (fun r1 w H locs hw hP hD hS => ?_)
  obtain ⟨⟨e1, e2⟩, z3⟩ := hw
  replace e1 : r1 = r1q := e1
  subst e1
  subst e2
  replace hP : va_P D vwCl (Mw h q cA fi fs0 ga gs pl it asd) H := hP.nil
  replace hD : va_D A (Mw h q cA fi fs0 ga gs pl it asd) := hD.nil
  refine lv_if_ne (tgt := 9) hx hb dX7_takesNumber_4 (by decide) (fun c4 => ?_) (fun c4 => ?_)
  · replace hf := ie_of c4 hf
    refine lv_aload_n hx hb dX7_takesNumber_9 rfl (lv_at hl 0 rfl) ?_
    refine lv_iconst (v := 0) hx hb dX7_takesNumber_10 (by decide) ?_
    refine va_put (D := D) (ci := 7) (v := .int 0) (ty := .int) (C := RX7) (T := TX7) (N := 73) hx hb hts fw_7 tyX7 tyX7_ok nmX7 hown hK hP hD hS 0 rfl rfl 15 (by decide) (hts _ m_fieldLink_M_56_M_digits_I) (fun _ h9 => h9) rfl (by decide +kernel) rfl rfl (Nat.le_of_ble_eq_true rfl) dX7_takesNumber_11 (fun H locs hP hD hS => ?_)
    replace hP : va_P D vwCl (Mw h q cA fi (upd fs0 15 0) ga gs pl it asd) H := hP
    replace hD : va_D A (Mw h q cA fi (upd fs0 15 0) ga gs pl it asd) := hD
    refine lv_iconst (v := 0) hx hb dX7_takesNumber_14 (by decide) ?_
    refine lv_istore_n (lv' := [(1, .int 0), (0, .ref h)]) hx hb dX7_takesNumber_15 rfl hl (by decide) rfl (fun ls hl => ?_)
    exact J16 100000 0 (upd fs0 15 0) hf _ _ hP hD hS _ (lv_sub hl [1, 0] rfl)
  · replace hf := it_of c4 hf
    refine lv_iconst (v := 0) hx hb dX7_takesNumber_7 (by decide) ?_
    rw [hQ]
    exact ret_z C0 hP hD hS (by have e := Option.some.inj hf; rw [← e]; exact ⟨rfl, rfl⟩) rfl dX7_takesNumber_8
-- emits
noncomputable def k_X7_emits (a1 : Int32) (fs0 : Nat → Int32) (ga0 : Nat → Nat → Int32) : Option ((Nat → Int32) × (Nat → Nat → Int32)) := gd (fs0 24) 600 (some ((upd fs0 24 ((fs0 24) + 1)), (va_up ga0 22 (upd (ga0 22) (Int32.toNatClampNeg (fs0 24)) a1))))
set_option maxHeartbeats 4000000 in
set_option maxRecDepth 100000 in
theorem c_X7_emits {l : Launch} {D : va_G} {cA : Nat → ClassId} (h : Nat) (q : Nat → Nat) (fi : Nat → Int32) (fs0 : Nat → Int32) (ga0 : Nat → Nat → Int32) (gs : Nat → Nat → Int32) (pl : Nat → Int32) (it : Nat → Int64) (asd : Nat → Int64) (a1 : Int32) (o : (Nat → Int32) × (Nat → Nat → Int32)) (hf : k_X7_emits a1 fs0 ga0 = some o) : CV l D cA yX7_emits cX7_emits 2 none 0 0 [.ref h, .int a1] (Mw h q cA fi fs0 ga0 gs pl it asd) 0 0 (fun w => w = (Mw h q cA fi o.1 o.2 gs pl it asd)) := by
  intro sz
  refine met_start (by decide) rfl ?_
  intro p e s m args below meth c ls hsz hargs C0 hname hP hD hS hl
  generalize hAe : va_A (Mw h q cA fi fs0 ga0 gs pl it asd) sz = A at C0 hD hS ⊢
  obtain ⟨hx, hb, hr, hml, hown, hts, hlk, hK, hA⟩ := id C0
  replace hl : lv_has ls 2 [(0, .ref h), (1, .int a1)] := hl
  obtain ⟨Q, hQ⟩ : ∃ Q : State → Prop, Q = QV below D A (fun w => w = (Mw h q cA fi o.1 o.2 gs pl it asd)) args s 0 0 := ⟨_, rfl⟩
  refine cast (by rw [hQ]) (?_ : W p l e (RMx 0 0 0 0) s m args below meth c s.heap [] 0 0 Q (F0 m 0 ls []))
  unfold k_X7_emits at hf
  refine lv_aload_n hx hb dX7_emits_0 rfl (lv_at hl 0 rfl) ?_
  refine va_get (D := D) (ci := 7) (v := .ref (q 22)) (C := RX7) (T := TX7) (N := 73) hx hb hts fw_7 hown hK hP 0 rfl rfl 22 (by decide) (hts _ m_fieldLink_M_77_M_sign_aI) (fun _ h9 => h9) rfl dX7_emits_1 ?_
  refine lv_aload_n hx hb dX7_emits_4 rfl (lv_at hl 0 rfl) ?_
  refine va_get (D := D) (ci := 7) (v := .int (fs0 24)) (C := RX7) (T := TX7) (N := 73) hx hb hts fw_7 hown hK hP 0 rfl rfl 24 (by decide) (hts _ m_fieldLink_M_83_M_signs_I) (fun _ h9 => h9) rfl dX7_emits_5 ?_
  refine lv_iload_n hx hb dX7_emits_8 rfl (lv_at hl 1 rfl) ?_
  obtain ⟨hi1, hf⟩ := gd_of hf
  refine va_iast hx hb hK hP hD hS 12 0 rfl rfl hi1 dX7_emits_9 (fun H locs hP hD hS => ?_)
  replace hP : va_P D vwCl (Mw h q cA fi fs0 (va_up ga0 22 (upd (ga0 22) (Int32.toNatClampNeg (fs0 24)) a1)) gs pl it asd) H := hP
  replace hD : va_D A (Mw h q cA fi fs0 (va_up ga0 22 (upd (ga0 22) (Int32.toNatClampNeg (fs0 24)) a1)) gs pl it asd) := hD
  refine lv_aload_n hx hb dX7_emits_10 rfl (lv_at hl 0 rfl) ?_
  refine lv_dup hx hb dX7_emits_11 rfl ?_
  refine va_get (D := D) (ci := 7) (v := .int (fs0 24)) (C := RX7) (T := TX7) (N := 73) hx hb hts fw_7 hown hK hP 0 rfl rfl 24 (by decide) (hts _ m_fieldLink_M_83_M_signs_I) (fun _ h9 => h9) rfl dX7_emits_12 ?_
  refine lv_iconst (v := 1) hx hb dX7_emits_15 (by decide) ?_
  refine lv_iadd hx hb dX7_emits_16 ?_
  refine va_put (D := D) (ci := 7) (v := .int ((fs0 24) + 1)) (ty := .int) (C := RX7) (T := TX7) (N := 73) hx hb hts fw_7 tyX7 tyX7_ok nmX7 hown hK hP hD hS 0 rfl rfl 24 (by decide) (hts _ m_fieldLink_M_83_M_signs_I) (fun _ h9 => h9) rfl (by decide +kernel) rfl rfl (Nat.le_of_ble_eq_true rfl) dX7_emits_17 (fun H locs hP hD hS => ?_)
  replace hP : va_P D vwCl (Mw h q cA fi (upd fs0 24 ((fs0 24) + 1)) (va_up ga0 22 (upd (ga0 22) (Int32.toNatClampNeg (fs0 24)) a1)) gs pl it asd) H := hP
  replace hD : va_D A (Mw h q cA fi (upd fs0 24 ((fs0 24) + 1)) (va_up ga0 22 (upd (ga0 22) (Int32.toNatClampNeg (fs0 24)) a1)) gs pl it asd) := hD
  rw [hQ]
  exact ret_v C0 hP hD hS (by have e := Option.some.inj hf; first | (rw [← e]; done) | (rw [← e]; exact rfl)) dX7_emits_20
-- whole
noncomputable def k_X7_whole_0 (gs : Nat → Nat → Int32) : Nat → (Nat → Int32) → (Nat → Nat → Int32) → Option ((Nat → Int32) × (Nat → Nat → Int32))
  | 0, _, _ => none
  | n + 1, fs, ga => if (fs 25) ≤ 0 then some (fs, ga) else gd ((fs 25) - 1) 101 (if ((gs 23) (Int32.toNatClampNeg ((fs 25) - 1))) = 33 then b2 (k_X7_emits (-33) fs ga) (fun fs_4 ga_5 => k_X7_whole_0 gs n (upd (upd fs_4 25 ((fs_4 25) - 1)) 26 ((fs_4 26) - 1)) ga_5) else some (fs, ga))
noncomputable def k_X7_whole (fs0 : Nat → Int32) (ga0 : Nat → Nat → Int32) (gs : Nat → Nat → Int32) : Option ((Nat → Int32) × (Nat → Nat → Int32)) := k_X7_whole_0 gs 100000 fs0 ga0
set_option maxHeartbeats 4000000 in
set_option maxRecDepth 100000 in
theorem c_X7_whole {l : Launch} {D : va_G} {cA : Nat → ClassId} (h : Nat) (q : Nat → Nat) (fi : Nat → Int32) (fs0 : Nat → Int32) (ga0 : Nat → Nat → Int32) (gs : Nat → Nat → Int32) (pl : Nat → Int32) (it : Nat → Int64) (asd : Nat → Int64)  (o : (Nat → Int32) × (Nat → Nat → Int32)) (hf : k_X7_whole fs0 ga0 gs = some o) : CV l D cA yX7_whole cX7_whole 1 none 1 21 [.ref h] (Mw h q cA fi fs0 ga0 gs pl it asd) 0 0 (fun w => w = (Mw h q cA fi o.1 o.2 gs pl it asd)) := by
  intro sz
  refine met_start (by decide) rfl ?_
  intro p e s m args below meth c ls hsz hargs C0 hname hP hD hS hl
  generalize hAe : va_A (Mw h q cA fi fs0 ga0 gs pl it asd) sz = A at C0 hD hS ⊢
  obtain ⟨hx, hb, hr, hml, hown, hts, hlk, hK, hA⟩ := id C0
  replace hl : lv_has ls 1 [(0, .ref h)] := hl
  obtain ⟨Q, hQ⟩ : ∃ Q : State → Prop, Q = QV below D A (fun w => w = (Mw h q cA fi o.1 o.2 gs pl it asd)) args s 0 0 := ⟨_, rfl⟩
  refine cast (by rw [hQ]) (?_ : W p l e (RMx 1 21 0 0) s m args below meth c s.heap [] 0 0 Q (F0 m 0 ls []))
  have J0 : ∀ n : Nat, ∀ (fs : Nat → Int32) (ga : Nat → Nat → Int32), k_X7_whole_0 gs n fs ga = some o → ∀ (H : Heap) (locs : List Loc), va_P D vwCl (Mw h q cA fi fs ga gs pl it asd) H → va_D A (Mw h q cA fi fs ga gs pl it asd) → va_S A s.heap H locs → ∀ ls : Array Slot, lv_has ls 1 [(0, .ref h)] → W p l e (RMx 1 21 0 0) s m args below meth c H locs 0 0 Q (F0 m 0 ls []) := by
    intro  n
    induction n with
    | zero =>
      intro fs ga hf
      rw [k_X7_whole_0] at hf
      cases hf
    | succ n ih =>
      intro fs ga hf H locs hP hD hS ls hl
      rw [k_X7_whole_0] at hf
      refine lv_aload_n hx hb dX7_whole_0 rfl (lv_at hl 0 rfl) ?_
      refine va_get (D := D) (ci := 7) (v := .int (fs 25)) (C := RX7) (T := TX7) (N := 73) hx hb hts fw_7 hown hK hP 0 rfl rfl 25 (by decide) (hts _ m_fieldLink_M_86_M_waiting_I) (fun _ h9 => h9) rfl dX7_whole_1 ?_
      refine lv_if_le (tgt := 52) hx hb dX7_whole_4 (by decide) (fun c1 => ?_) (fun c1 => ?_)
      · replace hf := it_of c1 hf
        rw [hQ]
        exact ret_v C0 hP hD hS (by have e := Option.some.inj hf; first | (rw [← e]; done) | (rw [← e]; exact rfl)) dX7_whole_52
      · replace hf := ie_of c1 hf
        refine lv_aload_n hx hb dX7_whole_7 rfl (lv_at hl 0 rfl) ?_
        refine va_get (D := D) (ci := 7) (v := .ref (q 23)) (C := RX7) (T := TX7) (N := 73) hx hb hts fw_7 hown hK hP 0 rfl rfl 23 (by decide) (hts _ m_fieldLink_M_80_M_waits_aI) (fun _ h9 => h9) rfl dX7_whole_8 ?_
        refine lv_aload_n hx hb dX7_whole_11 rfl (lv_at hl 0 rfl) ?_
        refine va_get (D := D) (ci := 7) (v := .int (fs 25)) (C := RX7) (T := TX7) (N := 73) hx hb hts fw_7 hown hK hP 0 rfl rfl 25 (by decide) (hts _ m_fieldLink_M_86_M_waiting_I) (fun _ h9 => h9) rfl dX7_whole_12 ?_
        refine lv_iconst (v := 1) hx hb dX7_whole_15 (by decide) ?_
        refine lv_isub hx hb dX7_whole_16 ?_
        obtain ⟨hi2, hf⟩ := gd_of hf
        refine va_iald hx hb hK hP 13 0 rfl rfl hi2 dX7_whole_17 ?_
        refine lv_bipush (v := 33) hx hb dX7_whole_18 (by decide) ?_
        refine lv_icmp_ne (tgt := 52) hx hb dX7_whole_20 (by decide) (fun c3 => ?_) (fun c3 => ?_)
        · replace hf := ie_of c3 hf
          rw [hQ]
          exact ret_v C0 hP hD hS (by have e := Option.some.inj hf; first | (rw [← e]; done) | (rw [← e]; exact rfl)) dX7_whole_52
        · replace hf := it_of c3 hf
          refine lv_aload_n hx hb dX7_whole_23 rfl (lv_at hl 0 rfl) ?_
          refine lv_bipush (v := (-33)) hx hb dX7_whole_24 (by decide) ?_
          obtain ⟨fs_4, ga_5, hq6, hf⟩ := b2_of hf
          refine callVV (As := [.int (-33)]) (rest := []) (wr := []) C0 (c_X7_emits h q fi fs ga gs pl it asd (-33) _ hq6) lk_X7_263_X7_emits rfl hP hD hS perm_nil 0 7 rfl rfl rfl hl.1 rfl rfl (Nat.le_of_ble_eq_true rfl) dX7_whole_26 ⟨Nat.zero_le _, Nat.zero_le _⟩ (fun w H locs hw hP hD hS => ?_)
          have e2 := hw
          subst e2
          replace hP : va_P D vwCl (Mw h q cA fi fs_4 ga_5 gs pl it asd) H := hP.nil
          replace hD : va_D A (Mw h q cA fi fs_4 ga_5 gs pl it asd) := hD.nil
          refine lv_aload_n hx hb dX7_whole_29 rfl (lv_at hl 0 rfl) ?_
          refine lv_dup hx hb dX7_whole_30 rfl ?_
          refine va_get (D := D) (ci := 7) (v := .int (fs_4 25)) (C := RX7) (T := TX7) (N := 73) hx hb hts fw_7 hown hK hP 0 rfl rfl 25 (by decide) (hts _ m_fieldLink_M_86_M_waiting_I) (fun _ h9 => h9) rfl dX7_whole_31 ?_
          refine lv_iconst (v := 1) hx hb dX7_whole_34 (by decide) ?_
          refine lv_isub hx hb dX7_whole_35 ?_
          refine va_put (D := D) (ci := 7) (v := .int ((fs_4 25) - 1)) (ty := .int) (C := RX7) (T := TX7) (N := 73) hx hb hts fw_7 tyX7 tyX7_ok nmX7 hown hK hP hD hS 0 rfl rfl 25 (by decide) (hts _ m_fieldLink_M_86_M_waiting_I) (fun _ h9 => h9) rfl (by decide +kernel) rfl rfl (Nat.le_of_ble_eq_true rfl) dX7_whole_36 (fun H locs hP hD hS => ?_)
          replace hP : va_P D vwCl (Mw h q cA fi (upd fs_4 25 ((fs_4 25) - 1)) ga_5 gs pl it asd) H := hP
          replace hD : va_D A (Mw h q cA fi (upd fs_4 25 ((fs_4 25) - 1)) ga_5 gs pl it asd) := hD
          refine lv_aload_n hx hb dX7_whole_39 rfl (lv_at hl 0 rfl) ?_
          refine lv_dup hx hb dX7_whole_40 rfl ?_
          refine va_get (D := D) (ci := 7) (v := .int (fs_4 26)) (C := RX7) (T := TX7) (N := 73) hx hb hts fw_7 hown hK hP 0 rfl rfl 26 (by decide) (hts _ m_fieldLink_M_89_M_open_I) (fun _ h9 => h9) rfl dX7_whole_41 ?_
          refine lv_iconst (v := 1) hx hb dX7_whole_44 (by decide) ?_
          refine lv_isub hx hb dX7_whole_45 ?_
          refine va_put (D := D) (ci := 7) (v := .int ((fs_4 26) - 1)) (ty := .int) (C := RX7) (T := TX7) (N := 73) hx hb hts fw_7 tyX7 tyX7_ok nmX7 hown hK hP hD hS 0 rfl rfl 26 (by decide) (hts _ m_fieldLink_M_89_M_open_I) (fun _ h9 => h9) rfl (by decide +kernel) rfl rfl (Nat.le_of_ble_eq_true rfl) dX7_whole_46 (fun H locs hP hD hS => ?_)
          replace hP : va_P D vwCl (Mw h q cA fi (upd (upd fs_4 25 ((fs_4 25) - 1)) 26 ((fs_4 26) - 1)) ga_5 gs pl it asd) H := hP
          replace hD : va_D A (Mw h q cA fi (upd (upd fs_4 25 ((fs_4 25) - 1)) 26 ((fs_4 26) - 1)) ga_5 gs pl it asd) := hD
          refine lv_goto (tgt := 0) hx hb dX7_whole_49 (by decide) ?_
          exact ih (upd (upd fs_4 25 ((fs_4 25) - 1)) 26 ((fs_4 26) - 1)) ga_5 hf _ _ hP hD hS _ (lv_sub hl [0] rfl)
  unfold k_X7_whole at hf
  exact J0 100000 fs0 ga0 hf _ _ hP hD hS _ (lv_sub hl [0] rfl)
-- settle
noncomputable def k_X7_settle_45 (gs : Nat → Nat → Int32) (kc0 : (Nat → Int32) → (Nat → Nat → Int32) → Option ((Nat → Int32) × (Nat → Nat → Int32))) (fs : Nat → Int32) (ga : Nat → Nat → Int32) : Option ((Nat → Int32) × (Nat → Nat → Int32)) := gd ((fs 25) - 1) 101 (b2 (k_X7_emits (-((gs 23) (Int32.toNatClampNeg ((fs 25) - 1)))) (upd fs 25 ((fs 25) - 1)) ga) (fun fs_2 ga_3 => kc0 fs_2 ga_3))
noncomputable def k_X7_settle_0 (a1 : Int32) (gs : Nat → Nat → Int32) : Nat → (Nat → Int32) → (Nat → Nat → Int32) → Option ((Nat → Int32) × (Nat → Nat → Int32))
  | 0, _, _ => none
  | n + 1, fs, ga => if (fs 25) ≤ 0 then some (fs, ga) else gd ((fs 25) - 1) 101 (if ((gs 23) (Int32.toNatClampNeg ((fs 25) - 1))) = 38 then k_X7_settle_45 gs (k_X7_settle_0 a1 gs n) fs ga else gd ((fs 25) - 1) 101 (if ((gs 23) (Int32.toNatClampNeg ((fs 25) - 1))) = 124 then if a1 = 38 then some (fs, ga) else k_X7_settle_45 gs (k_X7_settle_0 a1 gs n) fs ga else some (fs, ga)))
noncomputable def k_X7_settle (a1 : Int32) (fs0 : Nat → Int32) (ga0 : Nat → Nat → Int32) (gs : Nat → Nat → Int32) : Option ((Nat → Int32) × (Nat → Nat → Int32)) := k_X7_settle_0 a1 gs 100000 fs0 ga0
set_option maxHeartbeats 4000000 in
set_option maxRecDepth 100000 in
theorem c_X7_settle {l : Launch} {D : va_G} {cA : Nat → ClassId} (h : Nat) (q : Nat → Nat) (fi : Nat → Int32) (fs0 : Nat → Int32) (ga0 : Nat → Nat → Int32) (gs : Nat → Nat → Int32) (pl : Nat → Int32) (it : Nat → Int64) (asd : Nat → Int64) (a1 : Int32) (o : (Nat → Int32) × (Nat → Nat → Int32)) (hf : k_X7_settle a1 fs0 ga0 gs = some o) : CV l D cA yX7_settle cX7_settle 2 none 1 21 [.ref h, .int a1] (Mw h q cA fi fs0 ga0 gs pl it asd) 0 0 (fun w => w = (Mw h q cA fi o.1 o.2 gs pl it asd)) := by
  intro sz
  refine met_start (by decide) rfl ?_
  intro p e s m args below meth c ls hsz hargs C0 hname hP hD hS hl
  generalize hAe : va_A (Mw h q cA fi fs0 ga0 gs pl it asd) sz = A at C0 hD hS ⊢
  obtain ⟨hx, hb, hr, hml, hown, hts, hlk, hK, hA⟩ := id C0
  replace hl : lv_has ls 2 [(0, .ref h), (1, .int a1)] := hl
  obtain ⟨Q, hQ⟩ : ∃ Q : State → Prop, Q = QV below D A (fun w => w = (Mw h q cA fi o.1 o.2 gs pl it asd)) args s 0 0 := ⟨_, rfl⟩
  refine cast (by rw [hQ]) (?_ : W p l e (RMx 1 21 0 0) s m args below meth c s.heap [] 0 0 Q (F0 m 0 ls []))
  have J45 : ∀ (kc0 : (Nat → Int32) → (Nat → Nat → Int32) → Option ((Nat → Int32) × (Nat → Nat → Int32))) (hkc0 : ∀ (fs : Nat → Int32) (ga : Nat → Nat → Int32), kc0 fs ga = some o → ∀ (H : Heap) (locs : List Loc), va_P D vwCl (Mw h q cA fi fs ga gs pl it asd) H → va_D A (Mw h q cA fi fs ga gs pl it asd) → va_S A s.heap H locs → ∀ ls : Array Slot, lv_has ls 2 [(0, .ref h), (1, .int a1)] → W p l e (RMx 1 21 0 0) s m args below meth c H locs 0 0 Q (F0 m 0 ls [])), ∀ (fs : Nat → Int32) (ga : Nat → Nat → Int32), k_X7_settle_45 gs kc0 fs ga = some o → ∀ (H : Heap) (locs : List Loc), va_P D vwCl (Mw h q cA fi fs ga gs pl it asd) H → va_D A (Mw h q cA fi fs ga gs pl it asd) → va_S A s.heap H locs → ∀ ls : Array Slot, lv_has ls 2 [(0, .ref h), (1, .int a1)] → W p l e (RMx 1 21 0 0) s m args below meth c H locs 0 0 Q (F0 m 45 ls []) := by
    intro kc0 hkc0 fs ga hf H locs hP hD hS ls hl
    unfold k_X7_settle_45 at hf
    refine lv_aload_n hx hb dX7_settle_45 rfl (lv_at hl 0 rfl) ?_
    refine lv_dup hx hb dX7_settle_46 rfl ?_
    refine va_get (D := D) (ci := 7) (v := .int (fs 25)) (C := RX7) (T := TX7) (N := 73) hx hb hts fw_7 hown hK hP 0 rfl rfl 25 (by decide) (hts _ m_fieldLink_M_86_M_waiting_I) (fun _ h9 => h9) rfl dX7_settle_47 ?_
    refine lv_iconst (v := 1) hx hb dX7_settle_50 (by decide) ?_
    refine lv_isub hx hb dX7_settle_51 ?_
    refine va_put (D := D) (ci := 7) (v := .int ((fs 25) - 1)) (ty := .int) (C := RX7) (T := TX7) (N := 73) hx hb hts fw_7 tyX7 tyX7_ok nmX7 hown hK hP hD hS 0 rfl rfl 25 (by decide) (hts _ m_fieldLink_M_86_M_waiting_I) (fun _ h9 => h9) rfl (by decide +kernel) rfl rfl (Nat.le_of_ble_eq_true rfl) dX7_settle_52 (fun H locs hP hD hS => ?_)
    replace hP : va_P D vwCl (Mw h q cA fi (upd fs 25 ((fs 25) - 1)) ga gs pl it asd) H := hP
    replace hD : va_D A (Mw h q cA fi (upd fs 25 ((fs 25) - 1)) ga gs pl it asd) := hD
    refine lv_aload_n hx hb dX7_settle_55 rfl (lv_at hl 0 rfl) ?_
    refine lv_aload_n hx hb dX7_settle_56 rfl (lv_at hl 0 rfl) ?_
    refine va_get (D := D) (ci := 7) (v := .ref (q 23)) (C := RX7) (T := TX7) (N := 73) hx hb hts fw_7 hown hK hP 0 rfl rfl 23 (by decide) (hts _ m_fieldLink_M_80_M_waits_aI) (fun _ h9 => h9) rfl dX7_settle_57 ?_
    refine lv_aload_n hx hb dX7_settle_60 rfl (lv_at hl 0 rfl) ?_
    refine va_get (D := D) (ci := 7) (v := .int ((fs 25) - 1)) (C := RX7) (T := TX7) (N := 73) hx hb hts fw_7 hown hK hP 0 rfl rfl 25 (by decide) (hts _ m_fieldLink_M_86_M_waiting_I) (fun _ h9 => h9) rfl dX7_settle_61 ?_
    obtain ⟨hi1, hf⟩ := gd_of hf
    refine va_iald hx hb hK hP 13 0 rfl rfl hi1 dX7_settle_64 ?_
    refine lv_ineg hx hb dX7_settle_65 ?_
    obtain ⟨fs_2, ga_3, hq4, hf⟩ := b2_of hf
    refine callVV (As := [.int (-((gs 23) (Int32.toNatClampNeg ((fs 25) - 1))))]) (rest := []) (wr := []) C0 (c_X7_emits h q fi (upd fs 25 ((fs 25) - 1)) ga gs pl it asd (-((gs 23) (Int32.toNatClampNeg ((fs 25) - 1)))) _ hq4) lk_X7_263_X7_emits rfl hP hD hS perm_nil 0 7 rfl rfl rfl hl.1 rfl rfl (Nat.le_of_ble_eq_true rfl) dX7_settle_66 ⟨Nat.zero_le _, Nat.zero_le _⟩ (fun w H locs hw hP hD hS => ?_)
    have e2 := hw
    subst e2
    replace hP : va_P D vwCl (Mw h q cA fi fs_2 ga_3 gs pl it asd) H := hP.nil
    replace hD : va_D A (Mw h q cA fi fs_2 ga_3 gs pl it asd) := hD.nil
    refine lv_goto (tgt := 0) hx hb dX7_settle_69 (by decide) ?_
    exact hkc0 fs_2 ga_3 hf _ _ hP hD hS _ (lv_sub hl [0, 1] rfl)
  have J0 : ∀ n : Nat, ∀ (fs : Nat → Int32) (ga : Nat → Nat → Int32), k_X7_settle_0 a1 gs n fs ga = some o → ∀ (H : Heap) (locs : List Loc), va_P D vwCl (Mw h q cA fi fs ga gs pl it asd) H → va_D A (Mw h q cA fi fs ga gs pl it asd) → va_S A s.heap H locs → ∀ ls : Array Slot, lv_has ls 2 [(0, .ref h), (1, .int a1)] → W p l e (RMx 1 21 0 0) s m args below meth c H locs 0 0 Q (F0 m 0 ls []) := by
    intro  n
    induction n with
    | zero =>
      intro fs ga hf
      rw [k_X7_settle_0] at hf
      cases hf
    | succ n ih =>
      intro fs ga hf H locs hP hD hS ls hl
      rw [k_X7_settle_0] at hf
      refine lv_aload_n hx hb dX7_settle_0 rfl (lv_at hl 0 rfl) ?_
      refine va_get (D := D) (ci := 7) (v := .int (fs 25)) (C := RX7) (T := TX7) (N := 73) hx hb hts fw_7 hown hK hP 0 rfl rfl 25 (by decide) (hts _ m_fieldLink_M_86_M_waiting_I) (fun _ h9 => h9) rfl dX7_settle_1 ?_
      refine lv_if_le (tgt := 72) hx hb dX7_settle_4 (by decide) (fun c1 => ?_) (fun c1 => ?_)
      · replace hf := it_of c1 hf
        rw [hQ]
        exact ret_v C0 hP hD hS (by have e := Option.some.inj hf; first | (rw [← e]; done) | (rw [← e]; exact rfl)) dX7_settle_72
      · replace hf := ie_of c1 hf
        refine lv_aload_n hx hb dX7_settle_7 rfl (lv_at hl 0 rfl) ?_
        refine va_get (D := D) (ci := 7) (v := .ref (q 23)) (C := RX7) (T := TX7) (N := 73) hx hb hts fw_7 hown hK hP 0 rfl rfl 23 (by decide) (hts _ m_fieldLink_M_80_M_waits_aI) (fun _ h9 => h9) rfl dX7_settle_8 ?_
        refine lv_aload_n hx hb dX7_settle_11 rfl (lv_at hl 0 rfl) ?_
        refine va_get (D := D) (ci := 7) (v := .int (fs 25)) (C := RX7) (T := TX7) (N := 73) hx hb hts fw_7 hown hK hP 0 rfl rfl 25 (by decide) (hts _ m_fieldLink_M_86_M_waiting_I) (fun _ h9 => h9) rfl dX7_settle_12 ?_
        refine lv_iconst (v := 1) hx hb dX7_settle_15 (by decide) ?_
        refine lv_isub hx hb dX7_settle_16 ?_
        obtain ⟨hi2, hf⟩ := gd_of hf
        refine va_iald hx hb hK hP 13 0 rfl rfl hi2 dX7_settle_17 ?_
        refine lv_bipush (v := 38) hx hb dX7_settle_18 (by decide) ?_
        refine lv_icmp_eq (tgt := 45) hx hb dX7_settle_20 (by decide) (fun c3 => ?_) (fun c3 => ?_)
        · replace hf := it_of c3 hf
          exact J45 _ ih fs ga hf _ _ hP hD hS _ (lv_sub hl [0, 1] rfl)
        · replace hf := ie_of c3 hf
          refine lv_aload_n hx hb dX7_settle_23 rfl (lv_at hl 0 rfl) ?_
          refine va_get (D := D) (ci := 7) (v := .ref (q 23)) (C := RX7) (T := TX7) (N := 73) hx hb hts fw_7 hown hK hP 0 rfl rfl 23 (by decide) (hts _ m_fieldLink_M_80_M_waits_aI) (fun _ h9 => h9) rfl dX7_settle_24 ?_
          refine lv_aload_n hx hb dX7_settle_27 rfl (lv_at hl 0 rfl) ?_
          refine va_get (D := D) (ci := 7) (v := .int (fs 25)) (C := RX7) (T := TX7) (N := 73) hx hb hts fw_7 hown hK hP 0 rfl rfl 25 (by decide) (hts _ m_fieldLink_M_86_M_waiting_I) (fun _ h9 => h9) rfl dX7_settle_28 ?_
          refine lv_iconst (v := 1) hx hb dX7_settle_31 (by decide) ?_
          refine lv_isub hx hb dX7_settle_32 ?_
          obtain ⟨hi4, hf⟩ := gd_of hf
          refine va_iald hx hb hK hP 13 0 rfl rfl hi4 dX7_settle_33 ?_
          refine lv_bipush (v := 124) hx hb dX7_settle_34 (by decide) ?_
          refine lv_icmp_ne (tgt := 72) hx hb dX7_settle_36 (by decide) (fun c5 => ?_) (fun c5 => ?_)
          · replace hf := ie_of c5 hf
            rw [hQ]
            exact ret_v C0 hP hD hS (by have e := Option.some.inj hf; first | (rw [← e]; done) | (rw [← e]; exact rfl)) dX7_settle_72
          · replace hf := it_of c5 hf
            refine lv_iload_n hx hb dX7_settle_39 rfl (lv_at hl 1 rfl) ?_
            refine lv_bipush (v := 38) hx hb dX7_settle_40 (by decide) ?_
            refine lv_icmp_eq (tgt := 72) hx hb dX7_settle_42 (by decide) (fun c6 => ?_) (fun c6 => ?_)
            · replace hf := it_of c6 hf
              rw [hQ]
              exact ret_v C0 hP hD hS (by have e := Option.some.inj hf; first | (rw [← e]; done) | (rw [← e]; exact rfl)) dX7_settle_72
            · replace hf := ie_of c6 hf
              exact J45 _ ih fs ga hf _ _ hP hD hS _ (lv_sub hl [0, 1] rfl)
  unfold k_X7_settle at hf
  exact J0 100000 fs0 ga0 hf _ _ hP hD hS _ (lv_sub hl [0, 1] rfl)
-- place
noncomputable def k_X7_place (a1 : Int32) : Option Int32 := if a1 = 97 then some 4 else if a1 = 100 then some 5 else if a1 = 107 then some 1 else if a1 = 110 then some 3 else if a1 = 112 then some 0 else if a1 = 118 then some 2 else some (-1)
set_option maxHeartbeats 4000000 in
set_option maxRecDepth 100000 in
theorem c_X7_place {l : Launch} {D : va_G} {cA : Nat → ClassId} (h : Nat)  (a1 : Int32) (o : Int32) (hf : k_X7_place a1 = some o) : CI l D cA yX7_place cX7_place 2 (some .int) 0 0 [.ref h, .int a1] ([] : va_W) 0 0 (fun r w => r = o ∧ w = ([] : va_W)) := by
  intro sz
  refine met_start (by decide) rfl ?_
  intro p e s m args below meth c ls hsz hargs C0 hname hP hD hS hl
  generalize hAe : va_A ([] : va_W) sz = A at C0 hD hS ⊢
  obtain ⟨hx, hb, hr, hml, hown, hts, hlk, hK, hA⟩ := id C0
  replace hl : lv_has ls 2 [(0, .ref h), (1, .int a1)] := hl
  obtain ⟨Q, hQ⟩ : ∃ Q : State → Prop, Q = QI below D A (fun r w => r = o ∧ w = ([] : va_W)) args s 0 0 := ⟨_, rfl⟩
  refine cast (by rw [hQ]) (?_ : W p l e (RMx 0 0 0 0) s m args below meth c s.heap [] 0 0 Q (F0 m 0 ls []))
  unfold k_X7_place at hf
  refine lv_iload_n hx hb dX7_place_0 rfl (lv_at hl 1 rfl) ?_
  by_cases c1 : a1 = 97
  · replace hf := it_of c1 hf
    refine lv_lookup (off := 67) (tgt := 68) hx hb dX7_place_1 (by decide) (by rw [c1]; decide) (by decide) ?_
    refine lv_iconst (v := 4) hx hb dX7_place_68 (by decide) ?_
    rw [hQ]
    exact ret_i C0 hP hD hS (by have e := Option.some.inj hf; rw [← e]; exact ⟨rfl, rfl⟩) dX7_place_69
  · replace hf := ie_of c1 hf
    by_cases c2 : a1 = 100
    · replace hf := it_of c2 hf
      refine lv_lookup (off := 69) (tgt := 70) hx hb dX7_place_1 (by decide) (by rw [c2]; decide) (by decide) ?_
      refine lv_iconst (v := 5) hx hb dX7_place_70 (by decide) ?_
      rw [hQ]
      exact ret_i C0 hP hD hS (by have e := Option.some.inj hf; rw [← e]; exact ⟨rfl, rfl⟩) dX7_place_71
    · replace hf := ie_of c2 hf
      by_cases c3 : a1 = 107
      · replace hf := it_of c3 hf
        refine lv_lookup (off := 61) (tgt := 62) hx hb dX7_place_1 (by decide) (by rw [c3]; decide) (by decide) ?_
        refine lv_iconst (v := 1) hx hb dX7_place_62 (by decide) ?_
        rw [hQ]
        exact ret_i C0 hP hD hS (by have e := Option.some.inj hf; rw [← e]; exact ⟨rfl, rfl⟩) dX7_place_63
      · replace hf := ie_of c3 hf
        by_cases c4 : a1 = 110
        · replace hf := it_of c4 hf
          refine lv_lookup (off := 65) (tgt := 66) hx hb dX7_place_1 (by decide) (by rw [c4]; decide) (by decide) ?_
          refine lv_iconst (v := 3) hx hb dX7_place_66 (by decide) ?_
          rw [hQ]
          exact ret_i C0 hP hD hS (by have e := Option.some.inj hf; rw [← e]; exact ⟨rfl, rfl⟩) dX7_place_67
        · replace hf := ie_of c4 hf
          by_cases c5 : a1 = 112
          · replace hf := it_of c5 hf
            refine lv_lookup (off := 59) (tgt := 60) hx hb dX7_place_1 (by decide) (by rw [c5]; decide) (by decide) ?_
            refine lv_iconst (v := 0) hx hb dX7_place_60 (by decide) ?_
            rw [hQ]
            exact ret_i C0 hP hD hS (by have e := Option.some.inj hf; rw [← e]; exact ⟨rfl, rfl⟩) dX7_place_61
          · replace hf := ie_of c5 hf
            by_cases c6 : a1 = 118
            · replace hf := it_of c6 hf
              refine lv_lookup (off := 63) (tgt := 64) hx hb dX7_place_1 (by decide) (by rw [c6]; decide) (by decide) ?_
              refine lv_iconst (v := 2) hx hb dX7_place_64 (by decide) ?_
              rw [hQ]
              exact ret_i C0 hP hD hS (by have e := Option.some.inj hf; rw [← e]; exact ⟨rfl, rfl⟩) dX7_place_65
            · replace hf := ie_of c6 hf
              refine lv_lookup (off := 71) (tgt := 72) hx hb dX7_place_1 (by decide) (by rw [lv_osw c1 (by decide), lv_osw c2 (by decide), lv_osw c3 (by decide), lv_osw c4 (by decide), lv_osw c5 (by decide), lv_osw c6 (by decide)]; rfl) (by decide) ?_
              refine lv_iconst (v := (-1)) hx hb dX7_place_72 (by decide) ?_
              rw [hQ]
              exact ret_i C0 hP hD hS (by have e := Option.some.inj hf; rw [← e]; exact ⟨rfl, rfl⟩) dX7_place_73
-- takesTest
noncomputable def k_X7_takesTest (fi : Nat → Int32) (fs0 : Nat → Int32) (ga0 : Nat → Nat → Int32) (gs : Nat → Nat → Int32) : Option (Int32 × (Nat → Int32) × (Nat → Nat → Int32)) := b1 (k_X7_next fi fs0 ga0) (fun r1 => b1 (k_X7_place r1) (fun r3 => if 0 ≤ r3 then b1 (k_X7_next fi (upd fs0 14 ((fs0 14) + 1)) ga0) (fun r6 => b1 (k_X7_in r6 60 62) (fun r8 => if r8 = 0 then some (0, (upd fs0 14 ((fs0 14) + 1)), ga0) else b2 (k_X7_takesNumber fi (upd (upd fs0 14 ((fs0 14) + 1)) 14 (((fs0 14) + 1) + 1)) ga0) (fun r12 fs_13 => if r12 = 0 then some (0, fs_13, ga0) else b2 (k_X7_emits (((1000 * r3) + (100 * (r6 - 60))) + (fs_13 15)) fs_13 ga0) (fun fs_17 ga_18 => b2 (k_X7_whole fs_17 ga_18 gs) (fun fs_20 ga_21 => some (1, fs_20, ga_21)))))) else some (0, fs0, ga0)))
set_option maxHeartbeats 4000000 in
set_option maxRecDepth 100000 in
theorem c_X7_takesTest {l : Launch} {D : va_G} {cA : Nat → ClassId} (h : Nat) (q : Nat → Nat) (fi : Nat → Int32) (fs0 : Nat → Int32) (ga0 : Nat → Nat → Int32) (gs : Nat → Nat → Int32) (pl : Nat → Int32) (it : Nat → Int64) (asd : Nat → Int64)  (o : Int32 × (Nat → Int32) × (Nat → Nat → Int32)) (hf : k_X7_takesTest fi fs0 ga0 gs = some o) : CI l D cA yX7_takesTest cX7_takesTest 3 (some .boolean) 3 64 [.ref h] (Mw h q cA fi fs0 ga0 gs pl it asd) 0 0 (fun r w => (r = o.1 ∧ w = (Mw h q cA fi o.2.1 o.2.2 gs pl it asd)) ∧ narrow .boolean (.int r) = .int r) := by
  intro sz
  refine met_start (by decide) rfl ?_
  intro p e s m args below meth c ls hsz hargs C0 hname hP hD hS hl
  generalize hAe : va_A (Mw h q cA fi fs0 ga0 gs pl it asd) sz = A at C0 hD hS ⊢
  obtain ⟨hx, hb, hr, hml, hown, hts, hlk, hK, hA⟩ := id C0
  replace hl : lv_has ls 3 [(0, .ref h)] := hl
  obtain ⟨Q, hQ⟩ : ∃ Q : State → Prop, Q = QI below D A (fun r w => (r = o.1 ∧ w = (Mw h q cA fi o.2.1 o.2.2 gs pl it asd)) ∧ narrow .boolean (.int r) = .int r) args s 0 0 := ⟨_, rfl⟩
  refine cast (by rw [hQ]) (?_ : W p l e (RMx 3 64 0 0) s m args below meth c s.heap [] 0 0 Q (F0 m 0 ls []))
  unfold k_X7_takesTest at hf
  refine lv_aload_n hx hb dX7_takesTest_0 rfl (lv_at hl 0 rfl) ?_
  refine lv_aload_n hx hb dX7_takesTest_1 rfl (lv_at hl 0 rfl) ?_
  obtain ⟨r1q, hq2, hf⟩ := b1_of hf
  refine callVI (As := []) (rest := [.ref h]) (wr := []) C0 (c_X7_next h q fi fs0 ga0 gs pl it asd _ hq2) lk_X7_252_X7_next rfl hP hD hS perm_nil 0 7 rfl rfl rfl hl.1 rfl rfl (Nat.le_of_ble_eq_true rfl) dX7_takesTest_2 ⟨Nat.zero_le _, Nat.zero_le _⟩ (fun r1 w H locs hw hP hD hS => ?_)
  obtain ⟨e1, e2⟩ := hw
  replace e1 : r1 = r1q := e1
  subst e1
  subst e2
  replace hP : va_P D vwCl (Mw h q cA fi fs0 ga0 gs pl it asd) H := hP.nil
  replace hD : va_D A (Mw h q cA fi fs0 ga0 gs pl it asd) := hD.nil
  obtain ⟨r3q, hq4, hf⟩ := b1_of hf
  refine callVI (As := [.int r1]) (rest := []) (wr := (Mw h q cA fi fs0 ga0 gs pl it asd)) C0 (c_X7_place h r1 _ hq4) lk_X7_267_X7_place rfl hP hD hS (List.Perm.refl _) 0 7 rfl rfl rfl hl.1 rfl rfl (Nat.le_of_ble_eq_true rfl) dX7_takesTest_5 ⟨Nat.zero_le _, Nat.zero_le _⟩ (fun r3 w H locs hw hP hD hS => ?_)
  obtain ⟨e1, e2⟩ := hw
  replace e1 : r3 = r3q := e1
  subst e1
  subst e2
  replace hP : va_P D vwCl (Mw h q cA fi fs0 ga0 gs pl it asd) H := hP
  replace hD : va_D A (Mw h q cA fi fs0 ga0 gs pl it asd) := hD
  refine lv_istore_n (lv' := [(1, .int r3), (0, .ref h)]) hx hb dX7_takesTest_8 rfl hl (by decide) rfl (fun ls hl => ?_)
  refine lv_iload_n hx hb dX7_takesTest_9 rfl (lv_at hl 0 rfl) ?_
  refine lv_if_ge (tgt := 15) hx hb dX7_takesTest_10 (by decide) (fun c5 => ?_) (fun c5 => ?_)
  · replace hf := it_of c5 hf
    refine lv_aload_n hx hb dX7_takesTest_15 rfl (lv_at hl 1 rfl) ?_
    refine lv_dup hx hb dX7_takesTest_16 rfl ?_
    refine va_get (D := D) (ci := 7) (v := .int (fs0 14)) (C := RX7) (T := TX7) (N := 73) hx hb hts fw_7 hown hK hP 0 rfl rfl 14 (by decide) (hts _ m_fieldLink_M_53_M_at_I) (fun _ h9 => h9) rfl dX7_takesTest_17 ?_
    refine lv_iconst (v := 1) hx hb dX7_takesTest_20 (by decide) ?_
    refine lv_iadd hx hb dX7_takesTest_21 ?_
    refine va_put (D := D) (ci := 7) (v := .int ((fs0 14) + 1)) (ty := .int) (C := RX7) (T := TX7) (N := 73) hx hb hts fw_7 tyX7 tyX7_ok nmX7 hown hK hP hD hS 0 rfl rfl 14 (by decide) (hts _ m_fieldLink_M_53_M_at_I) (fun _ h9 => h9) rfl (by decide +kernel) rfl rfl (Nat.le_of_ble_eq_true rfl) dX7_takesTest_22 (fun H locs hP hD hS => ?_)
    replace hP : va_P D vwCl (Mw h q cA fi (upd fs0 14 ((fs0 14) + 1)) ga0 gs pl it asd) H := hP
    replace hD : va_D A (Mw h q cA fi (upd fs0 14 ((fs0 14) + 1)) ga0 gs pl it asd) := hD
    refine lv_aload_n hx hb dX7_takesTest_25 rfl (lv_at hl 1 rfl) ?_
    obtain ⟨r6q, hq7, hf⟩ := b1_of hf
    refine callVI (As := []) (rest := []) (wr := []) C0 (c_X7_next h q fi (upd fs0 14 ((fs0 14) + 1)) ga0 gs pl it asd _ hq7) lk_X7_252_X7_next rfl hP hD hS perm_nil 0 7 rfl rfl rfl hl.1 rfl rfl (Nat.le_of_ble_eq_true rfl) dX7_takesTest_26 ⟨Nat.zero_le _, Nat.zero_le _⟩ (fun r6 w H locs hw hP hD hS => ?_)
    obtain ⟨e1, e2⟩ := hw
    replace e1 : r6 = r6q := e1
    subst e1
    subst e2
    replace hP : va_P D vwCl (Mw h q cA fi (upd fs0 14 ((fs0 14) + 1)) ga0 gs pl it asd) H := hP.nil
    replace hD : va_D A (Mw h q cA fi (upd fs0 14 ((fs0 14) + 1)) ga0 gs pl it asd) := hD.nil
    refine lv_istore_n (lv' := [(2, .int r6), (1, .int r3), (0, .ref h)]) hx hb dX7_takesTest_29 rfl hl (by decide) rfl (fun ls hl => ?_)
    refine lv_aload_n hx hb dX7_takesTest_30 rfl (lv_at hl 2 rfl) ?_
    refine lv_iload_n hx hb dX7_takesTest_31 rfl (lv_at hl 0 rfl) ?_
    refine lv_bipush (v := 60) hx hb dX7_takesTest_32 (by decide) ?_
    refine lv_bipush (v := 62) hx hb dX7_takesTest_34 (by decide) ?_
    obtain ⟨r8q, hq9, hf⟩ := b1_of hf
    refine callVI (As := [.int r6, .int 60, .int 62]) (rest := []) (wr := (Mw h q cA fi (upd fs0 14 ((fs0 14) + 1)) ga0 gs pl it asd)) C0 (c_X7_in h r6 60 62 _ hq9) lk_X7_237_X7_in rfl hP hD hS (List.Perm.refl _) 0 7 rfl rfl rfl hl.1 rfl rfl (Nat.le_of_ble_eq_true rfl) dX7_takesTest_36 ⟨Nat.zero_le _, Nat.zero_le _⟩ (fun r8 w H locs hw hP hD hS => ?_)
    obtain ⟨⟨e1, e2⟩, z10⟩ := hw
    replace e1 : r8 = r8q := e1
    subst e1
    subst e2
    replace hP : va_P D vwCl (Mw h q cA fi (upd fs0 14 ((fs0 14) + 1)) ga0 gs pl it asd) H := hP
    replace hD : va_D A (Mw h q cA fi (upd fs0 14 ((fs0 14) + 1)) ga0 gs pl it asd) := hD
    refine lv_if_ne (tgt := 44) hx hb dX7_takesTest_39 (by decide) (fun c11 => ?_) (fun c11 => ?_)
    · replace hf := ie_of c11 hf
      refine lv_aload_n hx hb dX7_takesTest_44 rfl (lv_at hl 2 rfl) ?_
      refine lv_dup hx hb dX7_takesTest_45 rfl ?_
      refine va_get (D := D) (ci := 7) (v := .int ((fs0 14) + 1)) (C := RX7) (T := TX7) (N := 73) hx hb hts fw_7 hown hK hP 0 rfl rfl 14 (by decide) (hts _ m_fieldLink_M_53_M_at_I) (fun _ h9 => h9) rfl dX7_takesTest_46 ?_
      refine lv_iconst (v := 1) hx hb dX7_takesTest_49 (by decide) ?_
      refine lv_iadd hx hb dX7_takesTest_50 ?_
      refine va_put (D := D) (ci := 7) (v := .int (((fs0 14) + 1) + 1)) (ty := .int) (C := RX7) (T := TX7) (N := 73) hx hb hts fw_7 tyX7 tyX7_ok nmX7 hown hK hP hD hS 0 rfl rfl 14 (by decide) (hts _ m_fieldLink_M_53_M_at_I) (fun _ h9 => h9) rfl (by decide +kernel) rfl rfl (Nat.le_of_ble_eq_true rfl) dX7_takesTest_51 (fun H locs hP hD hS => ?_)
      replace hP : va_P D vwCl (Mw h q cA fi (upd (upd fs0 14 ((fs0 14) + 1)) 14 (((fs0 14) + 1) + 1)) ga0 gs pl it asd) H := hP
      replace hD : va_D A (Mw h q cA fi (upd (upd fs0 14 ((fs0 14) + 1)) 14 (((fs0 14) + 1) + 1)) ga0 gs pl it asd) := hD
      refine lv_aload_n hx hb dX7_takesTest_54 rfl (lv_at hl 2 rfl) ?_
      obtain ⟨r12q, fs_13, hq14, hf⟩ := b2_of hf
      refine callVI (As := []) (rest := []) (wr := []) C0 (c_X7_takesNumber h q fi (upd (upd fs0 14 ((fs0 14) + 1)) 14 (((fs0 14) + 1) + 1)) ga0 gs pl it asd _ hq14) lk_X7_271_X7_takesNumber rfl hP hD hS perm_nil 0 7 rfl rfl rfl hl.1 rfl rfl (Nat.le_of_ble_eq_true rfl) dX7_takesTest_55 ⟨Nat.zero_le _, Nat.zero_le _⟩ (fun r12 w H locs hw hP hD hS => ?_)
      obtain ⟨⟨e1, e2⟩, z15⟩ := hw
      replace e1 : r12 = r12q := e1
      subst e1
      subst e2
      replace hP : va_P D vwCl (Mw h q cA fi fs_13 ga0 gs pl it asd) H := hP.nil
      replace hD : va_D A (Mw h q cA fi fs_13 ga0 gs pl it asd) := hD.nil
      refine lv_if_ne (tgt := 63) hx hb dX7_takesTest_58 (by decide) (fun c16 => ?_) (fun c16 => ?_)
      · replace hf := ie_of c16 hf
        refine lv_aload_n hx hb dX7_takesTest_63 rfl (lv_at hl 2 rfl) ?_
        refine lv_sipush (v := 1000) hx hb dX7_takesTest_64 (by decide) ?_
        refine lv_iload_n hx hb dX7_takesTest_67 rfl (lv_at hl 1 rfl) ?_
        refine lv_imul hx hb dX7_takesTest_68 ?_
        refine lv_bipush (v := 100) hx hb dX7_takesTest_69 (by decide) ?_
        refine lv_iload_n hx hb dX7_takesTest_71 rfl (lv_at hl 0 rfl) ?_
        refine lv_bipush (v := 60) hx hb dX7_takesTest_72 (by decide) ?_
        refine lv_isub hx hb dX7_takesTest_74 ?_
        refine lv_imul hx hb dX7_takesTest_75 ?_
        refine lv_iadd hx hb dX7_takesTest_76 ?_
        refine lv_aload_n hx hb dX7_takesTest_77 rfl (lv_at hl 2 rfl) ?_
        refine va_get (D := D) (ci := 7) (v := .int (fs_13 15)) (C := RX7) (T := TX7) (N := 73) hx hb hts fw_7 hown hK hP 0 rfl rfl 15 (by decide) (hts _ m_fieldLink_M_56_M_digits_I) (fun _ h9 => h9) rfl dX7_takesTest_78 ?_
        refine lv_iadd hx hb dX7_takesTest_81 ?_
        obtain ⟨fs_17, ga_18, hq19, hf⟩ := b2_of hf
        refine callVV (As := [.int (((1000 * r3) + (100 * (r6 - 60))) + (fs_13 15))]) (rest := []) (wr := []) C0 (c_X7_emits h q fi fs_13 ga0 gs pl it asd (((1000 * r3) + (100 * (r6 - 60))) + (fs_13 15)) _ hq19) lk_X7_263_X7_emits rfl hP hD hS perm_nil 0 7 rfl rfl rfl hl.1 rfl rfl (Nat.le_of_ble_eq_true rfl) dX7_takesTest_82 ⟨Nat.zero_le _, Nat.zero_le _⟩ (fun w H locs hw hP hD hS => ?_)
        have e2 := hw
        subst e2
        replace hP : va_P D vwCl (Mw h q cA fi fs_17 ga_18 gs pl it asd) H := hP.nil
        replace hD : va_D A (Mw h q cA fi fs_17 ga_18 gs pl it asd) := hD.nil
        refine lv_aload_n hx hb dX7_takesTest_85 rfl (lv_at hl 2 rfl) ?_
        obtain ⟨fs_20, ga_21, hq22, hf⟩ := b2_of hf
        refine callVV (As := []) (rest := []) (wr := []) C0 (c_X7_whole h q fi fs_17 ga_18 gs pl it asd _ hq22) lk_X7_274_X7_whole rfl hP hD hS perm_nil 0 7 rfl rfl rfl hl.1 rfl rfl (Nat.le_of_ble_eq_true rfl) dX7_takesTest_86 ⟨Nat.zero_le _, Nat.zero_le _⟩ (fun w H locs hw hP hD hS => ?_)
        have e2 := hw
        subst e2
        replace hP : va_P D vwCl (Mw h q cA fi fs_20 ga_21 gs pl it asd) H := hP.nil
        replace hD : va_D A (Mw h q cA fi fs_20 ga_21 gs pl it asd) := hD.nil
        refine lv_iconst (v := 1) hx hb dX7_takesTest_89 (by decide) ?_
        rw [hQ]
        exact ret_z C0 hP hD hS (by have e := Option.some.inj hf; rw [← e]; exact ⟨rfl, rfl⟩) rfl dX7_takesTest_90
      · replace hf := it_of c16 hf
        refine lv_iconst (v := 0) hx hb dX7_takesTest_61 (by decide) ?_
        rw [hQ]
        exact ret_z C0 hP hD hS (by have e := Option.some.inj hf; rw [← e]; exact ⟨rfl, rfl⟩) rfl dX7_takesTest_62
    · replace hf := it_of c11 hf
      refine lv_iconst (v := 0) hx hb dX7_takesTest_42 (by decide) ?_
      rw [hQ]
      exact ret_z C0 hP hD hS (by have e := Option.some.inj hf; rw [← e]; exact ⟨rfl, rfl⟩) rfl dX7_takesTest_43
  · replace hf := ie_of c5 hf
    refine lv_iconst (v := 0) hx hb dX7_takesTest_13 (by decide) ?_
    rw [hQ]
    exact ret_z C0 hP hD hS (by have e := Option.some.inj hf; rw [← e]; exact ⟨rfl, rfl⟩) rfl dX7_takesTest_14
-- takesE
noncomputable def k_X7_takesE_122  (kc22 : Int32 → (Nat → Int32) → (Nat → Nat → Int32) → (Nat → Nat → Int32) → Option (Int32 × (Nat → Int32) × (Nat → Nat → Int32) × (Nat → Nat → Int32))) (x3 : Int32) (fs : Nat → Int32) (ga : Nat → Nat → Int32) (gs : Nat → Nat → Int32) : Option (Int32 × (Nat → Int32) × (Nat → Nat → Int32) × (Nat → Nat → Int32)) := b2 (k_X7_settle x3 fs ga gs) (fun fs_1 ga_2 => gd (fs_1 25) 101 (kc22 1 (upd (upd fs_1 25 ((fs_1 25) + 1)) 14 ((fs_1 14) + 1)) ga_2 (va_up gs 23 (upd (gs 23) (Int32.toNatClampNeg (fs_1 25)) x3))))
noncomputable def k_X7_takesE_43  (kc22 : Int32 → (Nat → Int32) → (Nat → Nat → Int32) → (Nat → Nat → Int32) → Option (Int32 × (Nat → Int32) × (Nat → Nat → Int32) × (Nat → Nat → Int32))) (x2 : Int32) (x3 : Int32) (fs : Nat → Int32) (ga : Nat → Nat → Int32) (gs : Nat → Nat → Int32) : Option (Int32 × (Nat → Int32) × (Nat → Nat → Int32) × (Nat → Nat → Int32)) := if (fs 26) = 4 then some (0, fs, ga, gs) else gd (fs 25) 101 (nm (upd (upd (upd fs 26 ((fs 26) + 1)) 25 ((fs 25) + 1)) 14 ((fs 14) + 1)) (fun fs_3 => kc22 x2 fs_3 ga (va_up gs 23 (upd (gs 23) (Int32.toNatClampNeg (fs 25)) x3))))
noncomputable def k_X7_takesE_22 (a1 : Int32) (fi : Nat → Int32) : Nat → Int32 → (Nat → Int32) → (Nat → Nat → Int32) → (Nat → Nat → Int32) → Option (Int32 × (Nat → Int32) × (Nat → Nat → Int32) × (Nat → Nat → Int32))
  | 0, _, _, _, _ => none
  | n + 1, x2, fs, ga, gs => b1 (k_X7_next fi fs ga) (fun r1 => if x2 = 0 then if r1 = 38 then k_X7_takesE_122 (k_X7_takesE_22 a1 fi n) r1 fs ga gs else if r1 = 124 then k_X7_takesE_122 (k_X7_takesE_22 a1 fi n) r1 fs ga gs else b2 (k_X7_settle 124 fs ga gs) (fun fs_6 ga_7 => gd a1 60 (if (fs_6 25) = 0 then some (1, fs_6, (va_up ga_7 21 (upd (ga_7 21) (Int32.toNatClampNeg a1) (fs_6 24))), gs) else if r1 = 41 then nm (upd (upd (upd fs_6 25 ((fs_6 25) - 1)) 26 ((fs_6 26) - 1)) 14 ((fs_6 14) + 1)) (fun fs_12 => b2 (k_X7_whole fs_12 (va_up ga_7 21 (upd (ga_7 21) (Int32.toNatClampNeg a1) (fs_6 24))) gs) (fun fs_14 ga_15 => k_X7_takesE_22 a1 fi n x2 fs_14 ga_15 gs)) else some (0, fs_6, (va_up ga_7 21 (upd (ga_7 21) (Int32.toNatClampNeg a1) (fs_6 24))), gs))) else if r1 = 33 then k_X7_takesE_43 (k_X7_takesE_22 a1 fi n) x2 r1 fs ga gs else if r1 = 40 then k_X7_takesE_43 (k_X7_takesE_22 a1 fi n) x2 r1 fs ga gs else b3 (k_X7_takesTest fi fs ga gs) (fun r19 fs_20 ga_21 => if r19 = 0 then some (0, fs_20, ga_21, gs) else k_X7_takesE_22 a1 fi n 0 fs_20 ga_21 gs))
noncomputable def k_X7_takesE (a1 : Int32) (fi : Nat → Int32) (fs0 : Nat → Int32) (ga0 : Nat → Nat → Int32) (gs0 : Nat → Nat → Int32) : Option (Int32 × (Nat → Int32) × (Nat → Nat → Int32) × (Nat → Nat → Int32)) := gd a1 60 (k_X7_takesE_22 a1 fi 100000 1 (upd (upd fs0 25 0) 26 0) (va_up ga0 20 (upd (ga0 20) (Int32.toNatClampNeg a1) (fs0 24))) gs0)
set_option maxHeartbeats 4000000 in
set_option maxRecDepth 100000 in
theorem c_X7_takesE {l : Launch} {D : va_G} {cA : Nat → ClassId} (h : Nat) (q : Nat → Nat) (fi : Nat → Int32) (fs0 : Nat → Int32) (ga0 : Nat → Nat → Int32) (gs0 : Nat → Nat → Int32) (pl : Nat → Int32) (it : Nat → Int64) (asd : Nat → Int64) (a1 : Int32) (o : Int32 × (Nat → Int32) × (Nat → Nat → Int32) × (Nat → Nat → Int32)) (hf : k_X7_takesE a1 fi fs0 ga0 gs0 = some o) : CI l D cA yX7_takesE cX7_takesE 4 (some .boolean) 4 86 [.ref h, .int a1] (Mw h q cA fi fs0 ga0 gs0 pl it asd) 0 0 (fun r w => (r = o.1 ∧ w = (Mw h q cA fi o.2.1 o.2.2.1 o.2.2.2 pl it asd)) ∧ narrow .boolean (.int r) = .int r) := by
  intro sz
  refine met_start (by decide) rfl ?_
  intro p e s m args below meth c ls hsz hargs C0 hname hP hD hS hl
  generalize hAe : va_A (Mw h q cA fi fs0 ga0 gs0 pl it asd) sz = A at C0 hD hS ⊢
  obtain ⟨hx, hb, hr, hml, hown, hts, hlk, hK, hA⟩ := id C0
  replace hl : lv_has ls 4 [(0, .ref h), (1, .int a1)] := hl
  obtain ⟨Q, hQ⟩ : ∃ Q : State → Prop, Q = QI below D A (fun r w => (r = o.1 ∧ w = (Mw h q cA fi o.2.1 o.2.2.1 o.2.2.2 pl it asd)) ∧ narrow .boolean (.int r) = .int r) args s 0 0 := ⟨_, rfl⟩
  refine cast (by rw [hQ]) (?_ : W p l e (RMx 4 86 0 0) s m args below meth c s.heap [] 0 0 Q (F0 m 0 ls []))
  have J122 : ∀ (kc22 : Int32 → (Nat → Int32) → (Nat → Nat → Int32) → (Nat → Nat → Int32) → Option (Int32 × (Nat → Int32) × (Nat → Nat → Int32) × (Nat → Nat → Int32))) (hkc22 : ∀ (x2 : Int32) (fs : Nat → Int32) (ga : Nat → Nat → Int32) (gs : Nat → Nat → Int32), kc22 x2 fs ga gs = some o → ∀ (H : Heap) (locs : List Loc), va_P D vwCl (Mw h q cA fi fs ga gs pl it asd) H → va_D A (Mw h q cA fi fs ga gs pl it asd) → va_S A s.heap H locs → ∀ ls : Array Slot, lv_has ls 4 [(0, .ref h), (1, .int a1), (2, .int x2)] → W p l e (RMx 4 86 0 0) s m args below meth c H locs 0 0 Q (F0 m 22 ls [])), ∀ (x3 : Int32) (fs : Nat → Int32) (ga : Nat → Nat → Int32) (gs : Nat → Nat → Int32), k_X7_takesE_122 kc22 x3 fs ga gs = some o → ∀ (H : Heap) (locs : List Loc), va_P D vwCl (Mw h q cA fi fs ga gs pl it asd) H → va_D A (Mw h q cA fi fs ga gs pl it asd) → va_S A s.heap H locs → ∀ ls : Array Slot, lv_has ls 4 [(0, .ref h), (1, .int a1), (3, .int x3)] → W p l e (RMx 4 86 0 0) s m args below meth c H locs 0 0 Q (F0 m 122 ls []) := by
    intro kc22 hkc22 x3 fs ga gs hf H locs hP hD hS ls hl
    unfold k_X7_takesE_122 at hf
    refine lv_aload_n hx hb dX7_takesE_122 rfl (lv_at hl 0 rfl) ?_
    refine lv_iload_n hx hb dX7_takesE_123 rfl (lv_at hl 2 rfl) ?_
    obtain ⟨fs_1, ga_2, hq3, hf⟩ := b2_of hf
    refine callVV (As := [.int x3]) (rest := []) (wr := []) C0 (c_X7_settle h q fi fs ga gs pl it asd x3 _ hq3) lk_X7_280_X7_settle rfl hP hD hS perm_nil 0 7 rfl rfl rfl hl.1 rfl rfl (Nat.le_of_ble_eq_true rfl) dX7_takesE_124 ⟨Nat.zero_le _, Nat.zero_le _⟩ (fun w H locs hw hP hD hS => ?_)
    have e2 := hw
    subst e2
    replace hP : va_P D vwCl (Mw h q cA fi fs_1 ga_2 gs pl it asd) H := hP.nil
    replace hD : va_D A (Mw h q cA fi fs_1 ga_2 gs pl it asd) := hD.nil
    refine lv_aload_n hx hb dX7_takesE_127 rfl (lv_at hl 0 rfl) ?_
    refine va_get (D := D) (ci := 7) (v := .ref (q 23)) (C := RX7) (T := TX7) (N := 73) hx hb hts fw_7 hown hK hP 0 rfl rfl 23 (by decide) (hts _ m_fieldLink_M_80_M_waits_aI) (fun _ h9 => h9) rfl dX7_takesE_128 ?_
    refine lv_aload_n hx hb dX7_takesE_131 rfl (lv_at hl 0 rfl) ?_
    refine va_get (D := D) (ci := 7) (v := .int (fs_1 25)) (C := RX7) (T := TX7) (N := 73) hx hb hts fw_7 hown hK hP 0 rfl rfl 25 (by decide) (hts _ m_fieldLink_M_86_M_waiting_I) (fun _ h9 => h9) rfl dX7_takesE_132 ?_
    refine lv_iload_n hx hb dX7_takesE_135 rfl (lv_at hl 2 rfl) ?_
    obtain ⟨hi4, hf⟩ := gd_of hf
    refine va_iast hx hb hK hP hD hS 13 0 rfl rfl hi4 dX7_takesE_136 (fun H locs hP hD hS => ?_)
    replace hP : va_P D vwCl (Mw h q cA fi fs_1 ga_2 (va_up gs 23 (upd (gs 23) (Int32.toNatClampNeg (fs_1 25)) x3)) pl it asd) H := hP
    replace hD : va_D A (Mw h q cA fi fs_1 ga_2 (va_up gs 23 (upd (gs 23) (Int32.toNatClampNeg (fs_1 25)) x3)) pl it asd) := hD
    refine lv_aload_n hx hb dX7_takesE_137 rfl (lv_at hl 0 rfl) ?_
    refine lv_dup hx hb dX7_takesE_138 rfl ?_
    refine va_get (D := D) (ci := 7) (v := .int (fs_1 25)) (C := RX7) (T := TX7) (N := 73) hx hb hts fw_7 hown hK hP 0 rfl rfl 25 (by decide) (hts _ m_fieldLink_M_86_M_waiting_I) (fun _ h9 => h9) rfl dX7_takesE_139 ?_
    refine lv_iconst (v := 1) hx hb dX7_takesE_142 (by decide) ?_
    refine lv_iadd hx hb dX7_takesE_143 ?_
    refine va_put (D := D) (ci := 7) (v := .int ((fs_1 25) + 1)) (ty := .int) (C := RX7) (T := TX7) (N := 73) hx hb hts fw_7 tyX7 tyX7_ok nmX7 hown hK hP hD hS 0 rfl rfl 25 (by decide) (hts _ m_fieldLink_M_86_M_waiting_I) (fun _ h9 => h9) rfl (by decide +kernel) rfl rfl (Nat.le_of_ble_eq_true rfl) dX7_takesE_144 (fun H locs hP hD hS => ?_)
    replace hP : va_P D vwCl (Mw h q cA fi (upd fs_1 25 ((fs_1 25) + 1)) ga_2 (va_up gs 23 (upd (gs 23) (Int32.toNatClampNeg (fs_1 25)) x3)) pl it asd) H := hP
    replace hD : va_D A (Mw h q cA fi (upd fs_1 25 ((fs_1 25) + 1)) ga_2 (va_up gs 23 (upd (gs 23) (Int32.toNatClampNeg (fs_1 25)) x3)) pl it asd) := hD
    refine lv_iconst (v := 1) hx hb dX7_takesE_147 (by decide) ?_
    refine lv_istore_n (lv' := [(2, .int 1), (0, .ref h), (1, .int a1), (3, .int x3)]) hx hb dX7_takesE_148 rfl hl (by decide) rfl (fun ls hl => ?_)
    refine lv_aload_n hx hb dX7_takesE_149 rfl (lv_at hl 1 rfl) ?_
    refine lv_dup hx hb dX7_takesE_150 rfl ?_
    refine va_get (D := D) (ci := 7) (v := .int (fs_1 14)) (C := RX7) (T := TX7) (N := 73) hx hb hts fw_7 hown hK hP 0 rfl rfl 14 (by decide) (hts _ m_fieldLink_M_53_M_at_I) (fun _ h9 => h9) rfl dX7_takesE_151 ?_
    refine lv_iconst (v := 1) hx hb dX7_takesE_154 (by decide) ?_
    refine lv_iadd hx hb dX7_takesE_155 ?_
    refine va_put (D := D) (ci := 7) (v := .int ((fs_1 14) + 1)) (ty := .int) (C := RX7) (T := TX7) (N := 73) hx hb hts fw_7 tyX7 tyX7_ok nmX7 hown hK hP hD hS 0 rfl rfl 14 (by decide) (hts _ m_fieldLink_M_53_M_at_I) (fun _ h9 => h9) rfl (by decide +kernel) rfl rfl (Nat.le_of_ble_eq_true rfl) dX7_takesE_156 (fun H locs hP hD hS => ?_)
    replace hP : va_P D vwCl (Mw h q cA fi (upd (upd fs_1 25 ((fs_1 25) + 1)) 14 ((fs_1 14) + 1)) ga_2 (va_up gs 23 (upd (gs 23) (Int32.toNatClampNeg (fs_1 25)) x3)) pl it asd) H := hP
    replace hD : va_D A (Mw h q cA fi (upd (upd fs_1 25 ((fs_1 25) + 1)) 14 ((fs_1 14) + 1)) ga_2 (va_up gs 23 (upd (gs 23) (Int32.toNatClampNeg (fs_1 25)) x3)) pl it asd) := hD
    refine lv_goto (tgt := 22) hx hb dX7_takesE_159 (by decide) ?_
    exact hkc22 1 (upd (upd fs_1 25 ((fs_1 25) + 1)) 14 ((fs_1 14) + 1)) ga_2 (va_up gs 23 (upd (gs 23) (Int32.toNatClampNeg (fs_1 25)) x3)) hf _ _ hP hD hS _ (lv_sub hl [1, 2, 0] rfl)
  have J43 : ∀ (kc22 : Int32 → (Nat → Int32) → (Nat → Nat → Int32) → (Nat → Nat → Int32) → Option (Int32 × (Nat → Int32) × (Nat → Nat → Int32) × (Nat → Nat → Int32))) (hkc22 : ∀ (x2 : Int32) (fs : Nat → Int32) (ga : Nat → Nat → Int32) (gs : Nat → Nat → Int32), kc22 x2 fs ga gs = some o → ∀ (H : Heap) (locs : List Loc), va_P D vwCl (Mw h q cA fi fs ga gs pl it asd) H → va_D A (Mw h q cA fi fs ga gs pl it asd) → va_S A s.heap H locs → ∀ ls : Array Slot, lv_has ls 4 [(0, .ref h), (1, .int a1), (2, .int x2)] → W p l e (RMx 4 86 0 0) s m args below meth c H locs 0 0 Q (F0 m 22 ls [])), ∀ (x2 : Int32) (x3 : Int32) (fs : Nat → Int32) (ga : Nat → Nat → Int32) (gs : Nat → Nat → Int32), k_X7_takesE_43 kc22 x2 x3 fs ga gs = some o → ∀ (H : Heap) (locs : List Loc), va_P D vwCl (Mw h q cA fi fs ga gs pl it asd) H → va_D A (Mw h q cA fi fs ga gs pl it asd) → va_S A s.heap H locs → ∀ ls : Array Slot, lv_has ls 4 [(0, .ref h), (1, .int a1), (2, .int x2), (3, .int x3)] → W p l e (RMx 4 86 0 0) s m args below meth c H locs 0 0 Q (F0 m 43 ls []) := by
    intro kc22 hkc22 x2 x3 fs ga gs hf H locs hP hD hS ls hl
    unfold k_X7_takesE_43 at hf
    refine lv_aload_n hx hb dX7_takesE_43 rfl (lv_at hl 0 rfl) ?_
    refine va_get (D := D) (ci := 7) (v := .int (fs 26)) (C := RX7) (T := TX7) (N := 73) hx hb hts fw_7 hown hK hP 0 rfl rfl 26 (by decide) (hts _ m_fieldLink_M_89_M_open_I) (fun _ h9 => h9) rfl dX7_takesE_44 ?_
    refine lv_iconst (v := 4) hx hb dX7_takesE_47 (by decide) ?_
    refine lv_icmp_ne (tgt := 53) hx hb dX7_takesE_48 (by decide) (fun c1 => ?_) (fun c1 => ?_)
    · replace hf := ie_of c1 hf
      refine lv_aload_n hx hb dX7_takesE_53 rfl (lv_at hl 0 rfl) ?_
      refine lv_dup hx hb dX7_takesE_54 rfl ?_
      refine va_get (D := D) (ci := 7) (v := .int (fs 26)) (C := RX7) (T := TX7) (N := 73) hx hb hts fw_7 hown hK hP 0 rfl rfl 26 (by decide) (hts _ m_fieldLink_M_89_M_open_I) (fun _ h9 => h9) rfl dX7_takesE_55 ?_
      refine lv_iconst (v := 1) hx hb dX7_takesE_58 (by decide) ?_
      refine lv_iadd hx hb dX7_takesE_59 ?_
      refine va_put (D := D) (ci := 7) (v := .int ((fs 26) + 1)) (ty := .int) (C := RX7) (T := TX7) (N := 73) hx hb hts fw_7 tyX7 tyX7_ok nmX7 hown hK hP hD hS 0 rfl rfl 26 (by decide) (hts _ m_fieldLink_M_89_M_open_I) (fun _ h9 => h9) rfl (by decide +kernel) rfl rfl (Nat.le_of_ble_eq_true rfl) dX7_takesE_60 (fun H locs hP hD hS => ?_)
      replace hP : va_P D vwCl (Mw h q cA fi (upd fs 26 ((fs 26) + 1)) ga gs pl it asd) H := hP
      replace hD : va_D A (Mw h q cA fi (upd fs 26 ((fs 26) + 1)) ga gs pl it asd) := hD
      refine lv_aload_n hx hb dX7_takesE_63 rfl (lv_at hl 0 rfl) ?_
      refine va_get (D := D) (ci := 7) (v := .ref (q 23)) (C := RX7) (T := TX7) (N := 73) hx hb hts fw_7 hown hK hP 0 rfl rfl 23 (by decide) (hts _ m_fieldLink_M_80_M_waits_aI) (fun _ h9 => h9) rfl dX7_takesE_64 ?_
      refine lv_aload_n hx hb dX7_takesE_67 rfl (lv_at hl 0 rfl) ?_
      refine va_get (D := D) (ci := 7) (v := .int (fs 25)) (C := RX7) (T := TX7) (N := 73) hx hb hts fw_7 hown hK hP 0 rfl rfl 25 (by decide) (hts _ m_fieldLink_M_86_M_waiting_I) (fun _ h9 => h9) rfl dX7_takesE_68 ?_
      refine lv_iload_n hx hb dX7_takesE_71 rfl (lv_at hl 3 rfl) ?_
      obtain ⟨hi2, hf⟩ := gd_of hf
      refine va_iast hx hb hK hP hD hS 13 0 rfl rfl hi2 dX7_takesE_72 (fun H locs hP hD hS => ?_)
      replace hP : va_P D vwCl (Mw h q cA fi (upd fs 26 ((fs 26) + 1)) ga (va_up gs 23 (upd (gs 23) (Int32.toNatClampNeg (fs 25)) x3)) pl it asd) H := hP
      replace hD : va_D A (Mw h q cA fi (upd fs 26 ((fs 26) + 1)) ga (va_up gs 23 (upd (gs 23) (Int32.toNatClampNeg (fs 25)) x3)) pl it asd) := hD
      refine lv_aload_n hx hb dX7_takesE_73 rfl (lv_at hl 0 rfl) ?_
      refine lv_dup hx hb dX7_takesE_74 rfl ?_
      refine va_get (D := D) (ci := 7) (v := .int (fs 25)) (C := RX7) (T := TX7) (N := 73) hx hb hts fw_7 hown hK hP 0 rfl rfl 25 (by decide) (hts _ m_fieldLink_M_86_M_waiting_I) (fun _ h9 => h9) rfl dX7_takesE_75 ?_
      refine lv_iconst (v := 1) hx hb dX7_takesE_78 (by decide) ?_
      refine lv_iadd hx hb dX7_takesE_79 ?_
      refine va_put (D := D) (ci := 7) (v := .int ((fs 25) + 1)) (ty := .int) (C := RX7) (T := TX7) (N := 73) hx hb hts fw_7 tyX7 tyX7_ok nmX7 hown hK hP hD hS 0 rfl rfl 25 (by decide) (hts _ m_fieldLink_M_86_M_waiting_I) (fun _ h9 => h9) rfl (by decide +kernel) rfl rfl (Nat.le_of_ble_eq_true rfl) dX7_takesE_80 (fun H locs hP hD hS => ?_)
      replace hP : va_P D vwCl (Mw h q cA fi (upd (upd fs 26 ((fs 26) + 1)) 25 ((fs 25) + 1)) ga (va_up gs 23 (upd (gs 23) (Int32.toNatClampNeg (fs 25)) x3)) pl it asd) H := hP
      replace hD : va_D A (Mw h q cA fi (upd (upd fs 26 ((fs 26) + 1)) 25 ((fs 25) + 1)) ga (va_up gs 23 (upd (gs 23) (Int32.toNatClampNeg (fs 25)) x3)) pl it asd) := hD
      refine lv_aload_n hx hb dX7_takesE_83 rfl (lv_at hl 0 rfl) ?_
      refine lv_dup hx hb dX7_takesE_84 rfl ?_
      refine va_get (D := D) (ci := 7) (v := .int (fs 14)) (C := RX7) (T := TX7) (N := 73) hx hb hts fw_7 hown hK hP 0 rfl rfl 14 (by decide) (hts _ m_fieldLink_M_53_M_at_I) (fun _ h9 => h9) rfl dX7_takesE_85 ?_
      refine lv_iconst (v := 1) hx hb dX7_takesE_88 (by decide) ?_
      refine lv_iadd hx hb dX7_takesE_89 ?_
      refine va_put (D := D) (ci := 7) (v := .int ((fs 14) + 1)) (ty := .int) (C := RX7) (T := TX7) (N := 73) hx hb hts fw_7 tyX7 tyX7_ok nmX7 hown hK hP hD hS 0 rfl rfl 14 (by decide) (hts _ m_fieldLink_M_53_M_at_I) (fun _ h9 => h9) rfl (by decide +kernel) rfl rfl (Nat.le_of_ble_eq_true rfl) dX7_takesE_90 (fun H locs hP hD hS => ?_)
      replace hP : va_P D vwCl (Mw h q cA fi (upd (upd (upd fs 26 ((fs 26) + 1)) 25 ((fs 25) + 1)) 14 ((fs 14) + 1)) ga (va_up gs 23 (upd (gs 23) (Int32.toNatClampNeg (fs 25)) x3)) pl it asd) H := hP
      replace hD : va_D A (Mw h q cA fi (upd (upd (upd fs 26 ((fs 26) + 1)) 25 ((fs 25) + 1)) 14 ((fs 14) + 1)) ga (va_up gs 23 (upd (gs 23) (Int32.toNatClampNeg (fs 25)) x3)) pl it asd) := hD
      obtain ⟨fs_3, hv4, hf⟩ := nm_of hf
      replace hP : va_P D vwCl (Mw h q cA fi fs_3 ga (va_up gs 23 (upd (gs 23) (Int32.toNatClampNeg (fs 25)) x3)) pl it asd) H := by rw [hv4]; exact hP
      replace hD : va_D A (Mw h q cA fi fs_3 ga (va_up gs 23 (upd (gs 23) (Int32.toNatClampNeg (fs 25)) x3)) pl it asd) := by rw [hv4]; exact hD
      refine lv_goto (tgt := 22) hx hb dX7_takesE_93 (by decide) ?_
      exact hkc22 x2 fs_3 ga (va_up gs 23 (upd (gs 23) (Int32.toNatClampNeg (fs 25)) x3)) hf _ _ hP hD hS _ (lv_sub hl [0, 1, 2] rfl)
    · replace hf := it_of c1 hf
      refine lv_iconst (v := 0) hx hb dX7_takesE_51 (by decide) ?_
      rw [hQ]
      exact ret_z C0 hP hD hS (by have e := Option.some.inj hf; rw [← e]; exact ⟨rfl, rfl⟩) rfl dX7_takesE_52
  have J22 : ∀ n : Nat, ∀ (x2 : Int32) (fs : Nat → Int32) (ga : Nat → Nat → Int32) (gs : Nat → Nat → Int32), k_X7_takesE_22 a1 fi n x2 fs ga gs = some o → ∀ (H : Heap) (locs : List Loc), va_P D vwCl (Mw h q cA fi fs ga gs pl it asd) H → va_D A (Mw h q cA fi fs ga gs pl it asd) → va_S A s.heap H locs → ∀ ls : Array Slot, lv_has ls 4 [(0, .ref h), (1, .int a1), (2, .int x2)] → W p l e (RMx 4 86 0 0) s m args below meth c H locs 0 0 Q (F0 m 22 ls []) := by
    intro  n
    induction n with
    | zero =>
      intro x2 fs ga gs hf
      rw [k_X7_takesE_22] at hf
      cases hf
    | succ n ih =>
      intro x2 fs ga gs hf H locs hP hD hS ls hl
      rw [k_X7_takesE_22] at hf
      refine lv_aload_n hx hb dX7_takesE_22 rfl (lv_at hl 0 rfl) ?_
      obtain ⟨r1q, hq2, hf⟩ := b1_of hf
      refine callVI (As := []) (rest := []) (wr := []) C0 (c_X7_next h q fi fs ga gs pl it asd _ hq2) lk_X7_252_X7_next rfl hP hD hS perm_nil 0 7 rfl rfl rfl hl.1 rfl rfl (Nat.le_of_ble_eq_true rfl) dX7_takesE_23 ⟨Nat.zero_le _, Nat.zero_le _⟩ (fun r1 w H locs hw hP hD hS => ?_)
      obtain ⟨e1, e2⟩ := hw
      replace e1 : r1 = r1q := e1
      subst e1
      subst e2
      replace hP : va_P D vwCl (Mw h q cA fi fs ga gs pl it asd) H := hP.nil
      replace hD : va_D A (Mw h q cA fi fs ga gs pl it asd) := hD.nil
      refine lv_istore_n (lv' := [(3, .int r1), (0, .ref h), (1, .int a1), (2, .int x2)]) hx hb dX7_takesE_26 rfl hl (by decide) rfl (fun ls hl => ?_)
      refine lv_iload_n hx hb dX7_takesE_27 rfl (lv_at hl 3 rfl) ?_
      refine lv_if_eq (tgt := 110) hx hb dX7_takesE_28 (by decide) (fun c3 => ?_) (fun c3 => ?_)
      · replace hf := it_of c3 hf
        refine lv_iload_n hx hb dX7_takesE_110 rfl (lv_at hl 0 rfl) ?_
        refine lv_bipush (v := 38) hx hb dX7_takesE_111 (by decide) ?_
        refine lv_icmp_eq (tgt := 122) hx hb dX7_takesE_113 (by decide) (fun c4 => ?_) (fun c4 => ?_)
        · replace hf := it_of c4 hf
          exact J122 _ ih r1 fs ga gs hf _ _ hP hD hS _ (lv_sub hl [1, 2, 0] rfl)
        · replace hf := ie_of c4 hf
          refine lv_iload_n hx hb dX7_takesE_116 rfl (lv_at hl 0 rfl) ?_
          refine lv_bipush (v := 124) hx hb dX7_takesE_117 (by decide) ?_
          refine lv_icmp_ne (tgt := 162) hx hb dX7_takesE_119 (by decide) (fun c5 => ?_) (fun c5 => ?_)
          · replace hf := ie_of c5 hf
            refine lv_aload_n hx hb dX7_takesE_162 rfl (lv_at hl 1 rfl) ?_
            refine lv_bipush (v := 124) hx hb dX7_takesE_163 (by decide) ?_
            obtain ⟨fs_6, ga_7, hq8, hf⟩ := b2_of hf
            refine callVV (As := [.int 124]) (rest := []) (wr := []) C0 (c_X7_settle h q fi fs ga gs pl it asd 124 _ hq8) lk_X7_280_X7_settle rfl hP hD hS perm_nil 0 7 rfl rfl rfl hl.1 rfl rfl (Nat.le_of_ble_eq_true rfl) dX7_takesE_165 ⟨Nat.zero_le _, Nat.zero_le _⟩ (fun w H locs hw hP hD hS => ?_)
            have e2 := hw
            subst e2
            replace hP : va_P D vwCl (Mw h q cA fi fs_6 ga_7 gs pl it asd) H := hP.nil
            replace hD : va_D A (Mw h q cA fi fs_6 ga_7 gs pl it asd) := hD.nil
            refine lv_aload_n hx hb dX7_takesE_168 rfl (lv_at hl 1 rfl) ?_
            refine va_get (D := D) (ci := 7) (v := .ref (q 21)) (C := RX7) (T := TX7) (N := 73) hx hb hts fw_7 hown hK hP 0 rfl rfl 21 (by decide) (hts _ m_fieldLink_M_74_M_to_aI) (fun _ h9 => h9) rfl dX7_takesE_169 ?_
            refine lv_iload_n hx hb dX7_takesE_172 rfl (lv_at hl 2 rfl) ?_
            refine lv_aload_n hx hb dX7_takesE_173 rfl (lv_at hl 1 rfl) ?_
            refine va_get (D := D) (ci := 7) (v := .int (fs_6 24)) (C := RX7) (T := TX7) (N := 73) hx hb hts fw_7 hown hK hP 0 rfl rfl 24 (by decide) (hts _ m_fieldLink_M_83_M_signs_I) (fun _ h9 => h9) rfl dX7_takesE_174 ?_
            obtain ⟨hi9, hf⟩ := gd_of hf
            refine va_iast hx hb hK hP hD hS 11 0 rfl rfl hi9 dX7_takesE_177 (fun H locs hP hD hS => ?_)
            replace hP : va_P D vwCl (Mw h q cA fi fs_6 (va_up ga_7 21 (upd (ga_7 21) (Int32.toNatClampNeg a1) (fs_6 24))) gs pl it asd) H := hP
            replace hD : va_D A (Mw h q cA fi fs_6 (va_up ga_7 21 (upd (ga_7 21) (Int32.toNatClampNeg a1) (fs_6 24))) gs pl it asd) := hD
            refine lv_aload_n hx hb dX7_takesE_178 rfl (lv_at hl 1 rfl) ?_
            refine va_get (D := D) (ci := 7) (v := .int (fs_6 25)) (C := RX7) (T := TX7) (N := 73) hx hb hts fw_7 hown hK hP 0 rfl rfl 25 (by decide) (hts _ m_fieldLink_M_86_M_waiting_I) (fun _ h9 => h9) rfl dX7_takesE_179 ?_
            refine lv_if_ne (tgt := 187) hx hb dX7_takesE_182 (by decide) (fun c10 => ?_) (fun c10 => ?_)
            · replace hf := ie_of c10 hf
              refine lv_iload_n hx hb dX7_takesE_187 rfl (lv_at hl 0 rfl) ?_
              refine lv_bipush (v := 41) hx hb dX7_takesE_188 (by decide) ?_
              refine lv_icmp_eq (tgt := 195) hx hb dX7_takesE_190 (by decide) (fun c11 => ?_) (fun c11 => ?_)
              · replace hf := it_of c11 hf
                refine lv_aload_n hx hb dX7_takesE_195 rfl (lv_at hl 1 rfl) ?_
                refine lv_dup hx hb dX7_takesE_196 rfl ?_
                refine va_get (D := D) (ci := 7) (v := .int (fs_6 25)) (C := RX7) (T := TX7) (N := 73) hx hb hts fw_7 hown hK hP 0 rfl rfl 25 (by decide) (hts _ m_fieldLink_M_86_M_waiting_I) (fun _ h9 => h9) rfl dX7_takesE_197 ?_
                refine lv_iconst (v := 1) hx hb dX7_takesE_200 (by decide) ?_
                refine lv_isub hx hb dX7_takesE_201 ?_
                refine va_put (D := D) (ci := 7) (v := .int ((fs_6 25) - 1)) (ty := .int) (C := RX7) (T := TX7) (N := 73) hx hb hts fw_7 tyX7 tyX7_ok nmX7 hown hK hP hD hS 0 rfl rfl 25 (by decide) (hts _ m_fieldLink_M_86_M_waiting_I) (fun _ h9 => h9) rfl (by decide +kernel) rfl rfl (Nat.le_of_ble_eq_true rfl) dX7_takesE_202 (fun H locs hP hD hS => ?_)
                replace hP : va_P D vwCl (Mw h q cA fi (upd fs_6 25 ((fs_6 25) - 1)) (va_up ga_7 21 (upd (ga_7 21) (Int32.toNatClampNeg a1) (fs_6 24))) gs pl it asd) H := hP
                replace hD : va_D A (Mw h q cA fi (upd fs_6 25 ((fs_6 25) - 1)) (va_up ga_7 21 (upd (ga_7 21) (Int32.toNatClampNeg a1) (fs_6 24))) gs pl it asd) := hD
                refine lv_aload_n hx hb dX7_takesE_205 rfl (lv_at hl 1 rfl) ?_
                refine lv_dup hx hb dX7_takesE_206 rfl ?_
                refine va_get (D := D) (ci := 7) (v := .int (fs_6 26)) (C := RX7) (T := TX7) (N := 73) hx hb hts fw_7 hown hK hP 0 rfl rfl 26 (by decide) (hts _ m_fieldLink_M_89_M_open_I) (fun _ h9 => h9) rfl dX7_takesE_207 ?_
                refine lv_iconst (v := 1) hx hb dX7_takesE_210 (by decide) ?_
                refine lv_isub hx hb dX7_takesE_211 ?_
                refine va_put (D := D) (ci := 7) (v := .int ((fs_6 26) - 1)) (ty := .int) (C := RX7) (T := TX7) (N := 73) hx hb hts fw_7 tyX7 tyX7_ok nmX7 hown hK hP hD hS 0 rfl rfl 26 (by decide) (hts _ m_fieldLink_M_89_M_open_I) (fun _ h9 => h9) rfl (by decide +kernel) rfl rfl (Nat.le_of_ble_eq_true rfl) dX7_takesE_212 (fun H locs hP hD hS => ?_)
                replace hP : va_P D vwCl (Mw h q cA fi (upd (upd fs_6 25 ((fs_6 25) - 1)) 26 ((fs_6 26) - 1)) (va_up ga_7 21 (upd (ga_7 21) (Int32.toNatClampNeg a1) (fs_6 24))) gs pl it asd) H := hP
                replace hD : va_D A (Mw h q cA fi (upd (upd fs_6 25 ((fs_6 25) - 1)) 26 ((fs_6 26) - 1)) (va_up ga_7 21 (upd (ga_7 21) (Int32.toNatClampNeg a1) (fs_6 24))) gs pl it asd) := hD
                refine lv_aload_n hx hb dX7_takesE_215 rfl (lv_at hl 1 rfl) ?_
                refine lv_dup hx hb dX7_takesE_216 rfl ?_
                refine va_get (D := D) (ci := 7) (v := .int (fs_6 14)) (C := RX7) (T := TX7) (N := 73) hx hb hts fw_7 hown hK hP 0 rfl rfl 14 (by decide) (hts _ m_fieldLink_M_53_M_at_I) (fun _ h9 => h9) rfl dX7_takesE_217 ?_
                refine lv_iconst (v := 1) hx hb dX7_takesE_220 (by decide) ?_
                refine lv_iadd hx hb dX7_takesE_221 ?_
                refine va_put (D := D) (ci := 7) (v := .int ((fs_6 14) + 1)) (ty := .int) (C := RX7) (T := TX7) (N := 73) hx hb hts fw_7 tyX7 tyX7_ok nmX7 hown hK hP hD hS 0 rfl rfl 14 (by decide) (hts _ m_fieldLink_M_53_M_at_I) (fun _ h9 => h9) rfl (by decide +kernel) rfl rfl (Nat.le_of_ble_eq_true rfl) dX7_takesE_222 (fun H locs hP hD hS => ?_)
                replace hP : va_P D vwCl (Mw h q cA fi (upd (upd (upd fs_6 25 ((fs_6 25) - 1)) 26 ((fs_6 26) - 1)) 14 ((fs_6 14) + 1)) (va_up ga_7 21 (upd (ga_7 21) (Int32.toNatClampNeg a1) (fs_6 24))) gs pl it asd) H := hP
                replace hD : va_D A (Mw h q cA fi (upd (upd (upd fs_6 25 ((fs_6 25) - 1)) 26 ((fs_6 26) - 1)) 14 ((fs_6 14) + 1)) (va_up ga_7 21 (upd (ga_7 21) (Int32.toNatClampNeg a1) (fs_6 24))) gs pl it asd) := hD
                obtain ⟨fs_12, hv13, hf⟩ := nm_of hf
                replace hP : va_P D vwCl (Mw h q cA fi fs_12 (va_up ga_7 21 (upd (ga_7 21) (Int32.toNatClampNeg a1) (fs_6 24))) gs pl it asd) H := by rw [hv13]; exact hP
                replace hD : va_D A (Mw h q cA fi fs_12 (va_up ga_7 21 (upd (ga_7 21) (Int32.toNatClampNeg a1) (fs_6 24))) gs pl it asd) := by rw [hv13]; exact hD
                refine lv_aload_n hx hb dX7_takesE_225 rfl (lv_at hl 1 rfl) ?_
                obtain ⟨fs_14, ga_15, hq16, hf⟩ := b2_of hf
                refine callVV (As := []) (rest := []) (wr := []) C0 (c_X7_whole h q fi fs_12 (va_up ga_7 21 (upd (ga_7 21) (Int32.toNatClampNeg a1) (fs_6 24))) gs pl it asd _ hq16) lk_X7_274_X7_whole rfl hP hD hS perm_nil 0 7 rfl rfl rfl hl.1 rfl rfl (Nat.le_of_ble_eq_true rfl) dX7_takesE_226 ⟨Nat.zero_le _, Nat.zero_le _⟩ (fun w H locs hw hP hD hS => ?_)
                have e2 := hw
                subst e2
                replace hP : va_P D vwCl (Mw h q cA fi fs_14 ga_15 gs pl it asd) H := hP.nil
                replace hD : va_D A (Mw h q cA fi fs_14 ga_15 gs pl it asd) := hD.nil
                refine lv_goto (tgt := 22) hx hb dX7_takesE_229 (by decide) ?_
                exact ih x2 fs_14 ga_15 gs hf _ _ hP hD hS _ (lv_sub hl [1, 2, 3] rfl)
              · replace hf := ie_of c11 hf
                refine lv_iconst (v := 0) hx hb dX7_takesE_193 (by decide) ?_
                rw [hQ]
                exact ret_z C0 hP hD hS (by have e := Option.some.inj hf; rw [← e]; exact ⟨rfl, rfl⟩) rfl dX7_takesE_194
            · replace hf := it_of c10 hf
              refine lv_iconst (v := 1) hx hb dX7_takesE_185 (by decide) ?_
              rw [hQ]
              exact ret_z C0 hP hD hS (by have e := Option.some.inj hf; rw [← e]; exact ⟨rfl, rfl⟩) rfl dX7_takesE_186
          · replace hf := it_of c5 hf
            exact J122 _ ih r1 fs ga gs hf _ _ hP hD hS _ (lv_sub hl [1, 2, 0] rfl)
      · replace hf := ie_of c3 hf
        refine lv_iload_n hx hb dX7_takesE_31 rfl (lv_at hl 0 rfl) ?_
        refine lv_bipush (v := 33) hx hb dX7_takesE_32 (by decide) ?_
        refine lv_icmp_eq (tgt := 43) hx hb dX7_takesE_34 (by decide) (fun c17 => ?_) (fun c17 => ?_)
        · replace hf := it_of c17 hf
          exact J43 _ ih x2 r1 fs ga gs hf _ _ hP hD hS _ (lv_sub hl [1, 2, 3, 0] rfl)
        · replace hf := ie_of c17 hf
          refine lv_iload_n hx hb dX7_takesE_37 rfl (lv_at hl 0 rfl) ?_
          refine lv_bipush (v := 40) hx hb dX7_takesE_38 (by decide) ?_
          refine lv_icmp_ne (tgt := 96) hx hb dX7_takesE_40 (by decide) (fun c18 => ?_) (fun c18 => ?_)
          · replace hf := ie_of c18 hf
            refine lv_aload_n hx hb dX7_takesE_96 rfl (lv_at hl 1 rfl) ?_
            obtain ⟨r19q, fs_20, ga_21, hq22, hf⟩ := b3_of hf
            refine callVI (As := []) (rest := []) (wr := []) C0 (c_X7_takesTest h q fi fs ga gs pl it asd _ hq22) lk_X7_277_X7_takesTest rfl hP hD hS perm_nil 0 7 rfl rfl rfl hl.1 rfl rfl (Nat.le_of_ble_eq_true rfl) dX7_takesE_97 ⟨Nat.zero_le _, Nat.zero_le _⟩ (fun r19 w H locs hw hP hD hS => ?_)
            obtain ⟨⟨e1, e2⟩, z23⟩ := hw
            replace e1 : r19 = r19q := e1
            subst e1
            subst e2
            replace hP : va_P D vwCl (Mw h q cA fi fs_20 ga_21 gs pl it asd) H := hP.nil
            replace hD : va_D A (Mw h q cA fi fs_20 ga_21 gs pl it asd) := hD.nil
            refine lv_if_eq (tgt := 108) hx hb dX7_takesE_100 (by decide) (fun c24 => ?_) (fun c24 => ?_)
            · replace hf := it_of c24 hf
              refine lv_iconst (v := 0) hx hb dX7_takesE_108 (by decide) ?_
              rw [hQ]
              exact ret_z C0 hP hD hS (by have e := Option.some.inj hf; rw [← e]; exact ⟨rfl, rfl⟩) rfl dX7_takesE_109
            · replace hf := ie_of c24 hf
              refine lv_iconst (v := 0) hx hb dX7_takesE_103 (by decide) ?_
              refine lv_istore_n (lv' := [(2, .int 0), (3, .int r1), (0, .ref h), (1, .int a1)]) hx hb dX7_takesE_104 rfl hl (by decide) rfl (fun ls hl => ?_)
              refine lv_goto (tgt := 22) hx hb dX7_takesE_105 (by decide) ?_
              exact ih 0 fs_20 ga_21 gs hf _ _ hP hD hS _ (lv_sub hl [2, 3, 0] rfl)
          · replace hf := it_of c18 hf
            exact J43 _ ih x2 r1 fs ga gs hf _ _ hP hD hS _ (lv_sub hl [1, 2, 3, 0] rfl)
  unfold k_X7_takesE at hf
  refine lv_aload_n hx hb dX7_takesE_0 rfl (lv_at hl 0 rfl) ?_
  refine lv_iconst (v := 0) hx hb dX7_takesE_1 (by decide) ?_
  refine va_put (D := D) (ci := 7) (v := .int 0) (ty := .int) (C := RX7) (T := TX7) (N := 73) hx hb hts fw_7 tyX7 tyX7_ok nmX7 hown hK hP hD hS 0 rfl rfl 25 (by decide) (hts _ m_fieldLink_M_86_M_waiting_I) (fun _ h9 => h9) rfl (by decide +kernel) rfl rfl (Nat.le_of_ble_eq_true rfl) dX7_takesE_2 (fun H locs hP hD hS => ?_)
  replace hP : va_P D vwCl (Mw h q cA fi (upd fs0 25 0) ga0 gs0 pl it asd) H := hP
  replace hD : va_D A (Mw h q cA fi (upd fs0 25 0) ga0 gs0 pl it asd) := hD
  refine lv_aload_n hx hb dX7_takesE_5 rfl (lv_at hl 0 rfl) ?_
  refine lv_iconst (v := 0) hx hb dX7_takesE_6 (by decide) ?_
  refine va_put (D := D) (ci := 7) (v := .int 0) (ty := .int) (C := RX7) (T := TX7) (N := 73) hx hb hts fw_7 tyX7 tyX7_ok nmX7 hown hK hP hD hS 0 rfl rfl 26 (by decide) (hts _ m_fieldLink_M_89_M_open_I) (fun _ h9 => h9) rfl (by decide +kernel) rfl rfl (Nat.le_of_ble_eq_true rfl) dX7_takesE_7 (fun H locs hP hD hS => ?_)
  replace hP : va_P D vwCl (Mw h q cA fi (upd (upd fs0 25 0) 26 0) ga0 gs0 pl it asd) H := hP
  replace hD : va_D A (Mw h q cA fi (upd (upd fs0 25 0) 26 0) ga0 gs0 pl it asd) := hD
  refine lv_aload_n hx hb dX7_takesE_10 rfl (lv_at hl 0 rfl) ?_
  refine va_get (D := D) (ci := 7) (v := .ref (q 20)) (C := RX7) (T := TX7) (N := 73) hx hb hts fw_7 hown hK hP 0 rfl rfl 20 (by decide) (hts _ m_fieldLink_M_71_M_from_aI) (fun _ h9 => h9) rfl dX7_takesE_11 ?_
  refine lv_iload_n hx hb dX7_takesE_14 rfl (lv_at hl 1 rfl) ?_
  refine lv_aload_n hx hb dX7_takesE_15 rfl (lv_at hl 0 rfl) ?_
  refine va_get (D := D) (ci := 7) (v := .int (fs0 24)) (C := RX7) (T := TX7) (N := 73) hx hb hts fw_7 hown hK hP 0 rfl rfl 24 (by decide) (hts _ m_fieldLink_M_83_M_signs_I) (fun _ h9 => h9) rfl dX7_takesE_16 ?_
  obtain ⟨hi1, hf⟩ := gd_of hf
  refine va_iast hx hb hK hP hD hS 10 0 rfl rfl hi1 dX7_takesE_19 (fun H locs hP hD hS => ?_)
  replace hP : va_P D vwCl (Mw h q cA fi (upd (upd fs0 25 0) 26 0) (va_up ga0 20 (upd (ga0 20) (Int32.toNatClampNeg a1) (fs0 24))) gs0 pl it asd) H := hP
  replace hD : va_D A (Mw h q cA fi (upd (upd fs0 25 0) 26 0) (va_up ga0 20 (upd (ga0 20) (Int32.toNatClampNeg a1) (fs0 24))) gs0 pl it asd) := hD
  refine lv_iconst (v := 1) hx hb dX7_takesE_20 (by decide) ?_
  refine lv_istore_n (lv' := [(2, .int 1), (0, .ref h), (1, .int a1)]) hx hb dX7_takesE_21 rfl hl (by decide) rfl (fun ls hl => ?_)
  exact J22 100000 1 (upd (upd fs0 25 0) 26 0) (va_up ga0 20 (upd (ga0 20) (Int32.toNatClampNeg a1) (fs0 24))) gs0 hf _ _ hP hD hS _ (lv_sub hl [1, 2, 0] rfl)
-- takesHead
noncomputable def k_X7_takesHead (a1 : Int32) (fi : Nat → Int32) (fs0 : Nat → Int32) (ga0 : Nat → Nat → Int32) : Option (Int32 × (Nat → Int32) × (Nat → Nat → Int32)) := b1 (k_X7_next fi fs0 ga0) (fun r1 => if r1 = 104 then gd a1 60 (b2 (k_X7_takesWord 4 4 fi fs0 (va_up ga0 18 (upd (ga0 18) (Int32.toNatClampNeg a1) 1))) (fun r5 fs_6 => some (r5, fs_6, (va_up ga0 18 (upd (ga0 18) (Int32.toNatClampNeg a1) 1))))) else if r1 = 108 then gd a1 60 (b2 (k_X7_takesWord 0 4 fi fs0 (va_up ga0 18 (upd (ga0 18) (Int32.toNatClampNeg a1) 0))) (fun r11 fs_12 => some (r11, fs_12, (va_up ga0 18 (upd (ga0 18) (Int32.toNatClampNeg a1) 0))))) else gd a1 60 (b2 (k_X7_takesWord 8 4 fi fs0 (va_up ga0 18 (upd (ga0 18) (Int32.toNatClampNeg a1) 2))) (fun r16 fs_17 => some (r16, fs_17, (va_up ga0 18 (upd (ga0 18) (Int32.toNatClampNeg a1) 2))))))
set_option maxHeartbeats 4000000 in
set_option maxRecDepth 100000 in
theorem c_X7_takesHead {l : Launch} {D : va_G} {cA : Nat → ClassId} (h : Nat) (q : Nat → Nat) (fi : Nat → Int32) (fs0 : Nat → Int32) (ga0 : Nat → Nat → Int32) (gs : Nat → Nat → Int32) (pl : Nat → Int32) (it : Nat → Int64) (asd : Nat → Int64) (a1 : Int32) (o : Int32 × (Nat → Int32) × (Nat → Nat → Int32)) (hf : k_X7_takesHead a1 fi fs0 ga0 = some o) : CI l D cA yX7_takesHead cX7_takesHead 2 (some .boolean) 3 64 [.ref h, .int a1] (Mw h q cA fi fs0 ga0 gs pl it asd) 0 0 (fun r w => (r = o.1 ∧ w = (Mw h q cA fi o.2.1 o.2.2 gs pl it asd)) ∧ narrow .boolean (.int r) = .int r) := by
  intro sz
  refine met_start (by decide) rfl ?_
  intro p e s m args below meth c ls hsz hargs C0 hname hP hD hS hl
  generalize hAe : va_A (Mw h q cA fi fs0 ga0 gs pl it asd) sz = A at C0 hD hS ⊢
  obtain ⟨hx, hb, hr, hml, hown, hts, hlk, hK, hA⟩ := id C0
  replace hl : lv_has ls 2 [(0, .ref h), (1, .int a1)] := hl
  obtain ⟨Q, hQ⟩ : ∃ Q : State → Prop, Q = QI below D A (fun r w => (r = o.1 ∧ w = (Mw h q cA fi o.2.1 o.2.2 gs pl it asd)) ∧ narrow .boolean (.int r) = .int r) args s 0 0 := ⟨_, rfl⟩
  refine cast (by rw [hQ]) (?_ : W p l e (RMx 3 64 0 0) s m args below meth c s.heap [] 0 0 Q (F0 m 0 ls []))
  unfold k_X7_takesHead at hf
  refine lv_aload_n hx hb dX7_takesHead_0 rfl (lv_at hl 0 rfl) ?_
  obtain ⟨r1q, hq2, hf⟩ := b1_of hf
  refine callVI (As := []) (rest := []) (wr := []) C0 (c_X7_next h q fi fs0 ga0 gs pl it asd _ hq2) lk_X7_252_X7_next rfl hP hD hS perm_nil 0 7 rfl rfl rfl hl.1 rfl rfl (Nat.le_of_ble_eq_true rfl) dX7_takesHead_1 ⟨Nat.zero_le _, Nat.zero_le _⟩ (fun r1 w H locs hw hP hD hS => ?_)
  obtain ⟨e1, e2⟩ := hw
  replace e1 : r1 = r1q := e1
  subst e1
  subst e2
  replace hP : va_P D vwCl (Mw h q cA fi fs0 ga0 gs pl it asd) H := hP.nil
  replace hD : va_D A (Mw h q cA fi fs0 ga0 gs pl it asd) := hD.nil
  by_cases c3 : r1 = 104
  · replace hf := it_of c3 hf
    refine lv_lookup (off := 42) (tgt := 46) hx hb dX7_takesHead_4 (by decide) (by rw [c3]; decide) (by decide) ?_
    refine lv_aload_n hx hb dX7_takesHead_46 rfl (lv_at hl 0 rfl) ?_
    refine va_get (D := D) (ci := 7) (v := .ref (q 18)) (C := RX7) (T := TX7) (N := 73) hx hb hts fw_7 hown hK hP 0 rfl rfl 18 (by decide) (hts _ m_fieldLink_M_65_M_word_aI) (fun _ h9 => h9) rfl dX7_takesHead_47 ?_
    refine lv_iload_n hx hb dX7_takesHead_50 rfl (lv_at hl 1 rfl) ?_
    refine lv_iconst (v := 1) hx hb dX7_takesHead_51 (by decide) ?_
    obtain ⟨hi4, hf⟩ := gd_of hf
    refine va_iast hx hb hK hP hD hS 8 0 rfl rfl hi4 dX7_takesHead_52 (fun H locs hP hD hS => ?_)
    replace hP : va_P D vwCl (Mw h q cA fi fs0 (va_up ga0 18 (upd (ga0 18) (Int32.toNatClampNeg a1) 1)) gs pl it asd) H := hP
    replace hD : va_D A (Mw h q cA fi fs0 (va_up ga0 18 (upd (ga0 18) (Int32.toNatClampNeg a1) 1)) gs pl it asd) := hD
    refine lv_aload_n hx hb dX7_takesHead_53 rfl (lv_at hl 0 rfl) ?_
    refine lv_iconst (v := 4) hx hb dX7_takesHead_54 (by decide) ?_
    refine lv_iconst (v := 4) hx hb dX7_takesHead_55 (by decide) ?_
    obtain ⟨r5q, fs_6, hq7, hf⟩ := b2_of hf
    refine callVI (As := [.int 4, .int 4]) (rest := []) (wr := []) C0 (c_X7_takesWord h q fi fs0 (va_up ga0 18 (upd (ga0 18) (Int32.toNatClampNeg a1) 1)) gs pl it asd 4 4 _ hq7) lk_X7_283_X7_takesWord rfl hP hD hS perm_nil 0 7 rfl rfl rfl hl.1 rfl rfl (Nat.le_of_ble_eq_true rfl) dX7_takesHead_56 ⟨Nat.zero_le _, Nat.zero_le _⟩ (fun r5 w H locs hw hP hD hS => ?_)
    obtain ⟨⟨e1, e2⟩, z8⟩ := hw
    replace e1 : r5 = r5q := e1
    subst e1
    subst e2
    replace hP : va_P D vwCl (Mw h q cA fi fs_6 (va_up ga0 18 (upd (ga0 18) (Int32.toNatClampNeg a1) 1)) gs pl it asd) H := hP.nil
    replace hD : va_D A (Mw h q cA fi fs_6 (va_up ga0 18 (upd (ga0 18) (Int32.toNatClampNeg a1) 1)) gs pl it asd) := hD.nil
    rw [hQ]
    exact ret_z C0 hP hD hS (by have e := Option.some.inj hf; rw [← e]; exact ⟨rfl, rfl⟩) z8 dX7_takesHead_59
  · replace hf := ie_of c3 hf
    by_cases c9 : r1 = 108
    · replace hf := it_of c9 hf
      refine lv_lookup (off := 28) (tgt := 32) hx hb dX7_takesHead_4 (by decide) (by rw [c9]; decide) (by decide) ?_
      refine lv_aload_n hx hb dX7_takesHead_32 rfl (lv_at hl 0 rfl) ?_
      refine va_get (D := D) (ci := 7) (v := .ref (q 18)) (C := RX7) (T := TX7) (N := 73) hx hb hts fw_7 hown hK hP 0 rfl rfl 18 (by decide) (hts _ m_fieldLink_M_65_M_word_aI) (fun _ h9 => h9) rfl dX7_takesHead_33 ?_
      refine lv_iload_n hx hb dX7_takesHead_36 rfl (lv_at hl 1 rfl) ?_
      refine lv_iconst (v := 0) hx hb dX7_takesHead_37 (by decide) ?_
      obtain ⟨hi10, hf⟩ := gd_of hf
      refine va_iast hx hb hK hP hD hS 8 0 rfl rfl hi10 dX7_takesHead_38 (fun H locs hP hD hS => ?_)
      replace hP : va_P D vwCl (Mw h q cA fi fs0 (va_up ga0 18 (upd (ga0 18) (Int32.toNatClampNeg a1) 0)) gs pl it asd) H := hP
      replace hD : va_D A (Mw h q cA fi fs0 (va_up ga0 18 (upd (ga0 18) (Int32.toNatClampNeg a1) 0)) gs pl it asd) := hD
      refine lv_aload_n hx hb dX7_takesHead_39 rfl (lv_at hl 0 rfl) ?_
      refine lv_iconst (v := 0) hx hb dX7_takesHead_40 (by decide) ?_
      refine lv_iconst (v := 4) hx hb dX7_takesHead_41 (by decide) ?_
      obtain ⟨r11q, fs_12, hq13, hf⟩ := b2_of hf
      refine callVI (As := [.int 0, .int 4]) (rest := []) (wr := []) C0 (c_X7_takesWord h q fi fs0 (va_up ga0 18 (upd (ga0 18) (Int32.toNatClampNeg a1) 0)) gs pl it asd 0 4 _ hq13) lk_X7_283_X7_takesWord rfl hP hD hS perm_nil 0 7 rfl rfl rfl hl.1 rfl rfl (Nat.le_of_ble_eq_true rfl) dX7_takesHead_42 ⟨Nat.zero_le _, Nat.zero_le _⟩ (fun r11 w H locs hw hP hD hS => ?_)
      obtain ⟨⟨e1, e2⟩, z14⟩ := hw
      replace e1 : r11 = r11q := e1
      subst e1
      subst e2
      replace hP : va_P D vwCl (Mw h q cA fi fs_12 (va_up ga0 18 (upd (ga0 18) (Int32.toNatClampNeg a1) 0)) gs pl it asd) H := hP.nil
      replace hD : va_D A (Mw h q cA fi fs_12 (va_up ga0 18 (upd (ga0 18) (Int32.toNatClampNeg a1) 0)) gs pl it asd) := hD.nil
      rw [hQ]
      exact ret_z C0 hP hD hS (by have e := Option.some.inj hf; rw [← e]; exact ⟨rfl, rfl⟩) z14 dX7_takesHead_45
    · replace hf := ie_of c9 hf
      refine lv_lookup (off := 56) (tgt := 60) hx hb dX7_takesHead_4 (by decide) (by rw [lv_osw c3 (by decide), lv_osw c9 (by decide)]; rfl) (by decide) ?_
      refine lv_aload_n hx hb dX7_takesHead_60 rfl (lv_at hl 0 rfl) ?_
      refine va_get (D := D) (ci := 7) (v := .ref (q 18)) (C := RX7) (T := TX7) (N := 73) hx hb hts fw_7 hown hK hP 0 rfl rfl 18 (by decide) (hts _ m_fieldLink_M_65_M_word_aI) (fun _ h9 => h9) rfl dX7_takesHead_61 ?_
      refine lv_iload_n hx hb dX7_takesHead_64 rfl (lv_at hl 1 rfl) ?_
      refine lv_iconst (v := 2) hx hb dX7_takesHead_65 (by decide) ?_
      obtain ⟨hi15, hf⟩ := gd_of hf
      refine va_iast hx hb hK hP hD hS 8 0 rfl rfl hi15 dX7_takesHead_66 (fun H locs hP hD hS => ?_)
      replace hP : va_P D vwCl (Mw h q cA fi fs0 (va_up ga0 18 (upd (ga0 18) (Int32.toNatClampNeg a1) 2)) gs pl it asd) H := hP
      replace hD : va_D A (Mw h q cA fi fs0 (va_up ga0 18 (upd (ga0 18) (Int32.toNatClampNeg a1) 2)) gs pl it asd) := hD
      refine lv_aload_n hx hb dX7_takesHead_67 rfl (lv_at hl 0 rfl) ?_
      refine lv_bipush (v := 8) hx hb dX7_takesHead_68 (by decide) ?_
      refine lv_iconst (v := 4) hx hb dX7_takesHead_70 (by decide) ?_
      obtain ⟨r16q, fs_17, hq18, hf⟩ := b2_of hf
      refine callVI (As := [.int 8, .int 4]) (rest := []) (wr := []) C0 (c_X7_takesWord h q fi fs0 (va_up ga0 18 (upd (ga0 18) (Int32.toNatClampNeg a1) 2)) gs pl it asd 8 4 _ hq18) lk_X7_283_X7_takesWord rfl hP hD hS perm_nil 0 7 rfl rfl rfl hl.1 rfl rfl (Nat.le_of_ble_eq_true rfl) dX7_takesHead_71 ⟨Nat.zero_le _, Nat.zero_le _⟩ (fun r16 w H locs hw hP hD hS => ?_)
      obtain ⟨⟨e1, e2⟩, z19⟩ := hw
      replace e1 : r16 = r16q := e1
      subst e1
      subst e2
      replace hP : va_P D vwCl (Mw h q cA fi fs_17 (va_up ga0 18 (upd (ga0 18) (Int32.toNatClampNeg a1) 2)) gs pl it asd) H := hP.nil
      replace hD : va_D A (Mw h q cA fi fs_17 (va_up ga0 18 (upd (ga0 18) (Int32.toNatClampNeg a1) 2)) gs pl it asd) := hD.nil
      rw [hQ]
      exact ret_z C0 hP hD hS (by have e := Option.some.inj hf; rw [← e]; exact ⟨rfl, rfl⟩) z19 dX7_takesHead_74
-- takesClause
noncomputable def k_X7_takesClause (a1 : Int32) (fi : Nat → Int32) (fs0 : Nat → Int32) (ga0 : Nat → Nat → Int32) (gs0 : Nat → Nat → Int32) : Option (Int32 × (Nat → Int32) × (Nat → Nat → Int32) × (Nat → Nat → Int32)) := b3 (k_X7_takesHead a1 fi fs0 ga0) (fun r1 fs_2 ga_3 => if r1 = 0 then some (0, fs_2, ga_3, gs0) else b2 (k_X7_takesNumber fi fs_2 ga_3) (fun r7 fs_8 => if r7 = 0 then some (0, fs_8, ga_3, gs0) else gd a1 60 (gd a1 60 (if ((ga_3 18) (Int32.toNatClampNeg a1)) = 2 then some (1, fs_8, (va_up ga_3 19 (upd (ga_3 19) (Int32.toNatClampNeg a1) (fs_8 15))), gs0) else b2 (k_X7_takes 32 fi fs_8 (va_up ga_3 19 (upd (ga_3 19) (Int32.toNatClampNeg a1) (fs_8 15)))) (fun r15 fs_16 => if r15 = 0 then some (0, fs_16, (va_up ga_3 19 (upd (ga_3 19) (Int32.toNatClampNeg a1) (fs_8 15))), gs0) else b4 (k_X7_takesE a1 fi fs_16 (va_up ga_3 19 (upd (ga_3 19) (Int32.toNatClampNeg a1) (fs_8 15))) gs0) (fun r20 fs_21 ga_22 gs_23 => if r20 = 0 then some (0, fs_21, ga_22, gs_23) else some (1, fs_21, ga_22, gs_23)))))))
set_option maxHeartbeats 4000000 in
set_option maxRecDepth 100000 in
theorem c_X7_takesClause {l : Launch} {D : va_G} {cA : Nat → ClassId} (h : Nat) (q : Nat → Nat) (fi : Nat → Int32) (fs0 : Nat → Int32) (ga0 : Nat → Nat → Int32) (gs0 : Nat → Nat → Int32) (pl : Nat → Int32) (it : Nat → Int64) (asd : Nat → Int64) (a1 : Int32) (o : Int32 × (Nat → Int32) × (Nat → Nat → Int32) × (Nat → Nat → Int32)) (hf : k_X7_takesClause a1 fi fs0 ga0 gs0 = some o) : CI l D cA yX7_takesClause cX7_takesClause 2 (some .boolean) 5 109 [.ref h, .int a1] (Mw h q cA fi fs0 ga0 gs0 pl it asd) 0 0 (fun r w => (r = o.1 ∧ w = (Mw h q cA fi o.2.1 o.2.2.1 o.2.2.2 pl it asd)) ∧ narrow .boolean (.int r) = .int r) := by
  intro sz
  refine met_start (by decide) rfl ?_
  intro p e s m args below meth c ls hsz hargs C0 hname hP hD hS hl
  generalize hAe : va_A (Mw h q cA fi fs0 ga0 gs0 pl it asd) sz = A at C0 hD hS ⊢
  obtain ⟨hx, hb, hr, hml, hown, hts, hlk, hK, hA⟩ := id C0
  replace hl : lv_has ls 2 [(0, .ref h), (1, .int a1)] := hl
  obtain ⟨Q, hQ⟩ : ∃ Q : State → Prop, Q = QI below D A (fun r w => (r = o.1 ∧ w = (Mw h q cA fi o.2.1 o.2.2.1 o.2.2.2 pl it asd)) ∧ narrow .boolean (.int r) = .int r) args s 0 0 := ⟨_, rfl⟩
  refine cast (by rw [hQ]) (?_ : W p l e (RMx 5 109 0 0) s m args below meth c s.heap [] 0 0 Q (F0 m 0 ls []))
  unfold k_X7_takesClause at hf
  refine lv_aload_n hx hb dX7_takesClause_0 rfl (lv_at hl 0 rfl) ?_
  refine lv_iload_n hx hb dX7_takesClause_1 rfl (lv_at hl 1 rfl) ?_
  obtain ⟨r1q, fs_2, ga_3, hq4, hf⟩ := b3_of hf
  refine callVI (As := [.int a1]) (rest := []) (wr := []) C0 (c_X7_takesHead h q fi fs0 ga0 gs0 pl it asd a1 _ hq4) lk_X7_286_X7_takesHead rfl hP hD hS perm_nil 0 7 rfl rfl rfl hl.1 rfl rfl (Nat.le_of_ble_eq_true rfl) dX7_takesClause_2 ⟨Nat.zero_le _, Nat.zero_le _⟩ (fun r1 w H locs hw hP hD hS => ?_)
  obtain ⟨⟨e1, e2⟩, z5⟩ := hw
  replace e1 : r1 = r1q := e1
  subst e1
  subst e2
  replace hP : va_P D vwCl (Mw h q cA fi fs_2 ga_3 gs0 pl it asd) H := hP.nil
  replace hD : va_D A (Mw h q cA fi fs_2 ga_3 gs0 pl it asd) := hD.nil
  refine lv_if_eq (tgt := 15) hx hb dX7_takesClause_5 (by decide) (fun c6 => ?_) (fun c6 => ?_)
  · replace hf := it_of c6 hf
    refine lv_iconst (v := 0) hx hb dX7_takesClause_15 (by decide) ?_
    rw [hQ]
    exact ret_z C0 hP hD hS (by have e := Option.some.inj hf; rw [← e]; exact ⟨rfl, rfl⟩) rfl dX7_takesClause_16
  · replace hf := ie_of c6 hf
    refine lv_aload_n hx hb dX7_takesClause_8 rfl (lv_at hl 0 rfl) ?_
    obtain ⟨r7q, fs_8, hq9, hf⟩ := b2_of hf
    refine callVI (As := []) (rest := []) (wr := []) C0 (c_X7_takesNumber h q fi fs_2 ga_3 gs0 pl it asd _ hq9) lk_X7_271_X7_takesNumber rfl hP hD hS perm_nil 0 7 rfl rfl rfl hl.1 rfl rfl (Nat.le_of_ble_eq_true rfl) dX7_takesClause_9 ⟨Nat.zero_le _, Nat.zero_le _⟩ (fun r7 w H locs hw hP hD hS => ?_)
    obtain ⟨⟨e1, e2⟩, z10⟩ := hw
    replace e1 : r7 = r7q := e1
    subst e1
    subst e2
    replace hP : va_P D vwCl (Mw h q cA fi fs_8 ga_3 gs0 pl it asd) H := hP.nil
    replace hD : va_D A (Mw h q cA fi fs_8 ga_3 gs0 pl it asd) := hD.nil
    refine lv_if_ne (tgt := 17) hx hb dX7_takesClause_12 (by decide) (fun c11 => ?_) (fun c11 => ?_)
    · replace hf := ie_of c11 hf
      refine lv_aload_n hx hb dX7_takesClause_17 rfl (lv_at hl 0 rfl) ?_
      refine va_get (D := D) (ci := 7) (v := .ref (q 19)) (C := RX7) (T := TX7) (N := 73) hx hb hts fw_7 hown hK hP 0 rfl rfl 19 (by decide) (hts _ m_fieldLink_M_68_M_number_aI) (fun _ h9 => h9) rfl dX7_takesClause_18 ?_
      refine lv_iload_n hx hb dX7_takesClause_21 rfl (lv_at hl 1 rfl) ?_
      refine lv_aload_n hx hb dX7_takesClause_22 rfl (lv_at hl 0 rfl) ?_
      refine va_get (D := D) (ci := 7) (v := .int (fs_8 15)) (C := RX7) (T := TX7) (N := 73) hx hb hts fw_7 hown hK hP 0 rfl rfl 15 (by decide) (hts _ m_fieldLink_M_56_M_digits_I) (fun _ h9 => h9) rfl dX7_takesClause_23 ?_
      obtain ⟨hi12, hf⟩ := gd_of hf
      refine va_iast hx hb hK hP hD hS 9 0 rfl rfl hi12 dX7_takesClause_26 (fun H locs hP hD hS => ?_)
      replace hP : va_P D vwCl (Mw h q cA fi fs_8 (va_up ga_3 19 (upd (ga_3 19) (Int32.toNatClampNeg a1) (fs_8 15))) gs0 pl it asd) H := hP
      replace hD : va_D A (Mw h q cA fi fs_8 (va_up ga_3 19 (upd (ga_3 19) (Int32.toNatClampNeg a1) (fs_8 15))) gs0 pl it asd) := hD
      refine lv_aload_n hx hb dX7_takesClause_27 rfl (lv_at hl 0 rfl) ?_
      refine va_get (D := D) (ci := 7) (v := .ref (q 18)) (C := RX7) (T := TX7) (N := 73) hx hb hts fw_7 hown hK hP 0 rfl rfl 18 (by decide) (hts _ m_fieldLink_M_65_M_word_aI) (fun _ h9 => h9) rfl dX7_takesClause_28 ?_
      refine lv_iload_n hx hb dX7_takesClause_31 rfl (lv_at hl 1 rfl) ?_
      obtain ⟨hi13, hf⟩ := gd_of hf
      refine va_iald hx hb hK hP 8 0 rfl rfl hi13 dX7_takesClause_32 ?_
      refine lv_iconst (v := 2) hx hb dX7_takesClause_33 (by decide) ?_
      refine lv_icmp_eq (tgt := 54) hx hb dX7_takesClause_34 (by decide) (fun c14 => ?_) (fun c14 => ?_)
      · replace hf := it_of c14 hf
        refine lv_iconst (v := 1) hx hb dX7_takesClause_54 (by decide) ?_
        refine lv_goto (tgt := 59) hx hb dX7_takesClause_55 (by decide) ?_
        rw [hQ]
        exact ret_z C0 hP hD hS (by have e := Option.some.inj hf; rw [← e]; exact ⟨rfl, rfl⟩) rfl dX7_takesClause_59
      · replace hf := ie_of c14 hf
        refine lv_aload_n hx hb dX7_takesClause_37 rfl (lv_at hl 0 rfl) ?_
        refine lv_bipush (v := 32) hx hb dX7_takesClause_38 (by decide) ?_
        obtain ⟨r15q, fs_16, hq17, hf⟩ := b2_of hf
        refine callVI (As := [.int 32]) (rest := []) (wr := []) C0 (c_X7_takes h q fi fs_8 (va_up ga_3 19 (upd (ga_3 19) (Int32.toNatClampNeg a1) (fs_8 15))) gs0 pl it asd 32 _ hq17) lk_X7_256_X7_takes rfl hP hD hS perm_nil 0 7 rfl rfl rfl hl.1 rfl rfl (Nat.le_of_ble_eq_true rfl) dX7_takesClause_40 ⟨Nat.zero_le _, Nat.zero_le _⟩ (fun r15 w H locs hw hP hD hS => ?_)
        obtain ⟨⟨e1, e2⟩, z18⟩ := hw
        replace e1 : r15 = r15q := e1
        subst e1
        subst e2
        replace hP : va_P D vwCl (Mw h q cA fi fs_16 (va_up ga_3 19 (upd (ga_3 19) (Int32.toNatClampNeg a1) (fs_8 15))) gs0 pl it asd) H := hP.nil
        replace hD : va_D A (Mw h q cA fi fs_16 (va_up ga_3 19 (upd (ga_3 19) (Int32.toNatClampNeg a1) (fs_8 15))) gs0 pl it asd) := hD.nil
        refine lv_if_eq (tgt := 58) hx hb dX7_takesClause_43 (by decide) (fun c19 => ?_) (fun c19 => ?_)
        · replace hf := it_of c19 hf
          refine lv_iconst (v := 0) hx hb dX7_takesClause_58 (by decide) ?_
          rw [hQ]
          exact ret_z C0 hP hD hS (by have e := Option.some.inj hf; rw [← e]; exact ⟨rfl, rfl⟩) rfl dX7_takesClause_59
        · replace hf := ie_of c19 hf
          refine lv_aload_n hx hb dX7_takesClause_46 rfl (lv_at hl 0 rfl) ?_
          refine lv_iload_n hx hb dX7_takesClause_47 rfl (lv_at hl 1 rfl) ?_
          obtain ⟨r20q, fs_21, ga_22, gs_23, hq24, hf⟩ := b4_of hf
          refine callVI (As := [.int a1]) (rest := []) (wr := []) C0 (c_X7_takesE h q fi fs_16 (va_up ga_3 19 (upd (ga_3 19) (Int32.toNatClampNeg a1) (fs_8 15))) gs0 pl it asd a1 _ hq24) lk_X7_289_X7_takesE rfl hP hD hS perm_nil 0 7 rfl rfl rfl hl.1 rfl rfl (Nat.le_of_ble_eq_true rfl) dX7_takesClause_48 ⟨Nat.zero_le _, Nat.zero_le _⟩ (fun r20 w H locs hw hP hD hS => ?_)
          obtain ⟨⟨e1, e2⟩, z25⟩ := hw
          replace e1 : r20 = r20q := e1
          subst e1
          subst e2
          replace hP : va_P D vwCl (Mw h q cA fi fs_21 ga_22 gs_23 pl it asd) H := hP.nil
          replace hD : va_D A (Mw h q cA fi fs_21 ga_22 gs_23 pl it asd) := hD.nil
          refine lv_if_eq (tgt := 58) hx hb dX7_takesClause_51 (by decide) (fun c26 => ?_) (fun c26 => ?_)
          · replace hf := it_of c26 hf
            refine lv_iconst (v := 0) hx hb dX7_takesClause_58 (by decide) ?_
            rw [hQ]
            exact ret_z C0 hP hD hS (by have e := Option.some.inj hf; rw [← e]; exact ⟨rfl, rfl⟩) rfl dX7_takesClause_59
          · replace hf := ie_of c26 hf
            refine lv_iconst (v := 1) hx hb dX7_takesClause_54 (by decide) ?_
            refine lv_goto (tgt := 59) hx hb dX7_takesClause_55 (by decide) ?_
            rw [hQ]
            exact ret_z C0 hP hD hS (by have e := Option.some.inj hf; rw [← e]; exact ⟨rfl, rfl⟩) rfl dX7_takesClause_59
    · replace hf := it_of c11 hf
      refine lv_iconst (v := 0) hx hb dX7_takesClause_15 (by decide) ?_
      rw [hQ]
      exact ret_z C0 hP hD hS (by have e := Option.some.inj hf; rw [← e]; exact ⟨rfl, rfl⟩) rfl dX7_takesClause_16

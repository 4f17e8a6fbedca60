-- heardOf
noncomputable def k_X7_heardOf (a1 : Int32) (fi : Nat → Int32) (ga : Nat → Nat → Int32) (pl0 : Nat → Int32) : Option (Int32 × (Nat → Int32)) := b2 (k_X7_noise a1 fi ga pl0) (fun r1 pl_2 => if 0 ≤ r1 then some (r1, pl_2) else some (0, pl_2))
set_option maxHeartbeats 4000000 in
set_option maxRecDepth 100000 in
theorem c_X7_heardOf {l : Launch} {D : va_G} {cA : Nat → ClassId} (h : Nat) (q : Nat → Nat) (fi : Nat → Int32) (fs : Nat → Int32) (ga : Nat → Nat → Int32) (gs : Nat → Nat → Int32) (pl0 : Nat → Int32) (it : Nat → Int64) (asd : Nat → Int64) (a1 : Int32) (o : Int32 × (Nat → Int32)) (hf : k_X7_heardOf a1 fi ga pl0 = some o) : CI l D cA yX7_heardOf cX7_heardOf 3 (some .int) 4 95 [.ref h, .int a1] (Mw h q cA fi fs ga gs pl0 it asd) 0 0 (fun r w => r = o.1 ∧ w = (Mw h q cA fi fs ga gs o.2 it asd)) := by
  intro sz
  refine met_start (by decide) rfl ?_
  intro p e s m args below meth c ls hsz hargs C0 hname hP hD hS hl
  generalize hAe : va_A (Mw h q cA fi fs ga gs pl0 it asd) sz = A at C0 hD hS ⊢
  obtain ⟨hx, hb, hr, hml, hown, hts, hlk, hK, hA⟩ := id C0
  replace hl : lv_has ls 3 [(0, .ref h), (1, .int a1)] := hl
  obtain ⟨Q, hQ⟩ : ∃ Q : State → Prop, Q = QI below D A (fun r w => r = o.1 ∧ w = (Mw h q cA fi fs ga gs o.2 it asd)) args s 0 0 := ⟨_, rfl⟩
  refine cast (by rw [hQ]) (?_ : W p l e (RMx 4 95 0 0) s m args below meth c s.heap [] 0 0 Q (F0 m 0 ls []))
  unfold k_X7_heardOf at hf
  refine lv_aload_n hx hb dX7_heardOf_0 rfl (lv_at hl 0 rfl) ?_
  refine lv_iload_n hx hb dX7_heardOf_1 rfl (lv_at hl 1 rfl) ?_
  obtain ⟨r1q, pl_2, hq3, hf⟩ := b2_of hf
  refine callVI (As := [.int a1]) (rest := []) (wr := []) C0 (c_X7_noise h q fi fs ga gs pl0 it asd a1 _ hq3) lk_X7_320_X7_noise rfl hP hD hS perm_nil 0 7 rfl rfl rfl hl.1 rfl rfl (Nat.le_of_ble_eq_true rfl) dX7_heardOf_2 ⟨Nat.zero_le _, Nat.zero_le _⟩ (fun r1 w H locs hw hP hD hS => ?_)
  obtain ⟨e1, e2⟩ := hw
  replace e1 : r1 = r1q := e1
  subst e1
  subst e2
  replace hP : va_P D vwCl (Mw h q cA fi fs ga gs pl_2 it asd) H := hP.nil
  replace hD : va_D A (Mw h q cA fi fs ga gs pl_2 it asd) := hD.nil
  refine lv_istore_n (lv' := [(2, .int r1), (0, .ref h), (1, .int a1)]) hx hb dX7_heardOf_5 rfl hl (by decide) rfl (fun ls hl => ?_)
  refine lv_iload_n hx hb dX7_heardOf_6 rfl (lv_at hl 0 rfl) ?_
  refine lv_if_ge (tgt := 14) hx hb dX7_heardOf_7 (by decide) (fun c4 => ?_) (fun c4 => ?_)
  · replace hf := it_of c4 hf
    refine lv_iload_n hx hb dX7_heardOf_14 rfl (lv_at hl 0 rfl) ?_
    rw [hQ]
    exact ret_i C0 hP hD hS (by have e := Option.some.inj hf; rw [← e]; exact ⟨rfl, rfl⟩) dX7_heardOf_15
  · replace hf := ie_of c4 hf
    refine lv_iconst (v := 0) hx hb dX7_heardOf_10 (by decide) ?_
    refine lv_goto (tgt := 15) hx hb dX7_heardOf_11 (by decide) ?_
    rw [hQ]
    exact ret_i C0 hP hD hS (by have e := Option.some.inj hf; rw [← e]; exact ⟨rfl, rfl⟩) dX7_heardOf_15
-- sound
noncomputable def k_X7_sound_4 (fi : Nat → Int32) (ga : Nat → Nat → Int32) : Nat → Int32 → Int32 → (Nat → Int32) → Option (Int32 × (Nat → Int32))
  | 0, _, _, _ => none
  | n + 1, x1, x2, pl => if (fi 0) ≤ x2 then some (x1, pl) else b1 (k_X7_has (fi 1) x2) (fun r2 => if r2 = 0 then b2 (k_X7_heardOf x2 fi ga pl) (fun r6 pl_7 => k_X7_sound_4 fi ga n (x1 + r6) (x2 + 1) pl_7) else k_X7_sound_4 fi ga n (x1 + 0) (x2 + 1) pl)
noncomputable def k_X7_sound (fi : Nat → Int32) (ga : Nat → Nat → Int32) (pl0 : Nat → Int32) : Option (Int32 × (Nat → Int32)) := k_X7_sound_4 fi ga 100000 0 0 pl0
set_option maxHeartbeats 4000000 in
set_option maxRecDepth 100000 in
theorem c_X7_sound {l : Launch} {D : va_G} {cA : Nat → ClassId} (h : Nat) (q : Nat → Nat) (fi : Nat → Int32) (fs : Nat → Int32) (ga : Nat → Nat → Int32) (gs : Nat → Nat → Int32) (pl0 : Nat → Int32) (it : Nat → Int64) (asd : Nat → Int64)  (o : Int32 × (Nat → Int32)) (hf : k_X7_sound fi ga pl0 = some o) : CI l D cA yX7_sound cX7_sound 3 (some .int) 5 117 [.ref h] (Mw h q cA fi fs ga gs pl0 it asd) 0 0 (fun r w => r = o.1 ∧ w = (Mw h q cA fi fs ga gs o.2 it asd)) := by
  intro sz
  refine met_start (by decide) rfl ?_
  intro p e s m args below meth c ls hsz hargs C0 hname hP hD hS hl
  generalize hAe : va_A (Mw h q cA fi fs ga gs pl0 it asd) sz = A at C0 hD hS ⊢
  obtain ⟨hx, hb, hr, hml, hown, hts, hlk, hK, hA⟩ := id C0
  replace hl : lv_has ls 3 [(0, .ref h)] := hl
  obtain ⟨Q, hQ⟩ : ∃ Q : State → Prop, Q = QI below D A (fun r w => r = o.1 ∧ w = (Mw h q cA fi fs ga gs o.2 it asd)) args s 0 0 := ⟨_, rfl⟩
  refine cast (by rw [hQ]) (?_ : W p l e (RMx 5 117 0 0) s m args below meth c s.heap [] 0 0 Q (F0 m 0 ls []))
  have J4 : ∀ n : Nat, ∀ (x1 : Int32) (x2 : Int32) (pl : Nat → Int32), k_X7_sound_4 fi ga n x1 x2 pl = some o → ∀ (H : Heap) (locs : List Loc), va_P D vwCl (Mw h q cA fi fs ga gs pl it asd) H → va_D A (Mw h q cA fi fs ga gs pl it asd) → va_S A s.heap H locs → ∀ ls : Array Slot, lv_has ls 3 [(0, .ref h), (1, .int x1), (2, .int x2)] → W p l e (RMx 5 117 0 0) s m args below meth c H locs 0 0 Q (F0 m 4 ls []) := by
    intro  n
    induction n with
    | zero =>
      intro x1 x2 pl hf
      rw [k_X7_sound_4] at hf
      cases hf
    | succ n ih =>
      intro x1 x2 pl hf H locs hP hD hS ls hl
      rw [k_X7_sound_4] at hf
      refine lv_iload_n hx hb dX7_sound_4 rfl (lv_at hl 2 rfl) ?_
      refine lv_aload_n hx hb dX7_sound_5 rfl (lv_at hl 0 rfl) ?_
      refine va_get (D := D) (ci := 7) (v := .int (fi 0)) (C := RX7) (T := TX7) (N := 73) hx hb hts fw_7 hown hK hP 0 rfl rfl 0 (by decide) (hts _ m_fieldLink_M_7_M_men_I) (fun _ h9 => h9) rfl dX7_sound_6 ?_
      refine lv_icmp_ge (tgt := 42) hx hb dX7_sound_9 (by decide) (fun c1 => ?_) (fun c1 => ?_)
      · replace hf := it_of c1 hf
        refine lv_iload_n hx hb dX7_sound_42 rfl (lv_at hl 1 rfl) ?_
        rw [hQ]
        exact ret_i C0 hP hD hS (by have e := Option.some.inj hf; rw [← e]; exact ⟨rfl, rfl⟩) dX7_sound_43
      · replace hf := ie_of c1 hf
        refine lv_iload_n hx hb dX7_sound_12 rfl (lv_at hl 1 rfl) ?_
        refine lv_aload_n hx hb dX7_sound_13 rfl (lv_at hl 0 rfl) ?_
        refine lv_aload_n hx hb dX7_sound_14 rfl (lv_at hl 0 rfl) ?_
        refine va_get (D := D) (ci := 7) (v := .int (fi 1)) (C := RX7) (T := TX7) (N := 73) hx hb hts fw_7 hown hK hP 0 rfl rfl 1 (by decide) (hts _ m_fieldLink_M_13_M_up_I) (fun _ h9 => h9) rfl dX7_sound_15 ?_
        refine lv_iload_n hx hb dX7_sound_18 rfl (lv_at hl 2 rfl) ?_
        obtain ⟨r2q, hq3, hf⟩ := b1_of hf
        refine callVI (As := [.int (fi 1), .int x2]) (rest := [.int x1]) (wr := (Mw h q cA fi fs ga gs pl it asd)) C0 (c_X7_has h (fi 1) x2 _ hq3) lk_X7_233_X7_has rfl hP hD hS (List.Perm.refl _) 0 7 rfl rfl rfl hl.1 rfl rfl (Nat.le_of_ble_eq_true rfl) dX7_sound_19 ⟨Nat.zero_le _, Nat.zero_le _⟩ (fun r2 w H locs hw hP hD hS => ?_)
        obtain ⟨⟨e1, e2⟩, z4⟩ := hw
        replace e1 : r2 = r2q := e1
        subst e1
        subst e2
        replace hP : va_P D vwCl (Mw h q cA fi fs ga gs pl it asd) H := hP
        replace hD : va_D A (Mw h q cA fi fs ga gs pl it asd) := hD
        refine lv_if_eq (tgt := 29) hx hb dX7_sound_22 (by decide) (fun c5 => ?_) (fun c5 => ?_)
        · replace hf := it_of c5 hf
          refine lv_aload_n hx hb dX7_sound_29 rfl (lv_at hl 0 rfl) ?_
          refine lv_iload_n hx hb dX7_sound_30 rfl (lv_at hl 2 rfl) ?_
          obtain ⟨r6q, pl_7, hq8, hf⟩ := b2_of hf
          refine callVI (As := [.int x2]) (rest := [.int x1]) (wr := []) C0 (c_X7_heardOf h q fi fs ga gs pl it asd x2 _ hq8) lk_X7_323_X7_heardOf rfl hP hD hS perm_nil 0 7 rfl rfl rfl hl.1 rfl rfl (Nat.le_of_ble_eq_true rfl) dX7_sound_31 ⟨Nat.zero_le _, Nat.zero_le _⟩ (fun r6 w H locs hw hP hD hS => ?_)
          obtain ⟨e1, e2⟩ := hw
          replace e1 : r6 = r6q := e1
          subst e1
          subst e2
          replace hP : va_P D vwCl (Mw h q cA fi fs ga gs pl_7 it asd) H := hP.nil
          replace hD : va_D A (Mw h q cA fi fs ga gs pl_7 it asd) := hD.nil
          refine lv_iadd hx hb dX7_sound_34 ?_
          refine lv_istore_n (lv' := [(1, .int (x1 + r6)), (0, .ref h), (2, .int x2)]) hx hb dX7_sound_35 rfl hl (by decide) rfl (fun ls hl => ?_)
          refine lv_iinc (v := (x2 + 1)) (lv' := [(2, .int (x2 + 1)), (1, .int (x1 + r6)), (0, .ref h)]) hx hb dX7_sound_36 hl (k := 2) rfl rfl (by decide) rfl (fun ls hl => ?_)
          refine lv_goto (tgt := 4) hx hb dX7_sound_39 (by decide) ?_
          exact ih (x1 + r6) (x2 + 1) pl_7 hf _ _ hP hD hS _ (lv_sub hl [2, 1, 0] rfl)
        · replace hf := ie_of c5 hf
          refine lv_iconst (v := 0) hx hb dX7_sound_25 (by decide) ?_
          refine lv_goto (tgt := 34) hx hb dX7_sound_26 (by decide) ?_
          refine lv_iadd hx hb dX7_sound_34 ?_
          refine lv_istore_n (lv' := [(1, .int (x1 + 0)), (0, .ref h), (2, .int x2)]) hx hb dX7_sound_35 rfl hl (by decide) rfl (fun ls hl => ?_)
          refine lv_iinc (v := (x2 + 1)) (lv' := [(2, .int (x2 + 1)), (1, .int (x1 + 0)), (0, .ref h)]) hx hb dX7_sound_36 hl (k := 2) rfl rfl (by decide) rfl (fun ls hl => ?_)
          refine lv_goto (tgt := 4) hx hb dX7_sound_39 (by decide) ?_
          exact ih (x1 + 0) (x2 + 1) pl hf _ _ hP hD hS _ (lv_sub hl [2, 1, 0] rfl)
  unfold k_X7_sound at hf
  refine lv_iconst (v := 0) hx hb dX7_sound_0 (by decide) ?_
  refine lv_istore_n (lv' := [(1, .int 0), (0, .ref h)]) hx hb dX7_sound_1 rfl hl (by decide) rfl (fun ls hl => ?_)
  refine lv_iconst (v := 0) hx hb dX7_sound_2 (by decide) ?_
  refine lv_istore_n (lv' := [(2, .int 0), (1, .int 0), (0, .ref h)]) hx hb dX7_sound_3 rfl hl (by decide) rfl (fun ls hl => ?_)
  exact J4 100000 0 0 pl0 hf _ _ hP hD hS _ (lv_sub hl [2, 1, 0] rfl)
-- goDay
noncomputable def k_X7_goDay_157  (kc112 : Int32 → (Nat → Int32) → (Nat → Nat → Int32) → (Nat → Int32) → Option ((Nat → Int32) × (Nat → Nat → Int32) × (Nat → Int32))) (x3 : Int32) (t1 : Int32) (t2 : Int32) (fi : Nat → Int32) (ga : Nat → Nat → Int32) (pl : Nat → Int32) : Option ((Nat → Int32) × (Nat → Nat → Int32) × (Nat → Int32)) := gd t1 6 (kc112 (x3 + 1) fi (va_up ga 9 (upd (ga 9) (Int32.toNatClampNeg t1) t2)) pl)
noncomputable def k_X7_goDay_112 (fs : Nat → Int32) : Nat → Int32 → (Nat → Int32) → (Nat → Nat → Int32) → (Nat → Int32) → Option ((Nat → Int32) × (Nat → Nat → Int32) × (Nat → Int32))
  | 0, _, _, _, _ => none
  | n + 1, x3, fi, ga, pl => if (fi 0) ≤ x3 then some ((upd fi 5 ((fi 5) + 1)), ga, pl) else b1 (k_X7_has (fi 1) x3) (fun r2 => if r2 = 0 then gd x3 6 (b1 (k_X7_least (((ga 9) (Int32.toNatClampNeg x3)) + 1) (fs 29)) (fun r7 => k_X7_goDay_157 (k_X7_goDay_112 fs n) x3 x3 r7 fi ga pl)) else k_X7_goDay_157 (k_X7_goDay_112 fs n) x3 x3 0 fi ga pl)
noncomputable def k_X7_goDay_70 (fs : Nat → Int32) (t1 : Int32) (fi : Nat → Int32) (ga : Nat → Nat → Int32) (pl : Nat → Int32) : Option ((Nat → Int32) × (Nat → Nat → Int32) × (Nat → Int32)) := if t1 < 100 then k_X7_goDay_112 fs 100000 0 (upd fi 2 t1) ga pl else b1 (k_X7_least ((fi 3) + 1) (fs 29)) (fun r2 => nm (upd (upd (upd fi 2 t1) 3 r2) 2 (t1 / 2)) (fun fi_4 => k_X7_goDay_112 fs 100000 0 fi_4 ga pl))
noncomputable def k_X7_goDay_52 (fs : Nat → Int32) (t0 : Int32) (fi : Nat → Int32) (ga : Nat → Nat → Int32) (pl : Nat → Int32) : Option ((Nat → Int32) × (Nat → Nat → Int32) × (Nat → Int32)) := if 0 ≤ t0 then b1 (k_X7_least t0 9999) (fun r2 => k_X7_goDay_70 fs r2 fi ga pl) else k_X7_goDay_70 fs 0 fi ga pl
noncomputable def k_X7_goDay_27 (fs : Nat → Int32) (x1 : Int32) (fi : Nat → Int32) (ga : Nat → Nat → Int32) (pl : Nat → Int32) : Option ((Nat → Int32) × (Nat → Nat → Int32) × (Nat → Int32)) := if x1 = 0 then k_X7_goDay_52 fs ((fi 2) + 50) fi ga pl else b1 (k_X7_calm fi ga) (fun r2 => k_X7_goDay_52 fs (((fi 2) + x1) - r2) fi ga pl)
noncomputable def k_X7_goDay (fi0 : Nat → Int32) (fs : Nat → Int32) (ga0 : Nat → Nat → Int32) (pl0 : Nat → Int32) : Option ((Nat → Int32) × (Nat → Nat → Int32) × (Nat → Int32)) := b2 (k_X7_sound fi0 ga0 pl0) (fun r1 pl_2 => if r1 = 0 then b1 (k_X7_least ((fi0 4) + 1) (fs 29)) (fun r5 => k_X7_goDay_27 fs r1 (upd fi0 4 r5) ga0 pl_2) else k_X7_goDay_27 fs r1 fi0 ga0 pl_2)
set_option maxHeartbeats 4000000 in
set_option maxRecDepth 100000 in
theorem c_X7_goDay {l : Launch} {D : va_G} {cA : Nat → ClassId} (h : Nat) (q : Nat → Nat) (fi0 : Nat → Int32) (fs : Nat → Int32) (ga0 : Nat → Nat → Int32) (gs : Nat → Nat → Int32) (pl0 : Nat → Int32) (it : Nat → Int64) (asd : Nat → Int64)  (o : (Nat → Int32) × (Nat → Nat → Int32) × (Nat → Int32)) (hf : k_X7_goDay fi0 fs ga0 pl0 = some o) : CV l D cA yX7_goDay cX7_goDay 4 none 6 139 [.ref h] (Mw h q cA fi0 fs ga0 gs pl0 it asd) 0 0 (fun w => w = (Mw h q cA o.1 fs o.2.1 gs o.2.2 it asd)) := by
  intro sz
  refine met_start (by decide) rfl ?_
  intro p e s m args below meth c ls hsz hargs C0 hname hP hD hS hl
  generalize hAe : va_A (Mw h q cA fi0 fs ga0 gs pl0 it asd) sz = A at C0 hD hS ⊢
  obtain ⟨hx, hb, hr, hml, hown, hts, hlk, hK, hA⟩ := id C0
  replace hl : lv_has ls 4 [(0, .ref h)] := hl
  obtain ⟨Q, hQ⟩ : ∃ Q : State → Prop, Q = QV below D A (fun w => w = (Mw h q cA o.1 fs o.2.1 gs o.2.2 it asd)) args s 0 0 := ⟨_, rfl⟩
  refine cast (by rw [hQ]) (?_ : W p l e (RMx 6 139 0 0) s m args below meth c s.heap [] 0 0 Q (F0 m 0 ls []))
  have J157 : ∀ (kc112 : Int32 → (Nat → Int32) → (Nat → Nat → Int32) → (Nat → Int32) → Option ((Nat → Int32) × (Nat → Nat → Int32) × (Nat → Int32))) (hkc112 : ∀ (x3 : Int32) (fi : Nat → Int32) (ga : Nat → Nat → Int32) (pl : Nat → Int32), kc112 x3 fi ga pl = some o → ∀ (H : Heap) (locs : List Loc), va_P D vwCl (Mw h q cA fi fs ga gs pl it asd) H → va_D A (Mw h q cA fi fs ga gs pl it asd) → va_S A s.heap H locs → ∀ ls : Array Slot, lv_has ls 4 [(0, .ref h), (3, .int x3)] → W p l e (RMx 6 139 0 0) s m args below meth c H locs 0 0 Q (F0 m 112 ls [])), ∀ (x3 : Int32) (t1 : Int32) (t2 : Int32) (fi : Nat → Int32) (ga : Nat → Nat → Int32) (pl : Nat → Int32), k_X7_goDay_157 kc112 x3 t1 t2 fi ga pl = some o → ∀ (H : Heap) (locs : List Loc), va_P D vwCl (Mw h q cA fi fs ga gs pl it asd) H → va_D A (Mw h q cA fi fs ga gs pl it asd) → va_S A s.heap H locs → ∀ ls : Array Slot, lv_has ls 4 [(0, .ref h), (3, .int x3)] → W p l e (RMx 6 139 0 0) s m args below meth c H locs 0 0 Q (F0 m 157 ls [.int t2, .int t1, .ref (q 9)]) := by
    intro kc112 hkc112 x3 t1 t2 fi ga pl hf H locs hP hD hS ls hl
    unfold k_X7_goDay_157 at hf
    obtain ⟨hi1, hf⟩ := gd_of hf
    refine va_iast hx hb hK hP hD hS 4 0 rfl rfl hi1 dX7_goDay_157 (fun H locs hP hD hS => ?_)
    replace hP : va_P D vwCl (Mw h q cA fi fs (va_up ga 9 (upd (ga 9) (Int32.toNatClampNeg t1) t2)) gs pl it asd) H := hP
    replace hD : va_D A (Mw h q cA fi fs (va_up ga 9 (upd (ga 9) (Int32.toNatClampNeg t1) t2)) gs pl it asd) := hD
    refine lv_iinc (v := (x3 + 1)) (lv' := [(3, .int (x3 + 1)), (0, .ref h)]) hx hb dX7_goDay_158 hl (k := 1) rfl rfl (by decide) rfl (fun ls hl => ?_)
    refine lv_goto (tgt := 112) hx hb dX7_goDay_161 (by decide) ?_
    exact hkc112 (x3 + 1) fi (va_up ga 9 (upd (ga 9) (Int32.toNatClampNeg t1) t2)) pl hf _ _ hP hD hS _ (lv_sub hl [1, 0] rfl)
  have J112 : ∀ n : Nat, ∀ (x3 : Int32) (fi : Nat → Int32) (ga : Nat → Nat → Int32) (pl : Nat → Int32), k_X7_goDay_112 fs n x3 fi ga pl = some o → ∀ (H : Heap) (locs : List Loc), va_P D vwCl (Mw h q cA fi fs ga gs pl it asd) H → va_D A (Mw h q cA fi fs ga gs pl it asd) → va_S A s.heap H locs → ∀ ls : Array Slot, lv_has ls 4 [(0, .ref h), (3, .int x3)] → W p l e (RMx 6 139 0 0) s m args below meth c H locs 0 0 Q (F0 m 112 ls []) := by
    intro  n
    induction n with
    | zero =>
      intro x3 fi ga pl hf
      rw [k_X7_goDay_112] at hf
      cases hf
    | succ n ih =>
      intro x3 fi ga pl hf H locs hP hD hS ls hl
      rw [k_X7_goDay_112] at hf
      refine lv_iload_n hx hb dX7_goDay_112 rfl (lv_at hl 1 rfl) ?_
      refine lv_aload_n hx hb dX7_goDay_113 rfl (lv_at hl 0 rfl) ?_
      refine va_get (D := D) (ci := 7) (v := .int (fi 0)) (C := RX7) (T := TX7) (N := 73) hx hb hts fw_7 hown hK hP 0 rfl rfl 0 (by decide) (hts _ m_fieldLink_M_7_M_men_I) (fun _ h9 => h9) rfl dX7_goDay_114 ?_
      refine lv_icmp_ge (tgt := 164) hx hb dX7_goDay_117 (by decide) (fun c1 => ?_) (fun c1 => ?_)
      · replace hf := it_of c1 hf
        refine lv_aload_n hx hb dX7_goDay_164 rfl (lv_at hl 0 rfl) ?_
        refine lv_dup hx hb dX7_goDay_165 rfl ?_
        refine va_get (D := D) (ci := 7) (v := .int (fi 5)) (C := RX7) (T := TX7) (N := 73) hx hb hts fw_7 hown hK hP 0 rfl rfl 5 (by decide) (hts _ m_fieldLink_M_25_M_day_I) (fun _ h9 => h9) rfl dX7_goDay_166 ?_
        refine lv_iconst (v := 1) hx hb dX7_goDay_169 (by decide) ?_
        refine lv_iadd hx hb dX7_goDay_170 ?_
        refine va_put (D := D) (ci := 7) (v := .int ((fi 5) + 1)) (ty := .int) (C := RX7) (T := TX7) (N := 73) hx hb hts fw_7 tyX7 tyX7_ok nmX7 hown hK hP hD hS 0 rfl rfl 5 (by decide) (hts _ m_fieldLink_M_25_M_day_I) (fun _ h9 => h9) rfl (by decide +kernel) rfl rfl (Nat.le_of_ble_eq_true rfl) dX7_goDay_171 (fun H locs hP hD hS => ?_)
        replace hP : va_P D vwCl (Mw h q cA (upd fi 5 ((fi 5) + 1)) fs ga gs pl it asd) H := hP
        replace hD : va_D A (Mw h q cA (upd fi 5 ((fi 5) + 1)) fs ga gs pl it asd) := hD
        rw [hQ]
        exact ret_v C0 hP hD hS (by have e := Option.some.inj hf; first | (rw [← e]; done) | (rw [← e]; exact rfl)) dX7_goDay_174
      · replace hf := ie_of c1 hf
        refine lv_aload_n hx hb dX7_goDay_120 rfl (lv_at hl 0 rfl) ?_
        refine va_get (D := D) (ci := 7) (v := .ref (q 9)) (C := RX7) (T := TX7) (N := 73) hx hb hts fw_7 hown hK hP 0 rfl rfl 9 (by decide) (hts _ m_fieldLink_M_38_M_spell_aI) (fun _ h9 => h9) rfl dX7_goDay_121 ?_
        refine lv_iload_n hx hb dX7_goDay_124 rfl (lv_at hl 1 rfl) ?_
        refine lv_aload_n hx hb dX7_goDay_125 rfl (lv_at hl 0 rfl) ?_
        refine lv_aload_n hx hb dX7_goDay_126 rfl (lv_at hl 0 rfl) ?_
        refine va_get (D := D) (ci := 7) (v := .int (fi 1)) (C := RX7) (T := TX7) (N := 73) hx hb hts fw_7 hown hK hP 0 rfl rfl 1 (by decide) (hts _ m_fieldLink_M_13_M_up_I) (fun _ h9 => h9) rfl dX7_goDay_127 ?_
        refine lv_iload_n hx hb dX7_goDay_130 rfl (lv_at hl 1 rfl) ?_
        obtain ⟨r2q, hq3, hf⟩ := b1_of hf
        refine callVI (As := [.int (fi 1), .int x3]) (rest := [.int x3, .ref (q 9)]) (wr := (Mw h q cA fi fs ga gs pl it asd)) C0 (c_X7_has h (fi 1) x3 _ hq3) lk_X7_233_X7_has rfl hP hD hS (List.Perm.refl _) 0 7 rfl rfl rfl hl.1 rfl rfl (Nat.le_of_ble_eq_true rfl) dX7_goDay_131 ⟨Nat.zero_le _, Nat.zero_le _⟩ (fun r2 w H locs hw hP hD hS => ?_)
        obtain ⟨⟨e1, e2⟩, z4⟩ := hw
        replace e1 : r2 = r2q := e1
        subst e1
        subst e2
        replace hP : va_P D vwCl (Mw h q cA fi fs ga gs pl it asd) H := hP
        replace hD : va_D A (Mw h q cA fi fs ga gs pl it asd) := hD
        refine lv_if_eq (tgt := 141) hx hb dX7_goDay_134 (by decide) (fun c5 => ?_) (fun c5 => ?_)
        · replace hf := it_of c5 hf
          refine lv_aload_n hx hb dX7_goDay_141 rfl (lv_at hl 0 rfl) ?_
          refine lv_aload_n hx hb dX7_goDay_142 rfl (lv_at hl 0 rfl) ?_
          refine va_get (D := D) (ci := 7) (v := .ref (q 9)) (C := RX7) (T := TX7) (N := 73) hx hb hts fw_7 hown hK hP 0 rfl rfl 9 (by decide) (hts _ m_fieldLink_M_38_M_spell_aI) (fun _ h9 => h9) rfl dX7_goDay_143 ?_
          refine lv_iload_n hx hb dX7_goDay_146 rfl (lv_at hl 1 rfl) ?_
          obtain ⟨hi6, hf⟩ := gd_of hf
          refine va_iald hx hb hK hP 4 0 rfl rfl hi6 dX7_goDay_147 ?_
          refine lv_iconst (v := 1) hx hb dX7_goDay_148 (by decide) ?_
          refine lv_iadd hx hb dX7_goDay_149 ?_
          refine lv_aload_n hx hb dX7_goDay_150 rfl (lv_at hl 0 rfl) ?_
          refine va_get (D := D) (ci := 7) (v := .int (fs 29)) (C := RX7) (T := TX7) (N := 73) hx hb hts fw_7 hown hK hP 0 rfl rfl 29 (by decide) (hts _ m_fieldLink_M_99_M_mostCount_I) (fun _ h9 => h9) rfl dX7_goDay_151 ?_
          obtain ⟨r7q, hq8, hf⟩ := b1_of hf
          refine callVI (As := [.int (((ga 9) (Int32.toNatClampNeg x3)) + 1), .int (fs 29)]) (rest := [.int x3, .ref (q 9)]) (wr := (Mw h q cA fi fs ga gs pl it asd)) C0 (c_X7_least h (((ga 9) (Int32.toNatClampNeg x3)) + 1) (fs 29) _ hq8) lk_X7_314_X7_least rfl hP hD hS (List.Perm.refl _) 0 7 rfl rfl rfl hl.1 rfl rfl (Nat.le_of_ble_eq_true rfl) dX7_goDay_154 ⟨Nat.zero_le _, Nat.zero_le _⟩ (fun r7 w H locs hw hP hD hS => ?_)
          obtain ⟨e1, e2⟩ := hw
          replace e1 : r7 = r7q := e1
          subst e1
          subst e2
          replace hP : va_P D vwCl (Mw h q cA fi fs ga gs pl it asd) H := hP
          replace hD : va_D A (Mw h q cA fi fs ga gs pl it asd) := hD
          exact J157 _ ih x3 x3 r7 fi ga pl hf _ _ hP hD hS _ (lv_sub hl [0, 1] rfl)
        · replace hf := ie_of c5 hf
          refine lv_iconst (v := 0) hx hb dX7_goDay_137 (by decide) ?_
          refine lv_goto (tgt := 157) hx hb dX7_goDay_138 (by decide) ?_
          exact J157 _ ih x3 x3 0 fi ga pl hf _ _ hP hD hS _ (lv_sub hl [0, 1] rfl)
  have J70 : ∀ (t1 : Int32) (fi : Nat → Int32) (ga : Nat → Nat → Int32) (pl : Nat → Int32), k_X7_goDay_70 fs t1 fi ga pl = some o → ∀ (H : Heap) (locs : List Loc), va_P D vwCl (Mw h q cA fi fs ga gs pl it asd) H → va_D A (Mw h q cA fi fs ga gs pl it asd) → va_S A s.heap H locs → ∀ ls : Array Slot, lv_has ls 4 [(0, .ref h)] → W p l e (RMx 6 139 0 0) s m args below meth c H locs 0 0 Q (F0 m 70 ls [.int t1, .ref h]) := by
    intro  t1 fi ga pl hf H locs hP hD hS ls hl
    unfold k_X7_goDay_70 at hf
    refine va_put (D := D) (ci := 7) (v := .int t1) (ty := .int) (C := RX7) (T := TX7) (N := 73) hx hb hts fw_7 tyX7 tyX7_ok nmX7 hown hK hP hD hS 0 rfl rfl 2 (by decide) (hts _ m_fieldLink_M_16_M_fears_I) (fun _ h9 => h9) rfl (by decide +kernel) rfl rfl (Nat.le_of_ble_eq_true rfl) dX7_goDay_70 (fun H locs hP hD hS => ?_)
    replace hP : va_P D vwCl (Mw h q cA (upd fi 2 t1) fs ga gs pl it asd) H := hP
    replace hD : va_D A (Mw h q cA (upd fi 2 t1) fs ga gs pl it asd) := hD
    refine lv_aload_n hx hb dX7_goDay_73 rfl (lv_at hl 0 rfl) ?_
    refine va_get (D := D) (ci := 7) (v := .int t1) (C := RX7) (T := TX7) (N := 73) hx hb hts fw_7 hown hK hP 0 rfl rfl 2 (by decide) (hts _ m_fieldLink_M_16_M_fears_I) (fun _ h9 => h9) rfl dX7_goDay_74 ?_
    refine lv_bipush (v := 100) hx hb dX7_goDay_77 (by decide) ?_
    refine lv_icmp_lt (tgt := 110) hx hb dX7_goDay_79 (by decide) (fun c1 => ?_) (fun c1 => ?_)
    · replace hf := it_of c1 hf
      refine lv_iconst (v := 0) hx hb dX7_goDay_110 (by decide) ?_
      refine lv_istore_n (lv' := [(3, .int 0), (0, .ref h)]) hx hb dX7_goDay_111 rfl hl (by decide) rfl (fun ls hl => ?_)
      exact J112 100000 0 (upd fi 2 t1) ga pl hf _ _ hP hD hS _ (lv_sub hl [1, 0] rfl)
    · replace hf := ie_of c1 hf
      refine lv_aload_n hx hb dX7_goDay_82 rfl (lv_at hl 0 rfl) ?_
      refine lv_aload_n hx hb dX7_goDay_83 rfl (lv_at hl 0 rfl) ?_
      refine lv_aload_n hx hb dX7_goDay_84 rfl (lv_at hl 0 rfl) ?_
      refine va_get (D := D) (ci := 7) (v := .int (fi 3)) (C := RX7) (T := TX7) (N := 73) hx hb hts fw_7 hown hK hP 0 rfl rfl 3 (by decide) (hts _ m_fieldLink_M_19_M_truths_I) (fun _ h9 => h9) rfl dX7_goDay_85 ?_
      refine lv_iconst (v := 1) hx hb dX7_goDay_88 (by decide) ?_
      refine lv_iadd hx hb dX7_goDay_89 ?_
      refine lv_aload_n hx hb dX7_goDay_90 rfl (lv_at hl 0 rfl) ?_
      refine va_get (D := D) (ci := 7) (v := .int (fs 29)) (C := RX7) (T := TX7) (N := 73) hx hb hts fw_7 hown hK hP 0 rfl rfl 29 (by decide) (hts _ m_fieldLink_M_99_M_mostCount_I) (fun _ h9 => h9) rfl dX7_goDay_91 ?_
      obtain ⟨r2q, hq3, hf⟩ := b1_of hf
      refine callVI (As := [.int ((fi 3) + 1), .int (fs 29)]) (rest := [.ref h]) (wr := (Mw h q cA (upd fi 2 t1) fs ga gs pl it asd)) C0 (c_X7_least h ((fi 3) + 1) (fs 29) _ hq3) lk_X7_314_X7_least rfl hP hD hS (List.Perm.refl _) 0 7 rfl rfl rfl hl.1 rfl rfl (Nat.le_of_ble_eq_true rfl) dX7_goDay_94 ⟨Nat.zero_le _, Nat.zero_le _⟩ (fun r2 w H locs hw hP hD hS => ?_)
      obtain ⟨e1, e2⟩ := hw
      replace e1 : r2 = r2q := e1
      subst e1
      subst e2
      replace hP : va_P D vwCl (Mw h q cA (upd fi 2 t1) fs ga gs pl it asd) H := hP
      replace hD : va_D A (Mw h q cA (upd fi 2 t1) fs ga gs pl it asd) := hD
      refine va_put (D := D) (ci := 7) (v := .int r2) (ty := .int) (C := RX7) (T := TX7) (N := 73) hx hb hts fw_7 tyX7 tyX7_ok nmX7 hown hK hP hD hS 0 rfl rfl 3 (by decide) (hts _ m_fieldLink_M_19_M_truths_I) (fun _ h9 => h9) rfl (by decide +kernel) rfl rfl (Nat.le_of_ble_eq_true rfl) dX7_goDay_97 (fun H locs hP hD hS => ?_)
      replace hP : va_P D vwCl (Mw h q cA (upd (upd fi 2 t1) 3 r2) fs ga gs pl it asd) H := hP
      replace hD : va_D A (Mw h q cA (upd (upd fi 2 t1) 3 r2) fs ga gs pl it asd) := hD
      refine lv_aload_n hx hb dX7_goDay_100 rfl (lv_at hl 0 rfl) ?_
      refine lv_dup hx hb dX7_goDay_101 rfl ?_
      refine va_get (D := D) (ci := 7) (v := .int t1) (C := RX7) (T := TX7) (N := 73) hx hb hts fw_7 hown hK hP 0 rfl rfl 2 (by decide) (hts _ m_fieldLink_M_16_M_fears_I) (fun _ h9 => h9) rfl dX7_goDay_102 ?_
      refine lv_iconst (v := 2) hx hb dX7_goDay_105 (by decide) ?_
      refine lv_idiv hx hb dX7_goDay_106 (by decide) ?_
      refine va_put (D := D) (ci := 7) (v := .int (t1 / 2)) (ty := .int) (C := RX7) (T := TX7) (N := 73) hx hb hts fw_7 tyX7 tyX7_ok nmX7 hown hK hP hD hS 0 rfl rfl 2 (by decide) (hts _ m_fieldLink_M_16_M_fears_I) (fun _ h9 => h9) rfl (by decide +kernel) rfl rfl (Nat.le_of_ble_eq_true rfl) dX7_goDay_107 (fun H locs hP hD hS => ?_)
      replace hP : va_P D vwCl (Mw h q cA (upd (upd (upd fi 2 t1) 3 r2) 2 (t1 / 2)) fs ga gs pl it asd) H := hP
      replace hD : va_D A (Mw h q cA (upd (upd (upd fi 2 t1) 3 r2) 2 (t1 / 2)) fs ga gs pl it asd) := hD
      obtain ⟨fi_4, hv5, hf⟩ := nm_of hf
      replace hP : va_P D vwCl (Mw h q cA fi_4 fs ga gs pl it asd) H := by rw [hv5]; exact hP
      replace hD : va_D A (Mw h q cA fi_4 fs ga gs pl it asd) := by rw [hv5]; exact hD
      refine lv_iconst (v := 0) hx hb dX7_goDay_110 (by decide) ?_
      refine lv_istore_n (lv' := [(3, .int 0), (0, .ref h)]) hx hb dX7_goDay_111 rfl hl (by decide) rfl (fun ls hl => ?_)
      exact J112 100000 0 fi_4 ga pl hf _ _ hP hD hS _ (lv_sub hl [1, 0] rfl)
  have J52 : ∀ (t0 : Int32) (fi : Nat → Int32) (ga : Nat → Nat → Int32) (pl : Nat → Int32), k_X7_goDay_52 fs t0 fi ga pl = some o → ∀ (H : Heap) (locs : List Loc), va_P D vwCl (Mw h q cA fi fs ga gs pl it asd) H → va_D A (Mw h q cA fi fs ga gs pl it asd) → va_S A s.heap H locs → ∀ ls : Array Slot, lv_has ls 4 [(0, .ref h)] → W p l e (RMx 6 139 0 0) s m args below meth c H locs 0 0 Q (F0 m 52 ls [.int t0]) := by
    intro  t0 fi ga pl hf H locs hP hD hS ls hl
    unfold k_X7_goDay_52 at hf
    refine lv_istore_n (lv' := [(2, .int t0), (0, .ref h)]) hx hb dX7_goDay_52 rfl hl (by decide) rfl (fun ls hl => ?_)
    refine lv_aload_n hx hb dX7_goDay_53 rfl (lv_at hl 1 rfl) ?_
    refine lv_iload_n hx hb dX7_goDay_54 rfl (lv_at hl 0 rfl) ?_
    refine lv_if_ge (tgt := 62) hx hb dX7_goDay_55 (by decide) (fun c1 => ?_) (fun c1 => ?_)
    · replace hf := it_of c1 hf
      refine lv_aload_n hx hb dX7_goDay_62 rfl (lv_at hl 1 rfl) ?_
      refine lv_iload_n hx hb dX7_goDay_63 rfl (lv_at hl 0 rfl) ?_
      refine lv_sipush (v := 9999) hx hb dX7_goDay_64 (by decide) ?_
      obtain ⟨r2q, hq3, hf⟩ := b1_of hf
      refine callVI (As := [.int t0, .int 9999]) (rest := [.ref h]) (wr := (Mw h q cA fi fs ga gs pl it asd)) C0 (c_X7_least h t0 9999 _ hq3) lk_X7_314_X7_least rfl hP hD hS (List.Perm.refl _) 0 7 rfl rfl rfl hl.1 rfl rfl (Nat.le_of_ble_eq_true rfl) dX7_goDay_67 ⟨Nat.zero_le _, Nat.zero_le _⟩ (fun r2 w H locs hw hP hD hS => ?_)
      obtain ⟨e1, e2⟩ := hw
      replace e1 : r2 = r2q := e1
      subst e1
      subst e2
      replace hP : va_P D vwCl (Mw h q cA fi fs ga gs pl it asd) H := hP
      replace hD : va_D A (Mw h q cA fi fs ga gs pl it asd) := hD
      exact J70 r2 fi ga pl hf _ _ hP hD hS _ (lv_sub hl [1] rfl)
    · replace hf := ie_of c1 hf
      refine lv_iconst (v := 0) hx hb dX7_goDay_58 (by decide) ?_
      refine lv_goto (tgt := 70) hx hb dX7_goDay_59 (by decide) ?_
      exact J70 0 fi ga pl hf _ _ hP hD hS _ (lv_sub hl [1] rfl)
  have J27 : ∀ (x1 : Int32) (fi : Nat → Int32) (ga : Nat → Nat → Int32) (pl : Nat → Int32), k_X7_goDay_27 fs x1 fi ga pl = some o → ∀ (H : Heap) (locs : List Loc), va_P D vwCl (Mw h q cA fi fs ga gs pl it asd) H → va_D A (Mw h q cA fi fs ga gs pl it asd) → va_S A s.heap H locs → ∀ ls : Array Slot, lv_has ls 4 [(0, .ref h), (1, .int x1)] → W p l e (RMx 6 139 0 0) s m args below meth c H locs 0 0 Q (F0 m 27 ls []) := by
    intro  x1 fi ga pl hf H locs hP hD hS ls hl
    unfold k_X7_goDay_27 at hf
    refine lv_iload_n hx hb dX7_goDay_27 rfl (lv_at hl 1 rfl) ?_
    refine lv_if_ne (tgt := 41) hx hb dX7_goDay_28 (by decide) (fun c1 => ?_) (fun c1 => ?_)
    · replace hf := ie_of c1 hf
      refine lv_aload_n hx hb dX7_goDay_41 rfl (lv_at hl 0 rfl) ?_
      refine va_get (D := D) (ci := 7) (v := .int (fi 2)) (C := RX7) (T := TX7) (N := 73) hx hb hts fw_7 hown hK hP 0 rfl rfl 2 (by decide) (hts _ m_fieldLink_M_16_M_fears_I) (fun _ h9 => h9) rfl dX7_goDay_42 ?_
      refine lv_iload_n hx hb dX7_goDay_45 rfl (lv_at hl 1 rfl) ?_
      refine lv_iadd hx hb dX7_goDay_46 ?_
      refine lv_aload_n hx hb dX7_goDay_47 rfl (lv_at hl 0 rfl) ?_
      obtain ⟨r2q, hq3, hf⟩ := b1_of hf
      refine callVI (As := []) (rest := [.int ((fi 2) + x1)]) (wr := []) C0 (c_X7_calm h q fi fs ga gs pl it asd _ hq3) lk_X7_329_X7_calm rfl hP hD hS perm_nil 0 7 rfl rfl rfl hl.1 rfl rfl (Nat.le_of_ble_eq_true rfl) dX7_goDay_48 ⟨Nat.zero_le _, Nat.zero_le _⟩ (fun r2 w H locs hw hP hD hS => ?_)
      obtain ⟨e1, e2⟩ := hw
      replace e1 : r2 = r2q := e1
      subst e1
      subst e2
      replace hP : va_P D vwCl (Mw h q cA fi fs ga gs pl it asd) H := hP.nil
      replace hD : va_D A (Mw h q cA fi fs ga gs pl it asd) := hD.nil
      refine lv_isub hx hb dX7_goDay_51 ?_
      exact J52 (((fi 2) + x1) - r2) fi ga pl hf _ _ hP hD hS _ (lv_sub hl [0] rfl)
    · replace hf := it_of c1 hf
      refine lv_aload_n hx hb dX7_goDay_31 rfl (lv_at hl 0 rfl) ?_
      refine va_get (D := D) (ci := 7) (v := .int (fi 2)) (C := RX7) (T := TX7) (N := 73) hx hb hts fw_7 hown hK hP 0 rfl rfl 2 (by decide) (hts _ m_fieldLink_M_16_M_fears_I) (fun _ h9 => h9) rfl dX7_goDay_32 ?_
      refine lv_bipush (v := 50) hx hb dX7_goDay_35 (by decide) ?_
      refine lv_iadd hx hb dX7_goDay_37 ?_
      refine lv_goto (tgt := 52) hx hb dX7_goDay_38 (by decide) ?_
      exact J52 ((fi 2) + 50) fi ga pl hf _ _ hP hD hS _ (lv_sub hl [0] rfl)
  unfold k_X7_goDay at hf
  refine lv_aload_n hx hb dX7_goDay_0 rfl (lv_at hl 0 rfl) ?_
  obtain ⟨r1q, pl_2, hq3, hf⟩ := b2_of hf
  refine callVI (As := []) (rest := []) (wr := []) C0 (c_X7_sound h q fi0 fs ga0 gs pl0 it asd _ hq3) lk_X7_326_X7_sound rfl hP hD hS perm_nil 0 7 rfl rfl rfl hl.1 rfl rfl (Nat.le_of_ble_eq_true rfl) dX7_goDay_1 ⟨Nat.zero_le _, Nat.zero_le _⟩ (fun r1 w H locs hw hP hD hS => ?_)
  obtain ⟨e1, e2⟩ := hw
  replace e1 : r1 = r1q := e1
  subst e1
  subst e2
  replace hP : va_P D vwCl (Mw h q cA fi0 fs ga0 gs pl_2 it asd) H := hP.nil
  replace hD : va_D A (Mw h q cA fi0 fs ga0 gs pl_2 it asd) := hD.nil
  refine lv_istore_n (lv' := [(1, .int r1), (0, .ref h)]) hx hb dX7_goDay_4 rfl hl (by decide) rfl (fun ls hl => ?_)
  refine lv_iload_n hx hb dX7_goDay_5 rfl (lv_at hl 0 rfl) ?_
  refine lv_if_ne (tgt := 27) hx hb dX7_goDay_6 (by decide) (fun c4 => ?_) (fun c4 => ?_)
  · replace hf := ie_of c4 hf
    exact J27 r1 fi0 ga0 pl_2 hf _ _ hP hD hS _ (lv_sub hl [1, 0] rfl)
  · replace hf := it_of c4 hf
    refine lv_aload_n hx hb dX7_goDay_9 rfl (lv_at hl 1 rfl) ?_
    refine lv_aload_n hx hb dX7_goDay_10 rfl (lv_at hl 1 rfl) ?_
    refine lv_aload_n hx hb dX7_goDay_11 rfl (lv_at hl 1 rfl) ?_
    refine va_get (D := D) (ci := 7) (v := .int (fi0 4)) (C := RX7) (T := TX7) (N := 73) hx hb hts fw_7 hown hK hP 0 rfl rfl 4 (by decide) (hts _ m_fieldLink_M_22_M_silences_I) (fun _ h9 => h9) rfl dX7_goDay_12 ?_
    refine lv_iconst (v := 1) hx hb dX7_goDay_15 (by decide) ?_
    refine lv_iadd hx hb dX7_goDay_16 ?_
    refine lv_aload_n hx hb dX7_goDay_17 rfl (lv_at hl 1 rfl) ?_
    refine va_get (D := D) (ci := 7) (v := .int (fs 29)) (C := RX7) (T := TX7) (N := 73) hx hb hts fw_7 hown hK hP 0 rfl rfl 29 (by decide) (hts _ m_fieldLink_M_99_M_mostCount_I) (fun _ h9 => h9) rfl dX7_goDay_18 ?_
    obtain ⟨r5q, hq6, hf⟩ := b1_of hf
    refine callVI (As := [.int ((fi0 4) + 1), .int (fs 29)]) (rest := [.ref h]) (wr := (Mw h q cA fi0 fs ga0 gs pl_2 it asd)) C0 (c_X7_least h ((fi0 4) + 1) (fs 29) _ hq6) lk_X7_314_X7_least rfl hP hD hS (List.Perm.refl _) 0 7 rfl rfl rfl hl.1 rfl rfl (Nat.le_of_ble_eq_true rfl) dX7_goDay_21 ⟨Nat.zero_le _, Nat.zero_le _⟩ (fun r5 w H locs hw hP hD hS => ?_)
    obtain ⟨e1, e2⟩ := hw
    replace e1 : r5 = r5q := e1
    subst e1
    subst e2
    replace hP : va_P D vwCl (Mw h q cA fi0 fs ga0 gs pl_2 it asd) H := hP
    replace hD : va_D A (Mw h q cA fi0 fs ga0 gs pl_2 it asd) := hD
    refine va_put (D := D) (ci := 7) (v := .int r5) (ty := .int) (C := RX7) (T := TX7) (N := 73) hx hb hts fw_7 tyX7 tyX7_ok nmX7 hown hK hP hD hS 0 rfl rfl 4 (by decide) (hts _ m_fieldLink_M_22_M_silences_I) (fun _ h9 => h9) rfl (by decide +kernel) rfl rfl (Nat.le_of_ble_eq_true rfl) dX7_goDay_24 (fun H locs hP hD hS => ?_)
    replace hP : va_P D vwCl (Mw h q cA (upd fi0 4 r5) fs ga0 gs pl_2 it asd) H := hP
    replace hD : va_D A (Mw h q cA (upd fi0 4 r5) fs ga0 gs pl_2 it asd) := hD
    exact J27 r1 (upd fi0 4 r5) ga0 pl_2 hf _ _ hP hD hS _ (lv_sub hl [1, 0] rfl)
-- goDays
noncomputable def k_X7_goDays_2 (a1 : Int32) (fs : Nat → Int32) : Nat → Int32 → (Nat → Int32) → (Nat → Nat → Int32) → (Nat → Int32) → Option ((Nat → Int32) × (Nat → Nat → Int32) × (Nat → Int32))
  | 0, _, _, _, _ => none
  | n + 1, x2, fi, ga, pl => if a1 ≤ x2 then some (fi, ga, pl) else b3 (k_X7_goDay fi fs ga pl) (fun fi_2 ga_3 pl_4 => k_X7_goDays_2 a1 fs n (x2 + 1) fi_2 ga_3 pl_4)
noncomputable def k_X7_goDays (a1 : Int32) (fi0 : Nat → Int32) (fs : Nat → Int32) (ga0 : Nat → Nat → Int32) (pl0 : Nat → Int32) : Option ((Nat → Int32) × (Nat → Nat → Int32) × (Nat → Int32)) := k_X7_goDays_2 a1 fs 100000 0 fi0 ga0 pl0
set_option maxHeartbeats 4000000 in
set_option maxRecDepth 100000 in
theorem c_X7_goDays {l : Launch} {D : va_G} {cA : Nat → ClassId} (h : Nat) (q : Nat → Nat) (fi0 : Nat → Int32) (fs : Nat → Int32) (ga0 : Nat → Nat → Int32) (gs : Nat → Nat → Int32) (pl0 : Nat → Int32) (it : Nat → Int64) (asd : Nat → Int64) (a1 : Int32) (o : (Nat → Int32) × (Nat → Nat → Int32) × (Nat → Int32)) (hf : k_X7_goDays a1 fi0 fs ga0 pl0 = some o) : CV l D cA yX7_goDays cX7_goDays 3 none 7 162 [.ref h, .int a1] (Mw h q cA fi0 fs ga0 gs pl0 it asd) 0 0 (fun w => w = (Mw h q cA o.1 fs o.2.1 gs o.2.2 it asd)) := by
  intro sz
  refine met_start (by decide) rfl ?_
  intro p e s m args below meth c ls hsz hargs C0 hname hP hD hS hl
  generalize hAe : va_A (Mw h q cA fi0 fs ga0 gs pl0 it asd) sz = A at C0 hD hS ⊢
  obtain ⟨hx, hb, hr, hml, hown, hts, hlk, hK, hA⟩ := id C0
  replace hl : lv_has ls 3 [(0, .ref h), (1, .int a1)] := hl
  obtain ⟨Q, hQ⟩ : ∃ Q : State → Prop, Q = QV below D A (fun w => w = (Mw h q cA o.1 fs o.2.1 gs o.2.2 it asd)) args s 0 0 := ⟨_, rfl⟩
  refine cast (by rw [hQ]) (?_ : W p l e (RMx 7 162 0 0) s m args below meth c s.heap [] 0 0 Q (F0 m 0 ls []))
  have J2 : ∀ n : Nat, ∀ (x2 : Int32) (fi : Nat → Int32) (ga : Nat → Nat → Int32) (pl : Nat → Int32), k_X7_goDays_2 a1 fs n x2 fi ga pl = some o → ∀ (H : Heap) (locs : List Loc), va_P D vwCl (Mw h q cA fi fs ga gs pl it asd) H → va_D A (Mw h q cA fi fs ga gs pl it asd) → va_S A s.heap H locs → ∀ ls : Array Slot, lv_has ls 3 [(0, .ref h), (1, .int a1), (2, .int x2)] → W p l e (RMx 7 162 0 0) s m args below meth c H locs 0 0 Q (F0 m 2 ls []) := by
    intro  n
    induction n with
    | zero =>
      intro x2 fi ga pl hf
      rw [k_X7_goDays_2] at hf
      cases hf
    | succ n ih =>
      intro x2 fi ga pl hf H locs hP hD hS ls hl
      rw [k_X7_goDays_2] at hf
      refine lv_iload_n hx hb dX7_goDays_2 rfl (lv_at hl 2 rfl) ?_
      refine lv_iload_n hx hb dX7_goDays_3 rfl (lv_at hl 1 rfl) ?_
      refine lv_icmp_ge (tgt := 17) hx hb dX7_goDays_4 (by decide) (fun c1 => ?_) (fun c1 => ?_)
      · replace hf := it_of c1 hf
        rw [hQ]
        exact ret_v C0 hP hD hS (by have e := Option.some.inj hf; first | (rw [← e]; done) | (rw [← e]; exact rfl)) dX7_goDays_17
      · replace hf := ie_of c1 hf
        refine lv_aload_n hx hb dX7_goDays_7 rfl (lv_at hl 0 rfl) ?_
        obtain ⟨fi_2, ga_3, pl_4, hq5, hf⟩ := b3_of hf
        refine callVV (As := []) (rest := []) (wr := []) C0 (c_X7_goDay h q fi fs ga gs pl it asd _ hq5) lk_X7_332_X7_goDay rfl hP hD hS perm_nil 0 7 rfl rfl rfl hl.1 rfl rfl (Nat.le_of_ble_eq_true rfl) dX7_goDays_8 ⟨Nat.zero_le _, Nat.zero_le _⟩ (fun w H locs hw hP hD hS => ?_)
        have e2 := hw
        subst e2
        replace hP : va_P D vwCl (Mw h q cA fi_2 fs ga_3 gs pl_4 it asd) H := hP.nil
        replace hD : va_D A (Mw h q cA fi_2 fs ga_3 gs pl_4 it asd) := hD.nil
        refine lv_iinc (v := (x2 + 1)) (lv' := [(2, .int (x2 + 1)), (0, .ref h), (1, .int a1)]) hx hb dX7_goDays_11 hl (k := 2) rfl rfl (by decide) rfl (fun ls hl => ?_)
        refine lv_goto (tgt := 2) hx hb dX7_goDays_14 (by decide) ?_
        exact ih (x2 + 1) fi_2 ga_3 pl_4 hf _ _ hP hD hS _ (lv_sub hl [1, 2, 0] rfl)
  unfold k_X7_goDays at hf
  refine lv_iconst (v := 0) hx hb dX7_goDays_0 (by decide) ?_
  refine lv_istore_n (lv' := [(2, .int 0), (0, .ref h), (1, .int a1)]) hx hb dX7_goDays_1 rfl hl (by decide) rfl (fun ls hl => ?_)
  exact J2 100000 0 fi0 ga0 pl0 hf _ _ hP hD hS _ (lv_sub hl [1, 2, 0] rfl)
-- pass
noncomputable def k_X7_pass (a1 : Int32) (fi0 : Nat → Int32) (fs : Nat → Int32) (ga0 : Nat → Nat → Int32) (pl0 : Nat → Int32) : Option (Int32 × (Nat → Int32) × (Nat → Nat → Int32) × (Nat → Int32)) := b1 (k_X7_isDays a1) (fun r1 => if r1 = 0 then some ((-2), fi0, ga0, pl0) else if ((fi0 5) + a1) ≤ 9999 then b3 (k_X7_goDays a1 fi0 fs ga0 pl0) (fun fi_6 ga_7 pl_8 => some ((fi_6 5), fi_6, ga_7, pl_8)) else some ((-3), fi0, ga0, pl0))
set_option maxHeartbeats 4000000 in
set_option maxRecDepth 100000 in
theorem c_X7_pass {l : Launch} {D : va_G} {cA : Nat → ClassId} (h : Nat) (q : Nat → Nat) (fi0 : Nat → Int32) (fs : Nat → Int32) (ga0 : Nat → Nat → Int32) (gs : Nat → Nat → Int32) (pl0 : Nat → Int32) (it : Nat → Int64) (asd : Nat → Int64) (a1 : Int32) (o : Int32 × (Nat → Int32) × (Nat → Nat → Int32) × (Nat → Int32)) (hf : k_X7_pass a1 fi0 fs ga0 pl0 = some o) : CI l D cA yX7_pass cX7_pass 2 (some .int) 8 184 [.ref h, .int a1] (Mw h q cA fi0 fs ga0 gs pl0 it asd) 0 0 (fun r w => r = o.1 ∧ w = (Mw h q cA o.2.1 fs o.2.2.1 gs o.2.2.2 it asd)) := by
  intro sz
  refine met_start (by decide) rfl ?_
  intro p e s m args below meth c ls hsz hargs C0 hname hP hD hS hl
  generalize hAe : va_A (Mw h q cA fi0 fs ga0 gs pl0 it asd) sz = A at C0 hD hS ⊢
  obtain ⟨hx, hb, hr, hml, hown, hts, hlk, hK, hA⟩ := id C0
  replace hl : lv_has ls 2 [(0, .ref h), (1, .int a1)] := hl
  obtain ⟨Q, hQ⟩ : ∃ Q : State → Prop, Q = QI below D A (fun r w => r = o.1 ∧ w = (Mw h q cA o.2.1 fs o.2.2.1 gs o.2.2.2 it asd)) args s 0 0 := ⟨_, rfl⟩
  refine cast (by rw [hQ]) (?_ : W p l e (RMx 8 184 0 0) s m args below meth c s.heap [] 0 0 Q (F0 m 0 ls []))
  unfold k_X7_pass at hf
  refine lv_aload_n hx hb dX7_pass_0 rfl (lv_at hl 0 rfl) ?_
  refine lv_iload_n hx hb dX7_pass_1 rfl (lv_at hl 1 rfl) ?_
  obtain ⟨r1q, hq2, hf⟩ := b1_of hf
  refine callVI (As := [.int a1]) (rest := []) (wr := []) C0 (c_X7_isDays h q fi0 fs ga0 gs pl0 it asd a1 _ hq2) lk_X7_335_X7_isDays rfl hP hD hS perm_nil 0 7 rfl rfl rfl hl.1 rfl rfl (Nat.le_of_ble_eq_true rfl) dX7_pass_2 ⟨Nat.zero_le _, Nat.zero_le _⟩ (fun r1 w H locs hw hP hD hS => ?_)
  obtain ⟨⟨e1, e2⟩, z3⟩ := hw
  replace e1 : r1 = r1q := e1
  subst e1
  subst e2
  replace hP : va_P D vwCl (Mw h q cA fi0 fs ga0 gs pl0 it asd) H := hP.nil
  replace hD : va_D A (Mw h q cA fi0 fs ga0 gs pl0 it asd) := hD.nil
  refine lv_if_ne (tgt := 11) hx hb dX7_pass_5 (by decide) (fun c4 => ?_) (fun c4 => ?_)
  · replace hf := ie_of c4 hf
    refine lv_aload_n hx hb dX7_pass_11 rfl (lv_at hl 0 rfl) ?_
    refine va_get (D := D) (ci := 7) (v := .int (fi0 5)) (C := RX7) (T := TX7) (N := 73) hx hb hts fw_7 hown hK hP 0 rfl rfl 5 (by decide) (hts _ m_fieldLink_M_25_M_day_I) (fun _ h9 => h9) rfl dX7_pass_12 ?_
    refine lv_iload_n hx hb dX7_pass_15 rfl (lv_at hl 1 rfl) ?_
    refine lv_iadd hx hb dX7_pass_16 ?_
    refine lv_sipush (v := 9999) hx hb dX7_pass_17 (by decide) ?_
    refine lv_icmp_le (tgt := 26) hx hb dX7_pass_20 (by decide) (fun c5 => ?_) (fun c5 => ?_)
    · replace hf := it_of c5 hf
      refine lv_aload_n hx hb dX7_pass_26 rfl (lv_at hl 0 rfl) ?_
      refine lv_iload_n hx hb dX7_pass_27 rfl (lv_at hl 1 rfl) ?_
      obtain ⟨fi_6, ga_7, pl_8, hq9, hf⟩ := b3_of hf
      refine callVV (As := [.int a1]) (rest := []) (wr := []) C0 (c_X7_goDays h q fi0 fs ga0 gs pl0 it asd a1 _ hq9) lk_X7_338_X7_goDays rfl hP hD hS perm_nil 0 7 rfl rfl rfl hl.1 rfl rfl (Nat.le_of_ble_eq_true rfl) dX7_pass_28 ⟨Nat.zero_le _, Nat.zero_le _⟩ (fun w H locs hw hP hD hS => ?_)
      have e2 := hw
      subst e2
      replace hP : va_P D vwCl (Mw h q cA fi_6 fs ga_7 gs pl_8 it asd) H := hP.nil
      replace hD : va_D A (Mw h q cA fi_6 fs ga_7 gs pl_8 it asd) := hD.nil
      refine lv_aload_n hx hb dX7_pass_31 rfl (lv_at hl 0 rfl) ?_
      refine va_get (D := D) (ci := 7) (v := .int (fi_6 5)) (C := RX7) (T := TX7) (N := 73) hx hb hts fw_7 hown hK hP 0 rfl rfl 5 (by decide) (hts _ m_fieldLink_M_25_M_day_I) (fun _ h9 => h9) rfl dX7_pass_32 ?_
      rw [hQ]
      exact ret_i C0 hP hD hS (by have e := Option.some.inj hf; rw [← e]; exact ⟨rfl, rfl⟩) dX7_pass_35
    · replace hf := ie_of c5 hf
      refine lv_bipush (v := (-3)) hx hb dX7_pass_23 (by decide) ?_
      rw [hQ]
      exact ret_i C0 hP hD hS (by have e := Option.some.inj hf; rw [← e]; exact ⟨rfl, rfl⟩) dX7_pass_25
  · replace hf := it_of c4 hf
    refine lv_bipush (v := (-2)) hx hb dX7_pass_8 (by decide) ?_
    rw [hQ]
    exact ret_i C0 hP hD hS (by have e := Option.some.inj hf; rw [← e]; exact ⟨rfl, rfl⟩) dX7_pass_10
-- save
noncomputable def k_X7_save_49 (ga : Nat → Nat → Int32) : Nat → Int32 → (Nat → Int32) → (Nat → Nat → Int32) → Option ((Nat → Int32) × (Nat → Nat → Int32))
  | 0, _, _, _ => none
  | n + 1, x1, fs, gs => if 6 ≤ x1 then some (fs, gs) else gd x1 6 (gd x1 6 (k_X7_save_49 ga n (x1 + 1) fs (va_up gs 35 (upd (gs 35) (Int32.toNatClampNeg x1) ((ga 9) (Int32.toNatClampNeg x1))))))
noncomputable def k_X7_save (fi : Nat → Int32) (fs0 : Nat → Int32) (ga : Nat → Nat → Int32) (gs0 : Nat → Nat → Int32) : Option ((Nat → Int32) × (Nat → Nat → Int32)) := nm (upd (upd (upd fs0 29 2000000000) 30 (fi 1)) 31 (fi 2)) (fun fs_1 => nm (upd (upd (upd fs_1 32 (fi 3)) 33 (fi 4)) 34 (fi 5)) (fun fs_3 => k_X7_save_49 ga 100000 0 fs_3 gs0))
set_option maxHeartbeats 4000000 in
set_option maxRecDepth 100000 in
theorem c_X7_save {l : Launch} {D : va_G} {cA : Nat → ClassId} (h : Nat) (q : Nat → Nat) (fi : Nat → Int32) (fs0 : Nat → Int32) (ga : Nat → Nat → Int32) (gs0 : Nat → Nat → Int32) (pl : Nat → Int32) (it : Nat → Int64) (asd : Nat → Int64)  (o : (Nat → Int32) × (Nat → Nat → Int32)) (hf : k_X7_save fi fs0 ga gs0 = some o) : CV l D cA yX7_save cX7_save 2 none 0 0 [.ref h] (Mw h q cA fi fs0 ga gs0 pl it asd) 0 0 (fun w => w = (Mw h q cA fi o.1 ga o.2 pl it asd)) := by
  intro sz
  refine met_start (by decide) rfl ?_
  intro p e s m args below meth c ls hsz hargs C0 hname hP hD hS hl
  generalize hAe : va_A (Mw h q cA fi fs0 ga gs0 pl it asd) sz = A at C0 hD hS ⊢
  obtain ⟨hx, hb, hr, hml, hown, hts, hlk, hK, hA⟩ := id C0
  replace hl : lv_has ls 2 [(0, .ref h)] := hl
  obtain ⟨Q, hQ⟩ : ∃ Q : State → Prop, Q = QV below D A (fun w => w = (Mw h q cA fi o.1 ga o.2 pl it asd)) args s 0 0 := ⟨_, rfl⟩
  refine cast (by rw [hQ]) (?_ : W p l e (RMx 0 0 0 0) s m args below meth c s.heap [] 0 0 Q (F0 m 0 ls []))
  have J49 : ∀ n : Nat, ∀ (x1 : Int32) (fs : Nat → Int32) (gs : Nat → Nat → Int32), k_X7_save_49 ga n x1 fs gs = some o → ∀ (H : Heap) (locs : List Loc), va_P D vwCl (Mw h q cA fi fs ga gs pl it asd) H → va_D A (Mw h q cA fi fs ga gs pl it asd) → va_S A s.heap H locs → ∀ ls : Array Slot, lv_has ls 2 [(0, .ref h), (1, .int x1)] → W p l e (RMx 0 0 0 0) s m args below meth c H locs 0 0 Q (F0 m 49 ls []) := by
    intro  n
    induction n with
    | zero =>
      intro x1 fs gs hf
      rw [k_X7_save_49] at hf
      cases hf
    | succ n ih =>
      intro x1 fs gs hf H locs hP hD hS ls hl
      rw [k_X7_save_49] at hf
      refine lv_iload_n hx hb dX7_save_49 rfl (lv_at hl 1 rfl) ?_
      refine lv_bipush (v := 6) hx hb dX7_save_50 (by decide) ?_
      refine lv_icmp_ge (tgt := 73) hx hb dX7_save_52 (by decide) (fun c1 => ?_) (fun c1 => ?_)
      · replace hf := it_of c1 hf
        rw [hQ]
        exact ret_v C0 hP hD hS (by have e := Option.some.inj hf; first | (rw [← e]; done) | (rw [← e]; exact rfl)) dX7_save_73
      · replace hf := ie_of c1 hf
        refine lv_aload_n hx hb dX7_save_55 rfl (lv_at hl 0 rfl) ?_
        refine va_get (D := D) (ci := 7) (v := .ref (q 35)) (C := RX7) (T := TX7) (N := 73) hx hb hts fw_7 hown hK hP 0 rfl rfl 35 (by decide) (hts _ m_fieldLink_M_117_M_keptSpell_aI) (fun _ h9 => h9) rfl dX7_save_56 ?_
        refine lv_iload_n hx hb dX7_save_59 rfl (lv_at hl 1 rfl) ?_
        refine lv_aload_n hx hb dX7_save_60 rfl (lv_at hl 0 rfl) ?_
        refine va_get (D := D) (ci := 7) (v := .ref (q 9)) (C := RX7) (T := TX7) (N := 73) hx hb hts fw_7 hown hK hP 0 rfl rfl 9 (by decide) (hts _ m_fieldLink_M_38_M_spell_aI) (fun _ h9 => h9) rfl dX7_save_61 ?_
        refine lv_iload_n hx hb dX7_save_64 rfl (lv_at hl 1 rfl) ?_
        obtain ⟨hi2, hf⟩ := gd_of hf
        refine va_iald hx hb hK hP 4 0 rfl rfl hi2 dX7_save_65 ?_
        obtain ⟨hi3, hf⟩ := gd_of hf
        refine va_iast hx hb hK hP hD hS 16 0 rfl rfl hi3 dX7_save_66 (fun H locs hP hD hS => ?_)
        replace hP : va_P D vwCl (Mw h q cA fi fs ga (va_up gs 35 (upd (gs 35) (Int32.toNatClampNeg x1) ((ga 9) (Int32.toNatClampNeg x1)))) pl it asd) H := hP
        replace hD : va_D A (Mw h q cA fi fs ga (va_up gs 35 (upd (gs 35) (Int32.toNatClampNeg x1) ((ga 9) (Int32.toNatClampNeg x1)))) pl it asd) := hD
        refine lv_iinc (v := (x1 + 1)) (lv' := [(1, .int (x1 + 1)), (0, .ref h)]) hx hb dX7_save_67 hl (k := 1) rfl rfl (by decide) rfl (fun ls hl => ?_)
        refine lv_goto (tgt := 49) hx hb dX7_save_70 (by decide) ?_
        exact ih (x1 + 1) fs (va_up gs 35 (upd (gs 35) (Int32.toNatClampNeg x1) ((ga 9) (Int32.toNatClampNeg x1)))) hf _ _ hP hD hS _ (lv_sub hl [1, 0] rfl)
  unfold k_X7_save at hf
  refine lv_aload_n hx hb dX7_save_0 rfl (lv_at hl 0 rfl) ?_
  refine lv_ldcw (v := 2000000000) hx hb hown (hts _ m_constant_M_341_2000000000) dX7_save_1 ?_
  refine va_put (D := D) (ci := 7) (v := .int 2000000000) (ty := .int) (C := RX7) (T := TX7) (N := 73) hx hb hts fw_7 tyX7 tyX7_ok nmX7 hown hK hP hD hS 0 rfl rfl 29 (by decide) (hts _ m_fieldLink_M_99_M_mostCount_I) (fun _ h9 => h9) rfl (by decide +kernel) rfl rfl (Nat.le_of_ble_eq_true rfl) dX7_save_4 (fun H locs hP hD hS => ?_)
  replace hP : va_P D vwCl (Mw h q cA fi (upd fs0 29 2000000000) ga gs0 pl it asd) H := hP
  replace hD : va_D A (Mw h q cA fi (upd fs0 29 2000000000) ga gs0 pl it asd) := hD
  refine lv_aload_n hx hb dX7_save_7 rfl (lv_at hl 0 rfl) ?_
  refine lv_aload_n hx hb dX7_save_8 rfl (lv_at hl 0 rfl) ?_
  refine va_get (D := D) (ci := 7) (v := .int (fi 1)) (C := RX7) (T := TX7) (N := 73) hx hb hts fw_7 hown hK hP 0 rfl rfl 1 (by decide) (hts _ m_fieldLink_M_13_M_up_I) (fun _ h9 => h9) rfl dX7_save_9 ?_
  refine va_put (D := D) (ci := 7) (v := .int (fi 1)) (ty := .int) (C := RX7) (T := TX7) (N := 73) hx hb hts fw_7 tyX7 tyX7_ok nmX7 hown hK hP hD hS 0 rfl rfl 30 (by decide) (hts _ m_fieldLink_M_102_M_keptUp_I) (fun _ h9 => h9) rfl (by decide +kernel) rfl rfl (Nat.le_of_ble_eq_true rfl) dX7_save_12 (fun H locs hP hD hS => ?_)
  replace hP : va_P D vwCl (Mw h q cA fi (upd (upd fs0 29 2000000000) 30 (fi 1)) ga gs0 pl it asd) H := hP
  replace hD : va_D A (Mw h q cA fi (upd (upd fs0 29 2000000000) 30 (fi 1)) ga gs0 pl it asd) := hD
  refine lv_aload_n hx hb dX7_save_15 rfl (lv_at hl 0 rfl) ?_
  refine lv_aload_n hx hb dX7_save_16 rfl (lv_at hl 0 rfl) ?_
  refine va_get (D := D) (ci := 7) (v := .int (fi 2)) (C := RX7) (T := TX7) (N := 73) hx hb hts fw_7 hown hK hP 0 rfl rfl 2 (by decide) (hts _ m_fieldLink_M_16_M_fears_I) (fun _ h9 => h9) rfl dX7_save_17 ?_
  refine va_put (D := D) (ci := 7) (v := .int (fi 2)) (ty := .int) (C := RX7) (T := TX7) (N := 73) hx hb hts fw_7 tyX7 tyX7_ok nmX7 hown hK hP hD hS 0 rfl rfl 31 (by decide) (hts _ m_fieldLink_M_105_M_keptFears_I) (fun _ h9 => h9) rfl (by decide +kernel) rfl rfl (Nat.le_of_ble_eq_true rfl) dX7_save_20 (fun H locs hP hD hS => ?_)
  replace hP : va_P D vwCl (Mw h q cA fi (upd (upd (upd fs0 29 2000000000) 30 (fi 1)) 31 (fi 2)) ga gs0 pl it asd) H := hP
  replace hD : va_D A (Mw h q cA fi (upd (upd (upd fs0 29 2000000000) 30 (fi 1)) 31 (fi 2)) ga gs0 pl it asd) := hD
  obtain ⟨fs_1, hv2, hf⟩ := nm_of hf
  replace hP : va_P D vwCl (Mw h q cA fi fs_1 ga gs0 pl it asd) H := by rw [hv2]; exact hP
  replace hD : va_D A (Mw h q cA fi fs_1 ga gs0 pl it asd) := by rw [hv2]; exact hD
  refine lv_aload_n hx hb dX7_save_23 rfl (lv_at hl 0 rfl) ?_
  refine lv_aload_n hx hb dX7_save_24 rfl (lv_at hl 0 rfl) ?_
  refine va_get (D := D) (ci := 7) (v := .int (fi 3)) (C := RX7) (T := TX7) (N := 73) hx hb hts fw_7 hown hK hP 0 rfl rfl 3 (by decide) (hts _ m_fieldLink_M_19_M_truths_I) (fun _ h9 => h9) rfl dX7_save_25 ?_
  refine va_put (D := D) (ci := 7) (v := .int (fi 3)) (ty := .int) (C := RX7) (T := TX7) (N := 73) hx hb hts fw_7 tyX7 tyX7_ok nmX7 hown hK hP hD hS 0 rfl rfl 32 (by decide) (hts _ m_fieldLink_M_108_M_keptTruths_I) (fun _ h9 => h9) rfl (by decide +kernel) rfl rfl (Nat.le_of_ble_eq_true rfl) dX7_save_28 (fun H locs hP hD hS => ?_)
  replace hP : va_P D vwCl (Mw h q cA fi (upd fs_1 32 (fi 3)) ga gs0 pl it asd) H := hP
  replace hD : va_D A (Mw h q cA fi (upd fs_1 32 (fi 3)) ga gs0 pl it asd) := hD
  refine lv_aload_n hx hb dX7_save_31 rfl (lv_at hl 0 rfl) ?_
  refine lv_aload_n hx hb dX7_save_32 rfl (lv_at hl 0 rfl) ?_
  refine va_get (D := D) (ci := 7) (v := .int (fi 4)) (C := RX7) (T := TX7) (N := 73) hx hb hts fw_7 hown hK hP 0 rfl rfl 4 (by decide) (hts _ m_fieldLink_M_22_M_silences_I) (fun _ h9 => h9) rfl dX7_save_33 ?_
  refine va_put (D := D) (ci := 7) (v := .int (fi 4)) (ty := .int) (C := RX7) (T := TX7) (N := 73) hx hb hts fw_7 tyX7 tyX7_ok nmX7 hown hK hP hD hS 0 rfl rfl 33 (by decide) (hts _ m_fieldLink_M_111_M_keptSilences_I) (fun _ h9 => h9) rfl (by decide +kernel) rfl rfl (Nat.le_of_ble_eq_true rfl) dX7_save_36 (fun H locs hP hD hS => ?_)
  replace hP : va_P D vwCl (Mw h q cA fi (upd (upd fs_1 32 (fi 3)) 33 (fi 4)) ga gs0 pl it asd) H := hP
  replace hD : va_D A (Mw h q cA fi (upd (upd fs_1 32 (fi 3)) 33 (fi 4)) ga gs0 pl it asd) := hD
  refine lv_aload_n hx hb dX7_save_39 rfl (lv_at hl 0 rfl) ?_
  refine lv_aload_n hx hb dX7_save_40 rfl (lv_at hl 0 rfl) ?_
  refine va_get (D := D) (ci := 7) (v := .int (fi 5)) (C := RX7) (T := TX7) (N := 73) hx hb hts fw_7 hown hK hP 0 rfl rfl 5 (by decide) (hts _ m_fieldLink_M_25_M_day_I) (fun _ h9 => h9) rfl dX7_save_41 ?_
  refine va_put (D := D) (ci := 7) (v := .int (fi 5)) (ty := .int) (C := RX7) (T := TX7) (N := 73) hx hb hts fw_7 tyX7 tyX7_ok nmX7 hown hK hP hD hS 0 rfl rfl 34 (by decide) (hts _ m_fieldLink_M_114_M_keptDay_I) (fun _ h9 => h9) rfl (by decide +kernel) rfl rfl (Nat.le_of_ble_eq_true rfl) dX7_save_44 (fun H locs hP hD hS => ?_)
  replace hP : va_P D vwCl (Mw h q cA fi (upd (upd (upd fs_1 32 (fi 3)) 33 (fi 4)) 34 (fi 5)) ga gs0 pl it asd) H := hP
  replace hD : va_D A (Mw h q cA fi (upd (upd (upd fs_1 32 (fi 3)) 33 (fi 4)) 34 (fi 5)) ga gs0 pl it asd) := hD
  obtain ⟨fs_3, hv4, hf⟩ := nm_of hf
  replace hP : va_P D vwCl (Mw h q cA fi fs_3 ga gs0 pl it asd) H := by rw [hv4]; exact hP
  replace hD : va_D A (Mw h q cA fi fs_3 ga gs0 pl it asd) := by rw [hv4]; exact hD
  refine lv_iconst (v := 0) hx hb dX7_save_47 (by decide) ?_
  refine lv_istore_n (lv' := [(1, .int 0), (0, .ref h)]) hx hb dX7_save_48 rfl hl (by decide) rfl (fun ls hl => ?_)
  exact J49 100000 0 fs_3 gs0 hf _ _ hP hD hS _ (lv_sub hl [1, 0] rfl)
-- putBack
noncomputable def k_X7_putBack_49 (gs : Nat → Nat → Int32) : Nat → Int32 → (Nat → Int32) → (Nat → Int32) → (Nat → Nat → Int32) → Option ((Nat → Int32) × (Nat → Int32) × (Nat → Nat → Int32))
  | 0, _, _, _, _ => none
  | n + 1, x1, fi, fs, ga => if 6 ≤ x1 then some (fi, fs, ga) else gd x1 6 (gd x1 6 (k_X7_putBack_49 gs n (x1 + 1) fi fs (va_up ga 9 (upd (ga 9) (Int32.toNatClampNeg x1) ((gs 35) (Int32.toNatClampNeg x1))))))
noncomputable def k_X7_putBack (fi0 : Nat → Int32) (fs0 : Nat → Int32) (ga0 : Nat → Nat → Int32) (gs : Nat → Nat → Int32) : Option ((Nat → Int32) × (Nat → Int32) × (Nat → Nat → Int32)) := nm (upd (upd (upd fi0 1 (fs0 30)) 2 (fs0 31)) 3 (fs0 32)) (fun fi_1 => k_X7_putBack_49 gs 100000 0 (upd (upd fi_1 4 (fs0 33)) 5 (fs0 34)) (upd fs0 29 9999) ga0)
set_option maxHeartbeats 4000000 in
set_option maxRecDepth 100000 in
theorem c_X7_putBack {l : Launch} {D : va_G} {cA : Nat → ClassId} (h : Nat) (q : Nat → Nat) (fi0 : Nat → Int32) (fs0 : Nat → Int32) (ga0 : Nat → Nat → Int32) (gs : Nat → Nat → Int32) (pl : Nat → Int32) (it : Nat → Int64) (asd : Nat → Int64)  (o : (Nat → Int32) × (Nat → Int32) × (Nat → Nat → Int32)) (hf : k_X7_putBack fi0 fs0 ga0 gs = some o) : CV l D cA yX7_putBack cX7_putBack 2 none 0 0 [.ref h] (Mw h q cA fi0 fs0 ga0 gs pl it asd) 0 0 (fun w => w = (Mw h q cA o.1 o.2.1 o.2.2 gs pl it asd)) := by
  intro sz
  refine met_start (by decide) rfl ?_
  intro p e s m args below meth c ls hsz hargs C0 hname hP hD hS hl
  generalize hAe : va_A (Mw h q cA fi0 fs0 ga0 gs pl it asd) sz = A at C0 hD hS ⊢
  obtain ⟨hx, hb, hr, hml, hown, hts, hlk, hK, hA⟩ := id C0
  replace hl : lv_has ls 2 [(0, .ref h)] := hl
  obtain ⟨Q, hQ⟩ : ∃ Q : State → Prop, Q = QV below D A (fun w => w = (Mw h q cA o.1 o.2.1 o.2.2 gs pl it asd)) args s 0 0 := ⟨_, rfl⟩
  refine cast (by rw [hQ]) (?_ : W p l e (RMx 0 0 0 0) s m args below meth c s.heap [] 0 0 Q (F0 m 0 ls []))
  have J49 : ∀ n : Nat, ∀ (x1 : Int32) (fi : Nat → Int32) (fs : Nat → Int32) (ga : Nat → Nat → Int32), k_X7_putBack_49 gs n x1 fi fs ga = some o → ∀ (H : Heap) (locs : List Loc), va_P D vwCl (Mw h q cA fi fs ga gs pl it asd) H → va_D A (Mw h q cA fi fs ga gs pl it asd) → va_S A s.heap H locs → ∀ ls : Array Slot, lv_has ls 2 [(0, .ref h), (1, .int x1)] → W p l e (RMx 0 0 0 0) s m args below meth c H locs 0 0 Q (F0 m 49 ls []) := by
    intro  n
    induction n with
    | zero =>
      intro x1 fi fs ga hf
      rw [k_X7_putBack_49] at hf
      cases hf
    | succ n ih =>
      intro x1 fi fs ga hf H locs hP hD hS ls hl
      rw [k_X7_putBack_49] at hf
      refine lv_iload_n hx hb dX7_putBack_49 rfl (lv_at hl 1 rfl) ?_
      refine lv_bipush (v := 6) hx hb dX7_putBack_50 (by decide) ?_
      refine lv_icmp_ge (tgt := 73) hx hb dX7_putBack_52 (by decide) (fun c1 => ?_) (fun c1 => ?_)
      · replace hf := it_of c1 hf
        rw [hQ]
        exact ret_v C0 hP hD hS (by have e := Option.some.inj hf; first | (rw [← e]; done) | (rw [← e]; exact rfl)) dX7_putBack_73
      · replace hf := ie_of c1 hf
        refine lv_aload_n hx hb dX7_putBack_55 rfl (lv_at hl 0 rfl) ?_
        refine va_get (D := D) (ci := 7) (v := .ref (q 9)) (C := RX7) (T := TX7) (N := 73) hx hb hts fw_7 hown hK hP 0 rfl rfl 9 (by decide) (hts _ m_fieldLink_M_38_M_spell_aI) (fun _ h9 => h9) rfl dX7_putBack_56 ?_
        refine lv_iload_n hx hb dX7_putBack_59 rfl (lv_at hl 1 rfl) ?_
        refine lv_aload_n hx hb dX7_putBack_60 rfl (lv_at hl 0 rfl) ?_
        refine va_get (D := D) (ci := 7) (v := .ref (q 35)) (C := RX7) (T := TX7) (N := 73) hx hb hts fw_7 hown hK hP 0 rfl rfl 35 (by decide) (hts _ m_fieldLink_M_117_M_keptSpell_aI) (fun _ h9 => h9) rfl dX7_putBack_61 ?_
        refine lv_iload_n hx hb dX7_putBack_64 rfl (lv_at hl 1 rfl) ?_
        obtain ⟨hi2, hf⟩ := gd_of hf
        refine va_iald hx hb hK hP 16 0 rfl rfl hi2 dX7_putBack_65 ?_
        obtain ⟨hi3, hf⟩ := gd_of hf
        refine va_iast hx hb hK hP hD hS 4 0 rfl rfl hi3 dX7_putBack_66 (fun H locs hP hD hS => ?_)
        replace hP : va_P D vwCl (Mw h q cA fi fs (va_up ga 9 (upd (ga 9) (Int32.toNatClampNeg x1) ((gs 35) (Int32.toNatClampNeg x1)))) gs pl it asd) H := hP
        replace hD : va_D A (Mw h q cA fi fs (va_up ga 9 (upd (ga 9) (Int32.toNatClampNeg x1) ((gs 35) (Int32.toNatClampNeg x1)))) gs pl it asd) := hD
        refine lv_iinc (v := (x1 + 1)) (lv' := [(1, .int (x1 + 1)), (0, .ref h)]) hx hb dX7_putBack_67 hl (k := 1) rfl rfl (by decide) rfl (fun ls hl => ?_)
        refine lv_goto (tgt := 49) hx hb dX7_putBack_70 (by decide) ?_
        exact ih (x1 + 1) fi fs (va_up ga 9 (upd (ga 9) (Int32.toNatClampNeg x1) ((gs 35) (Int32.toNatClampNeg x1)))) hf _ _ hP hD hS _ (lv_sub hl [1, 0] rfl)
  unfold k_X7_putBack at hf
  refine lv_aload_n hx hb dX7_putBack_0 rfl (lv_at hl 0 rfl) ?_
  refine lv_sipush (v := 9999) hx hb dX7_putBack_1 (by decide) ?_
  refine va_put (D := D) (ci := 7) (v := .int 9999) (ty := .int) (C := RX7) (T := TX7) (N := 73) hx hb hts fw_7 tyX7 tyX7_ok nmX7 hown hK hP hD hS 0 rfl rfl 29 (by decide) (hts _ m_fieldLink_M_99_M_mostCount_I) (fun _ h9 => h9) rfl (by decide +kernel) rfl rfl (Nat.le_of_ble_eq_true rfl) dX7_putBack_4 (fun H locs hP hD hS => ?_)
  replace hP : va_P D vwCl (Mw h q cA fi0 (upd fs0 29 9999) ga0 gs pl it asd) H := hP
  replace hD : va_D A (Mw h q cA fi0 (upd fs0 29 9999) ga0 gs pl it asd) := hD
  refine lv_aload_n hx hb dX7_putBack_7 rfl (lv_at hl 0 rfl) ?_
  refine lv_aload_n hx hb dX7_putBack_8 rfl (lv_at hl 0 rfl) ?_
  refine va_get (D := D) (ci := 7) (v := .int (fs0 30)) (C := RX7) (T := TX7) (N := 73) hx hb hts fw_7 hown hK hP 0 rfl rfl 30 (by decide) (hts _ m_fieldLink_M_102_M_keptUp_I) (fun _ h9 => h9) rfl dX7_putBack_9 ?_
  refine va_put (D := D) (ci := 7) (v := .int (fs0 30)) (ty := .int) (C := RX7) (T := TX7) (N := 73) hx hb hts fw_7 tyX7 tyX7_ok nmX7 hown hK hP hD hS 0 rfl rfl 1 (by decide) (hts _ m_fieldLink_M_13_M_up_I) (fun _ h9 => h9) rfl (by decide +kernel) rfl rfl (Nat.le_of_ble_eq_true rfl) dX7_putBack_12 (fun H locs hP hD hS => ?_)
  replace hP : va_P D vwCl (Mw h q cA (upd fi0 1 (fs0 30)) (upd fs0 29 9999) ga0 gs pl it asd) H := hP
  replace hD : va_D A (Mw h q cA (upd fi0 1 (fs0 30)) (upd fs0 29 9999) ga0 gs pl it asd) := hD
  refine lv_aload_n hx hb dX7_putBack_15 rfl (lv_at hl 0 rfl) ?_
  refine lv_aload_n hx hb dX7_putBack_16 rfl (lv_at hl 0 rfl) ?_
  refine va_get (D := D) (ci := 7) (v := .int (fs0 31)) (C := RX7) (T := TX7) (N := 73) hx hb hts fw_7 hown hK hP 0 rfl rfl 31 (by decide) (hts _ m_fieldLink_M_105_M_keptFears_I) (fun _ h9 => h9) rfl dX7_putBack_17 ?_
  refine va_put (D := D) (ci := 7) (v := .int (fs0 31)) (ty := .int) (C := RX7) (T := TX7) (N := 73) hx hb hts fw_7 tyX7 tyX7_ok nmX7 hown hK hP hD hS 0 rfl rfl 2 (by decide) (hts _ m_fieldLink_M_16_M_fears_I) (fun _ h9 => h9) rfl (by decide +kernel) rfl rfl (Nat.le_of_ble_eq_true rfl) dX7_putBack_20 (fun H locs hP hD hS => ?_)
  replace hP : va_P D vwCl (Mw h q cA (upd (upd fi0 1 (fs0 30)) 2 (fs0 31)) (upd fs0 29 9999) ga0 gs pl it asd) H := hP
  replace hD : va_D A (Mw h q cA (upd (upd fi0 1 (fs0 30)) 2 (fs0 31)) (upd fs0 29 9999) ga0 gs pl it asd) := hD
  refine lv_aload_n hx hb dX7_putBack_23 rfl (lv_at hl 0 rfl) ?_
  refine lv_aload_n hx hb dX7_putBack_24 rfl (lv_at hl 0 rfl) ?_
  refine va_get (D := D) (ci := 7) (v := .int (fs0 32)) (C := RX7) (T := TX7) (N := 73) hx hb hts fw_7 hown hK hP 0 rfl rfl 32 (by decide) (hts _ m_fieldLink_M_108_M_keptTruths_I) (fun _ h9 => h9) rfl dX7_putBack_25 ?_
  refine va_put (D := D) (ci := 7) (v := .int (fs0 32)) (ty := .int) (C := RX7) (T := TX7) (N := 73) hx hb hts fw_7 tyX7 tyX7_ok nmX7 hown hK hP hD hS 0 rfl rfl 3 (by decide) (hts _ m_fieldLink_M_19_M_truths_I) (fun _ h9 => h9) rfl (by decide +kernel) rfl rfl (Nat.le_of_ble_eq_true rfl) dX7_putBack_28 (fun H locs hP hD hS => ?_)
  replace hP : va_P D vwCl (Mw h q cA (upd (upd (upd fi0 1 (fs0 30)) 2 (fs0 31)) 3 (fs0 32)) (upd fs0 29 9999) ga0 gs pl it asd) H := hP
  replace hD : va_D A (Mw h q cA (upd (upd (upd fi0 1 (fs0 30)) 2 (fs0 31)) 3 (fs0 32)) (upd fs0 29 9999) ga0 gs pl it asd) := hD
  obtain ⟨fi_1, hv2, hf⟩ := nm_of hf
  replace hP : va_P D vwCl (Mw h q cA fi_1 (upd fs0 29 9999) ga0 gs pl it asd) H := by rw [hv2]; exact hP
  replace hD : va_D A (Mw h q cA fi_1 (upd fs0 29 9999) ga0 gs pl it asd) := by rw [hv2]; exact hD
  refine lv_aload_n hx hb dX7_putBack_31 rfl (lv_at hl 0 rfl) ?_
  refine lv_aload_n hx hb dX7_putBack_32 rfl (lv_at hl 0 rfl) ?_
  refine va_get (D := D) (ci := 7) (v := .int (fs0 33)) (C := RX7) (T := TX7) (N := 73) hx hb hts fw_7 hown hK hP 0 rfl rfl 33 (by decide) (hts _ m_fieldLink_M_111_M_keptSilences_I) (fun _ h9 => h9) rfl dX7_putBack_33 ?_
  refine va_put (D := D) (ci := 7) (v := .int (fs0 33)) (ty := .int) (C := RX7) (T := TX7) (N := 73) hx hb hts fw_7 tyX7 tyX7_ok nmX7 hown hK hP hD hS 0 rfl rfl 4 (by decide) (hts _ m_fieldLink_M_22_M_silences_I) (fun _ h9 => h9) rfl (by decide +kernel) rfl rfl (Nat.le_of_ble_eq_true rfl) dX7_putBack_36 (fun H locs hP hD hS => ?_)
  replace hP : va_P D vwCl (Mw h q cA (upd fi_1 4 (fs0 33)) (upd fs0 29 9999) ga0 gs pl it asd) H := hP
  replace hD : va_D A (Mw h q cA (upd fi_1 4 (fs0 33)) (upd fs0 29 9999) ga0 gs pl it asd) := hD
  refine lv_aload_n hx hb dX7_putBack_39 rfl (lv_at hl 0 rfl) ?_
  refine lv_aload_n hx hb dX7_putBack_40 rfl (lv_at hl 0 rfl) ?_
  refine va_get (D := D) (ci := 7) (v := .int (fs0 34)) (C := RX7) (T := TX7) (N := 73) hx hb hts fw_7 hown hK hP 0 rfl rfl 34 (by decide) (hts _ m_fieldLink_M_114_M_keptDay_I) (fun _ h9 => h9) rfl dX7_putBack_41 ?_
  refine va_put (D := D) (ci := 7) (v := .int (fs0 34)) (ty := .int) (C := RX7) (T := TX7) (N := 73) hx hb hts fw_7 tyX7 tyX7_ok nmX7 hown hK hP hD hS 0 rfl rfl 5 (by decide) (hts _ m_fieldLink_M_25_M_day_I) (fun _ h9 => h9) rfl (by decide +kernel) rfl rfl (Nat.le_of_ble_eq_true rfl) dX7_putBack_44 (fun H locs hP hD hS => ?_)
  replace hP : va_P D vwCl (Mw h q cA (upd (upd fi_1 4 (fs0 33)) 5 (fs0 34)) (upd fs0 29 9999) ga0 gs pl it asd) H := hP
  replace hD : va_D A (Mw h q cA (upd (upd fi_1 4 (fs0 33)) 5 (fs0 34)) (upd fs0 29 9999) ga0 gs pl it asd) := hD
  refine lv_iconst (v := 0) hx hb dX7_putBack_47 (by decide) ?_
  refine lv_istore_n (lv' := [(1, .int 0), (0, .ref h)]) hx hb dX7_putBack_48 rfl hl (by decide) rfl (fun ls hl => ?_)
  exact J49 100000 0 (upd (upd fi_1 4 (fs0 33)) 5 (fs0 34)) (upd fs0 29 9999) ga0 hf _ _ hP hD hS _ (lv_sub hl [1, 0] rfl)
-- hushed
noncomputable def k_X7_hushed_29  (x1 : Int32) (fi : Nat → Int32) (fs : Nat → Int32) (ga : Nat → Nat → Int32) (gs : Nat → Nat → Int32) (pl : Nat → Int32) : Option (Int32 × (Nat → Int32) × (Nat → Int32) × (Nat → Nat → Int32) × (Nat → Nat → Int32) × (Nat → Int32)) := b3 (k_X7_putBack fi fs ga gs) (fun fi_1 fs_2 ga_3 => if 61 ≤ x1 then some ((-5), fi_1, fs_2, ga_3, gs, pl) else some (x1, fi_1, fs_2, ga_3, gs, pl))
noncomputable def k_X7_hushed_6  : Nat → Int32 → (Nat → Int32) → (Nat → Int32) → (Nat → Nat → Int32) → (Nat → Nat → Int32) → (Nat → Int32) → Option (Int32 × (Nat → Int32) × (Nat → Int32) × (Nat → Nat → Int32) × (Nat → Nat → Int32) × (Nat → Int32))
  | 0, _, _, _, _, _, _ => none
  | n + 1, x1, fi, fs, ga, gs, pl => if 61 ≤ x1 then k_X7_hushed_29 x1 fi fs ga gs pl else b2 (k_X7_sound fi ga pl) (fun r2 pl_3 => if r2 = 0 then k_X7_hushed_29 x1 fi fs ga gs pl_3 else b3 (k_X7_goDay fi fs ga pl_3) (fun fi_6 ga_7 pl_8 => k_X7_hushed_6 n (x1 + 1) fi_6 fs ga_7 gs pl_8))
noncomputable def k_X7_hushed (fi0 : Nat → Int32) (fs0 : Nat → Int32) (ga0 : Nat → Nat → Int32) (gs0 : Nat → Nat → Int32) (pl0 : Nat → Int32) : Option (Int32 × (Nat → Int32) × (Nat → Int32) × (Nat → Nat → Int32) × (Nat → Nat → Int32) × (Nat → Int32)) := b2 (k_X7_save fi0 fs0 ga0 gs0) (fun fs_1 gs_2 => k_X7_hushed_6 100000 0 fi0 fs_1 ga0 gs_2 pl0)
set_option maxHeartbeats 4000000 in
set_option maxRecDepth 100000 in
theorem c_X7_hushed {l : Launch} {D : va_G} {cA : Nat → ClassId} (h : Nat) (q : Nat → Nat) (fi0 : Nat → Int32) (fs0 : Nat → Int32) (ga0 : Nat → Nat → Int32) (gs0 : Nat → Nat → Int32) (pl0 : Nat → Int32) (it : Nat → Int64) (asd : Nat → Int64)  (o : Int32 × (Nat → Int32) × (Nat → Int32) × (Nat → Nat → Int32) × (Nat → Nat → Int32) × (Nat → Int32)) (hf : k_X7_hushed fi0 fs0 ga0 gs0 pl0 = some o) : CI l D cA yX7_hushed cX7_hushed 2 (some .int) 7 162 [.ref h] (Mw h q cA fi0 fs0 ga0 gs0 pl0 it asd) 0 0 (fun r w => r = o.1 ∧ w = (Mw h q cA o.2.1 o.2.2.1 o.2.2.2.1 o.2.2.2.2.1 o.2.2.2.2.2 it asd)) := by
  intro sz
  refine met_start (by decide) rfl ?_
  intro p e s m args below meth c ls hsz hargs C0 hname hP hD hS hl
  generalize hAe : va_A (Mw h q cA fi0 fs0 ga0 gs0 pl0 it asd) sz = A at C0 hD hS ⊢
  obtain ⟨hx, hb, hr, hml, hown, hts, hlk, hK, hA⟩ := id C0
  replace hl : lv_has ls 2 [(0, .ref h)] := hl
  obtain ⟨Q, hQ⟩ : ∃ Q : State → Prop, Q = QI below D A (fun r w => r = o.1 ∧ w = (Mw h q cA o.2.1 o.2.2.1 o.2.2.2.1 o.2.2.2.2.1 o.2.2.2.2.2 it asd)) args s 0 0 := ⟨_, rfl⟩
  refine cast (by rw [hQ]) (?_ : W p l e (RMx 7 162 0 0) s m args below meth c s.heap [] 0 0 Q (F0 m 0 ls []))
  have J29 : ∀ (x1 : Int32) (fi : Nat → Int32) (fs : Nat → Int32) (ga : Nat → Nat → Int32) (gs : Nat → Nat → Int32) (pl : Nat → Int32), k_X7_hushed_29 x1 fi fs ga gs pl = some o → ∀ (H : Heap) (locs : List Loc), va_P D vwCl (Mw h q cA fi fs ga gs pl it asd) H → va_D A (Mw h q cA fi fs ga gs pl it asd) → va_S A s.heap H locs → ∀ ls : Array Slot, lv_has ls 2 [(0, .ref h), (1, .int x1)] → W p l e (RMx 7 162 0 0) s m args below meth c H locs 0 0 Q (F0 m 29 ls []) := by
    intro  x1 fi fs ga gs pl hf H locs hP hD hS ls hl
    unfold k_X7_hushed_29 at hf
    refine lv_aload_n hx hb dX7_hushed_29 rfl (lv_at hl 0 rfl) ?_
    obtain ⟨fi_1, fs_2, ga_3, hq4, hf⟩ := b3_of hf
    refine callVV (As := []) (rest := []) (wr := []) C0 (c_X7_putBack h q fi fs ga gs pl it asd _ hq4) lk_X7_345_X7_putBack rfl hP hD hS perm_nil 0 7 rfl rfl rfl hl.1 rfl rfl (Nat.le_of_ble_eq_true rfl) dX7_hushed_30 ⟨Nat.zero_le _, Nat.zero_le _⟩ (fun w H locs hw hP hD hS => ?_)
    have e2 := hw
    subst e2
    replace hP : va_P D vwCl (Mw h q cA fi_1 fs_2 ga_3 gs pl it asd) H := hP.nil
    replace hD : va_D A (Mw h q cA fi_1 fs_2 ga_3 gs pl it asd) := hD.nil
    refine lv_iload_n hx hb dX7_hushed_33 rfl (lv_at hl 1 rfl) ?_
    refine lv_bipush (v := 61) hx hb dX7_hushed_34 (by decide) ?_
    refine lv_icmp_ge (tgt := 43) hx hb dX7_hushed_36 (by decide) (fun c5 => ?_) (fun c5 => ?_)
    · replace hf := it_of c5 hf
      refine lv_bipush (v := (-5)) hx hb dX7_hushed_43 (by decide) ?_
      rw [hQ]
      exact ret_i C0 hP hD hS (by have e := Option.some.inj hf; rw [← e]; exact ⟨rfl, rfl⟩) dX7_hushed_45
    · replace hf := ie_of c5 hf
      refine lv_iload_n hx hb dX7_hushed_39 rfl (lv_at hl 1 rfl) ?_
      refine lv_goto (tgt := 45) hx hb dX7_hushed_40 (by decide) ?_
      rw [hQ]
      exact ret_i C0 hP hD hS (by have e := Option.some.inj hf; rw [← e]; exact ⟨rfl, rfl⟩) dX7_hushed_45
  have J6 : ∀ n : Nat, ∀ (x1 : Int32) (fi : Nat → Int32) (fs : Nat → Int32) (ga : Nat → Nat → Int32) (gs : Nat → Nat → Int32) (pl : Nat → Int32), k_X7_hushed_6 n x1 fi fs ga gs pl = some o → ∀ (H : Heap) (locs : List Loc), va_P D vwCl (Mw h q cA fi fs ga gs pl it asd) H → va_D A (Mw h q cA fi fs ga gs pl it asd) → va_S A s.heap H locs → ∀ ls : Array Slot, lv_has ls 2 [(0, .ref h), (1, .int x1)] → W p l e (RMx 7 162 0 0) s m args below meth c H locs 0 0 Q (F0 m 6 ls []) := by
    intro  n
    induction n with
    | zero =>
      intro x1 fi fs ga gs pl hf
      rw [k_X7_hushed_6] at hf
      cases hf
    | succ n ih =>
      intro x1 fi fs ga gs pl hf H locs hP hD hS ls hl
      rw [k_X7_hushed_6] at hf
      refine lv_iload_n hx hb dX7_hushed_6 rfl (lv_at hl 1 rfl) ?_
      refine lv_bipush (v := 61) hx hb dX7_hushed_7 (by decide) ?_
      refine lv_icmp_ge (tgt := 29) hx hb dX7_hushed_9 (by decide) (fun c1 => ?_) (fun c1 => ?_)
      · replace hf := it_of c1 hf
        exact J29 x1 fi fs ga gs pl hf _ _ hP hD hS _ (lv_sub hl [0, 1] rfl)
      · replace hf := ie_of c1 hf
        refine lv_aload_n hx hb dX7_hushed_12 rfl (lv_at hl 0 rfl) ?_
        obtain ⟨r2q, pl_3, hq4, hf⟩ := b2_of hf
        refine callVI (As := []) (rest := []) (wr := []) C0 (c_X7_sound h q fi fs ga gs pl it asd _ hq4) lk_X7_326_X7_sound rfl hP hD hS perm_nil 0 7 rfl rfl rfl hl.1 rfl rfl (Nat.le_of_ble_eq_true rfl) dX7_hushed_13 ⟨Nat.zero_le _, Nat.zero_le _⟩ (fun r2 w H locs hw hP hD hS => ?_)
        obtain ⟨e1, e2⟩ := hw
        replace e1 : r2 = r2q := e1
        subst e1
        subst e2
        replace hP : va_P D vwCl (Mw h q cA fi fs ga gs pl_3 it asd) H := hP.nil
        replace hD : va_D A (Mw h q cA fi fs ga gs pl_3 it asd) := hD.nil
        refine lv_if_eq (tgt := 29) hx hb dX7_hushed_16 (by decide) (fun c5 => ?_) (fun c5 => ?_)
        · replace hf := it_of c5 hf
          exact J29 x1 fi fs ga gs pl_3 hf _ _ hP hD hS _ (lv_sub hl [0, 1] rfl)
        · replace hf := ie_of c5 hf
          refine lv_aload_n hx hb dX7_hushed_19 rfl (lv_at hl 0 rfl) ?_
          obtain ⟨fi_6, ga_7, pl_8, hq9, hf⟩ := b3_of hf
          refine callVV (As := []) (rest := []) (wr := []) C0 (c_X7_goDay h q fi fs ga gs pl_3 it asd _ hq9) lk_X7_332_X7_goDay rfl hP hD hS perm_nil 0 7 rfl rfl rfl hl.1 rfl rfl (Nat.le_of_ble_eq_true rfl) dX7_hushed_20 ⟨Nat.zero_le _, Nat.zero_le _⟩ (fun w H locs hw hP hD hS => ?_)
          have e2 := hw
          subst e2
          replace hP : va_P D vwCl (Mw h q cA fi_6 fs ga_7 gs pl_8 it asd) H := hP.nil
          replace hD : va_D A (Mw h q cA fi_6 fs ga_7 gs pl_8 it asd) := hD.nil
          refine lv_iinc (v := (x1 + 1)) (lv' := [(1, .int (x1 + 1)), (0, .ref h)]) hx hb dX7_hushed_23 hl (k := 1) rfl rfl (by decide) rfl (fun ls hl => ?_)
          refine lv_goto (tgt := 6) hx hb dX7_hushed_26 (by decide) ?_
          exact ih (x1 + 1) fi_6 fs ga_7 gs pl_8 hf _ _ hP hD hS _ (lv_sub hl [1, 0] rfl)
  unfold k_X7_hushed at hf
  refine lv_aload_n hx hb dX7_hushed_0 rfl (lv_at hl 0 rfl) ?_
  obtain ⟨fs_1, gs_2, hq3, hf⟩ := b2_of hf
  refine callVV (As := []) (rest := []) (wr := []) C0 (c_X7_save h q fi0 fs0 ga0 gs0 pl0 it asd _ hq3) lk_X7_342_X7_save rfl hP hD hS perm_nil 0 7 rfl rfl rfl hl.1 rfl rfl (Nat.le_of_ble_eq_true rfl) dX7_hushed_1 ⟨Nat.zero_le _, Nat.zero_le _⟩ (fun w H locs hw hP hD hS => ?_)
  have e2 := hw
  subst e2
  replace hP : va_P D vwCl (Mw h q cA fi0 fs_1 ga0 gs_2 pl0 it asd) H := hP.nil
  replace hD : va_D A (Mw h q cA fi0 fs_1 ga0 gs_2 pl0 it asd) := hD.nil
  refine lv_iconst (v := 0) hx hb dX7_hushed_4 (by decide) ?_
  refine lv_istore_n (lv' := [(1, .int 0), (0, .ref h)]) hx hb dX7_hushed_5 rfl hl (by decide) rfl (fun ls hl => ?_)
  exact J6 100000 0 fi0 fs_1 ga0 gs_2 pl0 hf _ _ hP hD hS _ (lv_sub hl [1, 0] rfl)
-- below
noncomputable def k_X7_below (fi : Nat → Int32) : Option Int32 := some (((1 <<< ((fi 0) &&& 31)) - 1) &&& ((fi 1) ^^^ (-1)))
set_option maxHeartbeats 4000000 in
set_option maxRecDepth 100000 in
theorem c_X7_below {l : Launch} {D : va_G} {cA : Nat → ClassId} (h : Nat) (q : Nat → Nat) (fi : Nat → Int32) (fs : Nat → Int32) (ga : Nat → Nat → Int32) (gs : Nat → Nat → Int32) (pl : Nat → Int32) (it : Nat → Int64) (asd : Nat → Int64)  (o : Int32) (hf : k_X7_below fi = some o) : CI l D cA yX7_below cX7_below 1 (some .int) 0 0 [.ref h] (Mw h q cA fi fs ga gs pl it asd) 0 0 (fun r w => r = o ∧ w = (Mw h q cA fi fs ga gs pl it asd)) := by
  intro sz
  refine met_start (by decide) rfl ?_
  intro p e s m args below meth c ls hsz hargs C0 hname hP hD hS hl
  generalize hAe : va_A (Mw h q cA fi fs ga gs pl it asd) sz = A at C0 hD hS ⊢
  obtain ⟨hx, hb, hr, hml, hown, hts, hlk, hK, hA⟩ := id C0
  replace hl : lv_has ls 1 [(0, .ref h)] := hl
  obtain ⟨Q, hQ⟩ : ∃ Q : State → Prop, Q = QI below D A (fun r w => r = o ∧ w = (Mw h q cA fi fs ga gs pl it asd)) args s 0 0 := ⟨_, rfl⟩
  refine cast (by rw [hQ]) (?_ : W p l e (RMx 0 0 0 0) s m args below meth c s.heap [] 0 0 Q (F0 m 0 ls []))
  unfold k_X7_below at hf
  refine lv_iconst (v := 1) hx hb dX7_below_0 (by decide) ?_
  refine lv_aload_n hx hb dX7_below_1 rfl (lv_at hl 0 rfl) ?_
  refine va_get (D := D) (ci := 7) (v := .int (fi 0)) (C := RX7) (T := TX7) (N := 73) hx hb hts fw_7 hown hK hP 0 rfl rfl 0 (by decide) (hts _ m_fieldLink_M_7_M_men_I) (fun _ h9 => h9) rfl dX7_below_2 ?_
  refine lv_ishl hx hb dX7_below_5 ?_
  refine lv_iconst (v := 1) hx hb dX7_below_6 (by decide) ?_
  refine lv_isub hx hb dX7_below_7 ?_
  refine lv_aload_n hx hb dX7_below_8 rfl (lv_at hl 0 rfl) ?_
  refine va_get (D := D) (ci := 7) (v := .int (fi 1)) (C := RX7) (T := TX7) (N := 73) hx hb hts fw_7 hown hK hP 0 rfl rfl 1 (by decide) (hts _ m_fieldLink_M_13_M_up_I) (fun _ h9 => h9) rfl dX7_below_9 ?_
  refine lv_iconst (v := (-1)) hx hb dX7_below_12 (by decide) ?_
  refine lv_ixor hx hb dX7_below_13 ?_
  refine lv_iand hx hb dX7_below_14 ?_
  rw [hQ]
  exact ret_i C0 hP hD hS (by have e := Option.some.inj hf; rw [← e]; exact ⟨rfl, rfl⟩) dX7_below_15
-- watchApart
noncomputable def k_X7_watchApart_4 (a1 : Int32) (fi : Nat → Int32) (ga : Nat → Nat → Int32) : Nat → Int32 → Int32 → (Nat → Int32) → Option (Int32 × (Nat → Int32))
  | 0, _, _, _ => none
  | n + 1, x2, x3, pl => if (fi 0) ≤ x3 then if 0 ≤ x2 then some (x2, pl) else some ((-x2), pl) else b1 (k_X7_has (fi 1) x3) (fun r3 => if r3 = 0 then b1 (k_X7_has a1 x3) (fun r7 => if r7 = 0 then b2 (k_X7_heardOf x3 fi ga pl) (fun r11 pl_12 => k_X7_watchApart_4 a1 fi ga n (x2 + (-r11)) (x3 + 1) pl_12) else b2 (k_X7_heardOf x3 fi ga pl) (fun r14 pl_15 => k_X7_watchApart_4 a1 fi ga n (x2 + r14) (x3 + 1) pl_15)) else k_X7_watchApart_4 a1 fi ga n x2 (x3 + 1) pl)
noncomputable def k_X7_watchApart (a1 : Int32) (fi : Nat → Int32) (ga : Nat → Nat → Int32) (pl0 : Nat → Int32) : Option (Int32 × (Nat → Int32)) := k_X7_watchApart_4 a1 fi ga 100000 0 0 pl0
set_option maxHeartbeats 4000000 in
set_option maxRecDepth 100000 in
theorem c_X7_watchApart {l : Launch} {D : va_G} {cA : Nat → ClassId} (h : Nat) (q : Nat → Nat) (fi : Nat → Int32) (fs : Nat → Int32) (ga : Nat → Nat → Int32) (gs : Nat → Nat → Int32) (pl0 : Nat → Int32) (it : Nat → Int64) (asd : Nat → Int64) (a1 : Int32) (o : Int32 × (Nat → Int32)) (hf : k_X7_watchApart a1 fi ga pl0 = some o) : CI l D cA yX7_watchApart cX7_watchApart 4 (some .int) 5 117 [.ref h, .int a1] (Mw h q cA fi fs ga gs pl0 it asd) 0 0 (fun r w => r = o.1 ∧ w = (Mw h q cA fi fs ga gs o.2 it asd)) := by
  intro sz
  refine met_start (by decide) rfl ?_
  intro p e s m args below meth c ls hsz hargs C0 hname hP hD hS hl
  generalize hAe : va_A (Mw h q cA fi fs ga gs pl0 it asd) sz = A at C0 hD hS ⊢
  obtain ⟨hx, hb, hr, hml, hown, hts, hlk, hK, hA⟩ := id C0
  replace hl : lv_has ls 4 [(0, .ref h), (1, .int a1)] := hl
  obtain ⟨Q, hQ⟩ : ∃ Q : State → Prop, Q = QI below D A (fun r w => r = o.1 ∧ w = (Mw h q cA fi fs ga gs o.2 it asd)) args s 0 0 := ⟨_, rfl⟩
  refine cast (by rw [hQ]) (?_ : W p l e (RMx 5 117 0 0) s m args below meth c s.heap [] 0 0 Q (F0 m 0 ls []))
  have J4 : ∀ n : Nat, ∀ (x2 : Int32) (x3 : Int32) (pl : Nat → Int32), k_X7_watchApart_4 a1 fi ga n x2 x3 pl = some o → ∀ (H : Heap) (locs : List Loc), va_P D vwCl (Mw h q cA fi fs ga gs pl it asd) H → va_D A (Mw h q cA fi fs ga gs pl it asd) → va_S A s.heap H locs → ∀ ls : Array Slot, lv_has ls 4 [(0, .ref h), (1, .int a1), (2, .int x2), (3, .int x3)] → W p l e (RMx 5 117 0 0) s m args below meth c H locs 0 0 Q (F0 m 4 ls []) := by
    intro  n
    induction n with
    | zero =>
      intro x2 x3 pl hf
      rw [k_X7_watchApart_4] at hf
      cases hf
    | succ n ih =>
      intro x2 x3 pl hf H locs hP hD hS ls hl
      rw [k_X7_watchApart_4] at hf
      refine lv_iload_n hx hb dX7_watchApart_4 rfl (lv_at hl 3 rfl) ?_
      refine lv_aload_n hx hb dX7_watchApart_5 rfl (lv_at hl 0 rfl) ?_
      refine va_get (D := D) (ci := 7) (v := .int (fi 0)) (C := RX7) (T := TX7) (N := 73) hx hb hts fw_7 hown hK hP 0 rfl rfl 0 (by decide) (hts _ m_fieldLink_M_7_M_men_I) (fun _ h9 => h9) rfl dX7_watchApart_6 ?_
      refine lv_icmp_ge (tgt := 59) hx hb dX7_watchApart_9 (by decide) (fun c1 => ?_) (fun c1 => ?_)
      · replace hf := it_of c1 hf
        refine lv_iload_n hx hb dX7_watchApart_59 rfl (lv_at hl 2 rfl) ?_
        refine lv_if_ge (tgt := 68) hx hb dX7_watchApart_60 (by decide) (fun c2 => ?_) (fun c2 => ?_)
        · replace hf := it_of c2 hf
          refine lv_iload_n hx hb dX7_watchApart_68 rfl (lv_at hl 2 rfl) ?_
          rw [hQ]
          exact ret_i C0 hP hD hS (by have e := Option.some.inj hf; rw [← e]; exact ⟨rfl, rfl⟩) dX7_watchApart_69
        · replace hf := ie_of c2 hf
          refine lv_iload_n hx hb dX7_watchApart_63 rfl (lv_at hl 2 rfl) ?_
          refine lv_ineg hx hb dX7_watchApart_64 ?_
          refine lv_goto (tgt := 69) hx hb dX7_watchApart_65 (by decide) ?_
          rw [hQ]
          exact ret_i C0 hP hD hS (by have e := Option.some.inj hf; rw [← e]; exact ⟨rfl, rfl⟩) dX7_watchApart_69
      · replace hf := ie_of c1 hf
        refine lv_aload_n hx hb dX7_watchApart_12 rfl (lv_at hl 0 rfl) ?_
        refine lv_aload_n hx hb dX7_watchApart_13 rfl (lv_at hl 0 rfl) ?_
        refine va_get (D := D) (ci := 7) (v := .int (fi 1)) (C := RX7) (T := TX7) (N := 73) hx hb hts fw_7 hown hK hP 0 rfl rfl 1 (by decide) (hts _ m_fieldLink_M_13_M_up_I) (fun _ h9 => h9) rfl dX7_watchApart_14 ?_
        refine lv_iload_n hx hb dX7_watchApart_17 rfl (lv_at hl 3 rfl) ?_
        obtain ⟨r3q, hq4, hf⟩ := b1_of hf
        refine callVI (As := [.int (fi 1), .int x3]) (rest := []) (wr := (Mw h q cA fi fs ga gs pl it asd)) C0 (c_X7_has h (fi 1) x3 _ hq4) lk_X7_233_X7_has rfl hP hD hS (List.Perm.refl _) 0 7 rfl rfl rfl hl.1 rfl rfl (Nat.le_of_ble_eq_true rfl) dX7_watchApart_18 ⟨Nat.zero_le _, Nat.zero_le _⟩ (fun r3 w H locs hw hP hD hS => ?_)
        obtain ⟨⟨e1, e2⟩, z5⟩ := hw
        replace e1 : r3 = r3q := e1
        subst e1
        subst e2
        replace hP : va_P D vwCl (Mw h q cA fi fs ga gs pl it asd) H := hP
        replace hD : va_D A (Mw h q cA fi fs ga gs pl it asd) := hD
        refine lv_if_eq (tgt := 27) hx hb dX7_watchApart_21 (by decide) (fun c6 => ?_) (fun c6 => ?_)
        · replace hf := it_of c6 hf
          refine lv_iload_n hx hb dX7_watchApart_27 rfl (lv_at hl 2 rfl) ?_
          refine lv_aload_n hx hb dX7_watchApart_28 rfl (lv_at hl 0 rfl) ?_
          refine lv_iload_n hx hb dX7_watchApart_29 rfl (lv_at hl 1 rfl) ?_
          refine lv_iload_n hx hb dX7_watchApart_30 rfl (lv_at hl 3 rfl) ?_
          obtain ⟨r7q, hq8, hf⟩ := b1_of hf
          refine callVI (As := [.int a1, .int x3]) (rest := [.int x2]) (wr := (Mw h q cA fi fs ga gs pl it asd)) C0 (c_X7_has h a1 x3 _ hq8) lk_X7_233_X7_has rfl hP hD hS (List.Perm.refl _) 0 7 rfl rfl rfl hl.1 rfl rfl (Nat.le_of_ble_eq_true rfl) dX7_watchApart_31 ⟨Nat.zero_le _, Nat.zero_le _⟩ (fun r7 w H locs hw hP hD hS => ?_)
          obtain ⟨⟨e1, e2⟩, z9⟩ := hw
          replace e1 : r7 = r7q := e1
          subst e1
          subst e2
          replace hP : va_P D vwCl (Mw h q cA fi fs ga gs pl it asd) H := hP
          replace hD : va_D A (Mw h q cA fi fs ga gs pl it asd) := hD
          refine lv_if_eq (tgt := 45) hx hb dX7_watchApart_34 (by decide) (fun c10 => ?_) (fun c10 => ?_)
          · replace hf := it_of c10 hf
            refine lv_aload_n hx hb dX7_watchApart_45 rfl (lv_at hl 0 rfl) ?_
            refine lv_iload_n hx hb dX7_watchApart_46 rfl (lv_at hl 3 rfl) ?_
            obtain ⟨r11q, pl_12, hq13, hf⟩ := b2_of hf
            refine callVI (As := [.int x3]) (rest := [.int x2]) (wr := []) C0 (c_X7_heardOf h q fi fs ga gs pl it asd x3 _ hq13) lk_X7_323_X7_heardOf rfl hP hD hS perm_nil 0 7 rfl rfl rfl hl.1 rfl rfl (Nat.le_of_ble_eq_true rfl) dX7_watchApart_47 ⟨Nat.zero_le _, Nat.zero_le _⟩ (fun r11 w H locs hw hP hD hS => ?_)
            obtain ⟨e1, e2⟩ := hw
            replace e1 : r11 = r11q := e1
            subst e1
            subst e2
            replace hP : va_P D vwCl (Mw h q cA fi fs ga gs pl_12 it asd) H := hP.nil
            replace hD : va_D A (Mw h q cA fi fs ga gs pl_12 it asd) := hD.nil
            refine lv_ineg hx hb dX7_watchApart_50 ?_
            refine lv_iadd hx hb dX7_watchApart_51 ?_
            refine lv_istore_n (lv' := [(2, .int (x2 + (-r11))), (0, .ref h), (1, .int a1), (3, .int x3)]) hx hb dX7_watchApart_52 rfl hl (by decide) rfl (fun ls hl => ?_)
            refine lv_iinc (v := (x3 + 1)) (lv' := [(3, .int (x3 + 1)), (2, .int (x2 + (-r11))), (0, .ref h), (1, .int a1)]) hx hb dX7_watchApart_53 hl (k := 3) rfl rfl (by decide) rfl (fun ls hl => ?_)
            refine lv_goto (tgt := 4) hx hb dX7_watchApart_56 (by decide) ?_
            exact ih (x2 + (-r11)) (x3 + 1) pl_12 hf _ _ hP hD hS _ (lv_sub hl [2, 3, 1, 0] rfl)
          · replace hf := ie_of c10 hf
            refine lv_aload_n hx hb dX7_watchApart_37 rfl (lv_at hl 0 rfl) ?_
            refine lv_iload_n hx hb dX7_watchApart_38 rfl (lv_at hl 3 rfl) ?_
            obtain ⟨r14q, pl_15, hq16, hf⟩ := b2_of hf
            refine callVI (As := [.int x3]) (rest := [.int x2]) (wr := []) C0 (c_X7_heardOf h q fi fs ga gs pl it asd x3 _ hq16) lk_X7_323_X7_heardOf rfl hP hD hS perm_nil 0 7 rfl rfl rfl hl.1 rfl rfl (Nat.le_of_ble_eq_true rfl) dX7_watchApart_39 ⟨Nat.zero_le _, Nat.zero_le _⟩ (fun r14 w H locs hw hP hD hS => ?_)
            obtain ⟨e1, e2⟩ := hw
            replace e1 : r14 = r14q := e1
            subst e1
            subst e2
            replace hP : va_P D vwCl (Mw h q cA fi fs ga gs pl_15 it asd) H := hP.nil
            replace hD : va_D A (Mw h q cA fi fs ga gs pl_15 it asd) := hD.nil
            refine lv_goto (tgt := 51) hx hb dX7_watchApart_42 (by decide) ?_
            refine lv_iadd hx hb dX7_watchApart_51 ?_
            refine lv_istore_n (lv' := [(2, .int (x2 + r14)), (0, .ref h), (1, .int a1), (3, .int x3)]) hx hb dX7_watchApart_52 rfl hl (by decide) rfl (fun ls hl => ?_)
            refine lv_iinc (v := (x3 + 1)) (lv' := [(3, .int (x3 + 1)), (2, .int (x2 + r14)), (0, .ref h), (1, .int a1)]) hx hb dX7_watchApart_53 hl (k := 3) rfl rfl (by decide) rfl (fun ls hl => ?_)
            refine lv_goto (tgt := 4) hx hb dX7_watchApart_56 (by decide) ?_
            exact ih (x2 + r14) (x3 + 1) pl_15 hf _ _ hP hD hS _ (lv_sub hl [2, 3, 1, 0] rfl)
        · replace hf := ie_of c6 hf
          refine lv_goto (tgt := 53) hx hb dX7_watchApart_24 (by decide) ?_
          refine lv_iinc (v := (x3 + 1)) (lv' := [(3, .int (x3 + 1)), (0, .ref h), (1, .int a1), (2, .int x2)]) hx hb dX7_watchApart_53 hl (k := 3) rfl rfl (by decide) rfl (fun ls hl => ?_)
          refine lv_goto (tgt := 4) hx hb dX7_watchApart_56 (by decide) ?_
          exact ih x2 (x3 + 1) pl hf _ _ hP hD hS _ (lv_sub hl [1, 2, 3, 0] rfl)
  unfold k_X7_watchApart at hf
  refine lv_iconst (v := 0) hx hb dX7_watchApart_0 (by decide) ?_
  refine lv_istore_n (lv' := [(2, .int 0), (0, .ref h), (1, .int a1)]) hx hb dX7_watchApart_1 rfl hl (by decide) rfl (fun ls hl => ?_)
  refine lv_iconst (v := 0) hx hb dX7_watchApart_2 (by decide) ?_
  refine lv_istore_n (lv' := [(3, .int 0), (2, .int 0), (0, .ref h), (1, .int a1)]) hx hb dX7_watchApart_3 rfl hl (by decide) rfl (fun ls hl => ?_)
  exact J4 100000 0 0 pl0 hf _ _ hP hD hS _ (lv_sub hl [2, 3, 1, 0] rfl)
-- watch
noncomputable def k_X7_watch_15 (fi : Nat → Int32) (ga : Nat → Nat → Int32) : Nat → Int32 → Int32 → Int32 → Int32 → (Nat → Int32) → Option (Int32 × (Nat → Int32))
  | 0, _, _, _, _, _ => none
  | n + 1, x1, x2, x3, x4, pl => if x1 < x4 then some (x3, pl) else if (x4 &&& (x1 ^^^ (-1))) = 0 then if (x4 &&& x2) = 0 then k_X7_watch_15 fi ga n x1 x2 x3 (x4 + 1) pl else if x3 = 0 then k_X7_watch_15 fi ga n x1 x2 x4 (x4 + 1) pl else b2 (k_X7_watchApart x4 fi ga pl) (fun r5 pl_6 => b2 (k_X7_watchApart x3 fi ga pl_6) (fun r8 pl_9 => if r8 ≤ r5 then k_X7_watch_15 fi ga n x1 x2 x3 (x4 + 1) pl_9 else k_X7_watch_15 fi ga n x1 x2 x4 (x4 + 1) pl_9)) else k_X7_watch_15 fi ga n x1 x2 x3 (x4 + 1) pl
noncomputable def k_X7_watch (fi : Nat → Int32) (ga : Nat → Nat → Int32) (pl0 : Nat → Int32) : Option (Int32 × (Nat → Int32)) := b1 (k_X7_below fi) (fun r1 => k_X7_watch_15 fi ga 100000 r1 (r1 &&& (-r1)) 0 0 pl0)
set_option maxHeartbeats 4000000 in
set_option maxRecDepth 100000 in
theorem c_X7_watch {l : Launch} {D : va_G} {cA : Nat → ClassId} (h : Nat) (q : Nat → Nat) (fi : Nat → Int32) (fs : Nat → Int32) (ga : Nat → Nat → Int32) (gs : Nat → Nat → Int32) (pl0 : Nat → Int32) (it : Nat → Int64) (asd : Nat → Int64)  (o : Int32 × (Nat → Int32)) (hf : k_X7_watch fi ga pl0 = some o) : CI l D cA yX7_watch cX7_watch 5 (some .int) 6 140 [.ref h] (Mw h q cA fi fs ga gs pl0 it asd) 0 0 (fun r w => r = o.1 ∧ w = (Mw h q cA fi fs ga gs o.2 it asd)) := by
  intro sz
  refine met_start (by decide) rfl ?_
  intro p e s m args below meth c ls hsz hargs C0 hname hP hD hS hl
  generalize hAe : va_A (Mw h q cA fi fs ga gs pl0 it asd) sz = A at C0 hD hS ⊢
  obtain ⟨hx, hb, hr, hml, hown, hts, hlk, hK, hA⟩ := id C0
  replace hl : lv_has ls 5 [(0, .ref h)] := hl
  obtain ⟨Q, hQ⟩ : ∃ Q : State → Prop, Q = QI below D A (fun r w => r = o.1 ∧ w = (Mw h q cA fi fs ga gs o.2 it asd)) args s 0 0 := ⟨_, rfl⟩
  refine cast (by rw [hQ]) (?_ : W p l e (RMx 6 140 0 0) s m args below meth c s.heap [] 0 0 Q (F0 m 0 ls []))
  have J15 : ∀ n : Nat, ∀ (x1 : Int32) (x2 : Int32) (x3 : Int32) (x4 : Int32) (pl : Nat → Int32), k_X7_watch_15 fi ga n x1 x2 x3 x4 pl = some o → ∀ (H : Heap) (locs : List Loc), va_P D vwCl (Mw h q cA fi fs ga gs pl it asd) H → va_D A (Mw h q cA fi fs ga gs pl it asd) → va_S A s.heap H locs → ∀ ls : Array Slot, lv_has ls 5 [(0, .ref h), (1, .int x1), (2, .int x2), (3, .int x3), (4, .int x4)] → W p l e (RMx 6 140 0 0) s m args below meth c H locs 0 0 Q (F0 m 15 ls []) := by
    intro  n
    induction n with
    | zero =>
      intro x1 x2 x3 x4 pl hf
      rw [k_X7_watch_15] at hf
      cases hf
    | succ n ih =>
      intro x1 x2 x3 x4 pl hf H locs hP hD hS ls hl
      rw [k_X7_watch_15] at hf
      refine lv_iload hx hb dX7_watch_15 (lv_at hl 4 rfl) ?_
      refine lv_iload_n hx hb dX7_watch_17 rfl (lv_at hl 1 rfl) ?_
      refine lv_icmp_gt (tgt := 71) hx hb dX7_watch_18 (by decide) (fun c1 => ?_) (fun c1 => ?_)
      · replace hf := it_of c1 hf
        refine lv_iload_n hx hb dX7_watch_71 rfl (lv_at hl 3 rfl) ?_
        rw [hQ]
        exact ret_i C0 hP hD hS (by have e := Option.some.inj hf; rw [← e]; exact ⟨rfl, rfl⟩) dX7_watch_72
      · replace hf := ie_of c1 hf
        refine lv_iload hx hb dX7_watch_21 (lv_at hl 4 rfl) ?_
        refine lv_iload_n hx hb dX7_watch_23 rfl (lv_at hl 1 rfl) ?_
        refine lv_iconst (v := (-1)) hx hb dX7_watch_24 (by decide) ?_
        refine lv_ixor hx hb dX7_watch_25 ?_
        refine lv_iand hx hb dX7_watch_26 ?_
        refine lv_if_ne (tgt := 65) hx hb dX7_watch_27 (by decide) (fun c2 => ?_) (fun c2 => ?_)
        · replace hf := ie_of c2 hf
          refine lv_iinc (v := (x4 + 1)) (lv' := [(4, .int (x4 + 1)), (0, .ref h), (1, .int x1), (2, .int x2), (3, .int x3)]) hx hb dX7_watch_65 hl (k := 4) rfl rfl (by decide) rfl (fun ls hl => ?_)
          refine lv_goto (tgt := 15) hx hb dX7_watch_68 (by decide) ?_
          exact ih x1 x2 x3 (x4 + 1) pl hf _ _ hP hD hS _ (lv_sub hl [1, 2, 3, 4, 0] rfl)
        · replace hf := it_of c2 hf
          refine lv_iload hx hb dX7_watch_30 (lv_at hl 4 rfl) ?_
          refine lv_iload_n hx hb dX7_watch_32 rfl (lv_at hl 2 rfl) ?_
          refine lv_iand hx hb dX7_watch_33 ?_
          refine lv_if_ne (tgt := 40) hx hb dX7_watch_34 (by decide) (fun c3 => ?_) (fun c3 => ?_)
          · replace hf := ie_of c3 hf
            refine lv_iload_n hx hb dX7_watch_40 rfl (lv_at hl 3 rfl) ?_
            refine lv_if_eq (tgt := 58) hx hb dX7_watch_41 (by decide) (fun c4 => ?_) (fun c4 => ?_)
            · replace hf := it_of c4 hf
              refine lv_iload hx hb dX7_watch_58 (lv_at hl 4 rfl) ?_
              refine lv_goto (tgt := 64) hx hb dX7_watch_60 (by decide) ?_
              refine lv_istore_n (lv' := [(3, .int x4), (0, .ref h), (1, .int x1), (2, .int x2), (4, .int x4)]) hx hb dX7_watch_64 rfl hl (by decide) rfl (fun ls hl => ?_)
              refine lv_iinc (v := (x4 + 1)) (lv' := [(4, .int (x4 + 1)), (3, .int x4), (0, .ref h), (1, .int x1), (2, .int x2)]) hx hb dX7_watch_65 hl (k := 4) rfl rfl (by decide) rfl (fun ls hl => ?_)
              refine lv_goto (tgt := 15) hx hb dX7_watch_68 (by decide) ?_
              exact ih x1 x2 x4 (x4 + 1) pl hf _ _ hP hD hS _ (lv_sub hl [2, 3, 4, 1, 0] rfl)
            · replace hf := ie_of c4 hf
              refine lv_aload_n hx hb dX7_watch_44 rfl (lv_at hl 0 rfl) ?_
              refine lv_iload hx hb dX7_watch_45 (lv_at hl 4 rfl) ?_
              obtain ⟨r5q, pl_6, hq7, hf⟩ := b2_of hf
              refine callVI (As := [.int x4]) (rest := []) (wr := []) C0 (c_X7_watchApart h q fi fs ga gs pl it asd x4 _ hq7) lk_X7_351_X7_watchApart rfl hP hD hS perm_nil 0 7 rfl rfl rfl hl.1 rfl rfl (Nat.le_of_ble_eq_true rfl) dX7_watch_47 ⟨Nat.zero_le _, Nat.zero_le _⟩ (fun r5 w H locs hw hP hD hS => ?_)
              obtain ⟨e1, e2⟩ := hw
              replace e1 : r5 = r5q := e1
              subst e1
              subst e2
              replace hP : va_P D vwCl (Mw h q cA fi fs ga gs pl_6 it asd) H := hP.nil
              replace hD : va_D A (Mw h q cA fi fs ga gs pl_6 it asd) := hD.nil
              refine lv_aload_n hx hb dX7_watch_50 rfl (lv_at hl 0 rfl) ?_
              refine lv_iload_n hx hb dX7_watch_51 rfl (lv_at hl 3 rfl) ?_
              obtain ⟨r8q, pl_9, hq10, hf⟩ := b2_of hf
              refine callVI (As := [.int x3]) (rest := [.int r5]) (wr := []) C0 (c_X7_watchApart h q fi fs ga gs pl_6 it asd x3 _ hq10) lk_X7_351_X7_watchApart rfl hP hD hS perm_nil 0 7 rfl rfl rfl hl.1 rfl rfl (Nat.le_of_ble_eq_true rfl) dX7_watch_52 ⟨Nat.zero_le _, Nat.zero_le _⟩ (fun r8 w H locs hw hP hD hS => ?_)
              obtain ⟨e1, e2⟩ := hw
              replace e1 : r8 = r8q := e1
              subst e1
              subst e2
              replace hP : va_P D vwCl (Mw h q cA fi fs ga gs pl_9 it asd) H := hP.nil
              replace hD : va_D A (Mw h q cA fi fs ga gs pl_9 it asd) := hD.nil
              refine lv_icmp_ge (tgt := 63) hx hb dX7_watch_55 (by decide) (fun c11 => ?_) (fun c11 => ?_)
              · replace hf := it_of c11 hf
                refine lv_iload_n hx hb dX7_watch_63 rfl (lv_at hl 3 rfl) ?_
                refine lv_istore_n (lv' := [(3, .int x3), (0, .ref h), (1, .int x1), (2, .int x2), (4, .int x4)]) hx hb dX7_watch_64 rfl hl (by decide) rfl (fun ls hl => ?_)
                refine lv_iinc (v := (x4 + 1)) (lv' := [(4, .int (x4 + 1)), (3, .int x3), (0, .ref h), (1, .int x1), (2, .int x2)]) hx hb dX7_watch_65 hl (k := 4) rfl rfl (by decide) rfl (fun ls hl => ?_)
                refine lv_goto (tgt := 15) hx hb dX7_watch_68 (by decide) ?_
                exact ih x1 x2 x3 (x4 + 1) pl_9 hf _ _ hP hD hS _ (lv_sub hl [2, 3, 4, 1, 0] rfl)
              · replace hf := ie_of c11 hf
                refine lv_iload hx hb dX7_watch_58 (lv_at hl 4 rfl) ?_
                refine lv_goto (tgt := 64) hx hb dX7_watch_60 (by decide) ?_
                refine lv_istore_n (lv' := [(3, .int x4), (0, .ref h), (1, .int x1), (2, .int x2), (4, .int x4)]) hx hb dX7_watch_64 rfl hl (by decide) rfl (fun ls hl => ?_)
                refine lv_iinc (v := (x4 + 1)) (lv' := [(4, .int (x4 + 1)), (3, .int x4), (0, .ref h), (1, .int x1), (2, .int x2)]) hx hb dX7_watch_65 hl (k := 4) rfl rfl (by decide) rfl (fun ls hl => ?_)
                refine lv_goto (tgt := 15) hx hb dX7_watch_68 (by decide) ?_
                exact ih x1 x2 x4 (x4 + 1) pl_9 hf _ _ hP hD hS _ (lv_sub hl [2, 3, 4, 1, 0] rfl)
          · replace hf := it_of c3 hf
            refine lv_goto (tgt := 65) hx hb dX7_watch_37 (by decide) ?_
            refine lv_iinc (v := (x4 + 1)) (lv' := [(4, .int (x4 + 1)), (0, .ref h), (1, .int x1), (2, .int x2), (3, .int x3)]) hx hb dX7_watch_65 hl (k := 4) rfl rfl (by decide) rfl (fun ls hl => ?_)
            refine lv_goto (tgt := 15) hx hb dX7_watch_68 (by decide) ?_
            exact ih x1 x2 x3 (x4 + 1) pl hf _ _ hP hD hS _ (lv_sub hl [1, 2, 3, 4, 0] rfl)
  unfold k_X7_watch at hf
  refine lv_aload_n hx hb dX7_watch_0 rfl (lv_at hl 0 rfl) ?_
  obtain ⟨r1q, hq2, hf⟩ := b1_of hf
  refine callVI (As := []) (rest := []) (wr := []) C0 (c_X7_below h q fi fs ga gs pl0 it asd _ hq2) lk_X7_348_X7_below rfl hP hD hS perm_nil 0 7 rfl rfl rfl hl.1 rfl rfl (Nat.le_of_ble_eq_true rfl) dX7_watch_1 ⟨Nat.zero_le _, Nat.zero_le _⟩ (fun r1 w H locs hw hP hD hS => ?_)
  obtain ⟨e1, e2⟩ := hw
  replace e1 : r1 = r1q := e1
  subst e1
  subst e2
  replace hP : va_P D vwCl (Mw h q cA fi fs ga gs pl0 it asd) H := hP.nil
  replace hD : va_D A (Mw h q cA fi fs ga gs pl0 it asd) := hD.nil
  refine lv_istore_n (lv' := [(1, .int r1), (0, .ref h)]) hx hb dX7_watch_4 rfl hl (by decide) rfl (fun ls hl => ?_)
  refine lv_iload_n hx hb dX7_watch_5 rfl (lv_at hl 0 rfl) ?_
  refine lv_iload_n hx hb dX7_watch_6 rfl (lv_at hl 0 rfl) ?_
  refine lv_ineg hx hb dX7_watch_7 ?_
  refine lv_iand hx hb dX7_watch_8 ?_
  refine lv_istore_n (lv' := [(2, .int (r1 &&& (-r1))), (1, .int r1), (0, .ref h)]) hx hb dX7_watch_9 rfl hl (by decide) rfl (fun ls hl => ?_)
  refine lv_iconst (v := 0) hx hb dX7_watch_10 (by decide) ?_
  refine lv_istore_n (lv' := [(3, .int 0), (2, .int (r1 &&& (-r1))), (1, .int r1), (0, .ref h)]) hx hb dX7_watch_11 rfl hl (by decide) rfl (fun ls hl => ?_)
  refine lv_iconst (v := 0) hx hb dX7_watch_12 (by decide) ?_
  refine lv_istore (lv' := [(4, .int 0), (3, .int 0), (2, .int (r1 &&& (-r1))), (1, .int r1), (0, .ref h)]) hx hb dX7_watch_13 hl (by decide) rfl (fun ls hl => ?_)
  exact J15 100000 r1 (r1 &&& (-r1)) 0 0 pl0 hf _ _ hP hD hS _ (lv_sub hl [4, 3, 2, 1, 0] rfl)

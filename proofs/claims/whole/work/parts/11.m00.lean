-- in
noncomputable def k_X7_in (a1 : Int32) (a2 : Int32) (a3 : Int32) : Option Int32 := if a1 < a2 then some 0 else if a3 < a1 then some 0 else some 1
set_option maxHeartbeats 4000000 in
set_option maxRecDepth 100000 in
theorem c_X7_in {l : Launch} {D : va_G} {cA : Nat → ClassId} (h : Nat)  (a1 : Int32) (a2 : Int32) (a3 : Int32) (o : Int32) (hf : k_X7_in a1 a2 a3 = some o) : CI l D cA yX7_in cX7_in 4 (some .boolean) 0 0 [.ref h, .int a1, .int a2, .int a3] ([] : va_W) 0 0 (fun r w => (r = o ∧ w = ([] : va_W)) ∧ narrow .boolean (.int r) = .int r) := by
  intro sz
  refine met_start (by decide) rfl ?_
  intro p e s m args below meth c ls hsz hargs C0 hname hP hD hS hl
  generalize hAe : va_A ([] : va_W) sz = A at C0 hD hS ⊢
  obtain ⟨hx, hb, hr, hml, hown, hts, hlk, hK, hA⟩ := id C0
  replace hl : lv_has ls 4 [(0, .ref h), (1, .int a1), (2, .int a2), (3, .int a3)] := hl
  obtain ⟨Q, hQ⟩ : ∃ Q : State → Prop, Q = QI below D A (fun r w => (r = o ∧ w = ([] : va_W)) ∧ narrow .boolean (.int r) = .int r) args s 0 0 := ⟨_, rfl⟩
  refine cast (by rw [hQ]) (?_ : W p l e (RMx 0 0 0 0) s m args below meth c s.heap [] 0 0 Q (F0 m 0 ls []))
  unfold k_X7_in at hf
  refine lv_iload_n hx hb dX7_in_0 rfl (lv_at hl 1 rfl) ?_
  refine lv_iload_n hx hb dX7_in_1 rfl (lv_at hl 2 rfl) ?_
  refine lv_icmp_lt (tgt := 14) hx hb dX7_in_2 (by decide) (fun c1 => ?_) (fun c1 => ?_)
  · replace hf := it_of c1 hf
    refine lv_iconst (v := 0) hx hb dX7_in_14 (by decide) ?_
    rw [hQ]
    exact ret_z C0 hP hD hS (by have e := Option.some.inj hf; rw [← e]; exact ⟨rfl, rfl⟩) rfl dX7_in_15
  · replace hf := ie_of c1 hf
    refine lv_iload_n hx hb dX7_in_5 rfl (lv_at hl 1 rfl) ?_
    refine lv_iload_n hx hb dX7_in_6 rfl (lv_at hl 3 rfl) ?_
    refine lv_icmp_gt (tgt := 14) hx hb dX7_in_7 (by decide) (fun c2 => ?_) (fun c2 => ?_)
    · replace hf := it_of c2 hf
      refine lv_iconst (v := 0) hx hb dX7_in_14 (by decide) ?_
      rw [hQ]
      exact ret_z C0 hP hD hS (by have e := Option.some.inj hf; rw [← e]; exact ⟨rfl, rfl⟩) rfl dX7_in_15
    · replace hf := ie_of c2 hf
      refine lv_iconst (v := 1) hx hb dX7_in_10 (by decide) ?_
      refine lv_goto (tgt := 15) hx hb dX7_in_11 (by decide) ?_
      rw [hQ]
      exact ret_z C0 hP hD hS (by have e := Option.some.inj hf; rw [← e]; exact ⟨rfl, rfl⟩) rfl dX7_in_15
-- has
noncomputable def k_X7_has (a1 : Int32) (a2 : Int32) : Option Int32 := if ((a1 >>> (a2 &&& 31)) &&& 1) = 1 then some 1 else some 0
set_option maxHeartbeats 4000000 in
set_option maxRecDepth 100000 in
theorem c_X7_has {l : Launch} {D : va_G} {cA : Nat → ClassId} (h : Nat)  (a1 : Int32) (a2 : Int32) (o : Int32) (hf : k_X7_has a1 a2 = some o) : CI l D cA yX7_has cX7_has 3 (some .boolean) 0 0 [.ref h, .int a1, .int a2] ([] : va_W) 0 0 (fun r w => (r = o ∧ w = ([] : va_W)) ∧ narrow .boolean (.int r) = .int r) := by
  intro sz
  refine met_start (by decide) rfl ?_
  intro p e s m args below meth c ls hsz hargs C0 hname hP hD hS hl
  generalize hAe : va_A ([] : va_W) sz = A at C0 hD hS ⊢
  obtain ⟨hx, hb, hr, hml, hown, hts, hlk, hK, hA⟩ := id C0
  replace hl : lv_has ls 3 [(0, .ref h), (1, .int a1), (2, .int a2)] := hl
  obtain ⟨Q, hQ⟩ : ∃ Q : State → Prop, Q = QI below D A (fun r w => (r = o ∧ w = ([] : va_W)) ∧ narrow .boolean (.int r) = .int r) args s 0 0 := ⟨_, rfl⟩
  refine cast (by rw [hQ]) (?_ : W p l e (RMx 0 0 0 0) s m args below meth c s.heap [] 0 0 Q (F0 m 0 ls []))
  unfold k_X7_has at hf
  refine lv_iload_n hx hb dX7_has_0 rfl (lv_at hl 1 rfl) ?_
  refine lv_iload_n hx hb dX7_has_1 rfl (lv_at hl 2 rfl) ?_
  refine lv_ishr hx hb dX7_has_2 ?_
  refine lv_iconst (v := 1) hx hb dX7_has_3 (by decide) ?_
  refine lv_iand hx hb dX7_has_4 ?_
  refine lv_iconst (v := 1) hx hb dX7_has_5 (by decide) ?_
  refine lv_icmp_ne (tgt := 13) hx hb dX7_has_6 (by decide) (fun c1 => ?_) (fun c1 => ?_)
  · replace hf := ie_of c1 hf
    refine lv_iconst (v := 0) hx hb dX7_has_13 (by decide) ?_
    rw [hQ]
    exact ret_z C0 hP hD hS (by have e := Option.some.inj hf; rw [← e]; exact ⟨rfl, rfl⟩) rfl dX7_has_14
  · replace hf := it_of c1 hf
    refine lv_iconst (v := 1) hx hb dX7_has_9 (by decide) ?_
    refine lv_goto (tgt := 14) hx hb dX7_has_10 (by decide) ?_
    rw [hQ]
    exact ret_z C0 hP hD hS (by have e := Option.some.inj hf; rw [← e]; exact ⟨rfl, rfl⟩) rfl dX7_has_14
-- least
noncomputable def k_X7_least (a1 : Int32) (a2 : Int32) : Option Int32 := if a2 ≤ a1 then some a2 else some a1
set_option maxHeartbeats 4000000 in
set_option maxRecDepth 100000 in
theorem c_X7_least {l : Launch} {D : va_G} {cA : Nat → ClassId} (h : Nat)  (a1 : Int32) (a2 : Int32) (o : Int32) (hf : k_X7_least a1 a2 = some o) : CI l D cA yX7_least cX7_least 3 (some .int) 0 0 [.ref h, .int a1, .int a2] ([] : va_W) 0 0 (fun r w => r = o ∧ w = ([] : va_W)) := by
  intro sz
  refine met_start (by decide) rfl ?_
  intro p e s m args below meth c ls hsz hargs C0 hname hP hD hS hl
  generalize hAe : va_A ([] : va_W) sz = A at C0 hD hS ⊢
  obtain ⟨hx, hb, hr, hml, hown, hts, hlk, hK, hA⟩ := id C0
  replace hl : lv_has ls 3 [(0, .ref h), (1, .int a1), (2, .int a2)] := hl
  obtain ⟨Q, hQ⟩ : ∃ Q : State → Prop, Q = QI below D A (fun r w => r = o ∧ w = ([] : va_W)) args s 0 0 := ⟨_, rfl⟩
  refine cast (by rw [hQ]) (?_ : W p l e (RMx 0 0 0 0) s m args below meth c s.heap [] 0 0 Q (F0 m 0 ls []))
  unfold k_X7_least at hf
  refine lv_iload_n hx hb dX7_least_0 rfl (lv_at hl 1 rfl) ?_
  refine lv_iload_n hx hb dX7_least_1 rfl (lv_at hl 2 rfl) ?_
  refine lv_icmp_ge (tgt := 9) hx hb dX7_least_2 (by decide) (fun c1 => ?_) (fun c1 => ?_)
  · replace hf := it_of c1 hf
    refine lv_iload_n hx hb dX7_least_9 rfl (lv_at hl 2 rfl) ?_
    rw [hQ]
    exact ret_i C0 hP hD hS (by have e := Option.some.inj hf; rw [← e]; exact ⟨rfl, rfl⟩) dX7_least_10
  · replace hf := ie_of c1 hf
    refine lv_iload_n hx hb dX7_least_5 rfl (lv_at hl 1 rfl) ?_
    refine lv_goto (tgt := 10) hx hb dX7_least_6 (by decide) ?_
    rw [hQ]
    exact ret_i C0 hP hD hS (by have e := Option.some.inj hf; rw [← e]; exact ⟨rfl, rfl⟩) dX7_least_10
-- bits
noncomputable def k_X7_bits_4 (a1 : Int32) : Nat → Int32 → Int32 → Option Int32
  | 0, _, _ => none
  | n + 1, x2, x3 => if 6 ≤ x3 then some x2 else b1 (k_X7_has a1 x3) (fun r2 => if r2 = 0 then k_X7_bits_4 a1 n (x2 + 0) (x3 + 1) else k_X7_bits_4 a1 n (x2 + 1) (x3 + 1))
noncomputable def k_X7_bits (a1 : Int32) : Option Int32 := k_X7_bits_4 a1 100000 0 0
set_option maxHeartbeats 4000000 in
set_option maxRecDepth 100000 in
theorem c_X7_bits {l : Launch} {D : va_G} {cA : Nat → ClassId} (h : Nat) (q : Nat → Nat) (fi : Nat → Int32) (fs : Nat → Int32) (ga : Nat → Nat → Int32) (gs : Nat → Nat → Int32) (pl : Nat → Int32) (it : Nat → Int64) (asd : Nat → Int64) (a1 : Int32) (o : Int32) (hf : k_X7_bits a1 = some o) : CI l D cA yX7_bits cX7_bits 4 (some .int) 1 22 [.ref h, .int a1] (Mw h q cA fi fs ga gs pl it asd) 0 0 (fun r w => r = o ∧ w = (Mw h q cA fi fs ga gs pl it asd)) := by
  intro sz
  refine met_start (by decide) rfl ?_
  intro p e s m args below meth c ls hsz hargs C0 hname hP hD hS hl
  generalize hAe : va_A (Mw h q cA fi fs ga gs pl it asd) sz = A at C0 hD hS ⊢
  obtain ⟨hx, hb, hr, hml, hown, hts, hlk, hK, hA⟩ := id C0
  replace hl : lv_has ls 4 [(0, .ref h), (1, .int a1)] := hl
  obtain ⟨Q, hQ⟩ : ∃ Q : State → Prop, Q = QI below D A (fun r w => r = o ∧ w = (Mw h q cA fi fs ga gs pl it asd)) args s 0 0 := ⟨_, rfl⟩
  refine cast (by rw [hQ]) (?_ : W p l e (RMx 1 22 0 0) s m args below meth c s.heap [] 0 0 Q (F0 m 0 ls []))
  have J4 : ∀ n : Nat, ∀ (x2 : Int32) (x3 : Int32), k_X7_bits_4 a1 n x2 x3 = some o → ∀ (H : Heap) (locs : List Loc), va_P D vwCl (Mw h q cA fi fs ga gs pl it asd) H → va_D A (Mw h q cA fi fs ga gs pl it asd) → va_S A s.heap H locs → ∀ ls : Array Slot, lv_has ls 4 [(0, .ref h), (1, .int a1), (2, .int x2), (3, .int x3)] → W p l e (RMx 1 22 0 0) s m args below meth c H locs 0 0 Q (F0 m 4 ls []) := by
    intro  n
    induction n with
    | zero =>
      intro x2 x3 hf
      rw [k_X7_bits_4] at hf
      cases hf
    | succ n ih =>
      intro x2 x3 hf H locs hP hD hS ls hl
      rw [k_X7_bits_4] at hf
      refine lv_iload_n hx hb dX7_bits_4 rfl (lv_at hl 3 rfl) ?_
      refine lv_bipush (v := 6) hx hb dX7_bits_5 (by decide) ?_
      refine lv_icmp_ge (tgt := 33) hx hb dX7_bits_7 (by decide) (fun c1 => ?_) (fun c1 => ?_)
      · replace hf := it_of c1 hf
        refine lv_iload_n hx hb dX7_bits_33 rfl (lv_at hl 2 rfl) ?_
        rw [hQ]
        exact ret_i C0 hP hD hS (by have e := Option.some.inj hf; rw [← e]; exact ⟨rfl, rfl⟩) dX7_bits_34
      · replace hf := ie_of c1 hf
        refine lv_iload_n hx hb dX7_bits_10 rfl (lv_at hl 2 rfl) ?_
        refine lv_aload_n hx hb dX7_bits_11 rfl (lv_at hl 0 rfl) ?_
        refine lv_iload_n hx hb dX7_bits_12 rfl (lv_at hl 1 rfl) ?_
        refine lv_iload_n hx hb dX7_bits_13 rfl (lv_at hl 3 rfl) ?_
        obtain ⟨r2q, hq3, hf⟩ := b1_of hf
        refine callVI (As := [.int a1, .int x3]) (rest := [.int x2]) (wr := (Mw h q cA fi fs ga gs pl it asd)) C0 (c_X7_has h a1 x3 _ hq3) lk_X7_233_X7_has rfl hP hD hS (List.Perm.refl _) 0 7 rfl rfl rfl hl.1 rfl rfl (Nat.le_of_ble_eq_true rfl) dX7_bits_14 ⟨Nat.zero_le _, Nat.zero_le _⟩ (fun r2 w H locs hw hP hD hS => ?_)
        obtain ⟨⟨e1, e2⟩, z4⟩ := hw
        replace e1 : r2 = r2q := e1
        subst e1
        subst e2
        replace hP : va_P D vwCl (Mw h q cA fi fs ga gs pl it asd) H := hP
        replace hD : va_D A (Mw h q cA fi fs ga gs pl it asd) := hD
        refine lv_if_eq (tgt := 24) hx hb dX7_bits_17 (by decide) (fun c5 => ?_) (fun c5 => ?_)
        · replace hf := it_of c5 hf
          refine lv_iconst (v := 0) hx hb dX7_bits_24 (by decide) ?_
          refine lv_iadd hx hb dX7_bits_25 ?_
          refine lv_istore_n (lv' := [(2, .int (x2 + 0)), (0, .ref h), (1, .int a1), (3, .int x3)]) hx hb dX7_bits_26 rfl hl (by decide) rfl (fun ls hl => ?_)
          refine lv_iinc (v := (x3 + 1)) (lv' := [(3, .int (x3 + 1)), (2, .int (x2 + 0)), (0, .ref h), (1, .int a1)]) hx hb dX7_bits_27 hl (k := 3) rfl rfl (by decide) rfl (fun ls hl => ?_)
          refine lv_goto (tgt := 4) hx hb dX7_bits_30 (by decide) ?_
          exact ih (x2 + 0) (x3 + 1) hf _ _ hP hD hS _ (lv_sub hl [2, 3, 1, 0] rfl)
        · replace hf := ie_of c5 hf
          refine lv_iconst (v := 1) hx hb dX7_bits_20 (by decide) ?_
          refine lv_goto (tgt := 25) hx hb dX7_bits_21 (by decide) ?_
          refine lv_iadd hx hb dX7_bits_25 ?_
          refine lv_istore_n (lv' := [(2, .int (x2 + 1)), (0, .ref h), (1, .int a1), (3, .int x3)]) hx hb dX7_bits_26 rfl hl (by decide) rfl (fun ls hl => ?_)
          refine lv_iinc (v := (x3 + 1)) (lv' := [(3, .int (x3 + 1)), (2, .int (x2 + 1)), (0, .ref h), (1, .int a1)]) hx hb dX7_bits_27 hl (k := 3) rfl rfl (by decide) rfl (fun ls hl => ?_)
          refine lv_goto (tgt := 4) hx hb dX7_bits_30 (by decide) ?_
          exact ih (x2 + 1) (x3 + 1) hf _ _ hP hD hS _ (lv_sub hl [2, 3, 1, 0] rfl)
  unfold k_X7_bits at hf
  refine lv_iconst (v := 0) hx hb dX7_bits_0 (by decide) ?_
  refine lv_istore_n (lv' := [(2, .int 0), (0, .ref h), (1, .int a1)]) hx hb dX7_bits_1 rfl hl (by decide) rfl (fun ls hl => ?_)
  refine lv_iconst (v := 0) hx hb dX7_bits_2 (by decide) ?_
  refine lv_istore_n (lv' := [(3, .int 0), (2, .int 0), (0, .ref h), (1, .int a1)]) hx hb dX7_bits_3 rfl hl (by decide) rfl (fun ls hl => ?_)
  exact J4 100000 0 0 hf _ _ hP hD hS _ (lv_sub hl [2, 3, 1, 0] rfl)
-- isMan
noncomputable def k_X7_isMan (a1 : Int32) (fi : Nat → Int32) : Option Int32 := b1 (k_X7_in a1 0 ((fi 0) - 1)) (fun r1 => some r1)
set_option maxHeartbeats 4000000 in
set_option maxRecDepth 100000 in
theorem c_X7_isMan {l : Launch} {D : va_G} {cA : Nat → ClassId} (h : Nat) (q : Nat → Nat) (fi : Nat → Int32) (fs : Nat → Int32) (ga : Nat → Nat → Int32) (gs : Nat → Nat → Int32) (pl : Nat → Int32) (it : Nat → Int64) (asd : Nat → Int64) (a1 : Int32) (o : Int32) (hf : k_X7_isMan a1 fi = some o) : CI l D cA yX7_isMan cX7_isMan 2 (some .boolean) 1 23 [.ref h, .int a1] (Mw h q cA fi fs ga gs pl it asd) 0 0 (fun r w => (r = o ∧ w = (Mw h q cA fi fs ga gs pl it asd)) ∧ narrow .boolean (.int r) = .int r) := by
  intro sz
  refine met_start (by decide) rfl ?_
  intro p e s m args below meth c ls hsz hargs C0 hname hP hD hS hl
  generalize hAe : va_A (Mw h q cA fi fs ga gs pl it asd) sz = A at C0 hD hS ⊢
  obtain ⟨hx, hb, hr, hml, hown, hts, hlk, hK, hA⟩ := id C0
  replace hl : lv_has ls 2 [(0, .ref h), (1, .int a1)] := hl
  obtain ⟨Q, hQ⟩ : ∃ Q : State → Prop, Q = QI below D A (fun r w => (r = o ∧ w = (Mw h q cA fi fs ga gs pl it asd)) ∧ narrow .boolean (.int r) = .int r) args s 0 0 := ⟨_, rfl⟩
  refine cast (by rw [hQ]) (?_ : W p l e (RMx 1 23 0 0) s m args below meth c s.heap [] 0 0 Q (F0 m 0 ls []))
  unfold k_X7_isMan at hf
  refine lv_aload_n hx hb dX7_isMan_0 rfl (lv_at hl 0 rfl) ?_
  refine lv_iload_n hx hb dX7_isMan_1 rfl (lv_at hl 1 rfl) ?_
  refine lv_iconst (v := 0) hx hb dX7_isMan_2 (by decide) ?_
  refine lv_aload_n hx hb dX7_isMan_3 rfl (lv_at hl 0 rfl) ?_
  refine va_get (D := D) (ci := 7) (v := .int (fi 0)) (C := RX7) (T := TX7) (N := 73) hx hb hts fw_7 hown hK hP 0 rfl rfl 0 (by decide) (hts _ m_fieldLink_M_7_M_men_I) (fun _ h9 => h9) rfl dX7_isMan_4 ?_
  refine lv_iconst (v := 1) hx hb dX7_isMan_7 (by decide) ?_
  refine lv_isub hx hb dX7_isMan_8 ?_
  obtain ⟨r1q, hq2, hf⟩ := b1_of hf
  refine callVI (As := [.int a1, .int 0, .int ((fi 0) - 1)]) (rest := []) (wr := (Mw h q cA fi fs ga gs pl it asd)) C0 (c_X7_in h a1 0 ((fi 0) - 1) _ hq2) lk_X7_237_X7_in rfl hP hD hS (List.Perm.refl _) 0 7 rfl rfl rfl hl.1 rfl rfl (Nat.le_of_ble_eq_true rfl) dX7_isMan_9 ⟨Nat.zero_le _, Nat.zero_le _⟩ (fun r1 w H locs hw hP hD hS => ?_)
  obtain ⟨⟨e1, e2⟩, z3⟩ := hw
  replace e1 : r1 = r1q := e1
  subst e1
  subst e2
  replace hP : va_P D vwCl (Mw h q cA fi fs ga gs pl it asd) H := hP
  replace hD : va_D A (Mw h q cA fi fs ga gs pl it asd) := hD
  rw [hQ]
  exact ret_z C0 hP hD hS (by have e := Option.some.inj hf; rw [← e]; exact ⟨rfl, rfl⟩) z3 dX7_isMan_12
-- isNerve
noncomputable def k_X7_isNerve (a1 : Int32) : Option Int32 := b1 (k_X7_in a1 0 20) (fun r1 => some r1)
set_option maxHeartbeats 4000000 in
set_option maxRecDepth 100000 in
theorem c_X7_isNerve {l : Launch} {D : va_G} {cA : Nat → ClassId} (h : Nat) (q : Nat → Nat) (fi : Nat → Int32) (fs : Nat → Int32) (ga : Nat → Nat → Int32) (gs : Nat → Nat → Int32) (pl : Nat → Int32) (it : Nat → Int64) (asd : Nat → Int64) (a1 : Int32) (o : Int32) (hf : k_X7_isNerve a1 = some o) : CI l D cA yX7_isNerve cX7_isNerve 2 (some .boolean) 1 23 [.ref h, .int a1] (Mw h q cA fi fs ga gs pl it asd) 0 0 (fun r w => (r = o ∧ w = (Mw h q cA fi fs ga gs pl it asd)) ∧ narrow .boolean (.int r) = .int r) := by
  intro sz
  refine met_start (by decide) rfl ?_
  intro p e s m args below meth c ls hsz hargs C0 hname hP hD hS hl
  generalize hAe : va_A (Mw h q cA fi fs ga gs pl it asd) sz = A at C0 hD hS ⊢
  obtain ⟨hx, hb, hr, hml, hown, hts, hlk, hK, hA⟩ := id C0
  replace hl : lv_has ls 2 [(0, .ref h), (1, .int a1)] := hl
  obtain ⟨Q, hQ⟩ : ∃ Q : State → Prop, Q = QI below D A (fun r w => (r = o ∧ w = (Mw h q cA fi fs ga gs pl it asd)) ∧ narrow .boolean (.int r) = .int r) args s 0 0 := ⟨_, rfl⟩
  refine cast (by rw [hQ]) (?_ : W p l e (RMx 1 23 0 0) s m args below meth c s.heap [] 0 0 Q (F0 m 0 ls []))
  unfold k_X7_isNerve at hf
  refine lv_aload_n hx hb dX7_isNerve_0 rfl (lv_at hl 0 rfl) ?_
  refine lv_iload_n hx hb dX7_isNerve_1 rfl (lv_at hl 1 rfl) ?_
  refine lv_iconst (v := 0) hx hb dX7_isNerve_2 (by decide) ?_
  refine lv_bipush (v := 20) hx hb dX7_isNerve_3 (by decide) ?_
  obtain ⟨r1q, hq2, hf⟩ := b1_of hf
  refine callVI (As := [.int a1, .int 0, .int 20]) (rest := []) (wr := (Mw h q cA fi fs ga gs pl it asd)) C0 (c_X7_in h a1 0 20 _ hq2) lk_X7_237_X7_in rfl hP hD hS (List.Perm.refl _) 0 7 rfl rfl rfl hl.1 rfl rfl (Nat.le_of_ble_eq_true rfl) dX7_isNerve_5 ⟨Nat.zero_le _, Nat.zero_le _⟩ (fun r1 w H locs hw hP hD hS => ?_)
  obtain ⟨⟨e1, e2⟩, z3⟩ := hw
  replace e1 : r1 = r1q := e1
  subst e1
  subst e2
  replace hP : va_P D vwCl (Mw h q cA fi fs ga gs pl it asd) H := hP
  replace hD : va_D A (Mw h q cA fi fs ga gs pl it asd) := hD
  rw [hQ]
  exact ret_z C0 hP hD hS (by have e := Option.some.inj hf; rw [← e]; exact ⟨rfl, rfl⟩) z3 dX7_isNerve_8
-- isDays
noncomputable def k_X7_isDays (a1 : Int32) : Option Int32 := b1 (k_X7_in a1 0 60) (fun r1 => some r1)
set_option maxHeartbeats 4000000 in
set_option maxRecDepth 100000 in
theorem c_X7_isDays {l : Launch} {D : va_G} {cA : Nat → ClassId} (h : Nat) (q : Nat → Nat) (fi : Nat → Int32) (fs : Nat → Int32) (ga : Nat → Nat → Int32) (gs : Nat → Nat → Int32) (pl : Nat → Int32) (it : Nat → Int64) (asd : Nat → Int64) (a1 : Int32) (o : Int32) (hf : k_X7_isDays a1 = some o) : CI l D cA yX7_isDays cX7_isDays 2 (some .boolean) 1 23 [.ref h, .int a1] (Mw h q cA fi fs ga gs pl it asd) 0 0 (fun r w => (r = o ∧ w = (Mw h q cA fi fs ga gs pl it asd)) ∧ narrow .boolean (.int r) = .int r) := by
  intro sz
  refine met_start (by decide) rfl ?_
  intro p e s m args below meth c ls hsz hargs C0 hname hP hD hS hl
  generalize hAe : va_A (Mw h q cA fi fs ga gs pl it asd) sz = A at C0 hD hS ⊢
  obtain ⟨hx, hb, hr, hml, hown, hts, hlk, hK, hA⟩ := id C0
  replace hl : lv_has ls 2 [(0, .ref h), (1, .int a1)] := hl
  obtain ⟨Q, hQ⟩ : ∃ Q : State → Prop, Q = QI below D A (fun r w => (r = o ∧ w = (Mw h q cA fi fs ga gs pl it asd)) ∧ narrow .boolean (.int r) = .int r) args s 0 0 := ⟨_, rfl⟩
  refine cast (by rw [hQ]) (?_ : W p l e (RMx 1 23 0 0) s m args below meth c s.heap [] 0 0 Q (F0 m 0 ls []))
  unfold k_X7_isDays at hf
  refine lv_aload_n hx hb dX7_isDays_0 rfl (lv_at hl 0 rfl) ?_
  refine lv_iload_n hx hb dX7_isDays_1 rfl (lv_at hl 1 rfl) ?_
  refine lv_iconst (v := 0) hx hb dX7_isDays_2 (by decide) ?_
  refine lv_bipush (v := 60) hx hb dX7_isDays_3 (by decide) ?_
  obtain ⟨r1q, hq2, hf⟩ := b1_of hf
  refine callVI (As := [.int a1, .int 0, .int 60]) (rest := []) (wr := (Mw h q cA fi fs ga gs pl it asd)) C0 (c_X7_in h a1 0 60 _ hq2) lk_X7_237_X7_in rfl hP hD hS (List.Perm.refl _) 0 7 rfl rfl rfl hl.1 rfl rfl (Nat.le_of_ble_eq_true rfl) dX7_isDays_5 ⟨Nat.zero_le _, Nat.zero_le _⟩ (fun r1 w H locs hw hP hD hS => ?_)
  obtain ⟨⟨e1, e2⟩, z3⟩ := hw
  replace e1 : r1 = r1q := e1
  subst e1
  subst e2
  replace hP : va_P D vwCl (Mw h q cA fi fs ga gs pl it asd) H := hP
  replace hD : va_D A (Mw h q cA fi fs ga gs pl it asd) := hD
  rw [hQ]
  exact ret_z C0 hP hD hS (by have e := Option.some.inj hf; rw [← e]; exact ⟨rfl, rfl⟩) z3 dX7_isDays_8
-- man
noncomputable def k_X7_man_107  : Nat → Int32 → (Nat → Int32) → (Nat → Nat → Int32) → Option (Int32 × (Nat → Int32) × (Nat → Nat → Int32))
  | 0, _, _, _ => none
  | n + 1, x4, fi, ga => if 4 ≤ x4 then some ((((fi 0) + 1) - 1), (upd fi 0 ((fi 0) + 1)), ga) else gd ((4 * (fi 0)) + x4) 24 (k_X7_man_107 n (x4 + 1) fi (va_up ga 10 (upd (ga 10) (Int32.toNatClampNeg ((4 * (fi 0)) + x4)) 0)))
noncomputable def k_X7_man (a1 : Int32) (a2 : Int32) (a3 : Int32) (fi0 : Nat → Int32) (ga0 : Nat → Nat → Int32) : Option (Int32 × (Nat → Int32) × (Nat → Nat → Int32)) := b1 (k_X7_in a1 0 6) (fun r1 => if r1 = 0 then some ((-1), fi0, ga0) else b1 (k_X7_in a2 0 9) (fun r5 => if r5 = 0 then some ((-2), fi0, ga0) else b1 (k_X7_isNerve a3) (fun r9 => if r9 = 0 then some ((-2), fi0, ga0) else if (fi0 0) = 6 then some ((-4), fi0, ga0) else gd (fi0 0) 6 (gd (fi0 0) 6 (nm (va_up (va_up ga0 6 (upd (ga0 6) (Int32.toNatClampNeg (fi0 0)) a1)) 7 (upd (ga0 7) (Int32.toNatClampNeg (fi0 0)) a2)) (fun ga_16 => gd (fi0 0) 6 (gd (fi0 0) 6 (nm (va_up (va_up ga_16 8 (upd (ga_16 8) (Int32.toNatClampNeg (fi0 0)) a3)) 9 (upd (ga_16 9) (Int32.toNatClampNeg (fi0 0)) 0)) (fun ga_20 => k_X7_man_107 100000 0 (upd fi0 1 ((fi0 1) &&& ((1 <<< ((fi0 0) &&& 31)) ^^^ (-1)))) ga_20)))))))))
set_option maxHeartbeats 4000000 in
set_option maxRecDepth 100000 in
theorem c_X7_man {l : Launch} {D : va_G} {cA : Nat → ClassId} (h : Nat) (q : Nat → Nat) (fi0 : Nat → Int32) (fs : Nat → Int32) (ga0 : Nat → Nat → Int32) (gs : Nat → Nat → Int32) (pl : Nat → Int32) (it : Nat → Int64) (asd : Nat → Int64) (a1 : Int32) (a2 : Int32) (a3 : Int32) (o : Int32 × (Nat → Int32) × (Nat → Nat → Int32)) (hf : k_X7_man a1 a2 a3 fi0 ga0 = some o) : CI l D cA yX7_man cX7_man 5 (some .int) 2 44 [.ref h, .int a1, .int a2, .int a3] (Mw h q cA fi0 fs ga0 gs pl it asd) 0 0 (fun r w => r = o.1 ∧ w = (Mw h q cA o.2.1 fs o.2.2 gs pl it asd)) := by
  intro sz
  refine met_start (by decide) rfl ?_
  intro p e s m args below meth c ls hsz hargs C0 hname hP hD hS hl
  generalize hAe : va_A (Mw h q cA fi0 fs ga0 gs pl it asd) sz = A at C0 hD hS ⊢
  obtain ⟨hx, hb, hr, hml, hown, hts, hlk, hK, hA⟩ := id C0
  replace hl : lv_has ls 5 [(0, .ref h), (1, .int a1), (2, .int a2), (3, .int a3)] := hl
  obtain ⟨Q, hQ⟩ : ∃ Q : State → Prop, Q = QI below D A (fun r w => r = o.1 ∧ w = (Mw h q cA o.2.1 fs o.2.2 gs pl it asd)) args s 0 0 := ⟨_, rfl⟩
  refine cast (by rw [hQ]) (?_ : W p l e (RMx 2 44 0 0) s m args below meth c s.heap [] 0 0 Q (F0 m 0 ls []))
  have J107 : ∀ n : Nat, ∀ (x4 : Int32) (fi : Nat → Int32) (ga : Nat → Nat → Int32), k_X7_man_107 n x4 fi ga = some o → ∀ (H : Heap) (locs : List Loc), va_P D vwCl (Mw h q cA fi fs ga gs pl it asd) H → va_D A (Mw h q cA fi fs ga gs pl it asd) → va_S A s.heap H locs → ∀ ls : Array Slot, lv_has ls 5 [(0, .ref h), (4, .int x4)] → W p l e (RMx 2 44 0 0) s m args below meth c H locs 0 0 Q (F0 m 107 ls []) := by
    intro  n
    induction n with
    | zero =>
      intro x4 fi ga hf
      rw [k_X7_man_107] at hf
      cases hf
    | succ n ih =>
      intro x4 fi ga hf H locs hP hD hS ls hl
      rw [k_X7_man_107] at hf
      refine lv_iload hx hb dX7_man_107 (lv_at hl 1 rfl) ?_
      refine lv_iconst (v := 4) hx hb dX7_man_109 (by decide) ?_
      refine lv_icmp_ge (tgt := 134) hx hb dX7_man_110 (by decide) (fun c1 => ?_) (fun c1 => ?_)
      · replace hf := it_of c1 hf
        refine lv_aload_n hx hb dX7_man_134 rfl (lv_at hl 0 rfl) ?_
        refine lv_dup hx hb dX7_man_135 rfl ?_
        refine va_get (D := D) (ci := 7) (v := .int (fi 0)) (C := RX7) (T := TX7) (N := 73) hx hb hts fw_7 hown hK hP 0 rfl rfl 0 (by decide) (hts _ m_fieldLink_M_7_M_men_I) (fun _ h9 => h9) rfl dX7_man_136 ?_
        refine lv_iconst (v := 1) hx hb dX7_man_139 (by decide) ?_
        refine lv_iadd hx hb dX7_man_140 ?_
        refine va_put (D := D) (ci := 7) (v := .int ((fi 0) + 1)) (ty := .int) (C := RX7) (T := TX7) (N := 73) hx hb hts fw_7 tyX7 tyX7_ok nmX7 hown hK hP hD hS 0 rfl rfl 0 (by decide) (hts _ m_fieldLink_M_7_M_men_I) (fun _ h9 => h9) rfl (by decide +kernel) rfl rfl (Nat.le_of_ble_eq_true rfl) dX7_man_141 (fun H locs hP hD hS => ?_)
        replace hP : va_P D vwCl (Mw h q cA (upd fi 0 ((fi 0) + 1)) fs ga gs pl it asd) H := hP
        replace hD : va_D A (Mw h q cA (upd fi 0 ((fi 0) + 1)) fs ga gs pl it asd) := hD
        refine lv_aload_n hx hb dX7_man_144 rfl (lv_at hl 0 rfl) ?_
        refine va_get (D := D) (ci := 7) (v := .int ((fi 0) + 1)) (C := RX7) (T := TX7) (N := 73) hx hb hts fw_7 hown hK hP 0 rfl rfl 0 (by decide) (hts _ m_fieldLink_M_7_M_men_I) (fun _ h9 => h9) rfl dX7_man_145 ?_
        refine lv_iconst (v := 1) hx hb dX7_man_148 (by decide) ?_
        refine lv_isub hx hb dX7_man_149 ?_
        rw [hQ]
        exact ret_i C0 hP hD hS (by have e := Option.some.inj hf; rw [← e]; exact ⟨rfl, rfl⟩) dX7_man_150
      · replace hf := ie_of c1 hf
        refine lv_aload_n hx hb dX7_man_113 rfl (lv_at hl 0 rfl) ?_
        refine va_get (D := D) (ci := 7) (v := .ref (q 10)) (C := RX7) (T := TX7) (N := 73) hx hb hts fw_7 hown hK hP 0 rfl rfl 10 (by decide) (hts _ m_fieldLink_M_41_M_rows_aI) (fun _ h9 => h9) rfl dX7_man_114 ?_
        refine lv_iconst (v := 4) hx hb dX7_man_117 (by decide) ?_
        refine lv_aload_n hx hb dX7_man_118 rfl (lv_at hl 0 rfl) ?_
        refine va_get (D := D) (ci := 7) (v := .int (fi 0)) (C := RX7) (T := TX7) (N := 73) hx hb hts fw_7 hown hK hP 0 rfl rfl 0 (by decide) (hts _ m_fieldLink_M_7_M_men_I) (fun _ h9 => h9) rfl dX7_man_119 ?_
        refine lv_imul hx hb dX7_man_122 ?_
        refine lv_iload hx hb dX7_man_123 (lv_at hl 1 rfl) ?_
        refine lv_iadd hx hb dX7_man_125 ?_
        refine lv_iconst (v := 0) hx hb dX7_man_126 (by decide) ?_
        obtain ⟨hi2, hf⟩ := gd_of hf
        refine va_iast hx hb hK hP hD hS 5 0 rfl rfl hi2 dX7_man_127 (fun H locs hP hD hS => ?_)
        replace hP : va_P D vwCl (Mw h q cA fi fs (va_up ga 10 (upd (ga 10) (Int32.toNatClampNeg ((4 * (fi 0)) + x4)) 0)) gs pl it asd) H := hP
        replace hD : va_D A (Mw h q cA fi fs (va_up ga 10 (upd (ga 10) (Int32.toNatClampNeg ((4 * (fi 0)) + x4)) 0)) gs pl it asd) := hD
        refine lv_iinc (v := (x4 + 1)) (lv' := [(4, .int (x4 + 1)), (0, .ref h)]) hx hb dX7_man_128 hl (k := 1) rfl rfl (by decide) rfl (fun ls hl => ?_)
        refine lv_goto (tgt := 107) hx hb dX7_man_131 (by decide) ?_
        exact ih (x4 + 1) fi (va_up ga 10 (upd (ga 10) (Int32.toNatClampNeg ((4 * (fi 0)) + x4)) 0)) hf _ _ hP hD hS _ (lv_sub hl [1, 0] rfl)
  unfold k_X7_man at hf
  refine lv_aload_n hx hb dX7_man_0 rfl (lv_at hl 0 rfl) ?_
  refine lv_iload_n hx hb dX7_man_1 rfl (lv_at hl 1 rfl) ?_
  refine lv_iconst (v := 0) hx hb dX7_man_2 (by decide) ?_
  refine lv_bipush (v := 6) hx hb dX7_man_3 (by decide) ?_
  obtain ⟨r1q, hq2, hf⟩ := b1_of hf
  refine callVI (As := [.int a1, .int 0, .int 6]) (rest := []) (wr := (Mw h q cA fi0 fs ga0 gs pl it asd)) C0 (c_X7_in h a1 0 6 _ hq2) lk_X7_237_X7_in rfl hP hD hS (List.Perm.refl _) 0 7 rfl rfl rfl hl.1 rfl rfl (Nat.le_of_ble_eq_true rfl) dX7_man_5 ⟨Nat.zero_le _, Nat.zero_le _⟩ (fun r1 w H locs hw hP hD hS => ?_)
  obtain ⟨⟨e1, e2⟩, z3⟩ := hw
  replace e1 : r1 = r1q := e1
  subst e1
  subst e2
  replace hP : va_P D vwCl (Mw h q cA fi0 fs ga0 gs pl it asd) H := hP
  replace hD : va_D A (Mw h q cA fi0 fs ga0 gs pl it asd) := hD
  refine lv_if_ne (tgt := 13) hx hb dX7_man_8 (by decide) (fun c4 => ?_) (fun c4 => ?_)
  · replace hf := ie_of c4 hf
    refine lv_aload_n hx hb dX7_man_13 rfl (lv_at hl 0 rfl) ?_
    refine lv_iload_n hx hb dX7_man_14 rfl (lv_at hl 2 rfl) ?_
    refine lv_iconst (v := 0) hx hb dX7_man_15 (by decide) ?_
    refine lv_bipush (v := 9) hx hb dX7_man_16 (by decide) ?_
    obtain ⟨r5q, hq6, hf⟩ := b1_of hf
    refine callVI (As := [.int a2, .int 0, .int 9]) (rest := []) (wr := (Mw h q cA fi0 fs ga0 gs pl it asd)) C0 (c_X7_in h a2 0 9 _ hq6) lk_X7_237_X7_in rfl hP hD hS (List.Perm.refl _) 0 7 rfl rfl rfl hl.1 rfl rfl (Nat.le_of_ble_eq_true rfl) dX7_man_18 ⟨Nat.zero_le _, Nat.zero_le _⟩ (fun r5 w H locs hw hP hD hS => ?_)
    obtain ⟨⟨e1, e2⟩, z7⟩ := hw
    replace e1 : r5 = r5q := e1
    subst e1
    subst e2
    replace hP : va_P D vwCl (Mw h q cA fi0 fs ga0 gs pl it asd) H := hP
    replace hD : va_D A (Mw h q cA fi0 fs ga0 gs pl it asd) := hD
    refine lv_if_eq (tgt := 32) hx hb dX7_man_21 (by decide) (fun c8 => ?_) (fun c8 => ?_)
    · replace hf := it_of c8 hf
      refine lv_bipush (v := (-2)) hx hb dX7_man_32 (by decide) ?_
      rw [hQ]
      exact ret_i C0 hP hD hS (by have e := Option.some.inj hf; rw [← e]; exact ⟨rfl, rfl⟩) dX7_man_34
    · replace hf := ie_of c8 hf
      refine lv_aload_n hx hb dX7_man_24 rfl (lv_at hl 0 rfl) ?_
      refine lv_iload_n hx hb dX7_man_25 rfl (lv_at hl 3 rfl) ?_
      obtain ⟨r9q, hq10, hf⟩ := b1_of hf
      refine callVI (As := [.int a3]) (rest := []) (wr := []) C0 (c_X7_isNerve h q fi0 fs ga0 gs pl it asd a3 _ hq10) lk_X7_241_X7_isNerve rfl hP hD hS perm_nil 0 7 rfl rfl rfl hl.1 rfl rfl (Nat.le_of_ble_eq_true rfl) dX7_man_26 ⟨Nat.zero_le _, Nat.zero_le _⟩ (fun r9 w H locs hw hP hD hS => ?_)
      obtain ⟨⟨e1, e2⟩, z11⟩ := hw
      replace e1 : r9 = r9q := e1
      subst e1
      subst e2
      replace hP : va_P D vwCl (Mw h q cA fi0 fs ga0 gs pl it asd) H := hP.nil
      replace hD : va_D A (Mw h q cA fi0 fs ga0 gs pl it asd) := hD.nil
      refine lv_if_ne (tgt := 35) hx hb dX7_man_29 (by decide) (fun c12 => ?_) (fun c12 => ?_)
      · replace hf := ie_of c12 hf
        refine lv_aload_n hx hb dX7_man_35 rfl (lv_at hl 0 rfl) ?_
        refine va_get (D := D) (ci := 7) (v := .int (fi0 0)) (C := RX7) (T := TX7) (N := 73) hx hb hts fw_7 hown hK hP 0 rfl rfl 0 (by decide) (hts _ m_fieldLink_M_7_M_men_I) (fun _ h9 => h9) rfl dX7_man_36 ?_
        refine lv_bipush (v := 6) hx hb dX7_man_39 (by decide) ?_
        refine lv_icmp_ne (tgt := 47) hx hb dX7_man_41 (by decide) (fun c13 => ?_) (fun c13 => ?_)
        · replace hf := ie_of c13 hf
          refine lv_aload_n hx hb dX7_man_47 rfl (lv_at hl 0 rfl) ?_
          refine va_get (D := D) (ci := 7) (v := .ref (q 6)) (C := RX7) (T := TX7) (N := 73) hx hb hts fw_7 hown hK hP 0 rfl rfl 6 (by decide) (hts _ m_fieldLink_M_28_M_kind_aI) (fun _ h9 => h9) rfl dX7_man_48 ?_
          refine lv_aload_n hx hb dX7_man_51 rfl (lv_at hl 0 rfl) ?_
          refine va_get (D := D) (ci := 7) (v := .int (fi0 0)) (C := RX7) (T := TX7) (N := 73) hx hb hts fw_7 hown hK hP 0 rfl rfl 0 (by decide) (hts _ m_fieldLink_M_7_M_men_I) (fun _ h9 => h9) rfl dX7_man_52 ?_
          refine lv_iload_n hx hb dX7_man_55 rfl (lv_at hl 1 rfl) ?_
          obtain ⟨hi14, hf⟩ := gd_of hf
          refine va_iast hx hb hK hP hD hS 1 0 rfl rfl hi14 dX7_man_56 (fun H locs hP hD hS => ?_)
          replace hP : va_P D vwCl (Mw h q cA fi0 fs (va_up ga0 6 (upd (ga0 6) (Int32.toNatClampNeg (fi0 0)) a1)) gs pl it asd) H := hP
          replace hD : va_D A (Mw h q cA fi0 fs (va_up ga0 6 (upd (ga0 6) (Int32.toNatClampNeg (fi0 0)) a1)) gs pl it asd) := hD
          refine lv_aload_n hx hb dX7_man_57 rfl (lv_at hl 0 rfl) ?_
          refine va_get (D := D) (ci := 7) (v := .ref (q 7)) (C := RX7) (T := TX7) (N := 73) hx hb hts fw_7 hown hK hP 0 rfl rfl 7 (by decide) (hts _ m_fieldLink_M_32_M_v_aI) (fun _ h9 => h9) rfl dX7_man_58 ?_
          refine lv_aload_n hx hb dX7_man_61 rfl (lv_at hl 0 rfl) ?_
          refine va_get (D := D) (ci := 7) (v := .int (fi0 0)) (C := RX7) (T := TX7) (N := 73) hx hb hts fw_7 hown hK hP 0 rfl rfl 0 (by decide) (hts _ m_fieldLink_M_7_M_men_I) (fun _ h9 => h9) rfl dX7_man_62 ?_
          refine lv_iload_n hx hb dX7_man_65 rfl (lv_at hl 2 rfl) ?_
          obtain ⟨hi15, hf⟩ := gd_of hf
          refine va_iast hx hb hK hP hD hS 2 0 rfl rfl hi15 dX7_man_66 (fun H locs hP hD hS => ?_)
          replace hP : va_P D vwCl (Mw h q cA fi0 fs (va_up (va_up ga0 6 (upd (ga0 6) (Int32.toNatClampNeg (fi0 0)) a1)) 7 (upd (ga0 7) (Int32.toNatClampNeg (fi0 0)) a2)) gs pl it asd) H := hP
          replace hD : va_D A (Mw h q cA fi0 fs (va_up (va_up ga0 6 (upd (ga0 6) (Int32.toNatClampNeg (fi0 0)) a1)) 7 (upd (ga0 7) (Int32.toNatClampNeg (fi0 0)) a2)) gs pl it asd) := hD
          obtain ⟨ga_16, hv17, hf⟩ := nm_of hf
          replace hP : va_P D vwCl (Mw h q cA fi0 fs ga_16 gs pl it asd) H := by rw [hv17]; exact hP
          replace hD : va_D A (Mw h q cA fi0 fs ga_16 gs pl it asd) := by rw [hv17]; exact hD
          refine lv_aload_n hx hb dX7_man_67 rfl (lv_at hl 0 rfl) ?_
          refine va_get (D := D) (ci := 7) (v := .ref (q 8)) (C := RX7) (T := TX7) (N := 73) hx hb hts fw_7 hown hK hP 0 rfl rfl 8 (by decide) (hts _ m_fieldLink_M_35_M_nerve_aI) (fun _ h9 => h9) rfl dX7_man_68 ?_
          refine lv_aload_n hx hb dX7_man_71 rfl (lv_at hl 0 rfl) ?_
          refine va_get (D := D) (ci := 7) (v := .int (fi0 0)) (C := RX7) (T := TX7) (N := 73) hx hb hts fw_7 hown hK hP 0 rfl rfl 0 (by decide) (hts _ m_fieldLink_M_7_M_men_I) (fun _ h9 => h9) rfl dX7_man_72 ?_
          refine lv_iload_n hx hb dX7_man_75 rfl (lv_at hl 3 rfl) ?_
          obtain ⟨hi18, hf⟩ := gd_of hf
          refine va_iast hx hb hK hP hD hS 3 0 rfl rfl hi18 dX7_man_76 (fun H locs hP hD hS => ?_)
          replace hP : va_P D vwCl (Mw h q cA fi0 fs (va_up ga_16 8 (upd (ga_16 8) (Int32.toNatClampNeg (fi0 0)) a3)) gs pl it asd) H := hP
          replace hD : va_D A (Mw h q cA fi0 fs (va_up ga_16 8 (upd (ga_16 8) (Int32.toNatClampNeg (fi0 0)) a3)) gs pl it asd) := hD
          refine lv_aload_n hx hb dX7_man_77 rfl (lv_at hl 0 rfl) ?_
          refine va_get (D := D) (ci := 7) (v := .ref (q 9)) (C := RX7) (T := TX7) (N := 73) hx hb hts fw_7 hown hK hP 0 rfl rfl 9 (by decide) (hts _ m_fieldLink_M_38_M_spell_aI) (fun _ h9 => h9) rfl dX7_man_78 ?_
          refine lv_aload_n hx hb dX7_man_81 rfl (lv_at hl 0 rfl) ?_
          refine va_get (D := D) (ci := 7) (v := .int (fi0 0)) (C := RX7) (T := TX7) (N := 73) hx hb hts fw_7 hown hK hP 0 rfl rfl 0 (by decide) (hts _ m_fieldLink_M_7_M_men_I) (fun _ h9 => h9) rfl dX7_man_82 ?_
          refine lv_iconst (v := 0) hx hb dX7_man_85 (by decide) ?_
          obtain ⟨hi19, hf⟩ := gd_of hf
          refine va_iast hx hb hK hP hD hS 4 0 rfl rfl hi19 dX7_man_86 (fun H locs hP hD hS => ?_)
          replace hP : va_P D vwCl (Mw h q cA fi0 fs (va_up (va_up ga_16 8 (upd (ga_16 8) (Int32.toNatClampNeg (fi0 0)) a3)) 9 (upd (ga_16 9) (Int32.toNatClampNeg (fi0 0)) 0)) gs pl it asd) H := hP
          replace hD : va_D A (Mw h q cA fi0 fs (va_up (va_up ga_16 8 (upd (ga_16 8) (Int32.toNatClampNeg (fi0 0)) a3)) 9 (upd (ga_16 9) (Int32.toNatClampNeg (fi0 0)) 0)) gs pl it asd) := hD
          obtain ⟨ga_20, hv21, hf⟩ := nm_of hf
          replace hP : va_P D vwCl (Mw h q cA fi0 fs ga_20 gs pl it asd) H := by rw [hv21]; exact hP
          replace hD : va_D A (Mw h q cA fi0 fs ga_20 gs pl it asd) := by rw [hv21]; exact hD
          refine lv_aload_n hx hb dX7_man_87 rfl (lv_at hl 0 rfl) ?_
          refine lv_dup hx hb dX7_man_88 rfl ?_
          refine va_get (D := D) (ci := 7) (v := .int (fi0 1)) (C := RX7) (T := TX7) (N := 73) hx hb hts fw_7 hown hK hP 0 rfl rfl 1 (by decide) (hts _ m_fieldLink_M_13_M_up_I) (fun _ h9 => h9) rfl dX7_man_89 ?_
          refine lv_iconst (v := 1) hx hb dX7_man_92 (by decide) ?_
          refine lv_aload_n hx hb dX7_man_93 rfl (lv_at hl 0 rfl) ?_
          refine va_get (D := D) (ci := 7) (v := .int (fi0 0)) (C := RX7) (T := TX7) (N := 73) hx hb hts fw_7 hown hK hP 0 rfl rfl 0 (by decide) (hts _ m_fieldLink_M_7_M_men_I) (fun _ h9 => h9) rfl dX7_man_94 ?_
          refine lv_ishl hx hb dX7_man_97 ?_
          refine lv_iconst (v := (-1)) hx hb dX7_man_98 (by decide) ?_
          refine lv_ixor hx hb dX7_man_99 ?_
          refine lv_iand hx hb dX7_man_100 ?_
          refine va_put (D := D) (ci := 7) (v := .int ((fi0 1) &&& ((1 <<< ((fi0 0) &&& 31)) ^^^ (-1)))) (ty := .int) (C := RX7) (T := TX7) (N := 73) hx hb hts fw_7 tyX7 tyX7_ok nmX7 hown hK hP hD hS 0 rfl rfl 1 (by decide) (hts _ m_fieldLink_M_13_M_up_I) (fun _ h9 => h9) rfl (by decide +kernel) rfl rfl (Nat.le_of_ble_eq_true rfl) dX7_man_101 (fun H locs hP hD hS => ?_)
          replace hP : va_P D vwCl (Mw h q cA (upd fi0 1 ((fi0 1) &&& ((1 <<< ((fi0 0) &&& 31)) ^^^ (-1)))) fs ga_20 gs pl it asd) H := hP
          replace hD : va_D A (Mw h q cA (upd fi0 1 ((fi0 1) &&& ((1 <<< ((fi0 0) &&& 31)) ^^^ (-1)))) fs ga_20 gs pl it asd) := hD
          refine lv_iconst (v := 0) hx hb dX7_man_104 (by decide) ?_
          refine lv_istore (lv' := [(4, .int 0), (0, .ref h), (1, .int a1), (2, .int a2), (3, .int a3)]) hx hb dX7_man_105 hl (by decide) rfl (fun ls hl => ?_)
          exact J107 100000 0 (upd fi0 1 ((fi0 1) &&& ((1 <<< ((fi0 0) &&& 31)) ^^^ (-1)))) ga_20 hf _ _ hP hD hS _ (lv_sub hl [1, 0] rfl)
        · replace hf := it_of c13 hf
          refine lv_bipush (v := (-4)) hx hb dX7_man_44 (by decide) ?_
          rw [hQ]
          exact ret_i C0 hP hD hS (by have e := Option.some.inj hf; rw [← e]; exact ⟨rfl, rfl⟩) dX7_man_46
      · replace hf := it_of c12 hf
        refine lv_bipush (v := (-2)) hx hb dX7_man_32 (by decide) ?_
        rw [hQ]
        exact ret_i C0 hP hD hS (by have e := Option.some.inj hf; rw [← e]; exact ⟨rfl, rfl⟩) dX7_man_34
  · replace hf := it_of c4 hf
    refine lv_iconst (v := (-1)) hx hb dX7_man_11 (by decide) ?_
    rw [hQ]
    exact ret_i C0 hP hD hS (by have e := Option.some.inj hf; rw [← e]; exact ⟨rfl, rfl⟩) dX7_man_12
-- steady
noncomputable def k_X7_steady (a1 : Int32) (a2 : Int32) (fi : Nat → Int32) (ga0 : Nat → Nat → Int32) : Option (Int32 × (Nat → Nat → Int32)) := b1 (k_X7_isMan a1 fi) (fun r1 => if r1 = 0 then some ((-1), ga0) else b1 (k_X7_isNerve a2) (fun r5 => if r5 = 0 then some ((-2), ga0) else gd a1 6 (gd a1 6 (some (((ga0 8) (Int32.toNatClampNeg a1)), (va_up ga0 8 (upd (ga0 8) (Int32.toNatClampNeg a1) a2)))))))
set_option maxHeartbeats 4000000 in
set_option maxRecDepth 100000 in
theorem c_X7_steady {l : Launch} {D : va_G} {cA : Nat → ClassId} (h : Nat) (q : Nat → Nat) (fi : Nat → Int32) (fs : Nat → Int32) (ga0 : Nat → Nat → Int32) (gs : Nat → Nat → Int32) (pl : Nat → Int32) (it : Nat → Int64) (asd : Nat → Int64) (a1 : Int32) (a2 : Int32) (o : Int32 × (Nat → Nat → Int32)) (hf : k_X7_steady a1 a2 fi ga0 = some o) : CI l D cA yX7_steady cX7_steady 4 (some .int) 2 44 [.ref h, .int a1, .int a2] (Mw h q cA fi fs ga0 gs pl it asd) 0 0 (fun r w => r = o.1 ∧ w = (Mw h q cA fi fs o.2 gs pl it asd)) := by
  intro sz
  refine met_start (by decide) rfl ?_
  intro p e s m args below meth c ls hsz hargs C0 hname hP hD hS hl
  generalize hAe : va_A (Mw h q cA fi fs ga0 gs pl it asd) sz = A at C0 hD hS ⊢
  obtain ⟨hx, hb, hr, hml, hown, hts, hlk, hK, hA⟩ := id C0
  replace hl : lv_has ls 4 [(0, .ref h), (1, .int a1), (2, .int a2)] := hl
  obtain ⟨Q, hQ⟩ : ∃ Q : State → Prop, Q = QI below D A (fun r w => r = o.1 ∧ w = (Mw h q cA fi fs o.2 gs pl it asd)) args s 0 0 := ⟨_, rfl⟩
  refine cast (by rw [hQ]) (?_ : W p l e (RMx 2 44 0 0) s m args below meth c s.heap [] 0 0 Q (F0 m 0 ls []))
  unfold k_X7_steady at hf
  refine lv_aload_n hx hb dX7_steady_0 rfl (lv_at hl 0 rfl) ?_
  refine lv_iload_n hx hb dX7_steady_1 rfl (lv_at hl 1 rfl) ?_
  obtain ⟨r1q, hq2, hf⟩ := b1_of hf
  refine callVI (As := [.int a1]) (rest := []) (wr := []) C0 (c_X7_isMan h q fi fs ga0 gs pl it asd a1 _ hq2) lk_X7_245_X7_isMan rfl hP hD hS perm_nil 0 7 rfl rfl rfl hl.1 rfl rfl (Nat.le_of_ble_eq_true rfl) dX7_steady_2 ⟨Nat.zero_le _, Nat.zero_le _⟩ (fun r1 w H locs hw hP hD hS => ?_)
  obtain ⟨⟨e1, e2⟩, z3⟩ := hw
  replace e1 : r1 = r1q := e1
  subst e1
  subst e2
  replace hP : va_P D vwCl (Mw h q cA fi fs ga0 gs pl it asd) H := hP.nil
  replace hD : va_D A (Mw h q cA fi fs ga0 gs pl it asd) := hD.nil
  refine lv_if_ne (tgt := 10) hx hb dX7_steady_5 (by decide) (fun c4 => ?_) (fun c4 => ?_)
  · replace hf := ie_of c4 hf
    refine lv_aload_n hx hb dX7_steady_10 rfl (lv_at hl 0 rfl) ?_
    refine lv_iload_n hx hb dX7_steady_11 rfl (lv_at hl 2 rfl) ?_
    obtain ⟨r5q, hq6, hf⟩ := b1_of hf
    refine callVI (As := [.int a2]) (rest := []) (wr := []) C0 (c_X7_isNerve h q fi fs ga0 gs pl it asd a2 _ hq6) lk_X7_241_X7_isNerve rfl hP hD hS perm_nil 0 7 rfl rfl rfl hl.1 rfl rfl (Nat.le_of_ble_eq_true rfl) dX7_steady_12 ⟨Nat.zero_le _, Nat.zero_le _⟩ (fun r5 w H locs hw hP hD hS => ?_)
    obtain ⟨⟨e1, e2⟩, z7⟩ := hw
    replace e1 : r5 = r5q := e1
    subst e1
    subst e2
    replace hP : va_P D vwCl (Mw h q cA fi fs ga0 gs pl it asd) H := hP.nil
    replace hD : va_D A (Mw h q cA fi fs ga0 gs pl it asd) := hD.nil
    refine lv_if_ne (tgt := 21) hx hb dX7_steady_15 (by decide) (fun c8 => ?_) (fun c8 => ?_)
    · replace hf := ie_of c8 hf
      refine lv_aload_n hx hb dX7_steady_21 rfl (lv_at hl 0 rfl) ?_
      refine va_get (D := D) (ci := 7) (v := .ref (q 8)) (C := RX7) (T := TX7) (N := 73) hx hb hts fw_7 hown hK hP 0 rfl rfl 8 (by decide) (hts _ m_fieldLink_M_35_M_nerve_aI) (fun _ h9 => h9) rfl dX7_steady_22 ?_
      refine lv_iload_n hx hb dX7_steady_25 rfl (lv_at hl 1 rfl) ?_
      obtain ⟨hi9, hf⟩ := gd_of hf
      refine va_iald hx hb hK hP 3 0 rfl rfl hi9 dX7_steady_26 ?_
      refine lv_istore_n (lv' := [(3, .int ((ga0 8) (Int32.toNatClampNeg a1))), (0, .ref h), (1, .int a1), (2, .int a2)]) hx hb dX7_steady_27 rfl hl (by decide) rfl (fun ls hl => ?_)
      refine lv_aload_n hx hb dX7_steady_28 rfl (lv_at hl 1 rfl) ?_
      refine va_get (D := D) (ci := 7) (v := .ref (q 8)) (C := RX7) (T := TX7) (N := 73) hx hb hts fw_7 hown hK hP 0 rfl rfl 8 (by decide) (hts _ m_fieldLink_M_35_M_nerve_aI) (fun _ h9 => h9) rfl dX7_steady_29 ?_
      refine lv_iload_n hx hb dX7_steady_32 rfl (lv_at hl 2 rfl) ?_
      refine lv_iload_n hx hb dX7_steady_33 rfl (lv_at hl 3 rfl) ?_
      obtain ⟨hi10, hf⟩ := gd_of hf
      refine va_iast hx hb hK hP hD hS 3 0 rfl rfl hi10 dX7_steady_34 (fun H locs hP hD hS => ?_)
      replace hP : va_P D vwCl (Mw h q cA fi fs (va_up ga0 8 (upd (ga0 8) (Int32.toNatClampNeg a1) a2)) gs pl it asd) H := hP
      replace hD : va_D A (Mw h q cA fi fs (va_up ga0 8 (upd (ga0 8) (Int32.toNatClampNeg a1) a2)) gs pl it asd) := hD
      refine lv_iload_n hx hb dX7_steady_35 rfl (lv_at hl 0 rfl) ?_
      rw [hQ]
      exact ret_i C0 hP hD hS (by have e := Option.some.inj hf; rw [← e]; exact ⟨rfl, rfl⟩) dX7_steady_36
    · replace hf := it_of c8 hf
      refine lv_bipush (v := (-2)) hx hb dX7_steady_18 (by decide) ?_
      rw [hQ]
      exact ret_i C0 hP hD hS (by have e := Option.some.inj hf; rw [← e]; exact ⟨rfl, rfl⟩) dX7_steady_20
  · replace hf := it_of c4 hf
    refine lv_iconst (v := (-1)) hx hb dX7_steady_8 (by decide) ?_
    rw [hQ]
    exact ret_i C0 hP hD hS (by have e := Option.some.inj hf; rw [← e]; exact ⟨rfl, rfl⟩) dX7_steady_9
-- goes
noncomputable def k_X7_goes (a1 : Int32) (a2 : Int32) (fi0 : Nat → Int32) : Option (Nat → Int32) := if a2 = 0 then some (upd fi0 1 ((fi0 1) &&& ((1 <<< (a1 &&& 31)) ^^^ (-1)))) else some (upd fi0 1 ((fi0 1) ||| (1 <<< (a1 &&& 31))))
set_option maxHeartbeats 4000000 in
set_option maxRecDepth 100000 in
theorem c_X7_goes {l : Launch} {D : va_G} {cA : Nat → ClassId} (h : Nat) (q : Nat → Nat) (fi0 : Nat → Int32) (fs : Nat → Int32) (ga : Nat → Nat → Int32) (gs : Nat → Nat → Int32) (pl : Nat → Int32) (it : Nat → Int64) (asd : Nat → Int64) (a1 : Int32) (a2 : Int32) (o : Nat → Int32) (hf : k_X7_goes a1 a2 fi0 = some o) : CV l D cA yX7_goes cX7_goes 3 none 0 0 [.ref h, .int a1, .int a2] (Mw h q cA fi0 fs ga gs pl it asd) 0 0 (fun w => w = (Mw h q cA o fs ga gs pl it asd)) := by
  intro sz
  refine met_start (by decide) rfl ?_
  intro p e s m args below meth c ls hsz hargs C0 hname hP hD hS hl
  generalize hAe : va_A (Mw h q cA fi0 fs ga gs pl it asd) sz = A at C0 hD hS ⊢
  obtain ⟨hx, hb, hr, hml, hown, hts, hlk, hK, hA⟩ := id C0
  replace hl : lv_has ls 3 [(0, .ref h), (1, .int a1), (2, .int a2)] := hl
  obtain ⟨Q, hQ⟩ : ∃ Q : State → Prop, Q = QV below D A (fun w => w = (Mw h q cA o fs ga gs pl it asd)) args s 0 0 := ⟨_, rfl⟩
  refine cast (by rw [hQ]) (?_ : W p l e (RMx 0 0 0 0) s m args below meth c s.heap [] 0 0 Q (F0 m 0 ls []))
  unfold k_X7_goes at hf
  refine lv_aload_n hx hb dX7_goes_0 rfl (lv_at hl 0 rfl) ?_
  refine lv_iload_n hx hb dX7_goes_1 rfl (lv_at hl 2 rfl) ?_
  refine lv_if_eq (tgt := 16) hx hb dX7_goes_2 (by decide) (fun c1 => ?_) (fun c1 => ?_)
  · replace hf := it_of c1 hf
    refine lv_aload_n hx hb dX7_goes_16 rfl (lv_at hl 0 rfl) ?_
    refine va_get (D := D) (ci := 7) (v := .int (fi0 1)) (C := RX7) (T := TX7) (N := 73) hx hb hts fw_7 hown hK hP 0 rfl rfl 1 (by decide) (hts _ m_fieldLink_M_13_M_up_I) (fun _ h9 => h9) rfl dX7_goes_17 ?_
    refine lv_iconst (v := 1) hx hb dX7_goes_20 (by decide) ?_
    refine lv_iload_n hx hb dX7_goes_21 rfl (lv_at hl 1 rfl) ?_
    refine lv_ishl hx hb dX7_goes_22 ?_
    refine lv_iconst (v := (-1)) hx hb dX7_goes_23 (by decide) ?_
    refine lv_ixor hx hb dX7_goes_24 ?_
    refine lv_iand hx hb dX7_goes_25 ?_
    refine va_put (D := D) (ci := 7) (v := .int ((fi0 1) &&& ((1 <<< (a1 &&& 31)) ^^^ (-1)))) (ty := .int) (C := RX7) (T := TX7) (N := 73) hx hb hts fw_7 tyX7 tyX7_ok nmX7 hown hK hP hD hS 0 rfl rfl 1 (by decide) (hts _ m_fieldLink_M_13_M_up_I) (fun _ h9 => h9) rfl (by decide +kernel) rfl rfl (Nat.le_of_ble_eq_true rfl) dX7_goes_26 (fun H locs hP hD hS => ?_)
    replace hP : va_P D vwCl (Mw h q cA (upd fi0 1 ((fi0 1) &&& ((1 <<< (a1 &&& 31)) ^^^ (-1)))) fs ga gs pl it asd) H := hP
    replace hD : va_D A (Mw h q cA (upd fi0 1 ((fi0 1) &&& ((1 <<< (a1 &&& 31)) ^^^ (-1)))) fs ga gs pl it asd) := hD
    rw [hQ]
    exact ret_v C0 hP hD hS (by have e := Option.some.inj hf; first | (rw [← e]; done) | (rw [← e]; exact rfl)) dX7_goes_29
  · replace hf := ie_of c1 hf
    refine lv_aload_n hx hb dX7_goes_5 rfl (lv_at hl 0 rfl) ?_
    refine va_get (D := D) (ci := 7) (v := .int (fi0 1)) (C := RX7) (T := TX7) (N := 73) hx hb hts fw_7 hown hK hP 0 rfl rfl 1 (by decide) (hts _ m_fieldLink_M_13_M_up_I) (fun _ h9 => h9) rfl dX7_goes_6 ?_
    refine lv_iconst (v := 1) hx hb dX7_goes_9 (by decide) ?_
    refine lv_iload_n hx hb dX7_goes_10 rfl (lv_at hl 1 rfl) ?_
    refine lv_ishl hx hb dX7_goes_11 ?_
    refine lv_ior hx hb dX7_goes_12 ?_
    refine lv_goto (tgt := 26) hx hb dX7_goes_13 (by decide) ?_
    refine va_put (D := D) (ci := 7) (v := .int ((fi0 1) ||| (1 <<< (a1 &&& 31)))) (ty := .int) (C := RX7) (T := TX7) (N := 73) hx hb hts fw_7 tyX7 tyX7_ok nmX7 hown hK hP hD hS 0 rfl rfl 1 (by decide) (hts _ m_fieldLink_M_13_M_up_I) (fun _ h9 => h9) rfl (by decide +kernel) rfl rfl (Nat.le_of_ble_eq_true rfl) dX7_goes_26 (fun H locs hP hD hS => ?_)
    replace hP : va_P D vwCl (Mw h q cA (upd fi0 1 ((fi0 1) ||| (1 <<< (a1 &&& 31)))) fs ga gs pl it asd) H := hP
    replace hD : va_D A (Mw h q cA (upd fi0 1 ((fi0 1) ||| (1 <<< (a1 &&& 31)))) fs ga gs pl it asd) := hD
    rw [hQ]
    exact ret_v C0 hP hD hS (by have e := Option.some.inj hf; first | (rw [← e]; done) | (rw [← e]; exact rfl)) dX7_goes_29
-- change
noncomputable def k_X7_change_27 (a1 : Int32) (a2 : Int32) (t0 : Int32) (fi : Nat → Int32) : Option (Int32 × (Nat → Int32)) := b1 (k_X7_goes a1 a2 fi) (fun fi_1 => some (t0, fi_1))
noncomputable def k_X7_change (a1 : Int32) (a2 : Int32) (fi0 : Nat → Int32) : Option (Int32 × (Nat → Int32)) := b1 (k_X7_isMan a1 fi0) (fun r1 => if r1 = 0 then some ((-1), fi0) else b1 (k_X7_has (fi0 1) a1) (fun r5 => if r5 = 0 then k_X7_change_27 a1 a2 0 fi0 else k_X7_change_27 a1 a2 1 fi0))
set_option maxHeartbeats 4000000 in
set_option maxRecDepth 100000 in
theorem c_X7_change {l : Launch} {D : va_G} {cA : Nat → ClassId} (h : Nat) (q : Nat → Nat) (fi0 : Nat → Int32) (fs : Nat → Int32) (ga : Nat → Nat → Int32) (gs : Nat → Nat → Int32) (pl : Nat → Int32) (it : Nat → Int64) (asd : Nat → Int64) (a1 : Int32) (a2 : Int32) (o : Int32 × (Nat → Int32)) (hf : k_X7_change a1 a2 fi0 = some o) : CI l D cA yX7_change cX7_change 4 (some .int) 2 44 [.ref h, .int a1, .int a2] (Mw h q cA fi0 fs ga gs pl it asd) 0 0 (fun r w => r = o.1 ∧ w = (Mw h q cA o.2 fs ga gs pl it asd)) := by
  intro sz
  refine met_start (by decide) rfl ?_
  intro p e s m args below meth c ls hsz hargs C0 hname hP hD hS hl
  generalize hAe : va_A (Mw h q cA fi0 fs ga gs pl it asd) sz = A at C0 hD hS ⊢
  obtain ⟨hx, hb, hr, hml, hown, hts, hlk, hK, hA⟩ := id C0
  replace hl : lv_has ls 4 [(0, .ref h), (1, .int a1), (2, .int a2)] := hl
  obtain ⟨Q, hQ⟩ : ∃ Q : State → Prop, Q = QI below D A (fun r w => r = o.1 ∧ w = (Mw h q cA o.2 fs ga gs pl it asd)) args s 0 0 := ⟨_, rfl⟩
  refine cast (by rw [hQ]) (?_ : W p l e (RMx 2 44 0 0) s m args below meth c s.heap [] 0 0 Q (F0 m 0 ls []))
  have J27 : ∀ (t0 : Int32) (fi : Nat → Int32), k_X7_change_27 a1 a2 t0 fi = some o → ∀ (H : Heap) (locs : List Loc), va_P D vwCl (Mw h q cA fi fs ga gs pl it asd) H → va_D A (Mw h q cA fi fs ga gs pl it asd) → va_S A s.heap H locs → ∀ ls : Array Slot, lv_has ls 4 [(0, .ref h), (1, .int a1), (2, .int a2)] → W p l e (RMx 2 44 0 0) s m args below meth c H locs 0 0 Q (F0 m 27 ls [.int t0]) := by
    intro  t0 fi hf H locs hP hD hS ls hl
    unfold k_X7_change_27 at hf
    refine lv_istore_n (lv' := [(3, .int t0), (0, .ref h), (1, .int a1), (2, .int a2)]) hx hb dX7_change_27 rfl hl (by decide) rfl (fun ls hl => ?_)
    refine lv_aload_n hx hb dX7_change_28 rfl (lv_at hl 1 rfl) ?_
    refine lv_iload_n hx hb dX7_change_29 rfl (lv_at hl 2 rfl) ?_
    refine lv_iload_n hx hb dX7_change_30 rfl (lv_at hl 3 rfl) ?_
    obtain ⟨fi_1, hq2, hf⟩ := b1_of hf
    refine callVV (As := [.int a1, .int a2]) (rest := []) (wr := []) C0 (c_X7_goes h q fi fs ga gs pl it asd a1 a2 _ hq2) lk_X7_248_X7_goes rfl hP hD hS perm_nil 0 7 rfl rfl rfl hl.1 rfl rfl (Nat.le_of_ble_eq_true rfl) dX7_change_31 ⟨Nat.zero_le _, Nat.zero_le _⟩ (fun w H locs hw hP hD hS => ?_)
    have e2 := hw
    subst e2
    replace hP : va_P D vwCl (Mw h q cA fi_1 fs ga gs pl it asd) H := hP.nil
    replace hD : va_D A (Mw h q cA fi_1 fs ga gs pl it asd) := hD.nil
    refine lv_iload_n hx hb dX7_change_34 rfl (lv_at hl 0 rfl) ?_
    rw [hQ]
    exact ret_i C0 hP hD hS (by have e := Option.some.inj hf; rw [← e]; exact ⟨rfl, rfl⟩) dX7_change_35
  unfold k_X7_change at hf
  refine lv_aload_n hx hb dX7_change_0 rfl (lv_at hl 0 rfl) ?_
  refine lv_iload_n hx hb dX7_change_1 rfl (lv_at hl 1 rfl) ?_
  obtain ⟨r1q, hq2, hf⟩ := b1_of hf
  refine callVI (As := [.int a1]) (rest := []) (wr := []) C0 (c_X7_isMan h q fi0 fs ga gs pl it asd a1 _ hq2) lk_X7_245_X7_isMan rfl hP hD hS perm_nil 0 7 rfl rfl rfl hl.1 rfl rfl (Nat.le_of_ble_eq_true rfl) dX7_change_2 ⟨Nat.zero_le _, Nat.zero_le _⟩ (fun r1 w H locs hw hP hD hS => ?_)
  obtain ⟨⟨e1, e2⟩, z3⟩ := hw
  replace e1 : r1 = r1q := e1
  subst e1
  subst e2
  replace hP : va_P D vwCl (Mw h q cA fi0 fs ga gs pl it asd) H := hP.nil
  replace hD : va_D A (Mw h q cA fi0 fs ga gs pl it asd) := hD.nil
  refine lv_if_ne (tgt := 10) hx hb dX7_change_5 (by decide) (fun c4 => ?_) (fun c4 => ?_)
  · replace hf := ie_of c4 hf
    refine lv_aload_n hx hb dX7_change_10 rfl (lv_at hl 0 rfl) ?_
    refine lv_aload_n hx hb dX7_change_11 rfl (lv_at hl 0 rfl) ?_
    refine va_get (D := D) (ci := 7) (v := .int (fi0 1)) (C := RX7) (T := TX7) (N := 73) hx hb hts fw_7 hown hK hP 0 rfl rfl 1 (by decide) (hts _ m_fieldLink_M_13_M_up_I) (fun _ h9 => h9) rfl dX7_change_12 ?_
    refine lv_iload_n hx hb dX7_change_15 rfl (lv_at hl 1 rfl) ?_
    obtain ⟨r5q, hq6, hf⟩ := b1_of hf
    refine callVI (As := [.int (fi0 1), .int a1]) (rest := []) (wr := (Mw h q cA fi0 fs ga gs pl it asd)) C0 (c_X7_has h (fi0 1) a1 _ hq6) lk_X7_233_X7_has rfl hP hD hS (List.Perm.refl _) 0 7 rfl rfl rfl hl.1 rfl rfl (Nat.le_of_ble_eq_true rfl) dX7_change_16 ⟨Nat.zero_le _, Nat.zero_le _⟩ (fun r5 w H locs hw hP hD hS => ?_)
    obtain ⟨⟨e1, e2⟩, z7⟩ := hw
    replace e1 : r5 = r5q := e1
    subst e1
    subst e2
    replace hP : va_P D vwCl (Mw h q cA fi0 fs ga gs pl it asd) H := hP
    replace hD : va_D A (Mw h q cA fi0 fs ga gs pl it asd) := hD
    refine lv_if_eq (tgt := 26) hx hb dX7_change_19 (by decide) (fun c8 => ?_) (fun c8 => ?_)
    · replace hf := it_of c8 hf
      refine lv_iconst (v := 0) hx hb dX7_change_26 (by decide) ?_
      exact J27 0 fi0 hf _ _ hP hD hS _ (lv_sub hl [0, 1, 2] rfl)
    · replace hf := ie_of c8 hf
      refine lv_iconst (v := 1) hx hb dX7_change_22 (by decide) ?_
      refine lv_goto (tgt := 27) hx hb dX7_change_23 (by decide) ?_
      exact J27 1 fi0 hf _ _ hP hD hS _ (lv_sub hl [0, 1, 2] rfl)
  · replace hf := it_of c4 hf
    refine lv_iconst (v := (-1)) hx hb dX7_change_8 (by decide) ?_
    rw [hQ]
    exact ret_i C0 hP hD hS (by have e := Option.some.inj hf; rw [← e]; exact ⟨rfl, rfl⟩) dX7_change_9
-- fear
noncomputable def k_X7_fear (a1 : Int32) (fi0 : Nat → Int32) : Option (Int32 × (Nat → Int32)) := b1 (k_X7_in a1 0 9999) (fun r1 => if r1 = 0 then some ((-2), fi0) else some ((fi0 2), (upd fi0 2 a1)))
set_option maxHeartbeats 4000000 in
set_option maxRecDepth 100000 in
theorem c_X7_fear {l : Launch} {D : va_G} {cA : Nat → ClassId} (h : Nat) (q : Nat → Nat) (fi0 : Nat → Int32) (fs : Nat → Int32) (ga : Nat → Nat → Int32) (gs : Nat → Nat → Int32) (pl : Nat → Int32) (it : Nat → Int64) (asd : Nat → Int64) (a1 : Int32) (o : Int32 × (Nat → Int32)) (hf : k_X7_fear a1 fi0 = some o) : CI l D cA yX7_fear cX7_fear 3 (some .int) 1 23 [.ref h, .int a1] (Mw h q cA fi0 fs ga gs pl it asd) 0 0 (fun r w => r = o.1 ∧ w = (Mw h q cA o.2 fs ga gs pl it asd)) := by
  intro sz
  refine met_start (by decide) rfl ?_
  intro p e s m args below meth c ls hsz hargs C0 hname hP hD hS hl
  generalize hAe : va_A (Mw h q cA fi0 fs ga gs pl it asd) sz = A at C0 hD hS ⊢
  obtain ⟨hx, hb, hr, hml, hown, hts, hlk, hK, hA⟩ := id C0
  replace hl : lv_has ls 3 [(0, .ref h), (1, .int a1)] := hl
  obtain ⟨Q, hQ⟩ : ∃ Q : State → Prop, Q = QI below D A (fun r w => r = o.1 ∧ w = (Mw h q cA o.2 fs ga gs pl it asd)) args s 0 0 := ⟨_, rfl⟩
  refine cast (by rw [hQ]) (?_ : W p l e (RMx 1 23 0 0) s m args below meth c s.heap [] 0 0 Q (F0 m 0 ls []))
  unfold k_X7_fear at hf
  refine lv_aload_n hx hb dX7_fear_0 rfl (lv_at hl 0 rfl) ?_
  refine lv_iload_n hx hb dX7_fear_1 rfl (lv_at hl 1 rfl) ?_
  refine lv_iconst (v := 0) hx hb dX7_fear_2 (by decide) ?_
  refine lv_sipush (v := 9999) hx hb dX7_fear_3 (by decide) ?_
  obtain ⟨r1q, hq2, hf⟩ := b1_of hf
  refine callVI (As := [.int a1, .int 0, .int 9999]) (rest := []) (wr := (Mw h q cA fi0 fs ga gs pl it asd)) C0 (c_X7_in h a1 0 9999 _ hq2) lk_X7_237_X7_in rfl hP hD hS (List.Perm.refl _) 0 7 rfl rfl rfl hl.1 rfl rfl (Nat.le_of_ble_eq_true rfl) dX7_fear_6 ⟨Nat.zero_le _, Nat.zero_le _⟩ (fun r1 w H locs hw hP hD hS => ?_)
  obtain ⟨⟨e1, e2⟩, z3⟩ := hw
  replace e1 : r1 = r1q := e1
  subst e1
  subst e2
  replace hP : va_P D vwCl (Mw h q cA fi0 fs ga gs pl it asd) H := hP
  replace hD : va_D A (Mw h q cA fi0 fs ga gs pl it asd) := hD
  refine lv_if_ne (tgt := 15) hx hb dX7_fear_9 (by decide) (fun c4 => ?_) (fun c4 => ?_)
  · replace hf := ie_of c4 hf
    refine lv_aload_n hx hb dX7_fear_15 rfl (lv_at hl 0 rfl) ?_
    refine va_get (D := D) (ci := 7) (v := .int (fi0 2)) (C := RX7) (T := TX7) (N := 73) hx hb hts fw_7 hown hK hP 0 rfl rfl 2 (by decide) (hts _ m_fieldLink_M_16_M_fears_I) (fun _ h9 => h9) rfl dX7_fear_16 ?_
    refine lv_istore_n (lv' := [(2, .int (fi0 2)), (0, .ref h), (1, .int a1)]) hx hb dX7_fear_19 rfl hl (by decide) rfl (fun ls hl => ?_)
    refine lv_aload_n hx hb dX7_fear_20 rfl (lv_at hl 1 rfl) ?_
    refine lv_iload_n hx hb dX7_fear_21 rfl (lv_at hl 2 rfl) ?_
    refine va_put (D := D) (ci := 7) (v := .int a1) (ty := .int) (C := RX7) (T := TX7) (N := 73) hx hb hts fw_7 tyX7 tyX7_ok nmX7 hown hK hP hD hS 0 rfl rfl 2 (by decide) (hts _ m_fieldLink_M_16_M_fears_I) (fun _ h9 => h9) rfl (by decide +kernel) rfl rfl (Nat.le_of_ble_eq_true rfl) dX7_fear_22 (fun H locs hP hD hS => ?_)
    replace hP : va_P D vwCl (Mw h q cA (upd fi0 2 a1) fs ga gs pl it asd) H := hP
    replace hD : va_D A (Mw h q cA (upd fi0 2 a1) fs ga gs pl it asd) := hD
    refine lv_iload_n hx hb dX7_fear_25 rfl (lv_at hl 0 rfl) ?_
    rw [hQ]
    exact ret_i C0 hP hD hS (by have e := Option.some.inj hf; rw [← e]; exact ⟨rfl, rfl⟩) dX7_fear_26
  · replace hf := it_of c4 hf
    refine lv_bipush (v := (-2)) hx hb dX7_fear_12 (by decide) ?_
    rw [hQ]
    exact ret_i C0 hP hD hS (by have e := Option.some.inj hf; rw [← e]; exact ⟨rfl, rfl⟩) dX7_fear_14
-- row
noncomputable def k_X7_row (a1 : Int32) (a2 : Int32) (a3 : Int32) (fi : Nat → Int32) (ga0 : Nat → Nat → Int32) : Option (Int32 × (Nat → Nat → Int32)) := b1 (k_X7_isMan a1 fi) (fun r1 => if r1 = 0 then some ((-1), ga0) else b1 (k_X7_in a2 0 3) (fun r5 => if r5 = 0 then some ((-1), ga0) else b1 (k_X7_in a3 0 9) (fun r9 => if r9 = 0 then some ((-2), ga0) else gd a1 6 (if ((ga0 6) (Int32.toNatClampNeg a1)) = 6 then gd ((4 * a1) + a2) 24 (gd ((4 * a1) + a2) 24 (some (((ga0 10) (Int32.toNatClampNeg ((4 * a1) + a2))), (va_up ga0 10 (upd (ga0 10) (Int32.toNatClampNeg ((4 * a1) + a2)) a3))))) else some ((-3), ga0)))))
set_option maxHeartbeats 4000000 in
set_option maxRecDepth 100000 in
theorem c_X7_row {l : Launch} {D : va_G} {cA : Nat → ClassId} (h : Nat) (q : Nat → Nat) (fi : Nat → Int32) (fs : Nat → Int32) (ga0 : Nat → Nat → Int32) (gs : Nat → Nat → Int32) (pl : Nat → Int32) (it : Nat → Int64) (asd : Nat → Int64) (a1 : Int32) (a2 : Int32) (a3 : Int32) (o : Int32 × (Nat → Nat → Int32)) (hf : k_X7_row a1 a2 a3 fi ga0 = some o) : CI l D cA yX7_row cX7_row 5 (some .int) 2 44 [.ref h, .int a1, .int a2, .int a3] (Mw h q cA fi fs ga0 gs pl it asd) 0 0 (fun r w => r = o.1 ∧ w = (Mw h q cA fi fs o.2 gs pl it asd)) := by
  intro sz
  refine met_start (by decide) rfl ?_
  intro p e s m args below meth c ls hsz hargs C0 hname hP hD hS hl
  generalize hAe : va_A (Mw h q cA fi fs ga0 gs pl it asd) sz = A at C0 hD hS ⊢
  obtain ⟨hx, hb, hr, hml, hown, hts, hlk, hK, hA⟩ := id C0
  replace hl : lv_has ls 5 [(0, .ref h), (1, .int a1), (2, .int a2), (3, .int a3)] := hl
  obtain ⟨Q, hQ⟩ : ∃ Q : State → Prop, Q = QI below D A (fun r w => r = o.1 ∧ w = (Mw h q cA fi fs o.2 gs pl it asd)) args s 0 0 := ⟨_, rfl⟩
  refine cast (by rw [hQ]) (?_ : W p l e (RMx 2 44 0 0) s m args below meth c s.heap [] 0 0 Q (F0 m 0 ls []))
  unfold k_X7_row at hf
  refine lv_aload_n hx hb dX7_row_0 rfl (lv_at hl 0 rfl) ?_
  refine lv_iload_n hx hb dX7_row_1 rfl (lv_at hl 1 rfl) ?_
  obtain ⟨r1q, hq2, hf⟩ := b1_of hf
  refine callVI (As := [.int a1]) (rest := []) (wr := []) C0 (c_X7_isMan h q fi fs ga0 gs pl it asd a1 _ hq2) lk_X7_245_X7_isMan rfl hP hD hS perm_nil 0 7 rfl rfl rfl hl.1 rfl rfl (Nat.le_of_ble_eq_true rfl) dX7_row_2 ⟨Nat.zero_le _, Nat.zero_le _⟩ (fun r1 w H locs hw hP hD hS => ?_)
  obtain ⟨⟨e1, e2⟩, z3⟩ := hw
  replace e1 : r1 = r1q := e1
  subst e1
  subst e2
  replace hP : va_P D vwCl (Mw h q cA fi fs ga0 gs pl it asd) H := hP.nil
  replace hD : va_D A (Mw h q cA fi fs ga0 gs pl it asd) := hD.nil
  refine lv_if_eq (tgt := 18) hx hb dX7_row_5 (by decide) (fun c4 => ?_) (fun c4 => ?_)
  · replace hf := it_of c4 hf
    refine lv_iconst (v := (-1)) hx hb dX7_row_18 (by decide) ?_
    rw [hQ]
    exact ret_i C0 hP hD hS (by have e := Option.some.inj hf; rw [← e]; exact ⟨rfl, rfl⟩) dX7_row_19
  · replace hf := ie_of c4 hf
    refine lv_aload_n hx hb dX7_row_8 rfl (lv_at hl 0 rfl) ?_
    refine lv_iload_n hx hb dX7_row_9 rfl (lv_at hl 2 rfl) ?_
    refine lv_iconst (v := 0) hx hb dX7_row_10 (by decide) ?_
    refine lv_iconst (v := 3) hx hb dX7_row_11 (by decide) ?_
    obtain ⟨r5q, hq6, hf⟩ := b1_of hf
    refine callVI (As := [.int a2, .int 0, .int 3]) (rest := []) (wr := (Mw h q cA fi fs ga0 gs pl it asd)) C0 (c_X7_in h a2 0 3 _ hq6) lk_X7_237_X7_in rfl hP hD hS (List.Perm.refl _) 0 7 rfl rfl rfl hl.1 rfl rfl (Nat.le_of_ble_eq_true rfl) dX7_row_12 ⟨Nat.zero_le _, Nat.zero_le _⟩ (fun r5 w H locs hw hP hD hS => ?_)
    obtain ⟨⟨e1, e2⟩, z7⟩ := hw
    replace e1 : r5 = r5q := e1
    subst e1
    subst e2
    replace hP : va_P D vwCl (Mw h q cA fi fs ga0 gs pl it asd) H := hP
    replace hD : va_D A (Mw h q cA fi fs ga0 gs pl it asd) := hD
    refine lv_if_ne (tgt := 20) hx hb dX7_row_15 (by decide) (fun c8 => ?_) (fun c8 => ?_)
    · replace hf := ie_of c8 hf
      refine lv_aload_n hx hb dX7_row_20 rfl (lv_at hl 0 rfl) ?_
      refine lv_iload_n hx hb dX7_row_21 rfl (lv_at hl 3 rfl) ?_
      refine lv_iconst (v := 0) hx hb dX7_row_22 (by decide) ?_
      refine lv_bipush (v := 9) hx hb dX7_row_23 (by decide) ?_
      obtain ⟨r9q, hq10, hf⟩ := b1_of hf
      refine callVI (As := [.int a3, .int 0, .int 9]) (rest := []) (wr := (Mw h q cA fi fs ga0 gs pl it asd)) C0 (c_X7_in h a3 0 9 _ hq10) lk_X7_237_X7_in rfl hP hD hS (List.Perm.refl _) 0 7 rfl rfl rfl hl.1 rfl rfl (Nat.le_of_ble_eq_true rfl) dX7_row_25 ⟨Nat.zero_le _, Nat.zero_le _⟩ (fun r9 w H locs hw hP hD hS => ?_)
      obtain ⟨⟨e1, e2⟩, z11⟩ := hw
      replace e1 : r9 = r9q := e1
      subst e1
      subst e2
      replace hP : va_P D vwCl (Mw h q cA fi fs ga0 gs pl it asd) H := hP
      replace hD : va_D A (Mw h q cA fi fs ga0 gs pl it asd) := hD
      refine lv_if_ne (tgt := 34) hx hb dX7_row_28 (by decide) (fun c12 => ?_) (fun c12 => ?_)
      · replace hf := ie_of c12 hf
        refine lv_aload_n hx hb dX7_row_34 rfl (lv_at hl 0 rfl) ?_
        refine va_get (D := D) (ci := 7) (v := .ref (q 6)) (C := RX7) (T := TX7) (N := 73) hx hb hts fw_7 hown hK hP 0 rfl rfl 6 (by decide) (hts _ m_fieldLink_M_28_M_kind_aI) (fun _ h9 => h9) rfl dX7_row_35 ?_
        refine lv_iload_n hx hb dX7_row_38 rfl (lv_at hl 1 rfl) ?_
        obtain ⟨hi13, hf⟩ := gd_of hf
        refine va_iald hx hb hK hP 1 0 rfl rfl hi13 dX7_row_39 ?_
        refine lv_bipush (v := 6) hx hb dX7_row_40 (by decide) ?_
        refine lv_icmp_eq (tgt := 48) hx hb dX7_row_42 (by decide) (fun c14 => ?_) (fun c14 => ?_)
        · replace hf := it_of c14 hf
          refine lv_aload_n hx hb dX7_row_48 rfl (lv_at hl 0 rfl) ?_
          refine va_get (D := D) (ci := 7) (v := .ref (q 10)) (C := RX7) (T := TX7) (N := 73) hx hb hts fw_7 hown hK hP 0 rfl rfl 10 (by decide) (hts _ m_fieldLink_M_41_M_rows_aI) (fun _ h9 => h9) rfl dX7_row_49 ?_
          refine lv_iconst (v := 4) hx hb dX7_row_52 (by decide) ?_
          refine lv_iload_n hx hb dX7_row_53 rfl (lv_at hl 1 rfl) ?_
          refine lv_imul hx hb dX7_row_54 ?_
          refine lv_iload_n hx hb dX7_row_55 rfl (lv_at hl 2 rfl) ?_
          refine lv_iadd hx hb dX7_row_56 ?_
          obtain ⟨hi15, hf⟩ := gd_of hf
          refine va_iald hx hb hK hP 5 0 rfl rfl hi15 dX7_row_57 ?_
          refine lv_istore (lv' := [(4, .int ((ga0 10) (Int32.toNatClampNeg ((4 * a1) + a2)))), (0, .ref h), (1, .int a1), (2, .int a2), (3, .int a3)]) hx hb dX7_row_58 hl (by decide) rfl (fun ls hl => ?_)
          refine lv_aload_n hx hb dX7_row_60 rfl (lv_at hl 1 rfl) ?_
          refine va_get (D := D) (ci := 7) (v := .ref (q 10)) (C := RX7) (T := TX7) (N := 73) hx hb hts fw_7 hown hK hP 0 rfl rfl 10 (by decide) (hts _ m_fieldLink_M_41_M_rows_aI) (fun _ h9 => h9) rfl dX7_row_61 ?_
          refine lv_iconst (v := 4) hx hb dX7_row_64 (by decide) ?_
          refine lv_iload_n hx hb dX7_row_65 rfl (lv_at hl 2 rfl) ?_
          refine lv_imul hx hb dX7_row_66 ?_
          refine lv_iload_n hx hb dX7_row_67 rfl (lv_at hl 3 rfl) ?_
          refine lv_iadd hx hb dX7_row_68 ?_
          refine lv_iload_n hx hb dX7_row_69 rfl (lv_at hl 4 rfl) ?_
          obtain ⟨hi16, hf⟩ := gd_of hf
          refine va_iast hx hb hK hP hD hS 5 0 rfl rfl hi16 dX7_row_70 (fun H locs hP hD hS => ?_)
          replace hP : va_P D vwCl (Mw h q cA fi fs (va_up ga0 10 (upd (ga0 10) (Int32.toNatClampNeg ((4 * a1) + a2)) a3)) gs pl it asd) H := hP
          replace hD : va_D A (Mw h q cA fi fs (va_up ga0 10 (upd (ga0 10) (Int32.toNatClampNeg ((4 * a1) + a2)) a3)) gs pl it asd) := hD
          refine lv_iload hx hb dX7_row_71 (lv_at hl 0 rfl) ?_
          rw [hQ]
          exact ret_i C0 hP hD hS (by have e := Option.some.inj hf; rw [← e]; exact ⟨rfl, rfl⟩) dX7_row_73
        · replace hf := ie_of c14 hf
          refine lv_bipush (v := (-3)) hx hb dX7_row_45 (by decide) ?_
          rw [hQ]
          exact ret_i C0 hP hD hS (by have e := Option.some.inj hf; rw [← e]; exact ⟨rfl, rfl⟩) dX7_row_47
      · replace hf := it_of c12 hf
        refine lv_bipush (v := (-2)) hx hb dX7_row_31 (by decide) ?_
        rw [hQ]
        exact ret_i C0 hP hD hS (by have e := Option.some.inj hf; rw [← e]; exact ⟨rfl, rfl⟩) dX7_row_33
    · replace hf := it_of c8 hf
      refine lv_iconst (v := (-1)) hx hb dX7_row_18 (by decide) ?_
      rw [hQ]
      exact ret_i C0 hP hD hS (by have e := Option.some.inj hf; rw [← e]; exact ⟨rfl, rfl⟩) dX7_row_19
-- feed
noncomputable def k_X7_feed (a1 : Int32) (fi0 : Nat → Int32) (ga0 : Nat → Nat → Int32) : Option (Int32 × (Nat → Int32) × (Nat → Nat → Int32)) := b1 (k_X7_in a1 0 127) (fun r1 => if r1 = 0 then some ((-2), fi0, ga0) else if (fi0 13) = 100 then some ((-4), fi0, ga0) else gd (fi0 13) 100 (some (((fi0 13) + 1), (upd fi0 13 ((fi0 13) + 1)), (va_up ga0 16 (upd (ga0 16) (Int32.toNatClampNeg (fi0 13)) a1)))))
set_option maxHeartbeats 4000000 in
set_option maxRecDepth 100000 in
theorem c_X7_feed {l : Launch} {D : va_G} {cA : Nat → ClassId} (h : Nat) (q : Nat → Nat) (fi0 : Nat → Int32) (fs : Nat → Int32) (ga0 : Nat → Nat → Int32) (gs : Nat → Nat → Int32) (pl : Nat → Int32) (it : Nat → Int64) (asd : Nat → Int64) (a1 : Int32) (o : Int32 × (Nat → Int32) × (Nat → Nat → Int32)) (hf : k_X7_feed a1 fi0 ga0 = some o) : CI l D cA yX7_feed cX7_feed 2 (some .int) 1 23 [.ref h, .int a1] (Mw h q cA fi0 fs ga0 gs pl it asd) 0 0 (fun r w => r = o.1 ∧ w = (Mw h q cA o.2.1 fs o.2.2 gs pl it asd)) := by
  intro sz
  refine met_start (by decide) rfl ?_
  intro p e s m args below meth c ls hsz hargs C0 hname hP hD hS hl
  generalize hAe : va_A (Mw h q cA fi0 fs ga0 gs pl it asd) sz = A at C0 hD hS ⊢
  obtain ⟨hx, hb, hr, hml, hown, hts, hlk, hK, hA⟩ := id C0
  replace hl : lv_has ls 2 [(0, .ref h), (1, .int a1)] := hl
  obtain ⟨Q, hQ⟩ : ∃ Q : State → Prop, Q = QI below D A (fun r w => r = o.1 ∧ w = (Mw h q cA o.2.1 fs o.2.2 gs pl it asd)) args s 0 0 := ⟨_, rfl⟩
  refine cast (by rw [hQ]) (?_ : W p l e (RMx 1 23 0 0) s m args below meth c s.heap [] 0 0 Q (F0 m 0 ls []))
  unfold k_X7_feed at hf
  refine lv_aload_n hx hb dX7_feed_0 rfl (lv_at hl 0 rfl) ?_
  refine lv_iload_n hx hb dX7_feed_1 rfl (lv_at hl 1 rfl) ?_
  refine lv_iconst (v := 0) hx hb dX7_feed_2 (by decide) ?_
  refine lv_bipush (v := 127) hx hb dX7_feed_3 (by decide) ?_
  obtain ⟨r1q, hq2, hf⟩ := b1_of hf
  refine callVI (As := [.int a1, .int 0, .int 127]) (rest := []) (wr := (Mw h q cA fi0 fs ga0 gs pl it asd)) C0 (c_X7_in h a1 0 127 _ hq2) lk_X7_237_X7_in rfl hP hD hS (List.Perm.refl _) 0 7 rfl rfl rfl hl.1 rfl rfl (Nat.le_of_ble_eq_true rfl) dX7_feed_5 ⟨Nat.zero_le _, Nat.zero_le _⟩ (fun r1 w H locs hw hP hD hS => ?_)
  obtain ⟨⟨e1, e2⟩, z3⟩ := hw
  replace e1 : r1 = r1q := e1
  subst e1
  subst e2
  replace hP : va_P D vwCl (Mw h q cA fi0 fs ga0 gs pl it asd) H := hP
  replace hD : va_D A (Mw h q cA fi0 fs ga0 gs pl it asd) := hD
  refine lv_if_ne (tgt := 14) hx hb dX7_feed_8 (by decide) (fun c4 => ?_) (fun c4 => ?_)
  · replace hf := ie_of c4 hf
    refine lv_aload_n hx hb dX7_feed_14 rfl (lv_at hl 0 rfl) ?_
    refine va_get (D := D) (ci := 7) (v := .int (fi0 13)) (C := RX7) (T := TX7) (N := 73) hx hb hts fw_7 hown hK hP 0 rfl rfl 13 (by decide) (hts _ m_fieldLink_M_50_M_fed_I) (fun _ h9 => h9) rfl dX7_feed_15 ?_
    refine lv_bipush (v := 100) hx hb dX7_feed_18 (by decide) ?_
    refine lv_icmp_ne (tgt := 26) hx hb dX7_feed_20 (by decide) (fun c5 => ?_) (fun c5 => ?_)
    · replace hf := ie_of c5 hf
      refine lv_aload_n hx hb dX7_feed_26 rfl (lv_at hl 0 rfl) ?_
      refine va_get (D := D) (ci := 7) (v := .ref (q 16)) (C := RX7) (T := TX7) (N := 73) hx hb hts fw_7 hown hK hP 0 rfl rfl 16 (by decide) (hts _ m_fieldLink_M_59_M_text_aI) (fun _ h9 => h9) rfl dX7_feed_27 ?_
      refine lv_aload_n hx hb dX7_feed_30 rfl (lv_at hl 0 rfl) ?_
      refine va_get (D := D) (ci := 7) (v := .int (fi0 13)) (C := RX7) (T := TX7) (N := 73) hx hb hts fw_7 hown hK hP 0 rfl rfl 13 (by decide) (hts _ m_fieldLink_M_50_M_fed_I) (fun _ h9 => h9) rfl dX7_feed_31 ?_
      refine lv_iload_n hx hb dX7_feed_34 rfl (lv_at hl 1 rfl) ?_
      obtain ⟨hi6, hf⟩ := gd_of hf
      refine va_iast hx hb hK hP hD hS 6 0 rfl rfl hi6 dX7_feed_35 (fun H locs hP hD hS => ?_)
      replace hP : va_P D vwCl (Mw h q cA fi0 fs (va_up ga0 16 (upd (ga0 16) (Int32.toNatClampNeg (fi0 13)) a1)) gs pl it asd) H := hP
      replace hD : va_D A (Mw h q cA fi0 fs (va_up ga0 16 (upd (ga0 16) (Int32.toNatClampNeg (fi0 13)) a1)) gs pl it asd) := hD
      refine lv_aload_n hx hb dX7_feed_36 rfl (lv_at hl 0 rfl) ?_
      refine lv_dup hx hb dX7_feed_37 rfl ?_
      refine va_get (D := D) (ci := 7) (v := .int (fi0 13)) (C := RX7) (T := TX7) (N := 73) hx hb hts fw_7 hown hK hP 0 rfl rfl 13 (by decide) (hts _ m_fieldLink_M_50_M_fed_I) (fun _ h9 => h9) rfl dX7_feed_38 ?_
      refine lv_iconst (v := 1) hx hb dX7_feed_41 (by decide) ?_
      refine lv_iadd hx hb dX7_feed_42 ?_
      refine va_put (D := D) (ci := 7) (v := .int ((fi0 13) + 1)) (ty := .int) (C := RX7) (T := TX7) (N := 73) hx hb hts fw_7 tyX7 tyX7_ok nmX7 hown hK hP hD hS 0 rfl rfl 13 (by decide) (hts _ m_fieldLink_M_50_M_fed_I) (fun _ h9 => h9) rfl (by decide +kernel) rfl rfl (Nat.le_of_ble_eq_true rfl) dX7_feed_43 (fun H locs hP hD hS => ?_)
      replace hP : va_P D vwCl (Mw h q cA (upd fi0 13 ((fi0 13) + 1)) fs (va_up ga0 16 (upd (ga0 16) (Int32.toNatClampNeg (fi0 13)) a1)) gs pl it asd) H := hP
      replace hD : va_D A (Mw h q cA (upd fi0 13 ((fi0 13) + 1)) fs (va_up ga0 16 (upd (ga0 16) (Int32.toNatClampNeg (fi0 13)) a1)) gs pl it asd) := hD
      refine lv_aload_n hx hb dX7_feed_46 rfl (lv_at hl 0 rfl) ?_
      refine va_get (D := D) (ci := 7) (v := .int ((fi0 13) + 1)) (C := RX7) (T := TX7) (N := 73) hx hb hts fw_7 hown hK hP 0 rfl rfl 13 (by decide) (hts _ m_fieldLink_M_50_M_fed_I) (fun _ h9 => h9) rfl dX7_feed_47 ?_
      rw [hQ]
      exact ret_i C0 hP hD hS (by have e := Option.some.inj hf; rw [← e]; exact ⟨rfl, rfl⟩) dX7_feed_50
    · replace hf := it_of c5 hf
      refine lv_bipush (v := (-4)) hx hb dX7_feed_23 (by decide) ?_
      rw [hQ]
      exact ret_i C0 hP hD hS (by have e := Option.some.inj hf; rw [← e]; exact ⟨rfl, rfl⟩) dX7_feed_25
  · replace hf := it_of c4 hf
    refine lv_bipush (v := (-2)) hx hb dX7_feed_11 (by decide) ?_
    rw [hQ]
    exact ret_i C0 hP hD hS (by have e := Option.some.inj hf; rw [← e]; exact ⟨rfl, rfl⟩) dX7_feed_13
-- next
noncomputable def k_X7_next (fi : Nat → Int32) (fs : Nat → Int32) (ga : Nat → Nat → Int32) : Option Int32 := if (fi 13) ≤ (fs 14) then some (-1) else gd (fs 14) 100 (some ((ga 16) (Int32.toNatClampNeg (fs 14))))
set_option maxHeartbeats 4000000 in
set_option maxRecDepth 100000 in
theorem c_X7_next {l : Launch} {D : va_G} {cA : Nat → ClassId} (h : Nat) (q : Nat → Nat) (fi : Nat → Int32) (fs : Nat → Int32) (ga : Nat → Nat → Int32) (gs : Nat → Nat → Int32) (pl : Nat → Int32) (it : Nat → Int64) (asd : Nat → Int64)  (o : Int32) (hf : k_X7_next fi fs ga = some o) : CI l D cA yX7_next cX7_next 1 (some .int) 0 0 [.ref h] (Mw h q cA fi fs ga gs pl it asd) 0 0 (fun r w => r = o ∧ w = (Mw h q cA fi fs ga gs pl it asd)) := by
  intro sz
  refine met_start (by decide) rfl ?_
  intro p e s m args below meth c ls hsz hargs C0 hname hP hD hS hl
  generalize hAe : va_A (Mw h q cA fi fs ga gs pl it asd) sz = A at C0 hD hS ⊢
  obtain ⟨hx, hb, hr, hml, hown, hts, hlk, hK, hA⟩ := id C0
  replace hl : lv_has ls 1 [(0, .ref h)] := hl
  obtain ⟨Q, hQ⟩ : ∃ Q : State → Prop, Q = QI below D A (fun r w => r = o ∧ w = (Mw h q cA fi fs ga gs pl it asd)) args s 0 0 := ⟨_, rfl⟩
  refine cast (by rw [hQ]) (?_ : W p l e (RMx 0 0 0 0) s m args below meth c s.heap [] 0 0 Q (F0 m 0 ls []))
  unfold k_X7_next at hf
  refine lv_aload_n hx hb dX7_next_0 rfl (lv_at hl 0 rfl) ?_
  refine va_get (D := D) (ci := 7) (v := .int (fs 14)) (C := RX7) (T := TX7) (N := 73) hx hb hts fw_7 hown hK hP 0 rfl rfl 14 (by decide) (hts _ m_fieldLink_M_53_M_at_I) (fun _ h9 => h9) rfl dX7_next_1 ?_
  refine lv_aload_n hx hb dX7_next_4 rfl (lv_at hl 0 rfl) ?_
  refine va_get (D := D) (ci := 7) (v := .int (fi 13)) (C := RX7) (T := TX7) (N := 73) hx hb hts fw_7 hown hK hP 0 rfl rfl 13 (by decide) (hts _ m_fieldLink_M_50_M_fed_I) (fun _ h9 => h9) rfl dX7_next_5 ?_
  refine lv_icmp_ge (tgt := 23) hx hb dX7_next_8 (by decide) (fun c1 => ?_) (fun c1 => ?_)
  · replace hf := it_of c1 hf
    refine lv_iconst (v := (-1)) hx hb dX7_next_23 (by decide) ?_
    rw [hQ]
    exact ret_i C0 hP hD hS (by have e := Option.some.inj hf; rw [← e]; exact ⟨rfl, rfl⟩) dX7_next_24
  · replace hf := ie_of c1 hf
    refine lv_aload_n hx hb dX7_next_11 rfl (lv_at hl 0 rfl) ?_
    refine va_get (D := D) (ci := 7) (v := .ref (q 16)) (C := RX7) (T := TX7) (N := 73) hx hb hts fw_7 hown hK hP 0 rfl rfl 16 (by decide) (hts _ m_fieldLink_M_59_M_text_aI) (fun _ h9 => h9) rfl dX7_next_12 ?_
    refine lv_aload_n hx hb dX7_next_15 rfl (lv_at hl 0 rfl) ?_
    refine va_get (D := D) (ci := 7) (v := .int (fs 14)) (C := RX7) (T := TX7) (N := 73) hx hb hts fw_7 hown hK hP 0 rfl rfl 14 (by decide) (hts _ m_fieldLink_M_53_M_at_I) (fun _ h9 => h9) rfl dX7_next_16 ?_
    obtain ⟨hi2, hf⟩ := gd_of hf
    refine va_iald hx hb hK hP 6 0 rfl rfl hi2 dX7_next_19 ?_
    refine lv_goto (tgt := 24) hx hb dX7_next_20 (by decide) ?_
    rw [hQ]
    exact ret_i C0 hP hD hS (by have e := Option.some.inj hf; rw [← e]; exact ⟨rfl, rfl⟩) dX7_next_24
-- takes
noncomputable def k_X7_takes (a1 : Int32) (fi : Nat → Int32) (fs0 : Nat → Int32) (ga : Nat → Nat → Int32) : Option (Int32 × (Nat → Int32)) := b1 (k_X7_next fi fs0 ga) (fun r1 => if r1 = a1 then some (1, (upd fs0 14 ((fs0 14) + 1))) else some (0, fs0))
set_option maxHeartbeats 4000000 in
set_option maxRecDepth 100000 in
theorem c_X7_takes {l : Launch} {D : va_G} {cA : Nat → ClassId} (h : Nat) (q : Nat → Nat) (fi : Nat → Int32) (fs0 : Nat → Int32) (ga : Nat → Nat → Int32) (gs : Nat → Nat → Int32) (pl : Nat → Int32) (it : Nat → Int64) (asd : Nat → Int64) (a1 : Int32) (o : Int32 × (Nat → Int32)) (hf : k_X7_takes a1 fi fs0 ga = some o) : CI l D cA yX7_takes cX7_takes 2 (some .boolean) 1 20 [.ref h, .int a1] (Mw h q cA fi fs0 ga gs pl it asd) 0 0 (fun r w => (r = o.1 ∧ w = (Mw h q cA fi o.2 ga gs pl it asd)) ∧ narrow .boolean (.int r) = .int r) := by
  intro sz
  refine met_start (by decide) rfl ?_
  intro p e s m args below meth c ls hsz hargs C0 hname hP hD hS hl
  generalize hAe : va_A (Mw h q cA fi fs0 ga gs pl it asd) sz = A at C0 hD hS ⊢
  obtain ⟨hx, hb, hr, hml, hown, hts, hlk, hK, hA⟩ := id C0
  replace hl : lv_has ls 2 [(0, .ref h), (1, .int a1)] := hl
  obtain ⟨Q, hQ⟩ : ∃ Q : State → Prop, Q = QI below D A (fun r w => (r = o.1 ∧ w = (Mw h q cA fi o.2 ga gs pl it asd)) ∧ narrow .boolean (.int r) = .int r) args s 0 0 := ⟨_, rfl⟩
  refine cast (by rw [hQ]) (?_ : W p l e (RMx 1 20 0 0) s m args below meth c s.heap [] 0 0 Q (F0 m 0 ls []))
  unfold k_X7_takes at hf
  refine lv_aload_n hx hb dX7_takes_0 rfl (lv_at hl 0 rfl) ?_
  obtain ⟨r1q, hq2, hf⟩ := b1_of hf
  refine callVI (As := []) (rest := []) (wr := []) C0 (c_X7_next h q fi fs0 ga gs pl it asd _ hq2) lk_X7_252_X7_next rfl hP hD hS perm_nil 0 7 rfl rfl rfl hl.1 rfl rfl (Nat.le_of_ble_eq_true rfl) dX7_takes_1 ⟨Nat.zero_le _, Nat.zero_le _⟩ (fun r1 w H locs hw hP hD hS => ?_)
  obtain ⟨e1, e2⟩ := hw
  replace e1 : r1 = r1q := e1
  subst e1
  subst e2
  replace hP : va_P D vwCl (Mw h q cA fi fs0 ga gs pl it asd) H := hP.nil
  replace hD : va_D A (Mw h q cA fi fs0 ga gs pl it asd) := hD.nil
  refine lv_iload_n hx hb dX7_takes_4 rfl (lv_at hl 1 rfl) ?_
  refine lv_icmp_eq (tgt := 10) hx hb dX7_takes_5 (by decide) (fun c3 => ?_) (fun c3 => ?_)
  · replace hf := it_of c3 hf
    refine lv_aload_n hx hb dX7_takes_10 rfl (lv_at hl 0 rfl) ?_
    refine lv_dup hx hb dX7_takes_11 rfl ?_
    refine va_get (D := D) (ci := 7) (v := .int (fs0 14)) (C := RX7) (T := TX7) (N := 73) hx hb hts fw_7 hown hK hP 0 rfl rfl 14 (by decide) (hts _ m_fieldLink_M_53_M_at_I) (fun _ h9 => h9) rfl dX7_takes_12 ?_
    refine lv_iconst (v := 1) hx hb dX7_takes_15 (by decide) ?_
    refine lv_iadd hx hb dX7_takes_16 ?_
    refine va_put (D := D) (ci := 7) (v := .int ((fs0 14) + 1)) (ty := .int) (C := RX7) (T := TX7) (N := 73) hx hb hts fw_7 tyX7 tyX7_ok nmX7 hown hK hP hD hS 0 rfl rfl 14 (by decide) (hts _ m_fieldLink_M_53_M_at_I) (fun _ h9 => h9) rfl (by decide +kernel) rfl rfl (Nat.le_of_ble_eq_true rfl) dX7_takes_17 (fun H locs hP hD hS => ?_)
    replace hP : va_P D vwCl (Mw h q cA fi (upd fs0 14 ((fs0 14) + 1)) ga gs pl it asd) H := hP
    replace hD : va_D A (Mw h q cA fi (upd fs0 14 ((fs0 14) + 1)) ga gs pl it asd) := hD
    refine lv_iconst (v := 1) hx hb dX7_takes_20 (by decide) ?_
    rw [hQ]
    exact ret_z C0 hP hD hS (by have e := Option.some.inj hf; rw [← e]; exact ⟨rfl, rfl⟩) rfl dX7_takes_21
  · replace hf := ie_of c3 hf
    refine lv_iconst (v := 0) hx hb dX7_takes_8 (by decide) ?_
    rw [hQ]
    exact ret_z C0 hP hD hS (by have e := Option.some.inj hf; rw [← e]; exact ⟨rfl, rfl⟩) rfl dX7_takes_9
-- takesWord
noncomputable def k_X7_takesWord_2 (a1 : Int32) (a2 : Int32) (fi : Nat → Int32) (ga : Nat → Nat → Int32) : Nat → Int32 → (Nat → Int32) → Option (Int32 × (Nat → Int32))
  | 0, _, _ => none
  | n + 1, x3, fs => if a2 ≤ x3 then b2 (k_X7_takes 32 fi fs ga) (fun r2 fs_3 => some (r2, fs_3)) else gd (a1 + x3) 12 (b2 (k_X7_takes ((ga 27) (Int32.toNatClampNeg (a1 + x3))) fi fs ga) (fun r7 fs_8 => if r7 = 0 then some (0, fs_8) else k_X7_takesWord_2 a1 a2 fi ga n (x3 + 1) fs_8))
noncomputable def k_X7_takesWord (a1 : Int32) (a2 : Int32) (fi : Nat → Int32) (fs0 : Nat → Int32) (ga : Nat → Nat → Int32) : Option (Int32 × (Nat → Int32)) := k_X7_takesWord_2 a1 a2 fi ga 100000 0 fs0
set_option maxHeartbeats 4000000 in
set_option maxRecDepth 100000 in
theorem c_X7_takesWord {l : Launch} {D : va_G} {cA : Nat → ClassId} (h : Nat) (q : Nat → Nat) (fi : Nat → Int32) (fs0 : Nat → Int32) (ga : Nat → Nat → Int32) (gs : Nat → Nat → Int32) (pl : Nat → Int32) (it : Nat → Int64) (asd : Nat → Int64) (a1 : Int32) (a2 : Int32) (o : Int32 × (Nat → Int32)) (hf : k_X7_takesWord a1 a2 fi fs0 ga = some o) : CI l D cA yX7_takesWord cX7_takesWord 4 (some .boolean) 2 41 [.ref h, .int a1, .int a2] (Mw h q cA fi fs0 ga gs pl it asd) 0 0 (fun r w => (r = o.1 ∧ w = (Mw h q cA fi o.2 ga gs pl it asd)) ∧ narrow .boolean (.int r) = .int r) := by
  intro sz
  refine met_start (by decide) rfl ?_
  intro p e s m args below meth c ls hsz hargs C0 hname hP hD hS hl
  generalize hAe : va_A (Mw h q cA fi fs0 ga gs pl it asd) sz = A at C0 hD hS ⊢
  obtain ⟨hx, hb, hr, hml, hown, hts, hlk, hK, hA⟩ := id C0
  replace hl : lv_has ls 4 [(0, .ref h), (1, .int a1), (2, .int a2)] := hl
  obtain ⟨Q, hQ⟩ : ∃ Q : State → Prop, Q = QI below D A (fun r w => (r = o.1 ∧ w = (Mw h q cA fi o.2 ga gs pl it asd)) ∧ narrow .boolean (.int r) = .int r) args s 0 0 := ⟨_, rfl⟩
  refine cast (by rw [hQ]) (?_ : W p l e (RMx 2 41 0 0) s m args below meth c s.heap [] 0 0 Q (F0 m 0 ls []))
  have J2 : ∀ n : Nat, ∀ (x3 : Int32) (fs : Nat → Int32), k_X7_takesWord_2 a1 a2 fi ga n x3 fs = some o → ∀ (H : Heap) (locs : List Loc), va_P D vwCl (Mw h q cA fi fs ga gs pl it asd) H → va_D A (Mw h q cA fi fs ga gs pl it asd) → va_S A s.heap H locs → ∀ ls : Array Slot, lv_has ls 4 [(0, .ref h), (1, .int a1), (2, .int a2), (3, .int x3)] → W p l e (RMx 2 41 0 0) s m args below meth c H locs 0 0 Q (F0 m 2 ls []) := by
    intro  n
    induction n with
    | zero =>
      intro x3 fs hf
      rw [k_X7_takesWord_2] at hf
      cases hf
    | succ n ih =>
      intro x3 fs hf H locs hP hD hS ls hl
      rw [k_X7_takesWord_2] at hf
      refine lv_iload_n hx hb dX7_takesWord_2 rfl (lv_at hl 3 rfl) ?_
      refine lv_iload_n hx hb dX7_takesWord_3 rfl (lv_at hl 2 rfl) ?_
      refine lv_icmp_ge (tgt := 30) hx hb dX7_takesWord_4 (by decide) (fun c1 => ?_) (fun c1 => ?_)
      · replace hf := it_of c1 hf
        refine lv_aload_n hx hb dX7_takesWord_30 rfl (lv_at hl 0 rfl) ?_
        refine lv_bipush (v := 32) hx hb dX7_takesWord_31 (by decide) ?_
        obtain ⟨r2q, fs_3, hq4, hf⟩ := b2_of hf
        refine callVI (As := [.int 32]) (rest := []) (wr := []) C0 (c_X7_takes h q fi fs ga gs pl it asd 32 _ hq4) lk_X7_256_X7_takes rfl hP hD hS perm_nil 0 7 rfl rfl rfl hl.1 rfl rfl (Nat.le_of_ble_eq_true rfl) dX7_takesWord_33 ⟨Nat.zero_le _, Nat.zero_le _⟩ (fun r2 w H locs hw hP hD hS => ?_)
        obtain ⟨⟨e1, e2⟩, z5⟩ := hw
        replace e1 : r2 = r2q := e1
        subst e1
        subst e2
        replace hP : va_P D vwCl (Mw h q cA fi fs_3 ga gs pl it asd) H := hP.nil
        replace hD : va_D A (Mw h q cA fi fs_3 ga gs pl it asd) := hD.nil
        rw [hQ]
        exact ret_z C0 hP hD hS (by have e := Option.some.inj hf; rw [← e]; exact ⟨rfl, rfl⟩) z5 dX7_takesWord_36
      · replace hf := ie_of c1 hf
        refine lv_aload_n hx hb dX7_takesWord_7 rfl (lv_at hl 0 rfl) ?_
        refine lv_aload_n hx hb dX7_takesWord_8 rfl (lv_at hl 0 rfl) ?_
        refine va_get (D := D) (ci := 7) (v := .ref (q 27)) (C := RX7) (T := TX7) (N := 73) hx hb hts fw_7 hown hK hP 0 rfl rfl 27 (by decide) (hts _ m_fieldLink_M_92_M_letters_aI) (fun _ h9 => h9) rfl dX7_takesWord_9 ?_
        refine lv_iload_n hx hb dX7_takesWord_12 rfl (lv_at hl 1 rfl) ?_
        refine lv_iload_n hx hb dX7_takesWord_13 rfl (lv_at hl 3 rfl) ?_
        refine lv_iadd hx hb dX7_takesWord_14 ?_
        obtain ⟨hi6, hf⟩ := gd_of hf
        refine va_iald hx hb hK hP 14 0 rfl rfl hi6 dX7_takesWord_15 ?_
        obtain ⟨r7q, fs_8, hq9, hf⟩ := b2_of hf
        refine callVI (As := [.int ((ga 27) (Int32.toNatClampNeg (a1 + x3)))]) (rest := []) (wr := []) C0 (c_X7_takes h q fi fs ga gs pl it asd ((ga 27) (Int32.toNatClampNeg (a1 + x3))) _ hq9) lk_X7_256_X7_takes rfl hP hD hS perm_nil 0 7 rfl rfl rfl hl.1 rfl rfl (Nat.le_of_ble_eq_true rfl) dX7_takesWord_16 ⟨Nat.zero_le _, Nat.zero_le _⟩ (fun r7 w H locs hw hP hD hS => ?_)
        obtain ⟨⟨e1, e2⟩, z10⟩ := hw
        replace e1 : r7 = r7q := e1
        subst e1
        subst e2
        replace hP : va_P D vwCl (Mw h q cA fi fs_8 ga gs pl it asd) H := hP.nil
        replace hD : va_D A (Mw h q cA fi fs_8 ga gs pl it asd) := hD.nil
        refine lv_if_ne (tgt := 24) hx hb dX7_takesWord_19 (by decide) (fun c11 => ?_) (fun c11 => ?_)
        · replace hf := ie_of c11 hf
          refine lv_iinc (v := (x3 + 1)) (lv' := [(3, .int (x3 + 1)), (0, .ref h), (1, .int a1), (2, .int a2)]) hx hb dX7_takesWord_24 hl (k := 3) rfl rfl (by decide) rfl (fun ls hl => ?_)
          refine lv_goto (tgt := 2) hx hb dX7_takesWord_27 (by decide) ?_
          exact ih (x3 + 1) fs_8 hf _ _ hP hD hS _ (lv_sub hl [1, 2, 3, 0] rfl)
        · replace hf := it_of c11 hf
          refine lv_iconst (v := 0) hx hb dX7_takesWord_22 (by decide) ?_
          rw [hQ]
          exact ret_z C0 hP hD hS (by have e := Option.some.inj hf; rw [← e]; exact ⟨rfl, rfl⟩) rfl dX7_takesWord_23
  unfold k_X7_takesWord at hf
  refine lv_iconst (v := 0) hx hb dX7_takesWord_0 (by decide) ?_
  refine lv_istore_n (lv' := [(3, .int 0), (0, .ref h), (1, .int a1), (2, .int a2)]) hx hb dX7_takesWord_1 rfl hl (by decide) rfl (fun ls hl => ?_)
  exact J2 100000 0 fs0 hf _ _ hP hD hS _ (lv_sub hl [1, 2, 3, 0] rfl)

-- in
noncomputable def k_X7_in (a1 : Int32) (a2 : Int32) (a3 : Int32) : Option Int32 := if a1 < a2 then some 0 else if a3 < a1 then some 0 else some 1
set_option maxHeartbeats 4000000 in
set_option maxRecDepth 100000 in
theorem c_X7_in {l : Launch} {D : va_G} {cA : Nat → ClassId} (h : Nat)  (a1 : Int32) (a2 : Int32) (a3 : Int32) (o : Int32) (hf : k_X7_in a1 a2 a3 = some o) : CI l D cA yX7_in cX7_in 4 (some .boolean) 0 0 [.ref h, .int a1, .int a2, .int a3] ([] : va_W) 0 0 (fun r w => (r = o ∧ w = ([] : va_W)) ∧ narrow .boolean (.int r) = .int r) := by
  intro sz
  refine met_start (by decide) rfl ?_
  intro p e s m args below meth c ls hsz hargs C0 hname hP hD hS hl
  generalize hAe : va_A ([] : va_W) sz = A at C0 hD hS ⊢
  obtain ⟨hx, hb, hr, hml, hown, hts, hlk, hK, hA⟩ := id C0
  replace hl : lv_has ls 4 [(0, .ref h), (1, .int a1), (2, .int a2), (3, .int a3)] := hl
  obtain ⟨Q, hQ⟩ : ∃ Q : State → Prop, Q = QI below D A (fun r w => (r = o ∧ w = ([] : va_W)) ∧ narrow .boolean (.int r) = .int r) args s 0 0 := ⟨_, rfl⟩
  refine cast (by rw [hQ]) (?_ : W p l e (RMx 0 0 0 0) s m args below meth c s.heap [] 0 0 Q (F0 m 0 ls []))
  unfold k_X7_in at hf
  refine lv_iload_n hx hb dX7_in_0 rfl (lv_at hl 1 rfl) ?_
  refine lv_iload_n hx hb dX7_in_1 rfl (lv_at hl 2 rfl) ?_
  refine lv_icmp_lt (tgt := 14) hx hb dX7_in_2 (by decide) (fun c1 => ?_) (fun c1 => ?_)
  · replace hf := it_of c1 hf
    refine lv_iconst (v := 0) hx hb dX7_in_14 (by decide) ?_
    rw [hQ]
    exact ret_z C0 hP hD hS (by have e := Option.some.inj hf; rw [← e]; exact ⟨rfl, rfl⟩) rfl dX7_in_15
  · replace hf := ie_of c1 hf
    refine lv_iload_n hx hb dX7_in_5 rfl (lv_at hl 1 rfl) ?_
    refine lv_iload_n hx hb dX7_in_6 rfl (lv_at hl 3 rfl) ?_
    refine lv_icmp_gt (tgt := 14) hx hb dX7_in_7 (by decide) (fun c2 => ?_) (fun c2 => ?_)
    · replace hf := it_of c2 hf
      refine lv_iconst (v := 0) hx hb dX7_in_14 (by decide) ?_
      rw [hQ]
      exact ret_z C0 hP hD hS (by have e := Option.some.inj hf; rw [← e]; exact ⟨rfl, rfl⟩) rfl dX7_in_15
    · replace hf := ie_of c2 hf
      refine lv_iconst (v := 1) hx hb dX7_in_10 (by decide) ?_
      refine lv_goto (tgt := 15) hx hb dX7_in_11 (by decide) ?_
      rw [hQ]
      exact ret_z C0 hP hD hS (by have e := Option.some.inj hf; rw [← e]; exact ⟨rfl, rfl⟩) rfl dX7_in_15
-- has
noncomputable def k_X7_has (a1 : Int32) (a2 : Int32) : Option Int32 := if ((a1 >>> (a2 &&& 31)) &&& 1) = 1 then some 1 else some 0
set_option maxHeartbeats 4000000 in
set_option maxRecDepth 100000 in
theorem c_X7_has {l : Launch} {D : va_G} {cA : Nat → ClassId} (h : Nat)  (a1 : Int32) (a2 : Int32) (o : Int32) (hf : k_X7_has a1 a2 = some o) : CI l D cA yX7_has cX7_has 3 (some .boolean) 0 0 [.ref h, .int a1, .int a2] ([] : va_W) 0 0 (fun r w => (r = o ∧ w = ([] : va_W)) ∧ narrow .boolean (.int r) = .int r) := by
  intro sz
  refine met_start (by decide) rfl ?_
  intro p e s m args below meth c ls hsz hargs C0 hname hP hD hS hl
  generalize hAe : va_A ([] : va_W) sz = A at C0 hD hS ⊢
  obtain ⟨hx, hb, hr, hml, hown, hts, hlk, hK, hA⟩ := id C0
  replace hl : lv_has ls 3 [(0, .ref h), (1, .int a1), (2, .int a2)] := hl
  obtain ⟨Q, hQ⟩ : ∃ Q : State → Prop, Q = QI below D A (fun r w => (r = o ∧ w = ([] : va_W)) ∧ narrow .boolean (.int r) = .int r) args s 0 0 := ⟨_, rfl⟩
  refine cast (by rw [hQ]) (?_ : W p l e (RMx 0 0 0 0) s m args below meth c s.heap [] 0 0 Q (F0 m 0 ls []))
  unfold k_X7_has at hf
  refine lv_iload_n hx hb dX7_has_0 rfl (lv_at hl 1 rfl) ?_
  refine lv_iload_n hx hb dX7_has_1 rfl (lv_at hl 2 rfl) ?_
  refine lv_ishr hx hb dX7_has_2 ?_
  refine lv_iconst (v := 1) hx hb dX7_has_3 (by decide) ?_
  refine lv_iand hx hb dX7_has_4 ?_
  refine lv_iconst (v := 1) hx hb dX7_has_5 (by decide) ?_
  refine lv_icmp_ne (tgt := 13) hx hb dX7_has_6 (by decide) (fun c1 => ?_) (fun c1 => ?_)
  · replace hf := ie_of c1 hf
    refine lv_iconst (v := 0) hx hb dX7_has_13 (by decide) ?_
    rw [hQ]
    exact ret_z C0 hP hD hS (by have e := Option.some.inj hf; rw [← e]; exact ⟨rfl, rfl⟩) rfl dX7_has_14
  · replace hf := it_of c1 hf
    refine lv_iconst (v := 1) hx hb dX7_has_9 (by decide) ?_
    refine lv_goto (tgt := 14) hx hb dX7_has_10 (by decide) ?_
    rw [hQ]
    exact ret_z C0 hP hD hS (by have e := Option.some.inj hf; rw [← e]; exact ⟨rfl, rfl⟩) rfl dX7_has_14
-- least
noncomputable def k_X7_least (a1 : Int32) (a2 : Int32) : Option Int32 := if a2 ≤ a1 then some a2 else some a1
set_option maxHeartbeats 4000000 in
set_option maxRecDepth 100000 in
theorem c_X7_least {l : Launch} {D : va_G} {cA : Nat → ClassId} (h : Nat)  (a1 : Int32) (a2 : Int32) (o : Int32) (hf : k_X7_least a1 a2 = some o) : CI l D cA yX7_least cX7_least 3 (some .int) 0 0 [.ref h, .int a1, .int a2] ([] : va_W) 0 0 (fun r w => r = o ∧ w = ([] : va_W)) := by
  intro sz
  refine met_start (by decide) rfl ?_
  intro p e s m args below meth c ls hsz hargs C0 hname hP hD hS hl
  generalize hAe : va_A ([] : va_W) sz = A at C0 hD hS ⊢
  obtain ⟨hx, hb, hr, hml, hown, hts, hlk, hK, hA⟩ := id C0
  replace hl : lv_has ls 3 [(0, .ref h), (1, .int a1), (2, .int a2)] := hl
  obtain ⟨Q, hQ⟩ : ∃ Q : State → Prop, Q = QI below D A (fun r w => r = o ∧ w = ([] : va_W)) args s 0 0 := ⟨_, rfl⟩
  refine cast (by rw [hQ]) (?_ : W p l e (RMx 0 0 0 0) s m args below meth c s.heap [] 0 0 Q (F0 m 0 ls []))
  unfold k_X7_least at hf
  refine lv_iload_n hx hb dX7_least_0 rfl (lv_at hl 1 rfl) ?_
  refine lv_iload_n hx hb dX7_least_1 rfl (lv_at hl 2 rfl) ?_
  refine lv_icmp_ge (tgt := 9) hx hb dX7_least_2 (by decide) (fun c1 => ?_) (fun c1 => ?_)
  · replace hf := it_of c1 hf
    refine lv_iload_n hx hb dX7_least_9 rfl (lv_at hl 2 rfl) ?_
    rw [hQ]
    exact ret_i C0 hP hD hS (by have e := Option.some.inj hf; rw [← e]; exact ⟨rfl, rfl⟩) dX7_least_10
  · replace hf := ie_of c1 hf
    refine lv_iload_n hx hb dX7_least_5 rfl (lv_at hl 1 rfl) ?_
    refine lv_goto (tgt := 10) hx hb dX7_least_6 (by decide) ?_
    rw [hQ]
    exact ret_i C0 hP hD hS (by have e := Option.some.inj hf; rw [← e]; exact ⟨rfl, rfl⟩) dX7_least_10
-- bits
noncomputable def k_X7_bits_4 (a1 : Int32) : Nat → Int32 → Int32 → Option Int32
  | 0, _, _ => none
  | n + 1, x2, x3 => if 6 ≤ x3 then some x2 else b1 (k_X7_has a1 x3) (fun r2 => if r2 = 0 then k_X7_bits_4 a1 n (x2 + 0) (x3 + 1) else k_X7_bits_4 a1 n (x2 + 1) (x3 + 1))
noncomputable def k_X7_bits (a1 : Int32) : Option Int32 := k_X7_bits_4 a1 100000 0 0
set_option maxHeartbeats 4000000 in
set_option maxRecDepth 100000 in
theorem c_X7_bits {l : Launch} {D : va_G} {cA : Nat → ClassId} (h : Nat) (q : Nat → Nat) (fi : Nat → Int32) (fs : Nat → Int32) (ga : Nat → Nat → Int32) (gs : Nat → Nat → Int32) (pl : Nat → Int32) (it : Nat → Int64) (asd : Nat → Int64) (a1 : Int32) (o : Int32) (hf : k_X7_bits a1 = some o) : CI l D cA yX7_bits cX7_bits 4 (some .int) 1 22 [.ref h, .int a1] (Mw h q cA fi fs ga gs pl it asd) 0 0 (fun r w => r = o ∧ w = (Mw h q cA fi fs ga gs pl it asd)) := by
  intro sz
  refine met_start (by decide) rfl ?_
  intro p e s m args below meth c ls hsz hargs C0 hname hP hD hS hl
  generalize hAe : va_A (Mw h q cA fi fs ga gs pl it asd) sz = A at C0 hD hS ⊢
  obtain ⟨hx, hb, hr, hml, hown, hts, hlk, hK, hA⟩ := id C0
  replace hl : lv_has ls 4 [(0, .ref h), (1, .int a1)] := hl
  obtain ⟨Q, hQ⟩ : ∃ Q : State → Prop, Q = QI below D A (fun r w => r = o ∧ w = (Mw h q cA fi fs ga gs pl it asd)) args s 0 0 := ⟨_, rfl⟩
  refine cast (by rw [hQ]) (?_ : W p l e (RMx 1 22 0 0) s m args below meth c s.heap [] 0 0 Q (F0 m 0 ls []))
  have J4 : ∀ n : Nat, ∀ (x2 : Int32) (x3 : Int32), k_X7_bits_4 a1 n x2 x3 = some o → ∀ (H : Heap) (locs : List Loc), va_P D vwCl (Mw h q cA fi fs ga gs pl it asd) H → va_D A (Mw h q cA fi fs ga gs pl it asd) → va_S A s.heap H locs → ∀ ls : Array Slot, lv_has ls 4 [(0, .ref h), (1, .int a1), (2, .int x2), (3, .int x3)] → W p l e (RMx 1 22 0 0) s m args below meth c H locs 0 0 Q (F0 m 4 ls []) := by
    intro  n
    induction n with
    | zero =>
      intro x2 x3 hf
      rw [k_X7_bits_4] at hf
      cases hf
    | succ n ih =>
      intro x2 x3 hf H locs hP hD hS ls hl
      rw [k_X7_bits_4] at hf
      refine lv_iload_n hx hb dX7_bits_4 rfl (lv_at hl 3 rfl) ?_
      refine lv_bipush (v := 6) hx hb dX7_bits_5 (by decide) ?_
      refine lv_icmp_ge (tgt := 33) hx hb dX7_bits_7 (by decide) (fun c1 => ?_) (fun c1 => ?_)
      · replace hf := it_of c1 hf
        refine lv_iload_n hx hb dX7_bits_33 rfl (lv_at hl 2 rfl) ?_
        rw [hQ]
        exact ret_i C0 hP hD hS (by have e := Option.some.inj hf; rw [← e]; exact ⟨rfl, rfl⟩) dX7_bits_34
      · replace hf := ie_of c1 hf
        refine lv_iload_n hx hb dX7_bits_10 rfl (lv_at hl 2 rfl) ?_
        refine lv_aload_n hx hb dX7_bits_11 rfl (lv_at hl 0 rfl) ?_
        refine lv_iload_n hx hb dX7_bits_12 rfl (lv_at hl 1 rfl) ?_
        refine lv_iload_n hx hb dX7_bits_13 rfl (lv_at hl 3 rfl) ?_
        obtain ⟨r2q, hq3, hf⟩ := b1_of hf
        refine callVI (As := [.int a1, .int x3]) (rest := [.int x2]) (wr := (Mw h q cA fi fs ga gs pl it asd)) C0 (c_X7_has h a1 x3 _ hq3) lk_X7_233_X7_has rfl hP hD hS (List.Perm.refl _) 0 7 rfl rfl rfl hl.1 rfl rfl (Nat.le_of_ble_eq_true rfl) dX7_bits_14 ⟨Nat.zero_le _, Nat.zero_le _⟩ (fun r2 w H locs hw hP hD hS => ?_)
        obtain ⟨⟨e1, e2⟩, z4⟩ := hw
        replace e1 : r2 = r2q := e1
        subst e1
        subst e2
        replace hP : va_P D vwCl (Mw h q cA fi fs ga gs pl it asd) H := hP
        replace hD : va_D A (Mw h q cA fi fs ga gs pl it asd) := hD
        refine lv_if_eq (tgt := 24) hx hb dX7_bits_17 (by decide) (fun c5 => ?_) (fun c5 => ?_)
        · replace hf := it_of c5 hf
          refine lv_iconst (v := 0) hx hb dX7_bits_24 (by decide) ?_
          refine lv_iadd hx hb dX7_bits_25 ?_
          refine lv_istore_n (lv' := [(2, .int (x2 + 0)), (0, .ref h), (1, .int a1), (3, .int x3)]) hx hb dX7_bits_26 rfl hl (by decide) rfl (fun ls hl => ?_)
          refine lv_iinc (v := (x3 + 1)) (lv' := [(3, .int (x3 + 1)), (2, .int (x2 + 0)), (0, .ref h), (1, .int a1)]) hx hb dX7_bits_27 hl (k := 3) rfl rfl (by decide) rfl (fun ls hl => ?_)
          refine lv_goto (tgt := 4) hx hb dX7_bits_30 (by decide) ?_
          exact ih (x2 + 0) (x3 + 1) hf _ _ hP hD hS _ (lv_sub hl [2, 3, 1, 0] rfl)
        · replace hf := ie_of c5 hf
          refine lv_iconst (v := 1) hx hb dX7_bits_20 (by decide) ?_
          refine lv_goto (tgt := 25) hx hb dX7_bits_21 (by decide) ?_
          refine lv_iadd hx hb dX7_bits_25 ?_
          refine lv_istore_n (lv' := [(2, .int (x2 + 1)), (0, .ref h), (1, .int a1), (3, .int x3)]) hx hb dX7_bits_26 rfl hl (by decide) rfl (fun ls hl => ?_)
          refine lv_iinc (v := (x3 + 1)) (lv' := [(3, .int (x3 + 1)), (2, .int (x2 + 1)), (0, .ref h), (1, .int a1)]) hx hb dX7_bits_27 hl (k := 3) rfl rfl (by decide) rfl (fun ls hl => ?_)
          refine lv_goto (tgt := 4) hx hb dX7_bits_30 (by decide) ?_
          exact ih (x2 + 1) (x3 + 1) hf _ _ hP hD hS _ (lv_sub hl [2, 3, 1, 0] rfl)
  unfold k_X7_bits at hf
  refine lv_iconst (v := 0) hx hb dX7_bits_0 (by decide) ?_
  refine lv_istore_n (lv' := [(2, .int 0), (0, .ref h), (1, .int a1)]) hx hb dX7_bits_1 rfl hl (by decide) rfl (fun ls hl => ?_)
  refine lv_iconst (v := 0) hx hb dX7_bits_2 (by decide) ?_
  refine lv_istore_n (lv' := [(3, .int 0), (2, .int 0), (0, .ref h), (1, .int a1)]) hx hb dX7_bits_3 rfl hl (by decide) rfl (fun ls hl => ?_)
  exact J4 100000 0 0 hf _ _ hP hD hS _ (lv_sub hl [2, 3, 1, 0] rfl)
-- isMan
noncomputable def k_X7_isMan (a1 : Int32) (fi : Nat → Int32) : Option Int32 := b1 (k_X7_in a1 0 ((fi 0) - 1)) (fun r1 => some r1)
set_option maxHeartbeats 4000000 in
set_option maxRecDepth 100000 in
theorem c_X7_isMan {l : Launch} {D : va_G} {cA : Nat → ClassId} (h : Nat) (q : Nat → Nat) (fi : Nat → Int32) (fs : Nat → Int32) (ga : Nat → Nat → Int32) (gs : Nat → Nat → Int32) (pl : Nat → Int32) (it : Nat → Int64) (asd : Nat → Int64) (a1 : Int32) (o : Int32) (hf : k_X7_isMan a1 fi = some o) : CI l D cA yX7_isMan cX7_isMan 2 (some .boolean) 1 23 [.ref h, .int a1] (Mw h q cA fi fs ga gs pl it asd) 0 0 (fun r w => (r = o ∧ w = (Mw h q cA fi fs ga gs pl it asd)) ∧ narrow .boolean (.int r) = .int r) := by
  intro sz
  refine met_start (by decide) rfl ?_
  intro p e s m args below meth c ls hsz hargs C0 hname hP hD hS hl
  generalize hAe : va_A (Mw h q cA fi fs ga gs pl it asd) sz = A at C0 hD hS ⊢
  obtain ⟨hx, hb, hr, hml, hown, hts, hlk, hK, hA⟩ := id C0
  replace hl : lv_has ls 2 [(0, .ref h), (1, .int a1)] := hl
  obtain ⟨Q, hQ⟩ : ∃ Q : State → Prop, Q = QI below D A (fun r w => (r = o ∧ w = (Mw h q cA fi fs ga gs pl it asd)) ∧ narrow .boolean (.int r) = .int r) args s 0 0 := ⟨_, rfl⟩
  refine cast (by rw [hQ]) (?_ : W p l e (RMx 1 23 0 0) s m args below meth c s.heap [] 0 0 Q (F0 m 0 ls []))
  unfold k_X7_isMan at hf
  refine lv_aload_n hx hb dX7_isMan_0 rfl (lv_at hl 0 rfl) ?_
  refine lv_iload_n hx hb dX7_isMan_1 rfl (lv_at hl 1 rfl) ?_
  refine lv_iconst (v := 0) hx hb dX7_isMan_2 (by decide) ?_
  refine lv_aload_n hx hb dX7_isMan_3 rfl (lv_at hl 0 rfl) ?_
  refine va_get (D := D) (ci := 7) (v := .int (fi 0)) (C := RX7) (T := TX7) (N := 73) hx hb hts fw_7 hown hK hP 0 rfl rfl 0 (by decide) (hts _ m_fieldLink_M_7_M_men_I) (fun _ h9 => h9) rfl dX7_isMan_4 ?_
  refine lv_iconst (v := 1) hx hb dX7_isMan_7 (by decide) ?_
  refine lv_isub hx hb dX7_isMan_8 ?_
  obtain ⟨r1q, hq2, hf⟩ := b1_of hf
  refine callVI (As := [.int a1, .int 0, .int ((fi 0) - 1)]) (rest := []) (wr := (Mw h q cA fi fs ga gs pl it asd)) C0 (c_X7_in h a1 0 ((fi 0) - 1) _ hq2) lk_X7_237_X7_in rfl hP hD hS (List.Perm.refl _) 0 7 rfl rfl rfl hl.1 rfl rfl (Nat.le_of_ble_eq_true rfl) dX7_isMan_9 ⟨Nat.zero_le _, Nat.zero_le _⟩ (fun r1 w H locs hw hP hD hS => ?_)
  obtain ⟨⟨e1, e2⟩, z3⟩ := hw
  replace e1 : r1 = r1q := e1
  subst e1
  subst e2
  replace hP : va_P D vwCl (Mw h q cA fi fs ga gs pl it asd) H := hP
  replace hD : va_D A (Mw h q cA fi fs ga gs pl it asd) := hD
  rw [hQ]
  exact ret_z C0 hP hD hS (by have e := Option.some.inj hf; rw [← e]; exact ⟨rfl, rfl⟩) z3 dX7_isMan_12
-- isNerve
noncomputable def k_X7_isNerve (a1 : Int32) : Option Int32 := b1 (k_X7_in a1 0 20) (fun r1 => some r1)
set_option maxHeartbeats 4000000 in
set_option maxRecDepth 100000 in
theorem c_X7_isNerve {l : Launch} {D : va_G} {cA : Nat → ClassId} (h : Nat) (q : Nat → Nat) (fi : Nat → Int32) (fs : Nat → Int32) (ga : Nat → Nat → Int32) (gs : Nat → Nat → Int32) (pl : Nat → Int32) (it : Nat → Int64) (asd : Nat → Int64) (a1 : Int32) (o : Int32) (hf : k_X7_isNerve a1 = some o) : CI l D cA yX7_isNerve cX7_isNerve 2 (some .boolean) 1 23 [.ref h, .int a1] (Mw h q cA fi fs ga gs pl it asd) 0 0 (fun r w => (r = o ∧ w = (Mw h q cA fi fs ga gs pl it asd)) ∧ narrow .boolean (.int r) = .int r) := by
  intro sz
  refine met_start (by decide) rfl ?_
  intro p e s m args below meth c ls hsz hargs C0 hname hP hD hS hl
  generalize hAe : va_A (Mw h q cA fi fs ga gs pl it asd) sz = A at C0 hD hS ⊢
  obtain ⟨hx, hb, hr, hml, hown, hts, hlk, hK, hA⟩ := id C0
  replace hl : lv_has ls 2 [(0, .ref h), (1, .int a1)] := hl
  obtain ⟨Q, hQ⟩ : ∃ Q : State → Prop, Q = QI below D A (fun r w => (r = o ∧ w = (Mw h q cA fi fs ga gs pl it asd)) ∧ narrow .boolean (.int r) = .int r) args s 0 0 := ⟨_, rfl⟩
  refine cast (by rw [hQ]) (?_ : W p l e (RMx 1 23 0 0) s m args below meth c s.heap [] 0 0 Q (F0 m 0 ls []))
  unfold k_X7_isNerve at hf
  refine lv_aload_n hx hb dX7_isNerve_0 rfl (lv_at hl 0 rfl) ?_
  refine lv_iload_n hx hb dX7_isNerve_1 rfl (lv_at hl 1 rfl) ?_
  refine lv_iconst (v := 0) hx hb dX7_isNerve_2 (by decide) ?_
  refine lv_bipush (v := 20) hx hb dX7_isNerve_3 (by decide) ?_
  obtain ⟨r1q, hq2, hf⟩ := b1_of hf
  refine callVI (As := [.int a1, .int 0, .int 20]) (rest := []) (wr := (Mw h q cA fi fs ga gs pl it asd)) C0 (c_X7_in h a1 0 20 _ hq2) lk_X7_237_X7_in rfl hP hD hS (List.Perm.refl _) 0 7 rfl rfl rfl hl.1 rfl rfl (Nat.le_of_ble_eq_true rfl) dX7_isNerve_5 ⟨Nat.zero_le _, Nat.zero_le _⟩ (fun r1 w H locs hw hP hD hS => ?_)
  obtain ⟨⟨e1, e2⟩, z3⟩ := hw
  replace e1 : r1 = r1q := e1
  subst e1
  subst e2
  replace hP : va_P D vwCl (Mw h q cA fi fs ga gs pl it asd) H := hP
  replace hD : va_D A (Mw h q cA fi fs ga gs pl it asd) := hD
  rw [hQ]
  exact ret_z C0 hP hD hS (by have e := Option.some.inj hf; rw [← e]; exact ⟨rfl, rfl⟩) z3 dX7_isNerve_8
-- man
noncomputable def k_X7_man_107  : Nat → Int32 → (Nat → Int32) → (Nat → Nat → Int32) → Option (Int32 × (Nat → Int32) × (Nat → Nat → Int32))
  | 0, _, _, _ => none
  | n + 1, x4, fi, ga => if 4 ≤ x4 then some ((((fi 0) + 1) - 1), (upd fi 0 ((fi 0) + 1)), ga) else gd ((4 * (fi 0)) + x4) 24 (k_X7_man_107 n (x4 + 1) fi (va_up ga 10 (upd (ga 10) ((4 * (fi 0)) + x4).toNatClampNeg 0)))
noncomputable def k_X7_man (a1 : Int32) (a2 : Int32) (a3 : Int32) (fi0 : Nat → Int32) (ga0 : Nat → Nat → Int32) : Option (Int32 × (Nat → Int32) × (Nat → Nat → Int32)) := b1 (k_X7_in a1 0 6) (fun r1 => if r1 = 0 then some ((-1), fi0, ga0) else b1 (k_X7_in a2 0 9) (fun r5 => if r5 = 0 then some ((-2), fi0, ga0) else b1 (k_X7_isNerve a3) (fun r9 => if r9 = 0 then some ((-2), fi0, ga0) else if (fi0 0) = 6 then some ((-4), fi0, ga0) else gd (fi0 0) 6 (gd (fi0 0) 6 (gd (fi0 0) 6 (gd (fi0 0) 6 (k_X7_man_107 100000 0 (upd fi0 1 ((fi0 1) &&& ((1 <<< ((fi0 0) &&& 31)) ^^^ (-1)))) (va_up (va_up (va_up (va_up ga0 6 (upd (ga0 6) (fi0 0).toNatClampNeg a1)) 7 (upd ((va_up ga0 6 (upd (ga0 6) (fi0 0).toNatClampNeg a1)) 7) (fi0 0).toNatClampNeg a2)) 8 (upd ((va_up (va_up ga0 6 (upd (ga0 6) (fi0 0).toNatClampNeg a1)) 7 (upd ((va_up ga0 6 (upd (ga0 6) (fi0 0).toNatClampNeg a1)) 7) (fi0 0).toNatClampNeg a2)) 8) (fi0 0).toNatClampNeg a3)) 9 (upd ((va_up (va_up (va_up ga0 6 (upd (ga0 6) (fi0 0).toNatClampNeg a1)) 7 (upd ((va_up ga0 6 (upd (ga0 6) (fi0 0).toNatClampNeg a1)) 7) (fi0 0).toNatClampNeg a2)) 8 (upd ((va_up (va_up ga0 6 (upd (ga0 6) (fi0 0).toNatClampNeg a1)) 7 (upd ((va_up ga0 6 (upd (ga0 6) (fi0 0).toNatClampNeg a1)) 7) (fi0 0).toNatClampNeg a2)) 8) (fi0 0).toNatClampNeg a3)) 9) (fi0 0).toNatClampNeg 0)))))))))
set_option maxHeartbeats 4000000 in
set_option maxRecDepth 100000 in
theorem c_X7_man {l : Launch} {D : va_G} {cA : Nat → ClassId} (h : Nat) (q : Nat → Nat) (fi0 : Nat → Int32) (fs : Nat → Int32) (ga0 : Nat → Nat → Int32) (gs : Nat → Nat → Int32) (pl : Nat → Int32) (it : Nat → Int64) (asd : Nat → Int64) (a1 : Int32) (a2 : Int32) (a3 : Int32) (o : Int32 × (Nat → Int32) × (Nat → Nat → Int32)) (hf : k_X7_man a1 a2 a3 fi0 ga0 = some o) : CI l D cA yX7_man cX7_man 5 (some .int) 2 44 [.ref h, .int a1, .int a2, .int a3] (Mw h q cA fi0 fs ga0 gs pl it asd) 0 0 (fun r w => r = o.1 ∧ w = (Mw h q cA o.2.1 fs o.2.2 gs pl it asd)) := by
  intro sz
  refine met_start (by decide) rfl ?_
  intro p e s m args below meth c ls hsz hargs C0 hname hP hD hS hl
  generalize hAe : va_A (Mw h q cA fi0 fs ga0 gs pl it asd) sz = A at C0 hD hS ⊢
  obtain ⟨hx, hb, hr, hml, hown, hts, hlk, hK, hA⟩ := id C0
  replace hl : lv_has ls 5 [(0, .ref h), (1, .int a1), (2, .int a2), (3, .int a3)] := hl
  obtain ⟨Q, hQ⟩ : ∃ Q : State → Prop, Q = QI below D A (fun r w => r = o.1 ∧ w = (Mw h q cA o.2.1 fs o.2.2 gs pl it asd)) args s 0 0 := ⟨_, rfl⟩
  refine cast (by rw [hQ]) (?_ : W p l e (RMx 2 44 0 0) s m args below meth c s.heap [] 0 0 Q (F0 m 0 ls []))
  have J107 : ∀ n : Nat, ∀ (x4 : Int32) (fi : Nat → Int32) (ga : Nat → Nat → Int32), k_X7_man_107 n x4 fi ga = some o → ∀ (H : Heap) (locs : List Loc), va_P D vwCl (Mw h q cA fi fs ga gs pl it asd) H → va_D A (Mw h q cA fi fs ga gs pl it asd) → va_S A s.heap H locs → ∀ ls : Array Slot, lv_has ls 5 [(0, .ref h), (4, .int x4)] → W p l e (RMx 2 44 0 0) s m args below meth c H locs 0 0 Q (F0 m 107 ls []) := by
    intro  n
    induction n with
    | zero =>
      intro x4 fi ga hf
      rw [k_X7_man_107] at hf
      cases hf
    | succ n ih =>
      intro x4 fi ga hf H locs hP hD hS ls hl
      rw [k_X7_man_107] at hf
      refine lv_iload hx hb dX7_man_107 (lv_at hl 1 rfl) ?_
      refine lv_iconst (v := 4) hx hb dX7_man_109 (by decide) ?_
      refine lv_icmp_ge (tgt := 134) hx hb dX7_man_110 (by decide) (fun c1 => ?_) (fun c1 => ?_)
      · replace hf := it_of c1 hf
        refine lv_aload_n hx hb dX7_man_134 rfl (lv_at hl 0 rfl) ?_
        refine lv_dup hx hb dX7_man_135 rfl ?_
        refine va_get (D := D) (ci := 7) (v := .int (fi 0)) (C := RX7) (T := TX7) (N := 73) hx hb hts fw_7 hown hK hP 0 rfl rfl 0 (by decide) (hts _ m_fieldLink_M_7_M_men_I) (fun _ h9 => h9) rfl dX7_man_136 ?_
        refine lv_iconst (v := 1) hx hb dX7_man_139 (by decide) ?_
        refine lv_iadd hx hb dX7_man_140 ?_
        refine va_put (D := D) (ci := 7) (v := .int ((fi 0) + 1)) (ty := .int) (C := RX7) (T := TX7) (N := 73) hx hb hts fw_7 tyX7 tyX7_ok nmX7 hown hK hP hD hS 0 rfl rfl 0 (by decide) (hts _ m_fieldLink_M_7_M_men_I) (fun _ h9 => h9) rfl (by decide +kernel) rfl rfl (Nat.le_of_ble_eq_true rfl) dX7_man_141 (fun H locs hP hD hS => ?_)
        replace hP : va_P D vwCl (Mw h q cA (upd fi 0 ((fi 0) + 1)) fs ga gs pl it asd) H := hP
        replace hD : va_D A (Mw h q cA (upd fi 0 ((fi 0) + 1)) fs ga gs pl it asd) := hD
        refine lv_aload_n hx hb dX7_man_144 rfl (lv_at hl 0 rfl) ?_
        refine va_get (D := D) (ci := 7) (v := .int ((fi 0) + 1)) (C := RX7) (T := TX7) (N := 73) hx hb hts fw_7 hown hK hP 0 rfl rfl 0 (by decide) (hts _ m_fieldLink_M_7_M_men_I) (fun _ h9 => h9) rfl dX7_man_145 ?_
        refine lv_iconst (v := 1) hx hb dX7_man_148 (by decide) ?_
        refine lv_isub hx hb dX7_man_149 ?_
        rw [hQ]
        exact ret_i C0 hP hD hS (by have e := Option.some.inj hf; rw [← e]; exact ⟨rfl, rfl⟩) dX7_man_150
      · replace hf := ie_of c1 hf
        refine lv_aload_n hx hb dX7_man_113 rfl (lv_at hl 0 rfl) ?_
        refine va_get (D := D) (ci := 7) (v := .ref (q 10)) (C := RX7) (T := TX7) (N := 73) hx hb hts fw_7 hown hK hP 0 rfl rfl 10 (by decide) (hts _ m_fieldLink_M_41_M_rows_aI) (fun _ h9 => h9) rfl dX7_man_114 ?_
        refine lv_iconst (v := 4) hx hb dX7_man_117 (by decide) ?_
        refine lv_aload_n hx hb dX7_man_118 rfl (lv_at hl 0 rfl) ?_
        refine va_get (D := D) (ci := 7) (v := .int (fi 0)) (C := RX7) (T := TX7) (N := 73) hx hb hts fw_7 hown hK hP 0 rfl rfl 0 (by decide) (hts _ m_fieldLink_M_7_M_men_I) (fun _ h9 => h9) rfl dX7_man_119 ?_
        refine lv_imul hx hb dX7_man_122 ?_
        refine lv_iload hx hb dX7_man_123 (lv_at hl 1 rfl) ?_
        refine lv_iadd hx hb dX7_man_125 ?_
        refine lv_iconst (v := 0) hx hb dX7_man_126 (by decide) ?_
        obtain ⟨hi2, hf⟩ := gd_of hf
        refine va_iast hx hb hK hP hD hS 5 0 rfl rfl hi2 dX7_man_127 (fun H locs hP hD hS => ?_)
        replace hP : va_P D vwCl (Mw h q cA fi fs (va_up ga 10 (upd (ga 10) ((4 * (fi 0)) + x4).toNatClampNeg 0)) gs pl it asd) H := hP
        replace hD : va_D A (Mw h q cA fi fs (va_up ga 10 (upd (ga 10) ((4 * (fi 0)) + x4).toNatClampNeg 0)) gs pl it asd) := hD
        refine lv_iinc (v := (x4 + 1)) (lv' := [(4, .int (x4 + 1)), (0, .ref h)]) hx hb dX7_man_128 hl (k := 1) rfl rfl (by decide) rfl (fun ls hl => ?_)
        refine lv_goto (tgt := 107) hx hb dX7_man_131 (by decide) ?_
        exact ih (x4 + 1) fi (va_up ga 10 (upd (ga 10) ((4 * (fi 0)) + x4).toNatClampNeg 0)) hf _ _ hP hD hS _ (lv_sub hl [1, 0] rfl)
  unfold k_X7_man at hf
  refine lv_aload_n hx hb dX7_man_0 rfl (lv_at hl 0 rfl) ?_
  refine lv_iload_n hx hb dX7_man_1 rfl (lv_at hl 1 rfl) ?_
  refine lv_iconst (v := 0) hx hb dX7_man_2 (by decide) ?_
  refine lv_bipush (v := 6) hx hb dX7_man_3 (by decide) ?_
  obtain ⟨r1q, hq2, hf⟩ := b1_of hf
  refine callVI (As := [.int a1, .int 0, .int 6]) (rest := []) (wr := (Mw h q cA fi0 fs ga0 gs pl it asd)) C0 (c_X7_in h a1 0 6 _ hq2) lk_X7_237_X7_in rfl hP hD hS (List.Perm.refl _) 0 7 rfl rfl rfl hl.1 rfl rfl (Nat.le_of_ble_eq_true rfl) dX7_man_5 ⟨Nat.zero_le _, Nat.zero_le _⟩ (fun r1 w H locs hw hP hD hS => ?_)
  obtain ⟨⟨e1, e2⟩, z3⟩ := hw
  replace e1 : r1 = r1q := e1
  subst e1
  subst e2
  replace hP : va_P D vwCl (Mw h q cA fi0 fs ga0 gs pl it asd) H := hP
  replace hD : va_D A (Mw h q cA fi0 fs ga0 gs pl it asd) := hD
  refine lv_if_ne (tgt := 13) hx hb dX7_man_8 (by decide) (fun c4 => ?_) (fun c4 => ?_)
  · replace hf := ie_of c4 hf
    refine lv_aload_n hx hb dX7_man_13 rfl (lv_at hl 0 rfl) ?_
    refine lv_iload_n hx hb dX7_man_14 rfl (lv_at hl 2 rfl) ?_
    refine lv_iconst (v := 0) hx hb dX7_man_15 (by decide) ?_
    refine lv_bipush (v := 9) hx hb dX7_man_16 (by decide) ?_
    obtain ⟨r5q, hq6, hf⟩ := b1_of hf
    refine callVI (As := [.int a2, .int 0, .int 9]) (rest := []) (wr := (Mw h q cA fi0 fs ga0 gs pl it asd)) C0 (c_X7_in h a2 0 9 _ hq6) lk_X7_237_X7_in rfl hP hD hS (List.Perm.refl _) 0 7 rfl rfl rfl hl.1 rfl rfl (Nat.le_of_ble_eq_true rfl) dX7_man_18 ⟨Nat.zero_le _, Nat.zero_le _⟩ (fun r5 w H locs hw hP hD hS => ?_)
    obtain ⟨⟨e1, e2⟩, z7⟩ := hw
    replace e1 : r5 = r5q := e1
    subst e1
    subst e2
    replace hP : va_P D vwCl (Mw h q cA fi0 fs ga0 gs pl it asd) H := hP
    replace hD : va_D A (Mw h q cA fi0 fs ga0 gs pl it asd) := hD
    refine lv_if_eq (tgt := 32) hx hb dX7_man_21 (by decide) (fun c8 => ?_) (fun c8 => ?_)
    · replace hf := it_of c8 hf
      refine lv_bipush (v := (-2)) hx hb dX7_man_32 (by decide) ?_
      rw [hQ]
      exact ret_i C0 hP hD hS (by have e := Option.some.inj hf; rw [← e]; exact ⟨rfl, rfl⟩) dX7_man_34
    · replace hf := ie_of c8 hf
      refine lv_aload_n hx hb dX7_man_24 rfl (lv_at hl 0 rfl) ?_
      refine lv_iload_n hx hb dX7_man_25 rfl (lv_at hl 3 rfl) ?_
      obtain ⟨r9q, hq10, hf⟩ := b1_of hf
      refine callVI (As := [.int a3]) (rest := []) (wr := []) C0 (c_X7_isNerve h q fi0 fs ga0 gs pl it asd a3 _ hq10) lk_X7_241_X7_isNerve rfl hP hD hS perm_nil 0 7 rfl rfl rfl hl.1 rfl rfl (Nat.le_of_ble_eq_true rfl) dX7_man_26 ⟨Nat.zero_le _, Nat.zero_le _⟩ (fun r9 w H locs hw hP hD hS => ?_)
      obtain ⟨⟨e1, e2⟩, z11⟩ := hw
      replace e1 : r9 = r9q := e1
      subst e1
      subst e2
      replace hP : va_P D vwCl (Mw h q cA fi0 fs ga0 gs pl it asd) H := hP.nil
      replace hD : va_D A (Mw h q cA fi0 fs ga0 gs pl it asd) := hD.nil
      refine lv_if_ne (tgt := 35) hx hb dX7_man_29 (by decide) (fun c12 => ?_) (fun c12 => ?_)
      · replace hf := ie_of c12 hf
        refine lv_aload_n hx hb dX7_man_35 rfl (lv_at hl 0 rfl) ?_
        refine va_get (D := D) (ci := 7) (v := .int (fi0 0)) (C := RX7) (T := TX7) (N := 73) hx hb hts fw_7 hown hK hP 0 rfl rfl 0 (by decide) (hts _ m_fieldLink_M_7_M_men_I) (fun _ h9 => h9) rfl dX7_man_36 ?_
        refine lv_bipush (v := 6) hx hb dX7_man_39 (by decide) ?_
        refine lv_icmp_ne (tgt := 47) hx hb dX7_man_41 (by decide) (fun c13 => ?_) (fun c13 => ?_)
        · replace hf := ie_of c13 hf
          refine lv_aload_n hx hb dX7_man_47 rfl (lv_at hl 0 rfl) ?_
          refine va_get (D := D) (ci := 7) (v := .ref (q 6)) (C := RX7) (T := TX7) (N := 73) hx hb hts fw_7 hown hK hP 0 rfl rfl 6 (by decide) (hts _ m_fieldLink_M_28_M_kind_aI) (fun _ h9 => h9) rfl dX7_man_48 ?_
          refine lv_aload_n hx hb dX7_man_51 rfl (lv_at hl 0 rfl) ?_
          refine va_get (D := D) (ci := 7) (v := .int (fi0 0)) (C := RX7) (T := TX7) (N := 73) hx hb hts fw_7 hown hK hP 0 rfl rfl 0 (by decide) (hts _ m_fieldLink_M_7_M_men_I) (fun _ h9 => h9) rfl dX7_man_52 ?_
          refine lv_iload_n hx hb dX7_man_55 rfl (lv_at hl 1 rfl) ?_
          obtain ⟨hi14, hf⟩ := gd_of hf
          refine va_iast hx hb hK hP hD hS 1 0 rfl rfl hi14 dX7_man_56 (fun H locs hP hD hS => ?_)
          replace hP : va_P D vwCl (Mw h q cA fi0 fs (va_up ga0 6 (upd (ga0 6) (fi0 0).toNatClampNeg a1)) gs pl it asd) H := hP
          replace hD : va_D A (Mw h q cA fi0 fs (va_up ga0 6 (upd (ga0 6) (fi0 0).toNatClampNeg a1)) gs pl it asd) := hD
          refine lv_aload_n hx hb dX7_man_57 rfl (lv_at hl 0 rfl) ?_
          refine va_get (D := D) (ci := 7) (v := .ref (q 7)) (C := RX7) (T := TX7) (N := 73) hx hb hts fw_7 hown hK hP 0 rfl rfl 7 (by decide) (hts _ m_fieldLink_M_32_M_v_aI) (fun _ h9 => h9) rfl dX7_man_58 ?_
          refine lv_aload_n hx hb dX7_man_61 rfl (lv_at hl 0 rfl) ?_
          refine va_get (D := D) (ci := 7) (v := .int (fi0 0)) (C := RX7) (T := TX7) (N := 73) hx hb hts fw_7 hown hK hP 0 rfl rfl 0 (by decide) (hts _ m_fieldLink_M_7_M_men_I) (fun _ h9 => h9) rfl dX7_man_62 ?_
          refine lv_iload_n hx hb dX7_man_65 rfl (lv_at hl 2 rfl) ?_
          obtain ⟨hi15, hf⟩ := gd_of hf
          refine va_iast hx hb hK hP hD hS 2 0 rfl rfl hi15 dX7_man_66 (fun H locs hP hD hS => ?_)
          replace hP : va_P D vwCl (Mw h q cA fi0 fs (va_up (va_up ga0 6 (upd (ga0 6) (fi0 0).toNatClampNeg a1)) 7 (upd ((va_up ga0 6 (upd (ga0 6) (fi0 0).toNatClampNeg a1)) 7) (fi0 0).toNatClampNeg a2)) gs pl it asd) H := hP
          replace hD : va_D A (Mw h q cA fi0 fs (va_up (va_up ga0 6 (upd (ga0 6) (fi0 0).toNatClampNeg a1)) 7 (upd ((va_up ga0 6 (upd (ga0 6) (fi0 0).toNatClampNeg a1)) 7) (fi0 0).toNatClampNeg a2)) gs pl it asd) := hD
          refine lv_aload_n hx hb dX7_man_67 rfl (lv_at hl 0 rfl) ?_
          refine va_get (D := D) (ci := 7) (v := .ref (q 8)) (C := RX7) (T := TX7) (N := 73) hx hb hts fw_7 hown hK hP 0 rfl rfl 8 (by decide) (hts _ m_fieldLink_M_35_M_nerve_aI) (fun _ h9 => h9) rfl dX7_man_68 ?_
          refine lv_aload_n hx hb dX7_man_71 rfl (lv_at hl 0 rfl) ?_
          refine va_get (D := D) (ci := 7) (v := .int (fi0 0)) (C := RX7) (T := TX7) (N := 73) hx hb hts fw_7 hown hK hP 0 rfl rfl 0 (by decide) (hts _ m_fieldLink_M_7_M_men_I) (fun _ h9 => h9) rfl dX7_man_72 ?_
          refine lv_iload_n hx hb dX7_man_75 rfl (lv_at hl 3 rfl) ?_
          obtain ⟨hi16, hf⟩ := gd_of hf
          refine va_iast hx hb hK hP hD hS 3 0 rfl rfl hi16 dX7_man_76 (fun H locs hP hD hS => ?_)
          replace hP : va_P D vwCl (Mw h q cA fi0 fs (va_up (va_up (va_up ga0 6 (upd (ga0 6) (fi0 0).toNatClampNeg a1)) 7 (upd ((va_up ga0 6 (upd (ga0 6) (fi0 0).toNatClampNeg a1)) 7) (fi0 0).toNatClampNeg a2)) 8 (upd ((va_up (va_up ga0 6 (upd (ga0 6) (fi0 0).toNatClampNeg a1)) 7 (upd ((va_up ga0 6 (upd (ga0 6) (fi0 0).toNatClampNeg a1)) 7) (fi0 0).toNatClampNeg a2)) 8) (fi0 0).toNatClampNeg a3)) gs pl it asd) H := hP
          replace hD : va_D A (Mw h q cA fi0 fs (va_up (va_up (va_up ga0 6 (upd (ga0 6) (fi0 0).toNatClampNeg a1)) 7 (upd ((va_up ga0 6 (upd (ga0 6) (fi0 0).toNatClampNeg a1)) 7) (fi0 0).toNatClampNeg a2)) 8 (upd ((va_up (va_up ga0 6 (upd (ga0 6) (fi0 0).toNatClampNeg a1)) 7 (upd ((va_up ga0 6 (upd (ga0 6) (fi0 0).toNatClampNeg a1)) 7) (fi0 0).toNatClampNeg a2)) 8) (fi0 0).toNatClampNeg a3)) gs pl it asd) := hD
          refine lv_aload_n hx hb dX7_man_77 rfl (lv_at hl 0 rfl) ?_
          refine va_get (D := D) (ci := 7) (v := .ref (q 9)) (C := RX7) (T := TX7) (N := 73) hx hb hts fw_7 hown hK hP 0 rfl rfl 9 (by decide) (hts _ m_fieldLink_M_38_M_spell_aI) (fun _ h9 => h9) rfl dX7_man_78 ?_
          refine lv_aload_n hx hb dX7_man_81 rfl (lv_at hl 0 rfl) ?_
          refine va_get (D := D) (ci := 7) (v := .int (fi0 0)) (C := RX7) (T := TX7) (N := 73) hx hb hts fw_7 hown hK hP 0 rfl rfl 0 (by decide) (hts _ m_fieldLink_M_7_M_men_I) (fun _ h9 => h9) rfl dX7_man_82 ?_
          refine lv_iconst (v := 0) hx hb dX7_man_85 (by decide) ?_
          obtain ⟨hi17, hf⟩ := gd_of hf
          refine va_iast hx hb hK hP hD hS 4 0 rfl rfl hi17 dX7_man_86 (fun H locs hP hD hS => ?_)
          replace hP : va_P D vwCl (Mw h q cA fi0 fs (va_up (va_up (va_up (va_up ga0 6 (upd (ga0 6) (fi0 0).toNatClampNeg a1)) 7 (upd ((va_up ga0 6 (upd (ga0 6) (fi0 0).toNatClampNeg a1)) 7) (fi0 0).toNatClampNeg a2)) 8 (upd ((va_up (va_up ga0 6 (upd (ga0 6) (fi0 0).toNatClampNeg a1)) 7 (upd ((va_up ga0 6 (upd (ga0 6) (fi0 0).toNatClampNeg a1)) 7) (fi0 0).toNatClampNeg a2)) 8) (fi0 0).toNatClampNeg a3)) 9 (upd ((va_up (va_up (va_up ga0 6 (upd (ga0 6) (fi0 0).toNatClampNeg a1)) 7 (upd ((va_up ga0 6 (upd (ga0 6) (fi0 0).toNatClampNeg a1)) 7) (fi0 0).toNatClampNeg a2)) 8 (upd ((va_up (va_up ga0 6 (upd (ga0 6) (fi0 0).toNatClampNeg a1)) 7 (upd ((va_up ga0 6 (upd (ga0 6) (fi0 0).toNatClampNeg a1)) 7) (fi0 0).toNatClampNeg a2)) 8) (fi0 0).toNatClampNeg a3)) 9) (fi0 0).toNatClampNeg 0)) gs pl it asd) H := hP
          replace hD : va_D A (Mw h q cA fi0 fs (va_up (va_up (va_up (va_up ga0 6 (upd (ga0 6) (fi0 0).toNatClampNeg a1)) 7 (upd ((va_up ga0 6 (upd (ga0 6) (fi0 0).toNatClampNeg a1)) 7) (fi0 0).toNatClampNeg a2)) 8 (upd ((va_up (va_up ga0 6 (upd (ga0 6) (fi0 0).toNatClampNeg a1)) 7 (upd ((va_up ga0 6 (upd (ga0 6) (fi0 0).toNatClampNeg a1)) 7) (fi0 0).toNatClampNeg a2)) 8) (fi0 0).toNatClampNeg a3)) 9 (upd ((va_up (va_up (va_up ga0 6 (upd (ga0 6) (fi0 0).toNatClampNeg a1)) 7 (upd ((va_up ga0 6 (upd (ga0 6) (fi0 0).toNatClampNeg a1)) 7) (fi0 0).toNatClampNeg a2)) 8 (upd ((va_up (va_up ga0 6 (upd (ga0 6) (fi0 0).toNatClampNeg a1)) 7 (upd ((va_up ga0 6 (upd (ga0 6) (fi0 0).toNatClampNeg a1)) 7) (fi0 0).toNatClampNeg a2)) 8) (fi0 0).toNatClampNeg a3)) 9) (fi0 0).toNatClampNeg 0)) gs pl it asd) := hD
          refine lv_aload_n hx hb dX7_man_87 rfl (lv_at hl 0 rfl) ?_
          refine lv_dup hx hb dX7_man_88 rfl ?_
          refine va_get (D := D) (ci := 7) (v := .int (fi0 1)) (C := RX7) (T := TX7) (N := 73) hx hb hts fw_7 hown hK hP 0 rfl rfl 1 (by decide) (hts _ m_fieldLink_M_13_M_up_I) (fun _ h9 => h9) rfl dX7_man_89 ?_
          refine lv_iconst (v := 1) hx hb dX7_man_92 (by decide) ?_
          refine lv_aload_n hx hb dX7_man_93 rfl (lv_at hl 0 rfl) ?_
          refine va_get (D := D) (ci := 7) (v := .int (fi0 0)) (C := RX7) (T := TX7) (N := 73) hx hb hts fw_7 hown hK hP 0 rfl rfl 0 (by decide) (hts _ m_fieldLink_M_7_M_men_I) (fun _ h9 => h9) rfl dX7_man_94 ?_
          refine lv_ishl hx hb dX7_man_97 ?_
          refine lv_iconst (v := (-1)) hx hb dX7_man_98 (by decide) ?_
          refine lv_ixor hx hb dX7_man_99 ?_
          refine lv_iand hx hb dX7_man_100 ?_
          refine va_put (D := D) (ci := 7) (v := .int ((fi0 1) &&& ((1 <<< ((fi0 0) &&& 31)) ^^^ (-1)))) (ty := .int) (C := RX7) (T := TX7) (N := 73) hx hb hts fw_7 tyX7 tyX7_ok nmX7 hown hK hP hD hS 0 rfl rfl 1 (by decide) (hts _ m_fieldLink_M_13_M_up_I) (fun _ h9 => h9) rfl (by decide +kernel) rfl rfl (Nat.le_of_ble_eq_true rfl) dX7_man_101 (fun H locs hP hD hS => ?_)
          replace hP : va_P D vwCl (Mw h q cA (upd fi0 1 ((fi0 1) &&& ((1 <<< ((fi0 0) &&& 31)) ^^^ (-1)))) fs (va_up (va_up (va_up (va_up ga0 6 (upd (ga0 6) (fi0 0).toNatClampNeg a1)) 7 (upd ((va_up ga0 6 (upd (ga0 6) (fi0 0).toNatClampNeg a1)) 7) (fi0 0).toNatClampNeg a2)) 8 (upd ((va_up (va_up ga0 6 (upd (ga0 6) (fi0 0).toNatClampNeg a1)) 7 (upd ((va_up ga0 6 (upd (ga0 6) (fi0 0).toNatClampNeg a1)) 7) (fi0 0).toNatClampNeg a2)) 8) (fi0 0).toNatClampNeg a3)) 9 (upd ((va_up (va_up (va_up ga0 6 (upd (ga0 6) (fi0 0).toNatClampNeg a1)) 7 (upd ((va_up ga0 6 (upd (ga0 6) (fi0 0).toNatClampNeg a1)) 7) (fi0 0).toNatClampNeg a2)) 8 (upd ((va_up (va_up ga0 6 (upd (ga0 6) (fi0 0).toNatClampNeg a1)) 7 (upd ((va_up ga0 6 (upd (ga0 6) (fi0 0).toNatClampNeg a1)) 7) (fi0 0).toNatClampNeg a2)) 8) (fi0 0).toNatClampNeg a3)) 9) (fi0 0).toNatClampNeg 0)) gs pl it asd) H := hP
          replace hD : va_D A (Mw h q cA (upd fi0 1 ((fi0 1) &&& ((1 <<< ((fi0 0) &&& 31)) ^^^ (-1)))) fs (va_up (va_up (va_up (va_up ga0 6 (upd (ga0 6) (fi0 0).toNatClampNeg a1)) 7 (upd ((va_up ga0 6 (upd (ga0 6) (fi0 0).toNatClampNeg a1)) 7) (fi0 0).toNatClampNeg a2)) 8 (upd ((va_up (va_up ga0 6 (upd (ga0 6) (fi0 0).toNatClampNeg a1)) 7 (upd ((va_up ga0 6 (upd (ga0 6) (fi0 0).toNatClampNeg a1)) 7) (fi0 0).toNatClampNeg a2)) 8) (fi0 0).toNatClampNeg a3)) 9 (upd ((va_up (va_up (va_up ga0 6 (upd (ga0 6) (fi0 0).toNatClampNeg a1)) 7 (upd ((va_up ga0 6 (upd (ga0 6) (fi0 0).toNatClampNeg a1)) 7) (fi0 0).toNatClampNeg a2)) 8 (upd ((va_up (va_up ga0 6 (upd (ga0 6) (fi0 0).toNatClampNeg a1)) 7 (upd ((va_up ga0 6 (upd (ga0 6) (fi0 0).toNatClampNeg a1)) 7) (fi0 0).toNatClampNeg a2)) 8) (fi0 0).toNatClampNeg a3)) 9) (fi0 0).toNatClampNeg 0)) gs pl it asd) := hD
          refine lv_iconst (v := 0) hx hb dX7_man_104 (by decide) ?_
          refine lv_istore (lv' := [(4, .int 0), (0, .ref h), (1, .int a1), (2, .int a2), (3, .int a3)]) hx hb dX7_man_105 hl (by decide) rfl (fun ls hl => ?_)
          exact J107 100000 0 (upd fi0 1 ((fi0 1) &&& ((1 <<< ((fi0 0) &&& 31)) ^^^ (-1)))) (va_up (va_up (va_up (va_up ga0 6 (upd (ga0 6) (fi0 0).toNatClampNeg a1)) 7 (upd ((va_up ga0 6 (upd (ga0 6) (fi0 0).toNatClampNeg a1)) 7) (fi0 0).toNatClampNeg a2)) 8 (upd ((va_up (va_up ga0 6 (upd (ga0 6) (fi0 0).toNatClampNeg a1)) 7 (upd ((va_up ga0 6 (upd (ga0 6) (fi0 0).toNatClampNeg a1)) 7) (fi0 0).toNatClampNeg a2)) 8) (fi0 0).toNatClampNeg a3)) 9 (upd ((va_up (va_up (va_up ga0 6 (upd (ga0 6) (fi0 0).toNatClampNeg a1)) 7 (upd ((va_up ga0 6 (upd (ga0 6) (fi0 0).toNatClampNeg a1)) 7) (fi0 0).toNatClampNeg a2)) 8 (upd ((va_up (va_up ga0 6 (upd (ga0 6) (fi0 0).toNatClampNeg a1)) 7 (upd ((va_up ga0 6 (upd (ga0 6) (fi0 0).toNatClampNeg a1)) 7) (fi0 0).toNatClampNeg a2)) 8) (fi0 0).toNatClampNeg a3)) 9) (fi0 0).toNatClampNeg 0)) hf _ _ hP hD hS _ (lv_sub hl [1, 0] rfl)
        · replace hf := it_of c13 hf
          refine lv_bipush (v := (-4)) hx hb dX7_man_44 (by decide) ?_
          rw [hQ]
          exact ret_i C0 hP hD hS (by have e := Option.some.inj hf; rw [← e]; exact ⟨rfl, rfl⟩) dX7_man_46
      · replace hf := it_of c12 hf
        refine lv_bipush (v := (-2)) hx hb dX7_man_32 (by decide) ?_
        rw [hQ]
        exact ret_i C0 hP hD hS (by have e := Option.some.inj hf; rw [← e]; exact ⟨rfl, rfl⟩) dX7_man_34
  · replace hf := it_of c4 hf
    refine lv_iconst (v := (-1)) hx hb dX7_man_11 (by decide) ?_
    rw [hQ]
    exact ret_i C0 hP hD hS (by have e := Option.some.inj hf; rw [← e]; exact ⟨rfl, rfl⟩) dX7_man_12
-- fear
noncomputable def k_X7_fear (a1 : Int32) (fi0 : Nat → Int32) : Option (Int32 × (Nat → Int32)) := b1 (k_X7_in a1 0 9999) (fun r1 => if r1 = 0 then some ((-2), fi0) else some ((fi0 2), (upd fi0 2 a1)))
set_option maxHeartbeats 4000000 in
set_option maxRecDepth 100000 in
theorem c_X7_fear {l : Launch} {D : va_G} {cA : Nat → ClassId} (h : Nat) (q : Nat → Nat) (fi0 : Nat → Int32) (fs : Nat → Int32) (ga : Nat → Nat → Int32) (gs : Nat → Nat → Int32) (pl : Nat → Int32) (it : Nat → Int64) (asd : Nat → Int64) (a1 : Int32) (o : Int32 × (Nat → Int32)) (hf : k_X7_fear a1 fi0 = some o) : CI l D cA yX7_fear cX7_fear 3 (some .int) 1 23 [.ref h, .int a1] (Mw h q cA fi0 fs ga gs pl it asd) 0 0 (fun r w => r = o.1 ∧ w = (Mw h q cA o.2 fs ga gs pl it asd)) := by
  intro sz
  refine met_start (by decide) rfl ?_
  intro p e s m args below meth c ls hsz hargs C0 hname hP hD hS hl
  generalize hAe : va_A (Mw h q cA fi0 fs ga gs pl it asd) sz = A at C0 hD hS ⊢
  obtain ⟨hx, hb, hr, hml, hown, hts, hlk, hK, hA⟩ := id C0
  replace hl : lv_has ls 3 [(0, .ref h), (1, .int a1)] := hl
  obtain ⟨Q, hQ⟩ : ∃ Q : State → Prop, Q = QI below D A (fun r w => r = o.1 ∧ w = (Mw h q cA o.2 fs ga gs pl it asd)) args s 0 0 := ⟨_, rfl⟩
  refine cast (by rw [hQ]) (?_ : W p l e (RMx 1 23 0 0) s m args below meth c s.heap [] 0 0 Q (F0 m 0 ls []))
  unfold k_X7_fear at hf
  refine lv_aload_n hx hb dX7_fear_0 rfl (lv_at hl 0 rfl) ?_
  refine lv_iload_n hx hb dX7_fear_1 rfl (lv_at hl 1 rfl) ?_
  refine lv_iconst (v := 0) hx hb dX7_fear_2 (by decide) ?_
  refine lv_sipush (v := 9999) hx hb dX7_fear_3 (by decide) ?_
  obtain ⟨r1q, hq2, hf⟩ := b1_of hf
  refine callVI (As := [.int a1, .int 0, .int 9999]) (rest := []) (wr := (Mw h q cA fi0 fs ga gs pl it asd)) C0 (c_X7_in h a1 0 9999 _ hq2) lk_X7_237_X7_in rfl hP hD hS (List.Perm.refl _) 0 7 rfl rfl rfl hl.1 rfl rfl (Nat.le_of_ble_eq_true rfl) dX7_fear_6 ⟨Nat.zero_le _, Nat.zero_le _⟩ (fun r1 w H locs hw hP hD hS => ?_)
  obtain ⟨⟨e1, e2⟩, z3⟩ := hw
  replace e1 : r1 = r1q := e1
  subst e1
  subst e2
  replace hP : va_P D vwCl (Mw h q cA fi0 fs ga gs pl it asd) H := hP
  replace hD : va_D A (Mw h q cA fi0 fs ga gs pl it asd) := hD
  refine lv_if_ne (tgt := 15) hx hb dX7_fear_9 (by decide) (fun c4 => ?_) (fun c4 => ?_)
  · replace hf := ie_of c4 hf
    refine lv_aload_n hx hb dX7_fear_15 rfl (lv_at hl 0 rfl) ?_
    refine va_get (D := D) (ci := 7) (v := .int (fi0 2)) (C := RX7) (T := TX7) (N := 73) hx hb hts fw_7 hown hK hP 0 rfl rfl 2 (by decide) (hts _ m_fieldLink_M_16_M_fears_I) (fun _ h9 => h9) rfl dX7_fear_16 ?_
    refine lv_istore_n (lv' := [(2, .int (fi0 2)), (0, .ref h), (1, .int a1)]) hx hb dX7_fear_19 rfl hl (by decide) rfl (fun ls hl => ?_)
    refine lv_aload_n hx hb dX7_fear_20 rfl (lv_at hl 1 rfl) ?_
    refine lv_iload_n hx hb dX7_fear_21 rfl (lv_at hl 2 rfl) ?_
    refine va_put (D := D) (ci := 7) (v := .int a1) (ty := .int) (C := RX7) (T := TX7) (N := 73) hx hb hts fw_7 tyX7 tyX7_ok nmX7 hown hK hP hD hS 0 rfl rfl 2 (by decide) (hts _ m_fieldLink_M_16_M_fears_I) (fun _ h9 => h9) rfl (by decide +kernel) rfl rfl (Nat.le_of_ble_eq_true rfl) dX7_fear_22 (fun H locs hP hD hS => ?_)
    replace hP : va_P D vwCl (Mw h q cA (upd fi0 2 a1) fs ga gs pl it asd) H := hP
    replace hD : va_D A (Mw h q cA (upd fi0 2 a1) fs ga gs pl it asd) := hD
    refine lv_iload_n hx hb dX7_fear_25 rfl (lv_at hl 0 rfl) ?_
    rw [hQ]
    exact ret_i C0 hP hD hS (by have e := Option.some.inj hf; rw [← e]; exact ⟨rfl, rfl⟩) dX7_fear_26
  · replace hf := it_of c4 hf
    refine lv_bipush (v := (-2)) hx hb dX7_fear_12 (by decide) ?_
    rw [hQ]
    exact ret_i C0 hP hD hS (by have e := Option.some.inj hf; rw [← e]; exact ⟨rfl, rfl⟩) dX7_fear_14

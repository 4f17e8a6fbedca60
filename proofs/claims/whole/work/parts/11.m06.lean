-- book
noncomputable def k_X7_book (a1 : Int32) (a2 : Int32) (fi0 : Nat → Int32) (ga0 : Nat → Nat → Int32) : Option (Int32 × (Nat → Int32) × (Nat → Nat → Int32)) := if a1 = (-1) then some (0, (upd fi0 40 0), ga0) else b1 (k_X7_isMan a1 fi0) (fun r2 => if r2 = 0 then some ((-1), fi0, ga0) else b1 (k_X7_isNerve a2) (fun r6 => if r6 = 0 then some ((-2), fi0, ga0) else if (fi0 40) = 8 then some ((-4), fi0, ga0) else gd (fi0 40) 8 (gd (fi0 40) 8 (nm (va_up (va_up ga0 43 (upd (ga0 43) (Int32.toNatClampNeg (fi0 40)) a1)) 44 (upd (ga0 44) (Int32.toNatClampNeg (fi0 40)) a2)) (fun ga_13 => some (((fi0 40) + 1), (upd fi0 40 ((fi0 40) + 1)), ga_13))))))
set_option maxHeartbeats 4000000 in
set_option maxRecDepth 100000 in
theorem c_X7_book {l : Launch} {D : va_G} {cA : Nat → ClassId} (h : Nat) (q : Nat → Nat) (fi0 : Nat → Int32) (fs : Nat → Int32) (ga0 : Nat → Nat → Int32) (gs : Nat → Nat → Int32) (pl : Nat → Int32) (it : Nat → Int64) (asd : Nat → Int64) (a1 : Int32) (a2 : Int32) (o : Int32 × (Nat → Int32) × (Nat → Nat → Int32)) (hf : k_X7_book a1 a2 fi0 ga0 = some o) : CI l D cA yX7_book cX7_book 3 (some .int) 2 44 [.ref h, .int a1, .int a2] (Mw h q cA fi0 fs ga0 gs pl it asd) 0 0 (fun r w => r = o.1 ∧ w = (Mw h q cA o.2.1 fs o.2.2 gs pl it asd)) := by
  intro sz
  refine met_start (by decide) rfl ?_
  intro p e s m args below meth c ls hsz hargs C0 hname hP hD hS hl
  generalize hAe : va_A (Mw h q cA fi0 fs ga0 gs pl it asd) sz = A at C0 hD hS ⊢
  obtain ⟨hx, hb, hr, hml, hown, hts, hlk, hK, hA⟩ := id C0
  replace hl : lv_has ls 3 [(0, .ref h), (1, .int a1), (2, .int a2)] := hl
  obtain ⟨Q, hQ⟩ : ∃ Q : State → Prop, Q = QI below D A (fun r w => r = o.1 ∧ w = (Mw h q cA o.2.1 fs o.2.2 gs pl it asd)) args s 0 0 := ⟨_, rfl⟩
  refine cast (by rw [hQ]) (?_ : W p l e (RMx 2 44 0 0) s m args below meth c s.heap [] 0 0 Q (F0 m 0 ls []))
  unfold k_X7_book at hf
  refine lv_iload_n hx hb dX7_book_0 rfl (lv_at hl 1 rfl) ?_
  refine lv_iconst (v := (-1)) hx hb dX7_book_1 (by decide) ?_
  refine lv_icmp_ne (tgt := 12) hx hb dX7_book_2 (by decide) (fun c1 => ?_) (fun c1 => ?_)
  · replace hf := ie_of c1 hf
    refine lv_aload_n hx hb dX7_book_12 rfl (lv_at hl 0 rfl) ?_
    refine lv_iload_n hx hb dX7_book_13 rfl (lv_at hl 1 rfl) ?_
    obtain ⟨r2q, hq3, hf⟩ := b1_of hf
    refine callVI (As := [.int a1]) (rest := []) (wr := []) C0 (c_X7_isMan h q fi0 fs ga0 gs pl it asd a1 _ hq3) lk_X7_245_X7_isMan rfl hP hD hS perm_nil 0 7 rfl rfl rfl hl.1 rfl rfl (Nat.le_of_ble_eq_true rfl) dX7_book_14 ⟨Nat.zero_le _, Nat.zero_le _⟩ (fun r2 w H locs hw hP hD hS => ?_)
    obtain ⟨⟨e1, e2⟩, z4⟩ := hw
    replace e1 : r2 = r2q := e1
    subst e1
    subst e2
    replace hP : va_P D vwCl (Mw h q cA fi0 fs ga0 gs pl it asd) H := hP.nil
    replace hD : va_D A (Mw h q cA fi0 fs ga0 gs pl it asd) := hD.nil
    refine lv_if_ne (tgt := 22) hx hb dX7_book_17 (by decide) (fun c5 => ?_) (fun c5 => ?_)
    · replace hf := ie_of c5 hf
      refine lv_aload_n hx hb dX7_book_22 rfl (lv_at hl 0 rfl) ?_
      refine lv_iload_n hx hb dX7_book_23 rfl (lv_at hl 2 rfl) ?_
      obtain ⟨r6q, hq7, hf⟩ := b1_of hf
      refine callVI (As := [.int a2]) (rest := []) (wr := []) C0 (c_X7_isNerve h q fi0 fs ga0 gs pl it asd a2 _ hq7) lk_X7_241_X7_isNerve rfl hP hD hS perm_nil 0 7 rfl rfl rfl hl.1 rfl rfl (Nat.le_of_ble_eq_true rfl) dX7_book_24 ⟨Nat.zero_le _, Nat.zero_le _⟩ (fun r6 w H locs hw hP hD hS => ?_)
      obtain ⟨⟨e1, e2⟩, z8⟩ := hw
      replace e1 : r6 = r6q := e1
      subst e1
      subst e2
      replace hP : va_P D vwCl (Mw h q cA fi0 fs ga0 gs pl it asd) H := hP.nil
      replace hD : va_D A (Mw h q cA fi0 fs ga0 gs pl it asd) := hD.nil
      refine lv_if_ne (tgt := 33) hx hb dX7_book_27 (by decide) (fun c9 => ?_) (fun c9 => ?_)
      · replace hf := ie_of c9 hf
        refine lv_aload_n hx hb dX7_book_33 rfl (lv_at hl 0 rfl) ?_
        refine va_get (D := D) (ci := 7) (v := .int (fi0 40)) (C := RX7) (T := TX7) (N := 73) hx hb hts fw_7 hown hK hP 0 rfl rfl 40 (by decide) (hts _ m_fieldLink_M_132_M_books_I) (fun _ h9 => h9) rfl dX7_book_34 ?_
        refine lv_bipush (v := 8) hx hb dX7_book_37 (by decide) ?_
        refine lv_icmp_ne (tgt := 45) hx hb dX7_book_39 (by decide) (fun c10 => ?_) (fun c10 => ?_)
        · replace hf := ie_of c10 hf
          refine lv_aload_n hx hb dX7_book_45 rfl (lv_at hl 0 rfl) ?_
          refine va_get (D := D) (ci := 7) (v := .ref (q 43)) (C := RX7) (T := TX7) (N := 73) hx hb hts fw_7 hown hK hP 0 rfl rfl 43 (by decide) (hts _ m_fieldLink_M_141_M_bookMan_aI) (fun _ h9 => h9) rfl dX7_book_46 ?_
          refine lv_aload_n hx hb dX7_book_49 rfl (lv_at hl 0 rfl) ?_
          refine va_get (D := D) (ci := 7) (v := .int (fi0 40)) (C := RX7) (T := TX7) (N := 73) hx hb hts fw_7 hown hK hP 0 rfl rfl 40 (by decide) (hts _ m_fieldLink_M_132_M_books_I) (fun _ h9 => h9) rfl dX7_book_50 ?_
          refine lv_iload_n hx hb dX7_book_53 rfl (lv_at hl 1 rfl) ?_
          obtain ⟨hi11, hf⟩ := gd_of hf
          refine va_iast hx hb hK hP hD hS 21 0 rfl rfl hi11 dX7_book_54 (fun H locs hP hD hS => ?_)
          replace hP : va_P D vwCl (Mw h q cA fi0 fs (va_up ga0 43 (upd (ga0 43) (Int32.toNatClampNeg (fi0 40)) a1)) gs pl it asd) H := hP
          replace hD : va_D A (Mw h q cA fi0 fs (va_up ga0 43 (upd (ga0 43) (Int32.toNatClampNeg (fi0 40)) a1)) gs pl it asd) := hD
          refine lv_aload_n hx hb dX7_book_55 rfl (lv_at hl 0 rfl) ?_
          refine va_get (D := D) (ci := 7) (v := .ref (q 44)) (C := RX7) (T := TX7) (N := 73) hx hb hts fw_7 hown hK hP 0 rfl rfl 44 (by decide) (hts _ m_fieldLink_M_144_M_bookNerve_aI) (fun _ h9 => h9) rfl dX7_book_56 ?_
          refine lv_aload_n hx hb dX7_book_59 rfl (lv_at hl 0 rfl) ?_
          refine va_get (D := D) (ci := 7) (v := .int (fi0 40)) (C := RX7) (T := TX7) (N := 73) hx hb hts fw_7 hown hK hP 0 rfl rfl 40 (by decide) (hts _ m_fieldLink_M_132_M_books_I) (fun _ h9 => h9) rfl dX7_book_60 ?_
          refine lv_iload_n hx hb dX7_book_63 rfl (lv_at hl 2 rfl) ?_
          obtain ⟨hi12, hf⟩ := gd_of hf
          refine va_iast hx hb hK hP hD hS 22 0 rfl rfl hi12 dX7_book_64 (fun H locs hP hD hS => ?_)
          replace hP : va_P D vwCl (Mw h q cA fi0 fs (va_up (va_up ga0 43 (upd (ga0 43) (Int32.toNatClampNeg (fi0 40)) a1)) 44 (upd (ga0 44) (Int32.toNatClampNeg (fi0 40)) a2)) gs pl it asd) H := hP
          replace hD : va_D A (Mw h q cA fi0 fs (va_up (va_up ga0 43 (upd (ga0 43) (Int32.toNatClampNeg (fi0 40)) a1)) 44 (upd (ga0 44) (Int32.toNatClampNeg (fi0 40)) a2)) gs pl it asd) := hD
          obtain ⟨ga_13, hv14, hf⟩ := nm_of hf
          replace hP : va_P D vwCl (Mw h q cA fi0 fs ga_13 gs pl it asd) H := by rw [hv14]; exact hP
          replace hD : va_D A (Mw h q cA fi0 fs ga_13 gs pl it asd) := by rw [hv14]; exact hD
          refine lv_aload_n hx hb dX7_book_65 rfl (lv_at hl 0 rfl) ?_
          refine lv_dup hx hb dX7_book_66 rfl ?_
          refine va_get (D := D) (ci := 7) (v := .int (fi0 40)) (C := RX7) (T := TX7) (N := 73) hx hb hts fw_7 hown hK hP 0 rfl rfl 40 (by decide) (hts _ m_fieldLink_M_132_M_books_I) (fun _ h9 => h9) rfl dX7_book_67 ?_
          refine lv_iconst (v := 1) hx hb dX7_book_70 (by decide) ?_
          refine lv_iadd hx hb dX7_book_71 ?_
          refine va_put (D := D) (ci := 7) (v := .int ((fi0 40) + 1)) (ty := .int) (C := RX7) (T := TX7) (N := 73) hx hb hts fw_7 tyX7 tyX7_ok nmX7 hown hK hP hD hS 0 rfl rfl 40 (by decide) (hts _ m_fieldLink_M_132_M_books_I) (fun _ h9 => h9) rfl (by decide +kernel) rfl rfl (Nat.le_of_ble_eq_true rfl) dX7_book_72 (fun H locs hP hD hS => ?_)
          replace hP : va_P D vwCl (Mw h q cA (upd fi0 40 ((fi0 40) + 1)) fs ga_13 gs pl it asd) H := hP
          replace hD : va_D A (Mw h q cA (upd fi0 40 ((fi0 40) + 1)) fs ga_13 gs pl it asd) := hD
          refine lv_aload_n hx hb dX7_book_75 rfl (lv_at hl 0 rfl) ?_
          refine va_get (D := D) (ci := 7) (v := .int ((fi0 40) + 1)) (C := RX7) (T := TX7) (N := 73) hx hb hts fw_7 hown hK hP 0 rfl rfl 40 (by decide) (hts _ m_fieldLink_M_132_M_books_I) (fun _ h9 => h9) rfl dX7_book_76 ?_
          rw [hQ]
          exact ret_i C0 hP hD hS (by have e := Option.some.inj hf; rw [← e]; exact ⟨rfl, rfl⟩) dX7_book_79
        · replace hf := it_of c10 hf
          refine lv_bipush (v := (-4)) hx hb dX7_book_42 (by decide) ?_
          rw [hQ]
          exact ret_i C0 hP hD hS (by have e := Option.some.inj hf; rw [← e]; exact ⟨rfl, rfl⟩) dX7_book_44
      · replace hf := it_of c9 hf
        refine lv_bipush (v := (-2)) hx hb dX7_book_30 (by decide) ?_
        rw [hQ]
        exact ret_i C0 hP hD hS (by have e := Option.some.inj hf; rw [← e]; exact ⟨rfl, rfl⟩) dX7_book_32
    · replace hf := it_of c5 hf
      refine lv_iconst (v := (-1)) hx hb dX7_book_20 (by decide) ?_
      rw [hQ]
      exact ret_i C0 hP hD hS (by have e := Option.some.inj hf; rw [← e]; exact ⟨rfl, rfl⟩) dX7_book_21
  · replace hf := it_of c1 hf
    refine lv_aload_n hx hb dX7_book_5 rfl (lv_at hl 0 rfl) ?_
    refine lv_iconst (v := 0) hx hb dX7_book_6 (by decide) ?_
    refine va_put (D := D) (ci := 7) (v := .int 0) (ty := .int) (C := RX7) (T := TX7) (N := 73) hx hb hts fw_7 tyX7 tyX7_ok nmX7 hown hK hP hD hS 0 rfl rfl 40 (by decide) (hts _ m_fieldLink_M_132_M_books_I) (fun _ h9 => h9) rfl (by decide +kernel) rfl rfl (Nat.le_of_ble_eq_true rfl) dX7_book_7 (fun H locs hP hD hS => ?_)
    replace hP : va_P D vwCl (Mw h q cA (upd fi0 40 0) fs ga0 gs pl it asd) H := hP
    replace hD : va_D A (Mw h q cA (upd fi0 40 0) fs ga0 gs pl it asd) := hD
    refine lv_iconst (v := 0) hx hb dX7_book_10 (by decide) ?_
    rw [hQ]
    exact ret_i C0 hP hD hS (by have e := Option.some.inj hf; rw [← e]; exact ⟨rfl, rfl⟩) dX7_book_11
-- looked
noncomputable def k_X7_looked_2 (fi : Nat → Int32) (ga : Nat → Nat → Int32) : Nat → Int32 → Option Int32
  | 0, _ => none
  | n + 1, x1 => if (fi 40) ≤ x1 then some (-5) else gd x1 8 (gd ((ga 43) (Int32.toNatClampNeg x1)) 6 (gd x1 8 (if ((ga 8) (Int32.toNatClampNeg ((ga 43) (Int32.toNatClampNeg x1)))) = ((ga 44) (Int32.toNatClampNeg x1)) then k_X7_looked_2 fi ga n (x1 + 1) else some x1)))
noncomputable def k_X7_looked (fi : Nat → Int32) (ga : Nat → Nat → Int32) : Option Int32 := k_X7_looked_2 fi ga 100000 0
set_option maxHeartbeats 4000000 in
set_option maxRecDepth 100000 in
theorem c_X7_looked {l : Launch} {D : va_G} {cA : Nat → ClassId} (h : Nat) (q : Nat → Nat) (fi : Nat → Int32) (fs : Nat → Int32) (ga : Nat → Nat → Int32) (gs : Nat → Nat → Int32) (pl : Nat → Int32) (it : Nat → Int64) (asd : Nat → Int64)  (o : Int32) (hf : k_X7_looked fi ga = some o) : CI l D cA yX7_looked cX7_looked 2 (some .int) 0 0 [.ref h] (Mw h q cA fi fs ga gs pl it asd) 0 0 (fun r w => r = o ∧ w = (Mw h q cA fi fs ga gs pl it asd)) := by
  intro sz
  refine met_start (by decide) rfl ?_
  intro p e s m args below meth c ls hsz hargs C0 hname hP hD hS hl
  generalize hAe : va_A (Mw h q cA fi fs ga gs pl it asd) sz = A at C0 hD hS ⊢
  obtain ⟨hx, hb, hr, hml, hown, hts, hlk, hK, hA⟩ := id C0
  replace hl : lv_has ls 2 [(0, .ref h)] := hl
  obtain ⟨Q, hQ⟩ : ∃ Q : State → Prop, Q = QI below D A (fun r w => r = o ∧ w = (Mw h q cA fi fs ga gs pl it asd)) args s 0 0 := ⟨_, rfl⟩
  refine cast (by rw [hQ]) (?_ : W p l e (RMx 0 0 0 0) s m args below meth c s.heap [] 0 0 Q (F0 m 0 ls []))
  have J2 : ∀ n : Nat, ∀ (x1 : Int32), k_X7_looked_2 fi ga n x1 = some o → ∀ (H : Heap) (locs : List Loc), va_P D vwCl (Mw h q cA fi fs ga gs pl it asd) H → va_D A (Mw h q cA fi fs ga gs pl it asd) → va_S A s.heap H locs → ∀ ls : Array Slot, lv_has ls 2 [(0, .ref h), (1, .int x1)] → W p l e (RMx 0 0 0 0) s m args below meth c H locs 0 0 Q (F0 m 2 ls []) := by
    intro  n
    induction n with
    | zero =>
      intro x1 hf
      rw [k_X7_looked_2] at hf
      cases hf
    | succ n ih =>
      intro x1 hf H locs hP hD hS ls hl
      rw [k_X7_looked_2] at hf
      refine lv_iload_n hx hb dX7_looked_2 rfl (lv_at hl 1 rfl) ?_
      refine lv_aload_n hx hb dX7_looked_3 rfl (lv_at hl 0 rfl) ?_
      refine va_get (D := D) (ci := 7) (v := .int (fi 40)) (C := RX7) (T := TX7) (N := 73) hx hb hts fw_7 hown hK hP 0 rfl rfl 40 (by decide) (hts _ m_fieldLink_M_132_M_books_I) (fun _ h9 => h9) rfl dX7_looked_4 ?_
      refine lv_icmp_ge (tgt := 38) hx hb dX7_looked_7 (by decide) (fun c1 => ?_) (fun c1 => ?_)
      · replace hf := it_of c1 hf
        refine lv_bipush (v := (-5)) hx hb dX7_looked_38 (by decide) ?_
        rw [hQ]
        exact ret_i C0 hP hD hS (by have e := Option.some.inj hf; rw [← e]; exact ⟨rfl, rfl⟩) dX7_looked_40
      · replace hf := ie_of c1 hf
        refine lv_aload_n hx hb dX7_looked_10 rfl (lv_at hl 0 rfl) ?_
        refine va_get (D := D) (ci := 7) (v := .ref (q 8)) (C := RX7) (T := TX7) (N := 73) hx hb hts fw_7 hown hK hP 0 rfl rfl 8 (by decide) (hts _ m_fieldLink_M_35_M_nerve_aI) (fun _ h9 => h9) rfl dX7_looked_11 ?_
        refine lv_aload_n hx hb dX7_looked_14 rfl (lv_at hl 0 rfl) ?_
        refine va_get (D := D) (ci := 7) (v := .ref (q 43)) (C := RX7) (T := TX7) (N := 73) hx hb hts fw_7 hown hK hP 0 rfl rfl 43 (by decide) (hts _ m_fieldLink_M_141_M_bookMan_aI) (fun _ h9 => h9) rfl dX7_looked_15 ?_
        refine lv_iload_n hx hb dX7_looked_18 rfl (lv_at hl 1 rfl) ?_
        obtain ⟨hi2, hf⟩ := gd_of hf
        refine va_iald hx hb hK hP 21 0 rfl rfl hi2 dX7_looked_19 ?_
        obtain ⟨hi3, hf⟩ := gd_of hf
        refine va_iald hx hb hK hP 3 0 rfl rfl hi3 dX7_looked_20 ?_
        refine lv_aload_n hx hb dX7_looked_21 rfl (lv_at hl 0 rfl) ?_
        refine va_get (D := D) (ci := 7) (v := .ref (q 44)) (C := RX7) (T := TX7) (N := 73) hx hb hts fw_7 hown hK hP 0 rfl rfl 44 (by decide) (hts _ m_fieldLink_M_144_M_bookNerve_aI) (fun _ h9 => h9) rfl dX7_looked_22 ?_
        refine lv_iload_n hx hb dX7_looked_25 rfl (lv_at hl 1 rfl) ?_
        obtain ⟨hi4, hf⟩ := gd_of hf
        refine va_iald hx hb hK hP 22 0 rfl rfl hi4 dX7_looked_26 ?_
        refine lv_icmp_eq (tgt := 32) hx hb dX7_looked_27 (by decide) (fun c5 => ?_) (fun c5 => ?_)
        · replace hf := it_of c5 hf
          refine lv_iinc (v := (x1 + 1)) (lv' := [(1, .int (x1 + 1)), (0, .ref h)]) hx hb dX7_looked_32 hl (k := 1) rfl rfl (by decide) rfl (fun ls hl => ?_)
          refine lv_goto (tgt := 2) hx hb dX7_looked_35 (by decide) ?_
          exact ih (x1 + 1) hf _ _ hP hD hS _ (lv_sub hl [1, 0] rfl)
        · replace hf := ie_of c5 hf
          refine lv_iload_n hx hb dX7_looked_30 rfl (lv_at hl 1 rfl) ?_
          rw [hQ]
          exact ret_i C0 hP hD hS (by have e := Option.some.inj hf; rw [← e]; exact ⟨rfl, rfl⟩) dX7_looked_31
  unfold k_X7_looked at hf
  refine lv_iconst (v := 0) hx hb dX7_looked_0 (by decide) ?_
  refine lv_istore_n (lv' := [(1, .int 0), (0, .ref h)]) hx hb dX7_looked_1 rfl hl (by decide) rfl (fun ls hl => ?_)
  exact J2 100000 0 hf _ _ hP hD hS _ (lv_sub hl [1, 0] rfl)
-- isTape
noncomputable def k_X7_isTape (a1 : Int32) : Option Int32 := b1 (k_X7_in a1 0 5) (fun r1 => some r1)
set_option maxHeartbeats 4000000 in
set_option maxRecDepth 100000 in
theorem c_X7_isTape {l : Launch} {D : va_G} {cA : Nat → ClassId} (h : Nat) (q : Nat → Nat) (fi : Nat → Int32) (fs : Nat → Int32) (ga : Nat → Nat → Int32) (gs : Nat → Nat → Int32) (pl : Nat → Int32) (it : Nat → Int64) (asd : Nat → Int64) (a1 : Int32) (o : Int32) (hf : k_X7_isTape a1 = some o) : CI l D cA yX7_isTape cX7_isTape 2 (some .boolean) 1 23 [.ref h, .int a1] (Mw h q cA fi fs ga gs pl it asd) 0 0 (fun r w => (r = o ∧ w = (Mw h q cA fi fs ga gs pl it asd)) ∧ narrow .boolean (.int r) = .int r) := by
  intro sz
  refine met_start (by decide) rfl ?_
  intro p e s m args below meth c ls hsz hargs C0 hname hP hD hS hl
  generalize hAe : va_A (Mw h q cA fi fs ga gs pl it asd) sz = A at C0 hD hS ⊢
  obtain ⟨hx, hb, hr, hml, hown, hts, hlk, hK, hA⟩ := id C0
  replace hl : lv_has ls 2 [(0, .ref h), (1, .int a1)] := hl
  obtain ⟨Q, hQ⟩ : ∃ Q : State → Prop, Q = QI below D A (fun r w => (r = o ∧ w = (Mw h q cA fi fs ga gs pl it asd)) ∧ narrow .boolean (.int r) = .int r) args s 0 0 := ⟨_, rfl⟩
  refine cast (by rw [hQ]) (?_ : W p l e (RMx 1 23 0 0) s m args below meth c s.heap [] 0 0 Q (F0 m 0 ls []))
  unfold k_X7_isTape at hf
  refine lv_aload_n hx hb dX7_isTape_0 rfl (lv_at hl 0 rfl) ?_
  refine lv_iload_n hx hb dX7_isTape_1 rfl (lv_at hl 1 rfl) ?_
  refine lv_iconst (v := 0) hx hb dX7_isTape_2 (by decide) ?_
  refine lv_iconst (v := 5) hx hb dX7_isTape_3 (by decide) ?_
  obtain ⟨r1q, hq2, hf⟩ := b1_of hf
  refine callVI (As := [.int a1, .int 0, .int 5]) (rest := []) (wr := (Mw h q cA fi fs ga gs pl it asd)) C0 (c_X7_in h a1 0 5 _ hq2) lk_X7_237_X7_in rfl hP hD hS (List.Perm.refl _) 0 7 rfl rfl rfl hl.1 rfl rfl (Nat.le_of_ble_eq_true rfl) dX7_isTape_4 ⟨Nat.zero_le _, Nat.zero_le _⟩ (fun r1 w H locs hw hP hD hS => ?_)
  obtain ⟨⟨e1, e2⟩, z3⟩ := hw
  replace e1 : r1 = r1q := e1
  subst e1
  subst e2
  replace hP : va_P D vwCl (Mw h q cA fi fs ga gs pl it asd) H := hP
  replace hD : va_D A (Mw h q cA fi fs ga gs pl it asd) := hD
  rw [hQ]
  exact ret_z C0 hP hD hS (by have e := Option.some.inj hf; rw [← e]; exact ⟨rfl, rfl⟩) z3 dX7_isTape_7
-- judge
noncomputable def k_X7_judge_34 (a1 : Int32) (a2 : Int32) (fi : Nat → Int32) (ga : Nat → Nat → Int32) (it : Nat → Int64) : Nat → Int32 → Option Int32
  | 0, _ => none
  | n + 1, x3 => if (fi 0) ≤ x3 then some (-5) else gd a1 6 (if ((ga 69) (Int32.toNatClampNeg a1)) < 0 then some (100 + x3) else if a2 < 0 then some (100 + x3) else gd a1 6 (if a2 ≤ ((((ga 70) (Int32.toNatClampNeg a1)) - x3) - 1) then gd (((60 * a1) + a2) + x3) 360 (gd x3 6 (if (lg_cmp (it (Int32.toNatClampNeg (((60 * a1) + a2) + x3))) (Int32.toInt64 ((ga 9) (Int32.toNatClampNeg x3)))) = 0 then k_X7_judge_34 a1 a2 fi ga it n (x3 + 1) else some x3)) else some (100 + x3)))
noncomputable def k_X7_judge (a1 : Int32) (a2 : Int32) (fi : Nat → Int32) (ga : Nat → Nat → Int32) (it : Nat → Int64) : Option Int32 := b1 (k_X7_isTape a1) (fun r1 => if r1 = 0 then some (-1) else gd a1 6 (if ((ga 69) (Int32.toNatClampNeg a1)) < 0 then k_X7_judge_34 a1 a2 fi ga it 100000 0 else gd a1 6 (if ((ga 69) (Int32.toNatClampNeg a1)) = 2 then k_X7_judge_34 a1 a2 fi ga it 100000 0 else some (-12))))
set_option maxHeartbeats 4000000 in
set_option maxRecDepth 100000 in
theorem c_X7_judge {l : Launch} {D : va_G} {cA : Nat → ClassId} (h : Nat) (q : Nat → Nat) (fi : Nat → Int32) (fs : Nat → Int32) (ga : Nat → Nat → Int32) (gs : Nat → Nat → Int32) (pl : Nat → Int32) (it : Nat → Int64) (asd : Nat → Int64) (a1 : Int32) (a2 : Int32) (o : Int32) (hf : k_X7_judge a1 a2 fi ga it = some o) : CI l D cA yX7_judge cX7_judge 4 (some .int) 2 44 [.ref h, .int a1, .int a2] (Mw h q cA fi fs ga gs pl it asd) 0 0 (fun r w => r = o ∧ w = (Mw h q cA fi fs ga gs pl it asd)) := by
  intro sz
  refine met_start (by decide) rfl ?_
  intro p e s m args below meth c ls hsz hargs C0 hname hP hD hS hl
  generalize hAe : va_A (Mw h q cA fi fs ga gs pl it asd) sz = A at C0 hD hS ⊢
  obtain ⟨hx, hb, hr, hml, hown, hts, hlk, hK, hA⟩ := id C0
  replace hl : lv_has ls 4 [(0, .ref h), (1, .int a1), (2, .int a2)] := hl
  obtain ⟨Q, hQ⟩ : ∃ Q : State → Prop, Q = QI below D A (fun r w => r = o ∧ w = (Mw h q cA fi fs ga gs pl it asd)) args s 0 0 := ⟨_, rfl⟩
  refine cast (by rw [hQ]) (?_ : W p l e (RMx 2 44 0 0) s m args below meth c s.heap [] 0 0 Q (F0 m 0 ls []))
  have J34 : ∀ n : Nat, ∀ (x3 : Int32), k_X7_judge_34 a1 a2 fi ga it n x3 = some o → ∀ (H : Heap) (locs : List Loc), va_P D vwCl (Mw h q cA fi fs ga gs pl it asd) H → va_D A (Mw h q cA fi fs ga gs pl it asd) → va_S A s.heap H locs → ∀ ls : Array Slot, lv_has ls 4 [(0, .ref h), (1, .int a1), (2, .int a2), (3, .int x3)] → W p l e (RMx 2 44 0 0) s m args below meth c H locs 0 0 Q (F0 m 34 ls []) := by
    intro  n
    induction n with
    | zero =>
      intro x3 hf
      rw [k_X7_judge_34] at hf
      cases hf
    | succ n ih =>
      intro x3 hf H locs hP hD hS ls hl
      rw [k_X7_judge_34] at hf
      refine lv_iload_n hx hb dX7_judge_34 rfl (lv_at hl 3 rfl) ?_
      refine lv_aload_n hx hb dX7_judge_35 rfl (lv_at hl 0 rfl) ?_
      refine va_get (D := D) (ci := 7) (v := .int (fi 0)) (C := RX7) (T := TX7) (N := 73) hx hb hts fw_7 hown hK hP 0 rfl rfl 0 (by decide) (hts _ m_fieldLink_M_7_M_men_I) (fun _ h9 => h9) rfl dX7_judge_36 ?_
      refine lv_icmp_ge (tgt := 106) hx hb dX7_judge_39 (by decide) (fun c1 => ?_) (fun c1 => ?_)
      · replace hf := it_of c1 hf
        refine lv_bipush (v := (-5)) hx hb dX7_judge_106 (by decide) ?_
        rw [hQ]
        exact ret_i C0 hP hD hS (by have e := Option.some.inj hf; rw [← e]; exact ⟨rfl, rfl⟩) dX7_judge_108
      · replace hf := ie_of c1 hf
        refine lv_aload_n hx hb dX7_judge_42 rfl (lv_at hl 0 rfl) ?_
        refine va_get (D := D) (ci := 7) (v := .ref (q 69)) (C := RX7) (T := TX7) (N := 73) hx hb hts fw_7 hown hK hP 0 rfl rfl 69 (by decide) (hts _ m_fieldLink_M_220_M_sort_aI) (fun _ h9 => h9) rfl dX7_judge_43 ?_
        refine lv_iload_n hx hb dX7_judge_46 rfl (lv_at hl 1 rfl) ?_
        obtain ⟨hi2, hf⟩ := gd_of hf
        refine va_iald hx hb hK hP 35 0 rfl rfl hi2 dX7_judge_47 ?_
        refine lv_if_lt (tgt := 69) hx hb dX7_judge_48 (by decide) (fun c3 => ?_) (fun c3 => ?_)
        · replace hf := it_of c3 hf
          refine lv_bipush (v := 100) hx hb dX7_judge_69 (by decide) ?_
          refine lv_iload_n hx hb dX7_judge_71 rfl (lv_at hl 3 rfl) ?_
          refine lv_iadd hx hb dX7_judge_72 ?_
          rw [hQ]
          exact ret_i C0 hP hD hS (by have e := Option.some.inj hf; rw [← e]; exact ⟨rfl, rfl⟩) dX7_judge_73
        · replace hf := ie_of c3 hf
          refine lv_iload_n hx hb dX7_judge_51 rfl (lv_at hl 2 rfl) ?_
          refine lv_if_lt (tgt := 69) hx hb dX7_judge_52 (by decide) (fun c4 => ?_) (fun c4 => ?_)
          · replace hf := it_of c4 hf
            refine lv_bipush (v := 100) hx hb dX7_judge_69 (by decide) ?_
            refine lv_iload_n hx hb dX7_judge_71 rfl (lv_at hl 3 rfl) ?_
            refine lv_iadd hx hb dX7_judge_72 ?_
            rw [hQ]
            exact ret_i C0 hP hD hS (by have e := Option.some.inj hf; rw [← e]; exact ⟨rfl, rfl⟩) dX7_judge_73
          · replace hf := ie_of c4 hf
            refine lv_iload_n hx hb dX7_judge_55 rfl (lv_at hl 2 rfl) ?_
            refine lv_aload_n hx hb dX7_judge_56 rfl (lv_at hl 0 rfl) ?_
            refine va_get (D := D) (ci := 7) (v := .ref (q 70)) (C := RX7) (T := TX7) (N := 73) hx hb hts fw_7 hown hK hP 0 rfl rfl 70 (by decide) (hts _ m_fieldLink_M_223_M_length_aI) (fun _ h9 => h9) rfl dX7_judge_57 ?_
            refine lv_iload_n hx hb dX7_judge_60 rfl (lv_at hl 1 rfl) ?_
            obtain ⟨hi5, hf⟩ := gd_of hf
            refine va_iald hx hb hK hP 36 0 rfl rfl hi5 dX7_judge_61 ?_
            refine lv_iload_n hx hb dX7_judge_62 rfl (lv_at hl 3 rfl) ?_
            refine lv_isub hx hb dX7_judge_63 ?_
            refine lv_iconst (v := 1) hx hb dX7_judge_64 (by decide) ?_
            refine lv_isub hx hb dX7_judge_65 ?_
            refine lv_icmp_le (tgt := 74) hx hb dX7_judge_66 (by decide) (fun c6 => ?_) (fun c6 => ?_)
            · replace hf := it_of c6 hf
              refine lv_aload_n hx hb dX7_judge_74 rfl (lv_at hl 0 rfl) ?_
              refine va_get (D := D) (ci := 7) (v := .ref (q 71)) (C := RX7) (T := TX7) (N := 73) hx hb hts fw_7 hown hK hP 0 rfl rfl 71 (by decide) (hts _ m_fieldLink_M_226_M_item_aJ) (fun _ h9 => h9) rfl dX7_judge_75 ?_
              refine lv_bipush (v := 60) hx hb dX7_judge_78 (by decide) ?_
              refine lv_iload_n hx hb dX7_judge_80 rfl (lv_at hl 1 rfl) ?_
              refine lv_imul hx hb dX7_judge_81 ?_
              refine lv_iload_n hx hb dX7_judge_82 rfl (lv_at hl 2 rfl) ?_
              refine lv_iadd hx hb dX7_judge_83 ?_
              refine lv_iload_n hx hb dX7_judge_84 rfl (lv_at hl 3 rfl) ?_
              refine lv_iadd hx hb dX7_judge_85 ?_
              obtain ⟨hi7, hf⟩ := gd_of hf
              refine va_lald hx hb hK hP 37 2 rfl rfl hi7 dX7_judge_86 ?_
              refine lv_aload_n hx hb dX7_judge_87 rfl (lv_at hl 0 rfl) ?_
              refine va_get (D := D) (ci := 7) (v := .ref (q 9)) (C := RX7) (T := TX7) (N := 73) hx hb hts fw_7 hown hK hP 0 rfl rfl 9 (by decide) (hts _ m_fieldLink_M_38_M_spell_aI) (fun _ h9 => h9) rfl dX7_judge_88 ?_
              refine lv_iload_n hx hb dX7_judge_91 rfl (lv_at hl 3 rfl) ?_
              obtain ⟨hi8, hf⟩ := gd_of hf
              refine va_iald hx hb hK hP 4 0 rfl rfl hi8 dX7_judge_92 ?_
              refine lv_i2l (v := (Int32.toInt64 ((ga 9) (Int32.toNatClampNeg x3)))) hx hb dX7_judge_93 rfl ?_
              refine W.lcmp hx hb dX7_judge_94 ?_
              refine lv_if_eq (tgt := 100) hx hb dX7_judge_95 (by decide) (fun c9 => ?_) (fun c9 => ?_)
              · replace hf := it_of c9 hf
                refine lv_iinc (v := (x3 + 1)) (lv' := [(3, .int (x3 + 1)), (0, .ref h), (1, .int a1), (2, .int a2)]) hx hb dX7_judge_100 hl (k := 3) rfl rfl (by decide) rfl (fun ls hl => ?_)
                refine lv_goto (tgt := 34) hx hb dX7_judge_103 (by decide) ?_
                exact ih (x3 + 1) hf _ _ hP hD hS _ (lv_sub hl [1, 2, 3, 0] rfl)
              · replace hf := ie_of c9 hf
                refine lv_iload_n hx hb dX7_judge_98 rfl (lv_at hl 3 rfl) ?_
                rw [hQ]
                exact ret_i C0 hP hD hS (by have e := Option.some.inj hf; rw [← e]; exact ⟨rfl, rfl⟩) dX7_judge_99
            · replace hf := ie_of c6 hf
              refine lv_bipush (v := 100) hx hb dX7_judge_69 (by decide) ?_
              refine lv_iload_n hx hb dX7_judge_71 rfl (lv_at hl 3 rfl) ?_
              refine lv_iadd hx hb dX7_judge_72 ?_
              rw [hQ]
              exact ret_i C0 hP hD hS (by have e := Option.some.inj hf; rw [← e]; exact ⟨rfl, rfl⟩) dX7_judge_73
  unfold k_X7_judge at hf
  refine lv_aload_n hx hb dX7_judge_0 rfl (lv_at hl 0 rfl) ?_
  refine lv_iload_n hx hb dX7_judge_1 rfl (lv_at hl 1 rfl) ?_
  obtain ⟨r1q, hq2, hf⟩ := b1_of hf
  refine callVI (As := [.int a1]) (rest := []) (wr := []) C0 (c_X7_isTape h q fi fs ga gs pl it asd a1 _ hq2) lk_X7_392_X7_isTape rfl hP hD hS perm_nil 0 7 rfl rfl rfl hl.1 rfl rfl (Nat.le_of_ble_eq_true rfl) dX7_judge_2 ⟨Nat.zero_le _, Nat.zero_le _⟩ (fun r1 w H locs hw hP hD hS => ?_)
  obtain ⟨⟨e1, e2⟩, z3⟩ := hw
  replace e1 : r1 = r1q := e1
  subst e1
  subst e2
  replace hP : va_P D vwCl (Mw h q cA fi fs ga gs pl it asd) H := hP.nil
  replace hD : va_D A (Mw h q cA fi fs ga gs pl it asd) := hD.nil
  refine lv_if_ne (tgt := 10) hx hb dX7_judge_5 (by decide) (fun c4 => ?_) (fun c4 => ?_)
  · replace hf := ie_of c4 hf
    refine lv_aload_n hx hb dX7_judge_10 rfl (lv_at hl 0 rfl) ?_
    refine va_get (D := D) (ci := 7) (v := .ref (q 69)) (C := RX7) (T := TX7) (N := 73) hx hb hts fw_7 hown hK hP 0 rfl rfl 69 (by decide) (hts _ m_fieldLink_M_220_M_sort_aI) (fun _ h9 => h9) rfl dX7_judge_11 ?_
    refine lv_iload_n hx hb dX7_judge_14 rfl (lv_at hl 1 rfl) ?_
    obtain ⟨hi5, hf⟩ := gd_of hf
    refine va_iald hx hb hK hP 35 0 rfl rfl hi5 dX7_judge_15 ?_
    refine lv_if_lt (tgt := 32) hx hb dX7_judge_16 (by decide) (fun c6 => ?_) (fun c6 => ?_)
    · replace hf := it_of c6 hf
      refine lv_iconst (v := 0) hx hb dX7_judge_32 (by decide) ?_
      refine lv_istore_n (lv' := [(3, .int 0), (0, .ref h), (1, .int a1), (2, .int a2)]) hx hb dX7_judge_33 rfl hl (by decide) rfl (fun ls hl => ?_)
      exact J34 100000 0 hf _ _ hP hD hS _ (lv_sub hl [1, 2, 3, 0] rfl)
    · replace hf := ie_of c6 hf
      refine lv_aload_n hx hb dX7_judge_19 rfl (lv_at hl 0 rfl) ?_
      refine va_get (D := D) (ci := 7) (v := .ref (q 69)) (C := RX7) (T := TX7) (N := 73) hx hb hts fw_7 hown hK hP 0 rfl rfl 69 (by decide) (hts _ m_fieldLink_M_220_M_sort_aI) (fun _ h9 => h9) rfl dX7_judge_20 ?_
      refine lv_iload_n hx hb dX7_judge_23 rfl (lv_at hl 1 rfl) ?_
      obtain ⟨hi7, hf⟩ := gd_of hf
      refine va_iald hx hb hK hP 35 0 rfl rfl hi7 dX7_judge_24 ?_
      refine lv_iconst (v := 2) hx hb dX7_judge_25 (by decide) ?_
      refine lv_icmp_eq (tgt := 32) hx hb dX7_judge_26 (by decide) (fun c8 => ?_) (fun c8 => ?_)
      · replace hf := it_of c8 hf
        refine lv_iconst (v := 0) hx hb dX7_judge_32 (by decide) ?_
        refine lv_istore_n (lv' := [(3, .int 0), (0, .ref h), (1, .int a1), (2, .int a2)]) hx hb dX7_judge_33 rfl hl (by decide) rfl (fun ls hl => ?_)
        exact J34 100000 0 hf _ _ hP hD hS _ (lv_sub hl [1, 2, 3, 0] rfl)
      · replace hf := ie_of c8 hf
        refine lv_bipush (v := (-12)) hx hb dX7_judge_29 (by decide) ?_
        rw [hQ]
        exact ret_i C0 hP hD hS (by have e := Option.some.inj hf; rw [← e]; exact ⟨rfl, rfl⟩) dX7_judge_31
  · replace hf := it_of c4 hf
    refine lv_iconst (v := (-1)) hx hb dX7_judge_8 (by decide) ?_
    rw [hQ]
    exact ret_i C0 hP hD hS (by have e := Option.some.inj hf; rw [← e]; exact ⟨rfl, rfl⟩) dX7_judge_9
-- image
noncomputable def k_X7_image_250  : Nat → Int32 → (Nat → Int32) → (Nat → Nat → Int32) → Option (Int32 × (Nat → Int32) × (Nat → Nat → Int32))
  | 0, _, _, _ => none
  | n + 1, x1, fi, ga => if 8 ≤ x1 then some ((fi 0), fi, ga) else gd x1 8 (gd x1 8 (gd x1 8 (gd x1 8 (nm (va_up (va_up ga 65 (upd (ga 65) (Int32.toNatClampNeg x1) ((ga 43) (Int32.toNatClampNeg x1)))) 66 (upd (ga 66) (Int32.toNatClampNeg x1) ((ga 44) (Int32.toNatClampNeg x1)))) (fun ga_6 => k_X7_image_250 n (x1 + 1) fi ga_6)))))
noncomputable def k_X7_image_212  : Nat → Int32 → (Nat → Int32) → (Nat → Nat → Int32) → Option (Int32 × (Nat → Int32) × (Nat → Nat → Int32))
  | 0, _, _, _ => none
  | n + 1, x1, fi, ga => if 10 ≤ x1 then k_X7_image_250 100000 0 fi ga else gd x1 10 (gd x1 10 (gd x1 10 (gd x1 10 (nm (va_up (va_up ga 63 (upd (ga 63) (Int32.toNatClampNeg x1) ((ga 41) (Int32.toNatClampNeg x1)))) 64 (upd (ga 64) (Int32.toNatClampNeg x1) ((ga 42) (Int32.toNatClampNeg x1)))) (fun ga_6 => k_X7_image_212 n (x1 + 1) fi ga_6)))))
noncomputable def k_X7_image_175  : Nat → Int32 → (Nat → Int32) → (Nat → Nat → Int32) → Option (Int32 × (Nat → Int32) × (Nat → Nat → Int32))
  | 0, _, _, _ => none
  | n + 1, x1, fi, ga => if 5 ≤ x1 then k_X7_image_212 100000 0 fi ga else gd x1 5 (gd x1 5 (gd x1 5 (gd x1 5 (nm (va_up (va_up ga 61 (upd (ga 61) (Int32.toNatClampNeg x1) ((ga 37) (Int32.toNatClampNeg x1)))) 62 (upd (ga 62) (Int32.toNatClampNeg x1) ((ga 38) (Int32.toNatClampNeg x1)))) (fun ga_6 => k_X7_image_175 n (x1 + 1) fi ga_6)))))
noncomputable def k_X7_image_149  : Nat → Int32 → (Nat → Int32) → (Nat → Nat → Int32) → Option (Int32 × (Nat → Int32) × (Nat → Nat → Int32))
  | 0, _, _, _ => none
  | n + 1, x1, fi, ga => if 24 ≤ x1 then k_X7_image_175 100000 0 fi ga else gd x1 24 (gd x1 24 (k_X7_image_149 n (x1 + 1) fi (va_up ga 60 (upd (ga 60) (Int32.toNatClampNeg x1) ((ga 10) (Int32.toNatClampNeg x1))))))
noncomputable def k_X7_image_87  : Nat → Int32 → (Nat → Int32) → (Nat → Nat → Int32) → Option (Int32 × (Nat → Int32) × (Nat → Nat → Int32))
  | 0, _, _, _ => none
  | n + 1, x1, fi, ga => if 6 ≤ x1 then k_X7_image_149 100000 0 fi ga else gd x1 6 (gd x1 6 (gd x1 6 (gd x1 6 (nm (va_up (va_up ga 56 (upd (ga 56) (Int32.toNatClampNeg x1) ((ga 6) (Int32.toNatClampNeg x1)))) 57 (upd (ga 57) (Int32.toNatClampNeg x1) ((ga 7) (Int32.toNatClampNeg x1)))) (fun ga_6 => gd x1 6 (gd x1 6 (gd x1 6 (gd x1 6 (nm (va_up (va_up ga_6 58 (upd (ga_6 58) (Int32.toNatClampNeg x1) ((ga_6 8) (Int32.toNatClampNeg x1)))) 59 (upd (ga_6 59) (Int32.toNatClampNeg x1) ((ga_6 9) (Int32.toNatClampNeg x1)))) (fun ga_12 => k_X7_image_87 n (x1 + 1) fi ga_12))))))))))
noncomputable def k_X7_image (fi0 : Nat → Int32) (ga0 : Nat → Nat → Int32) : Option (Int32 × (Nat → Int32) × (Nat → Nat → Int32)) := nm (upd (upd (upd fi0 45 1) 46 (fi0 12)) 47 (fi0 0)) (fun fi_1 => nm (upd (upd (upd fi_1 48 (fi_1 1)) 49 (fi_1 2)) 50 (fi_1 3)) (fun fi_3 => nm (upd (upd (upd fi_3 51 (fi_3 4)) 52 (fi_3 5)) 53 (fi_3 36)) (fun fi_5 => k_X7_image_87 100000 0 (upd (upd fi_5 54 (fi_5 39)) 55 (fi_5 40)) ga0)))
set_option maxHeartbeats 4000000 in
set_option maxRecDepth 100000 in
theorem c_X7_image {l : Launch} {D : va_G} {cA : Nat → ClassId} (h : Nat) (q : Nat → Nat) (fi0 : Nat → Int32) (fs : Nat → Int32) (ga0 : Nat → Nat → Int32) (gs : Nat → Nat → Int32) (pl : Nat → Int32) (it : Nat → Int64) (asd : Nat → Int64)  (o : Int32 × (Nat → Int32) × (Nat → Nat → Int32)) (hf : k_X7_image fi0 ga0 = some o) : CI l D cA yX7_image cX7_image 2 (some .int) 0 0 [.ref h] (Mw h q cA fi0 fs ga0 gs pl it asd) 0 0 (fun r w => r = o.1 ∧ w = (Mw h q cA o.2.1 fs o.2.2 gs pl it asd)) := by
  intro sz
  refine met_start (by decide) rfl ?_
  intro p e s m args below meth c ls hsz hargs C0 hname hP hD hS hl
  generalize hAe : va_A (Mw h q cA fi0 fs ga0 gs pl it asd) sz = A at C0 hD hS ⊢
  obtain ⟨hx, hb, hr, hml, hown, hts, hlk, hK, hA⟩ := id C0
  replace hl : lv_has ls 2 [(0, .ref h)] := hl
  obtain ⟨Q, hQ⟩ : ∃ Q : State → Prop, Q = QI below D A (fun r w => r = o.1 ∧ w = (Mw h q cA o.2.1 fs o.2.2 gs pl it asd)) args s 0 0 := ⟨_, rfl⟩
  refine cast (by rw [hQ]) (?_ : W p l e (RMx 0 0 0 0) s m args below meth c s.heap [] 0 0 Q (F0 m 0 ls []))
  have J250 : ∀ n : Nat, ∀ (x1 : Int32) (fi : Nat → Int32) (ga : Nat → Nat → Int32), k_X7_image_250 n x1 fi ga = some o → ∀ (H : Heap) (locs : List Loc), va_P D vwCl (Mw h q cA fi fs ga gs pl it asd) H → va_D A (Mw h q cA fi fs ga gs pl it asd) → va_S A s.heap H locs → ∀ ls : Array Slot, lv_has ls 2 [(0, .ref h), (1, .int x1)] → W p l e (RMx 0 0 0 0) s m args below meth c H locs 0 0 Q (F0 m 250 ls []) := by
    intro  n
    induction n with
    | zero =>
      intro x1 fi ga hf
      rw [k_X7_image_250] at hf
      cases hf
    | succ n ih =>
      intro x1 fi ga hf H locs hP hD hS ls hl
      rw [k_X7_image_250] at hf
      refine lv_iload_n hx hb dX7_image_250 rfl (lv_at hl 1 rfl) ?_
      refine lv_bipush (v := 8) hx hb dX7_image_251 (by decide) ?_
      refine lv_icmp_ge (tgt := 286) hx hb dX7_image_253 (by decide) (fun c1 => ?_) (fun c1 => ?_)
      · replace hf := it_of c1 hf
        refine lv_aload_n hx hb dX7_image_286 rfl (lv_at hl 0 rfl) ?_
        refine va_get (D := D) (ci := 7) (v := .int (fi 0)) (C := RX7) (T := TX7) (N := 73) hx hb hts fw_7 hown hK hP 0 rfl rfl 0 (by decide) (hts _ m_fieldLink_M_7_M_men_I) (fun _ h9 => h9) rfl dX7_image_287 ?_
        rw [hQ]
        exact ret_i C0 hP hD hS (by have e := Option.some.inj hf; rw [← e]; exact ⟨rfl, rfl⟩) dX7_image_290
      · replace hf := ie_of c1 hf
        refine lv_aload_n hx hb dX7_image_256 rfl (lv_at hl 0 rfl) ?_
        refine va_get (D := D) (ci := 7) (v := .ref (q 65)) (C := RX7) (T := TX7) (N := 73) hx hb hts fw_7 hown hK hP 0 rfl rfl 65 (by decide) (hts _ m_fieldLink_M_208_M_imageBookMan_aI) (fun _ h9 => h9) rfl dX7_image_257 ?_
        refine lv_iload_n hx hb dX7_image_260 rfl (lv_at hl 1 rfl) ?_
        refine lv_aload_n hx hb dX7_image_261 rfl (lv_at hl 0 rfl) ?_
        refine va_get (D := D) (ci := 7) (v := .ref (q 43)) (C := RX7) (T := TX7) (N := 73) hx hb hts fw_7 hown hK hP 0 rfl rfl 43 (by decide) (hts _ m_fieldLink_M_141_M_bookMan_aI) (fun _ h9 => h9) rfl dX7_image_262 ?_
        refine lv_iload_n hx hb dX7_image_265 rfl (lv_at hl 1 rfl) ?_
        obtain ⟨hi2, hf⟩ := gd_of hf
        refine va_iald hx hb hK hP 21 0 rfl rfl hi2 dX7_image_266 ?_
        obtain ⟨hi3, hf⟩ := gd_of hf
        refine va_iast hx hb hK hP hD hS 32 0 rfl rfl hi3 dX7_image_267 (fun H locs hP hD hS => ?_)
        replace hP : va_P D vwCl (Mw h q cA fi fs (va_up ga 65 (upd (ga 65) (Int32.toNatClampNeg x1) ((ga 43) (Int32.toNatClampNeg x1)))) gs pl it asd) H := hP
        replace hD : va_D A (Mw h q cA fi fs (va_up ga 65 (upd (ga 65) (Int32.toNatClampNeg x1) ((ga 43) (Int32.toNatClampNeg x1)))) gs pl it asd) := hD
        refine lv_aload_n hx hb dX7_image_268 rfl (lv_at hl 0 rfl) ?_
        refine va_get (D := D) (ci := 7) (v := .ref (q 66)) (C := RX7) (T := TX7) (N := 73) hx hb hts fw_7 hown hK hP 0 rfl rfl 66 (by decide) (hts _ m_fieldLink_M_211_M_imageBookNerve_aI) (fun _ h9 => h9) rfl dX7_image_269 ?_
        refine lv_iload_n hx hb dX7_image_272 rfl (lv_at hl 1 rfl) ?_
        refine lv_aload_n hx hb dX7_image_273 rfl (lv_at hl 0 rfl) ?_
        refine va_get (D := D) (ci := 7) (v := .ref (q 44)) (C := RX7) (T := TX7) (N := 73) hx hb hts fw_7 hown hK hP 0 rfl rfl 44 (by decide) (hts _ m_fieldLink_M_144_M_bookNerve_aI) (fun _ h9 => h9) rfl dX7_image_274 ?_
        refine lv_iload_n hx hb dX7_image_277 rfl (lv_at hl 1 rfl) ?_
        obtain ⟨hi4, hf⟩ := gd_of hf
        refine va_iald hx hb hK hP 22 0 rfl rfl hi4 dX7_image_278 ?_
        obtain ⟨hi5, hf⟩ := gd_of hf
        refine va_iast hx hb hK hP hD hS 33 0 rfl rfl hi5 dX7_image_279 (fun H locs hP hD hS => ?_)
        replace hP : va_P D vwCl (Mw h q cA fi fs (va_up (va_up ga 65 (upd (ga 65) (Int32.toNatClampNeg x1) ((ga 43) (Int32.toNatClampNeg x1)))) 66 (upd (ga 66) (Int32.toNatClampNeg x1) ((ga 44) (Int32.toNatClampNeg x1)))) gs pl it asd) H := hP
        replace hD : va_D A (Mw h q cA fi fs (va_up (va_up ga 65 (upd (ga 65) (Int32.toNatClampNeg x1) ((ga 43) (Int32.toNatClampNeg x1)))) 66 (upd (ga 66) (Int32.toNatClampNeg x1) ((ga 44) (Int32.toNatClampNeg x1)))) gs pl it asd) := hD
        obtain ⟨ga_6, hv7, hf⟩ := nm_of hf
        replace hP : va_P D vwCl (Mw h q cA fi fs ga_6 gs pl it asd) H := by rw [hv7]; exact hP
        replace hD : va_D A (Mw h q cA fi fs ga_6 gs pl it asd) := by rw [hv7]; exact hD
        refine lv_iinc (v := (x1 + 1)) (lv' := [(1, .int (x1 + 1)), (0, .ref h)]) hx hb dX7_image_280 hl (k := 1) rfl rfl (by decide) rfl (fun ls hl => ?_)
        refine lv_goto (tgt := 250) hx hb dX7_image_283 (by decide) ?_
        exact ih (x1 + 1) fi ga_6 hf _ _ hP hD hS _ (lv_sub hl [1, 0] rfl)
  have J212 : ∀ n : Nat, ∀ (x1 : Int32) (fi : Nat → Int32) (ga : Nat → Nat → Int32), k_X7_image_212 n x1 fi ga = some o → ∀ (H : Heap) (locs : List Loc), va_P D vwCl (Mw h q cA fi fs ga gs pl it asd) H → va_D A (Mw h q cA fi fs ga gs pl it asd) → va_S A s.heap H locs → ∀ ls : Array Slot, lv_has ls 2 [(0, .ref h), (1, .int x1)] → W p l e (RMx 0 0 0 0) s m args below meth c H locs 0 0 Q (F0 m 212 ls []) := by
    intro  n
    induction n with
    | zero =>
      intro x1 fi ga hf
      rw [k_X7_image_212] at hf
      cases hf
    | succ n ih =>
      intro x1 fi ga hf H locs hP hD hS ls hl
      rw [k_X7_image_212] at hf
      refine lv_iload_n hx hb dX7_image_212 rfl (lv_at hl 1 rfl) ?_
      refine lv_bipush (v := 10) hx hb dX7_image_213 (by decide) ?_
      refine lv_icmp_ge (tgt := 248) hx hb dX7_image_215 (by decide) (fun c1 => ?_) (fun c1 => ?_)
      · replace hf := it_of c1 hf
        refine lv_iconst (v := 0) hx hb dX7_image_248 (by decide) ?_
        refine lv_istore_n (lv' := [(1, .int 0), (0, .ref h)]) hx hb dX7_image_249 rfl hl (by decide) rfl (fun ls hl => ?_)
        exact J250 100000 0 fi ga hf _ _ hP hD hS _ (lv_sub hl [1, 0] rfl)
      · replace hf := ie_of c1 hf
        refine lv_aload_n hx hb dX7_image_218 rfl (lv_at hl 0 rfl) ?_
        refine va_get (D := D) (ci := 7) (v := .ref (q 63)) (C := RX7) (T := TX7) (N := 73) hx hb hts fw_7 hown hK hP 0 rfl rfl 63 (by decide) (hts _ m_fieldLink_M_202_M_imageWhat_aI) (fun _ h9 => h9) rfl dX7_image_219 ?_
        refine lv_iload_n hx hb dX7_image_222 rfl (lv_at hl 1 rfl) ?_
        refine lv_aload_n hx hb dX7_image_223 rfl (lv_at hl 0 rfl) ?_
        refine va_get (D := D) (ci := 7) (v := .ref (q 41)) (C := RX7) (T := TX7) (N := 73) hx hb hts fw_7 hown hK hP 0 rfl rfl 41 (by decide) (hts _ m_fieldLink_M_135_M_planWhat_aI) (fun _ h9 => h9) rfl dX7_image_224 ?_
        refine lv_iload_n hx hb dX7_image_227 rfl (lv_at hl 1 rfl) ?_
        obtain ⟨hi2, hf⟩ := gd_of hf
        refine va_iald hx hb hK hP 19 0 rfl rfl hi2 dX7_image_228 ?_
        obtain ⟨hi3, hf⟩ := gd_of hf
        refine va_iast hx hb hK hP hD hS 30 0 rfl rfl hi3 dX7_image_229 (fun H locs hP hD hS => ?_)
        replace hP : va_P D vwCl (Mw h q cA fi fs (va_up ga 63 (upd (ga 63) (Int32.toNatClampNeg x1) ((ga 41) (Int32.toNatClampNeg x1)))) gs pl it asd) H := hP
        replace hD : va_D A (Mw h q cA fi fs (va_up ga 63 (upd (ga 63) (Int32.toNatClampNeg x1) ((ga 41) (Int32.toNatClampNeg x1)))) gs pl it asd) := hD
        refine lv_aload_n hx hb dX7_image_230 rfl (lv_at hl 0 rfl) ?_
        refine va_get (D := D) (ci := 7) (v := .ref (q 64)) (C := RX7) (T := TX7) (N := 73) hx hb hts fw_7 hown hK hP 0 rfl rfl 64 (by decide) (hts _ m_fieldLink_M_205_M_imageMan_aI) (fun _ h9 => h9) rfl dX7_image_231 ?_
        refine lv_iload_n hx hb dX7_image_234 rfl (lv_at hl 1 rfl) ?_
        refine lv_aload_n hx hb dX7_image_235 rfl (lv_at hl 0 rfl) ?_
        refine va_get (D := D) (ci := 7) (v := .ref (q 42)) (C := RX7) (T := TX7) (N := 73) hx hb hts fw_7 hown hK hP 0 rfl rfl 42 (by decide) (hts _ m_fieldLink_M_138_M_planMan_aI) (fun _ h9 => h9) rfl dX7_image_236 ?_
        refine lv_iload_n hx hb dX7_image_239 rfl (lv_at hl 1 rfl) ?_
        obtain ⟨hi4, hf⟩ := gd_of hf
        refine va_iald hx hb hK hP 20 0 rfl rfl hi4 dX7_image_240 ?_
        obtain ⟨hi5, hf⟩ := gd_of hf
        refine va_iast hx hb hK hP hD hS 31 0 rfl rfl hi5 dX7_image_241 (fun H locs hP hD hS => ?_)
        replace hP : va_P D vwCl (Mw h q cA fi fs (va_up (va_up ga 63 (upd (ga 63) (Int32.toNatClampNeg x1) ((ga 41) (Int32.toNatClampNeg x1)))) 64 (upd (ga 64) (Int32.toNatClampNeg x1) ((ga 42) (Int32.toNatClampNeg x1)))) gs pl it asd) H := hP
        replace hD : va_D A (Mw h q cA fi fs (va_up (va_up ga 63 (upd (ga 63) (Int32.toNatClampNeg x1) ((ga 41) (Int32.toNatClampNeg x1)))) 64 (upd (ga 64) (Int32.toNatClampNeg x1) ((ga 42) (Int32.toNatClampNeg x1)))) gs pl it asd) := hD
        obtain ⟨ga_6, hv7, hf⟩ := nm_of hf
        replace hP : va_P D vwCl (Mw h q cA fi fs ga_6 gs pl it asd) H := by rw [hv7]; exact hP
        replace hD : va_D A (Mw h q cA fi fs ga_6 gs pl it asd) := by rw [hv7]; exact hD
        refine lv_iinc (v := (x1 + 1)) (lv' := [(1, .int (x1 + 1)), (0, .ref h)]) hx hb dX7_image_242 hl (k := 1) rfl rfl (by decide) rfl (fun ls hl => ?_)
        refine lv_goto (tgt := 212) hx hb dX7_image_245 (by decide) ?_
        exact ih (x1 + 1) fi ga_6 hf _ _ hP hD hS _ (lv_sub hl [1, 0] rfl)
  have J175 : ∀ n : Nat, ∀ (x1 : Int32) (fi : Nat → Int32) (ga : Nat → Nat → Int32), k_X7_image_175 n x1 fi ga = some o → ∀ (H : Heap) (locs : List Loc), va_P D vwCl (Mw h q cA fi fs ga gs pl it asd) H → va_D A (Mw h q cA fi fs ga gs pl it asd) → va_S A s.heap H locs → ∀ ls : Array Slot, lv_has ls 2 [(0, .ref h), (1, .int x1)] → W p l e (RMx 0 0 0 0) s m args below meth c H locs 0 0 Q (F0 m 175 ls []) := by
    intro  n
    induction n with
    | zero =>
      intro x1 fi ga hf
      rw [k_X7_image_175] at hf
      cases hf
    | succ n ih =>
      intro x1 fi ga hf H locs hP hD hS ls hl
      rw [k_X7_image_175] at hf
      refine lv_iload_n hx hb dX7_image_175 rfl (lv_at hl 1 rfl) ?_
      refine lv_iconst (v := 5) hx hb dX7_image_176 (by decide) ?_
      refine lv_icmp_ge (tgt := 210) hx hb dX7_image_177 (by decide) (fun c1 => ?_) (fun c1 => ?_)
      · replace hf := it_of c1 hf
        refine lv_iconst (v := 0) hx hb dX7_image_210 (by decide) ?_
        refine lv_istore_n (lv' := [(1, .int 0), (0, .ref h)]) hx hb dX7_image_211 rfl hl (by decide) rfl (fun ls hl => ?_)
        exact J212 100000 0 fi ga hf _ _ hP hD hS _ (lv_sub hl [1, 0] rfl)
      · replace hf := ie_of c1 hf
        refine lv_aload_n hx hb dX7_image_180 rfl (lv_at hl 0 rfl) ?_
        refine va_get (D := D) (ci := 7) (v := .ref (q 61)) (C := RX7) (T := TX7) (N := 73) hx hb hts fw_7 hown hK hP 0 rfl rfl 61 (by decide) (hts _ m_fieldLink_M_196_M_imageWhen_aI) (fun _ h9 => h9) rfl dX7_image_181 ?_
        refine lv_iload_n hx hb dX7_image_184 rfl (lv_at hl 1 rfl) ?_
        refine lv_aload_n hx hb dX7_image_185 rfl (lv_at hl 0 rfl) ?_
        refine va_get (D := D) (ci := 7) (v := .ref (q 37)) (C := RX7) (T := TX7) (N := 73) hx hb hts fw_7 hown hK hP 0 rfl rfl 37 (by decide) (hts _ m_fieldLink_M_123_M_heardWhen_aI) (fun _ h9 => h9) rfl dX7_image_186 ?_
        refine lv_iload_n hx hb dX7_image_189 rfl (lv_at hl 1 rfl) ?_
        obtain ⟨hi2, hf⟩ := gd_of hf
        refine va_iald hx hb hK hP 17 0 rfl rfl hi2 dX7_image_190 ?_
        obtain ⟨hi3, hf⟩ := gd_of hf
        refine va_iast hx hb hK hP hD hS 28 0 rfl rfl hi3 dX7_image_191 (fun H locs hP hD hS => ?_)
        replace hP : va_P D vwCl (Mw h q cA fi fs (va_up ga 61 (upd (ga 61) (Int32.toNatClampNeg x1) ((ga 37) (Int32.toNatClampNeg x1)))) gs pl it asd) H := hP
        replace hD : va_D A (Mw h q cA fi fs (va_up ga 61 (upd (ga 61) (Int32.toNatClampNeg x1) ((ga 37) (Int32.toNatClampNeg x1)))) gs pl it asd) := hD
        refine lv_aload_n hx hb dX7_image_192 rfl (lv_at hl 0 rfl) ?_
        refine va_get (D := D) (ci := 7) (v := .ref (q 62)) (C := RX7) (T := TX7) (N := 73) hx hb hts fw_7 hown hK hP 0 rfl rfl 62 (by decide) (hts _ m_fieldLink_M_199_M_imageSound_aI) (fun _ h9 => h9) rfl dX7_image_193 ?_
        refine lv_iload_n hx hb dX7_image_196 rfl (lv_at hl 1 rfl) ?_
        refine lv_aload_n hx hb dX7_image_197 rfl (lv_at hl 0 rfl) ?_
        refine va_get (D := D) (ci := 7) (v := .ref (q 38)) (C := RX7) (T := TX7) (N := 73) hx hb hts fw_7 hown hK hP 0 rfl rfl 38 (by decide) (hts _ m_fieldLink_M_126_M_heardSound_aI) (fun _ h9 => h9) rfl dX7_image_198 ?_
        refine lv_iload_n hx hb dX7_image_201 rfl (lv_at hl 1 rfl) ?_
        obtain ⟨hi4, hf⟩ := gd_of hf
        refine va_iald hx hb hK hP 18 0 rfl rfl hi4 dX7_image_202 ?_
        obtain ⟨hi5, hf⟩ := gd_of hf
        refine va_iast hx hb hK hP hD hS 29 0 rfl rfl hi5 dX7_image_203 (fun H locs hP hD hS => ?_)
        replace hP : va_P D vwCl (Mw h q cA fi fs (va_up (va_up ga 61 (upd (ga 61) (Int32.toNatClampNeg x1) ((ga 37) (Int32.toNatClampNeg x1)))) 62 (upd (ga 62) (Int32.toNatClampNeg x1) ((ga 38) (Int32.toNatClampNeg x1)))) gs pl it asd) H := hP
        replace hD : va_D A (Mw h q cA fi fs (va_up (va_up ga 61 (upd (ga 61) (Int32.toNatClampNeg x1) ((ga 37) (Int32.toNatClampNeg x1)))) 62 (upd (ga 62) (Int32.toNatClampNeg x1) ((ga 38) (Int32.toNatClampNeg x1)))) gs pl it asd) := hD
        obtain ⟨ga_6, hv7, hf⟩ := nm_of hf
        replace hP : va_P D vwCl (Mw h q cA fi fs ga_6 gs pl it asd) H := by rw [hv7]; exact hP
        replace hD : va_D A (Mw h q cA fi fs ga_6 gs pl it asd) := by rw [hv7]; exact hD
        refine lv_iinc (v := (x1 + 1)) (lv' := [(1, .int (x1 + 1)), (0, .ref h)]) hx hb dX7_image_204 hl (k := 1) rfl rfl (by decide) rfl (fun ls hl => ?_)
        refine lv_goto (tgt := 175) hx hb dX7_image_207 (by decide) ?_
        exact ih (x1 + 1) fi ga_6 hf _ _ hP hD hS _ (lv_sub hl [1, 0] rfl)
  have J149 : ∀ n : Nat, ∀ (x1 : Int32) (fi : Nat → Int32) (ga : Nat → Nat → Int32), k_X7_image_149 n x1 fi ga = some o → ∀ (H : Heap) (locs : List Loc), va_P D vwCl (Mw h q cA fi fs ga gs pl it asd) H → va_D A (Mw h q cA fi fs ga gs pl it asd) → va_S A s.heap H locs → ∀ ls : Array Slot, lv_has ls 2 [(0, .ref h), (1, .int x1)] → W p l e (RMx 0 0 0 0) s m args below meth c H locs 0 0 Q (F0 m 149 ls []) := by
    intro  n
    induction n with
    | zero =>
      intro x1 fi ga hf
      rw [k_X7_image_149] at hf
      cases hf
    | succ n ih =>
      intro x1 fi ga hf H locs hP hD hS ls hl
      rw [k_X7_image_149] at hf
      refine lv_iload_n hx hb dX7_image_149 rfl (lv_at hl 1 rfl) ?_
      refine lv_bipush (v := 24) hx hb dX7_image_150 (by decide) ?_
      refine lv_icmp_ge (tgt := 173) hx hb dX7_image_152 (by decide) (fun c1 => ?_) (fun c1 => ?_)
      · replace hf := it_of c1 hf
        refine lv_iconst (v := 0) hx hb dX7_image_173 (by decide) ?_
        refine lv_istore_n (lv' := [(1, .int 0), (0, .ref h)]) hx hb dX7_image_174 rfl hl (by decide) rfl (fun ls hl => ?_)
        exact J175 100000 0 fi ga hf _ _ hP hD hS _ (lv_sub hl [1, 0] rfl)
      · replace hf := ie_of c1 hf
        refine lv_aload_n hx hb dX7_image_155 rfl (lv_at hl 0 rfl) ?_
        refine va_get (D := D) (ci := 7) (v := .ref (q 60)) (C := RX7) (T := TX7) (N := 73) hx hb hts fw_7 hown hK hP 0 rfl rfl 60 (by decide) (hts _ m_fieldLink_M_193_M_imageRows_aI) (fun _ h9 => h9) rfl dX7_image_156 ?_
        refine lv_iload_n hx hb dX7_image_159 rfl (lv_at hl 1 rfl) ?_
        refine lv_aload_n hx hb dX7_image_160 rfl (lv_at hl 0 rfl) ?_
        refine va_get (D := D) (ci := 7) (v := .ref (q 10)) (C := RX7) (T := TX7) (N := 73) hx hb hts fw_7 hown hK hP 0 rfl rfl 10 (by decide) (hts _ m_fieldLink_M_41_M_rows_aI) (fun _ h9 => h9) rfl dX7_image_161 ?_
        refine lv_iload_n hx hb dX7_image_164 rfl (lv_at hl 1 rfl) ?_
        obtain ⟨hi2, hf⟩ := gd_of hf
        refine va_iald hx hb hK hP 5 0 rfl rfl hi2 dX7_image_165 ?_
        obtain ⟨hi3, hf⟩ := gd_of hf
        refine va_iast hx hb hK hP hD hS 27 0 rfl rfl hi3 dX7_image_166 (fun H locs hP hD hS => ?_)
        replace hP : va_P D vwCl (Mw h q cA fi fs (va_up ga 60 (upd (ga 60) (Int32.toNatClampNeg x1) ((ga 10) (Int32.toNatClampNeg x1)))) gs pl it asd) H := hP
        replace hD : va_D A (Mw h q cA fi fs (va_up ga 60 (upd (ga 60) (Int32.toNatClampNeg x1) ((ga 10) (Int32.toNatClampNeg x1)))) gs pl it asd) := hD
        refine lv_iinc (v := (x1 + 1)) (lv' := [(1, .int (x1 + 1)), (0, .ref h)]) hx hb dX7_image_167 hl (k := 1) rfl rfl (by decide) rfl (fun ls hl => ?_)
        refine lv_goto (tgt := 149) hx hb dX7_image_170 (by decide) ?_
        exact ih (x1 + 1) fi (va_up ga 60 (upd (ga 60) (Int32.toNatClampNeg x1) ((ga 10) (Int32.toNatClampNeg x1)))) hf _ _ hP hD hS _ (lv_sub hl [1, 0] rfl)
  have J87 : ∀ n : Nat, ∀ (x1 : Int32) (fi : Nat → Int32) (ga : Nat → Nat → Int32), k_X7_image_87 n x1 fi ga = some o → ∀ (H : Heap) (locs : List Loc), va_P D vwCl (Mw h q cA fi fs ga gs pl it asd) H → va_D A (Mw h q cA fi fs ga gs pl it asd) → va_S A s.heap H locs → ∀ ls : Array Slot, lv_has ls 2 [(0, .ref h), (1, .int x1)] → W p l e (RMx 0 0 0 0) s m args below meth c H locs 0 0 Q (F0 m 87 ls []) := by
    intro  n
    induction n with
    | zero =>
      intro x1 fi ga hf
      rw [k_X7_image_87] at hf
      cases hf
    | succ n ih =>
      intro x1 fi ga hf H locs hP hD hS ls hl
      rw [k_X7_image_87] at hf
      refine lv_iload_n hx hb dX7_image_87 rfl (lv_at hl 1 rfl) ?_
      refine lv_bipush (v := 6) hx hb dX7_image_88 (by decide) ?_
      refine lv_icmp_ge (tgt := 147) hx hb dX7_image_90 (by decide) (fun c1 => ?_) (fun c1 => ?_)
      · replace hf := it_of c1 hf
        refine lv_iconst (v := 0) hx hb dX7_image_147 (by decide) ?_
        refine lv_istore_n (lv' := [(1, .int 0), (0, .ref h)]) hx hb dX7_image_148 rfl hl (by decide) rfl (fun ls hl => ?_)
        exact J149 100000 0 fi ga hf _ _ hP hD hS _ (lv_sub hl [1, 0] rfl)
      · replace hf := ie_of c1 hf
        refine lv_aload_n hx hb dX7_image_93 rfl (lv_at hl 0 rfl) ?_
        refine va_get (D := D) (ci := 7) (v := .ref (q 56)) (C := RX7) (T := TX7) (N := 73) hx hb hts fw_7 hown hK hP 0 rfl rfl 56 (by decide) (hts _ m_fieldLink_M_181_M_imageKind_aI) (fun _ h9 => h9) rfl dX7_image_94 ?_
        refine lv_iload_n hx hb dX7_image_97 rfl (lv_at hl 1 rfl) ?_
        refine lv_aload_n hx hb dX7_image_98 rfl (lv_at hl 0 rfl) ?_
        refine va_get (D := D) (ci := 7) (v := .ref (q 6)) (C := RX7) (T := TX7) (N := 73) hx hb hts fw_7 hown hK hP 0 rfl rfl 6 (by decide) (hts _ m_fieldLink_M_28_M_kind_aI) (fun _ h9 => h9) rfl dX7_image_99 ?_
        refine lv_iload_n hx hb dX7_image_102 rfl (lv_at hl 1 rfl) ?_
        obtain ⟨hi2, hf⟩ := gd_of hf
        refine va_iald hx hb hK hP 1 0 rfl rfl hi2 dX7_image_103 ?_
        obtain ⟨hi3, hf⟩ := gd_of hf
        refine va_iast hx hb hK hP hD hS 23 0 rfl rfl hi3 dX7_image_104 (fun H locs hP hD hS => ?_)
        replace hP : va_P D vwCl (Mw h q cA fi fs (va_up ga 56 (upd (ga 56) (Int32.toNatClampNeg x1) ((ga 6) (Int32.toNatClampNeg x1)))) gs pl it asd) H := hP
        replace hD : va_D A (Mw h q cA fi fs (va_up ga 56 (upd (ga 56) (Int32.toNatClampNeg x1) ((ga 6) (Int32.toNatClampNeg x1)))) gs pl it asd) := hD
        refine lv_aload_n hx hb dX7_image_105 rfl (lv_at hl 0 rfl) ?_
        refine va_get (D := D) (ci := 7) (v := .ref (q 57)) (C := RX7) (T := TX7) (N := 73) hx hb hts fw_7 hown hK hP 0 rfl rfl 57 (by decide) (hts _ m_fieldLink_M_184_M_imageV_aI) (fun _ h9 => h9) rfl dX7_image_106 ?_
        refine lv_iload_n hx hb dX7_image_109 rfl (lv_at hl 1 rfl) ?_
        refine lv_aload_n hx hb dX7_image_110 rfl (lv_at hl 0 rfl) ?_
        refine va_get (D := D) (ci := 7) (v := .ref (q 7)) (C := RX7) (T := TX7) (N := 73) hx hb hts fw_7 hown hK hP 0 rfl rfl 7 (by decide) (hts _ m_fieldLink_M_32_M_v_aI) (fun _ h9 => h9) rfl dX7_image_111 ?_
        refine lv_iload_n hx hb dX7_image_114 rfl (lv_at hl 1 rfl) ?_
        obtain ⟨hi4, hf⟩ := gd_of hf
        refine va_iald hx hb hK hP 2 0 rfl rfl hi4 dX7_image_115 ?_
        obtain ⟨hi5, hf⟩ := gd_of hf
        refine va_iast hx hb hK hP hD hS 24 0 rfl rfl hi5 dX7_image_116 (fun H locs hP hD hS => ?_)
        replace hP : va_P D vwCl (Mw h q cA fi fs (va_up (va_up ga 56 (upd (ga 56) (Int32.toNatClampNeg x1) ((ga 6) (Int32.toNatClampNeg x1)))) 57 (upd (ga 57) (Int32.toNatClampNeg x1) ((ga 7) (Int32.toNatClampNeg x1)))) gs pl it asd) H := hP
        replace hD : va_D A (Mw h q cA fi fs (va_up (va_up ga 56 (upd (ga 56) (Int32.toNatClampNeg x1) ((ga 6) (Int32.toNatClampNeg x1)))) 57 (upd (ga 57) (Int32.toNatClampNeg x1) ((ga 7) (Int32.toNatClampNeg x1)))) gs pl it asd) := hD
        obtain ⟨ga_6, hv7, hf⟩ := nm_of hf
        replace hP : va_P D vwCl (Mw h q cA fi fs ga_6 gs pl it asd) H := by rw [hv7]; exact hP
        replace hD : va_D A (Mw h q cA fi fs ga_6 gs pl it asd) := by rw [hv7]; exact hD
        refine lv_aload_n hx hb dX7_image_117 rfl (lv_at hl 0 rfl) ?_
        refine va_get (D := D) (ci := 7) (v := .ref (q 58)) (C := RX7) (T := TX7) (N := 73) hx hb hts fw_7 hown hK hP 0 rfl rfl 58 (by decide) (hts _ m_fieldLink_M_187_M_imageNerve_aI) (fun _ h9 => h9) rfl dX7_image_118 ?_
        refine lv_iload_n hx hb dX7_image_121 rfl (lv_at hl 1 rfl) ?_
        refine lv_aload_n hx hb dX7_image_122 rfl (lv_at hl 0 rfl) ?_
        refine va_get (D := D) (ci := 7) (v := .ref (q 8)) (C := RX7) (T := TX7) (N := 73) hx hb hts fw_7 hown hK hP 0 rfl rfl 8 (by decide) (hts _ m_fieldLink_M_35_M_nerve_aI) (fun _ h9 => h9) rfl dX7_image_123 ?_
        refine lv_iload_n hx hb dX7_image_126 rfl (lv_at hl 1 rfl) ?_
        obtain ⟨hi8, hf⟩ := gd_of hf
        refine va_iald hx hb hK hP 3 0 rfl rfl hi8 dX7_image_127 ?_
        obtain ⟨hi9, hf⟩ := gd_of hf
        refine va_iast hx hb hK hP hD hS 25 0 rfl rfl hi9 dX7_image_128 (fun H locs hP hD hS => ?_)
        replace hP : va_P D vwCl (Mw h q cA fi fs (va_up ga_6 58 (upd (ga_6 58) (Int32.toNatClampNeg x1) ((ga_6 8) (Int32.toNatClampNeg x1)))) gs pl it asd) H := hP
        replace hD : va_D A (Mw h q cA fi fs (va_up ga_6 58 (upd (ga_6 58) (Int32.toNatClampNeg x1) ((ga_6 8) (Int32.toNatClampNeg x1)))) gs pl it asd) := hD
        refine lv_aload_n hx hb dX7_image_129 rfl (lv_at hl 0 rfl) ?_
        refine va_get (D := D) (ci := 7) (v := .ref (q 59)) (C := RX7) (T := TX7) (N := 73) hx hb hts fw_7 hown hK hP 0 rfl rfl 59 (by decide) (hts _ m_fieldLink_M_190_M_imageSpell_aI) (fun _ h9 => h9) rfl dX7_image_130 ?_
        refine lv_iload_n hx hb dX7_image_133 rfl (lv_at hl 1 rfl) ?_
        refine lv_aload_n hx hb dX7_image_134 rfl (lv_at hl 0 rfl) ?_
        refine va_get (D := D) (ci := 7) (v := .ref (q 9)) (C := RX7) (T := TX7) (N := 73) hx hb hts fw_7 hown hK hP 0 rfl rfl 9 (by decide) (hts _ m_fieldLink_M_38_M_spell_aI) (fun _ h9 => h9) rfl dX7_image_135 ?_
        refine lv_iload_n hx hb dX7_image_138 rfl (lv_at hl 1 rfl) ?_
        obtain ⟨hi10, hf⟩ := gd_of hf
        refine va_iald hx hb hK hP 4 0 rfl rfl hi10 dX7_image_139 ?_
        obtain ⟨hi11, hf⟩ := gd_of hf
        refine va_iast hx hb hK hP hD hS 26 0 rfl rfl hi11 dX7_image_140 (fun H locs hP hD hS => ?_)
        replace hP : va_P D vwCl (Mw h q cA fi fs (va_up (va_up ga_6 58 (upd (ga_6 58) (Int32.toNatClampNeg x1) ((ga_6 8) (Int32.toNatClampNeg x1)))) 59 (upd (ga_6 59) (Int32.toNatClampNeg x1) ((ga_6 9) (Int32.toNatClampNeg x1)))) gs pl it asd) H := hP
        replace hD : va_D A (Mw h q cA fi fs (va_up (va_up ga_6 58 (upd (ga_6 58) (Int32.toNatClampNeg x1) ((ga_6 8) (Int32.toNatClampNeg x1)))) 59 (upd (ga_6 59) (Int32.toNatClampNeg x1) ((ga_6 9) (Int32.toNatClampNeg x1)))) gs pl it asd) := hD
        obtain ⟨ga_12, hv13, hf⟩ := nm_of hf
        replace hP : va_P D vwCl (Mw h q cA fi fs ga_12 gs pl it asd) H := by rw [hv13]; exact hP
        replace hD : va_D A (Mw h q cA fi fs ga_12 gs pl it asd) := by rw [hv13]; exact hD
        refine lv_iinc (v := (x1 + 1)) (lv' := [(1, .int (x1 + 1)), (0, .ref h)]) hx hb dX7_image_141 hl (k := 1) rfl rfl (by decide) rfl (fun ls hl => ?_)
        refine lv_goto (tgt := 87) hx hb dX7_image_144 (by decide) ?_
        exact ih (x1 + 1) fi ga_12 hf _ _ hP hD hS _ (lv_sub hl [1, 0] rfl)
  unfold k_X7_image at hf
  refine lv_aload_n hx hb dX7_image_0 rfl (lv_at hl 0 rfl) ?_
  refine lv_iconst (v := 1) hx hb dX7_image_1 (by decide) ?_
  refine va_put (D := D) (ci := 7) (v := .int 1) (ty := .boolean) (C := RX7) (T := TX7) (N := 73) hx hb hts fw_7 tyX7 tyX7_ok nmX7 hown hK hP hD hS 0 rfl rfl 45 (by decide) (hts _ m_fieldLink_M_147_M_hasImage_Z) (fun _ h9 => h9) rfl (by decide +kernel) rfl rfl (Nat.le_of_ble_eq_true rfl) dX7_image_2 (fun H locs hP hD hS => ?_)
  replace hP : va_P D vwCl (Mw h q cA (upd fi0 45 1) fs ga0 gs pl it asd) H := hP
  replace hD : va_D A (Mw h q cA (upd fi0 45 1) fs ga0 gs pl it asd) := hD
  refine lv_aload_n hx hb dX7_image_5 rfl (lv_at hl 0 rfl) ?_
  refine lv_aload_n hx hb dX7_image_6 rfl (lv_at hl 0 rfl) ?_
  refine va_get (D := D) (ci := 7) (v := .int (fi0 12)) (C := RX7) (T := TX7) (N := 73) hx hb hts fw_7 hown hK hP 0 rfl rfl 12 (by decide) (hts _ m_fieldLink_M_47_M_the_I) (fun _ h9 => h9) rfl dX7_image_7 ?_
  refine va_put (D := D) (ci := 7) (v := .int (fi0 12)) (ty := .int) (C := RX7) (T := TX7) (N := 73) hx hb hts fw_7 tyX7 tyX7_ok nmX7 hown hK hP hD hS 0 rfl rfl 46 (by decide) (hts _ m_fieldLink_M_151_M_imageThe_I) (fun _ h9 => h9) rfl (by decide +kernel) rfl rfl (Nat.le_of_ble_eq_true rfl) dX7_image_10 (fun H locs hP hD hS => ?_)
  replace hP : va_P D vwCl (Mw h q cA (upd (upd fi0 45 1) 46 (fi0 12)) fs ga0 gs pl it asd) H := hP
  replace hD : va_D A (Mw h q cA (upd (upd fi0 45 1) 46 (fi0 12)) fs ga0 gs pl it asd) := hD
  refine lv_aload_n hx hb dX7_image_13 rfl (lv_at hl 0 rfl) ?_
  refine lv_aload_n hx hb dX7_image_14 rfl (lv_at hl 0 rfl) ?_
  refine va_get (D := D) (ci := 7) (v := .int (fi0 0)) (C := RX7) (T := TX7) (N := 73) hx hb hts fw_7 hown hK hP 0 rfl rfl 0 (by decide) (hts _ m_fieldLink_M_7_M_men_I) (fun _ h9 => h9) rfl dX7_image_15 ?_
  refine va_put (D := D) (ci := 7) (v := .int (fi0 0)) (ty := .int) (C := RX7) (T := TX7) (N := 73) hx hb hts fw_7 tyX7 tyX7_ok nmX7 hown hK hP hD hS 0 rfl rfl 47 (by decide) (hts _ m_fieldLink_M_154_M_imageMen_I) (fun _ h9 => h9) rfl (by decide +kernel) rfl rfl (Nat.le_of_ble_eq_true rfl) dX7_image_18 (fun H locs hP hD hS => ?_)
  replace hP : va_P D vwCl (Mw h q cA (upd (upd (upd fi0 45 1) 46 (fi0 12)) 47 (fi0 0)) fs ga0 gs pl it asd) H := hP
  replace hD : va_D A (Mw h q cA (upd (upd (upd fi0 45 1) 46 (fi0 12)) 47 (fi0 0)) fs ga0 gs pl it asd) := hD
  obtain ⟨fi_1, hv2, hf⟩ := nm_of hf
  replace hP : va_P D vwCl (Mw h q cA fi_1 fs ga0 gs pl it asd) H := by rw [hv2]; exact hP
  replace hD : va_D A (Mw h q cA fi_1 fs ga0 gs pl it asd) := by rw [hv2]; exact hD
  refine lv_aload_n hx hb dX7_image_21 rfl (lv_at hl 0 rfl) ?_
  refine lv_aload_n hx hb dX7_image_22 rfl (lv_at hl 0 rfl) ?_
  refine va_get (D := D) (ci := 7) (v := .int (fi_1 1)) (C := RX7) (T := TX7) (N := 73) hx hb hts fw_7 hown hK hP 0 rfl rfl 1 (by decide) (hts _ m_fieldLink_M_13_M_up_I) (fun _ h9 => h9) rfl dX7_image_23 ?_
  refine va_put (D := D) (ci := 7) (v := .int (fi_1 1)) (ty := .int) (C := RX7) (T := TX7) (N := 73) hx hb hts fw_7 tyX7 tyX7_ok nmX7 hown hK hP hD hS 0 rfl rfl 48 (by decide) (hts _ m_fieldLink_M_157_M_imageUp_I) (fun _ h9 => h9) rfl (by decide +kernel) rfl rfl (Nat.le_of_ble_eq_true rfl) dX7_image_26 (fun H locs hP hD hS => ?_)
  replace hP : va_P D vwCl (Mw h q cA (upd fi_1 48 (fi_1 1)) fs ga0 gs pl it asd) H := hP
  replace hD : va_D A (Mw h q cA (upd fi_1 48 (fi_1 1)) fs ga0 gs pl it asd) := hD
  refine lv_aload_n hx hb dX7_image_29 rfl (lv_at hl 0 rfl) ?_
  refine lv_aload_n hx hb dX7_image_30 rfl (lv_at hl 0 rfl) ?_
  refine va_get (D := D) (ci := 7) (v := .int (fi_1 2)) (C := RX7) (T := TX7) (N := 73) hx hb hts fw_7 hown hK hP 0 rfl rfl 2 (by decide) (hts _ m_fieldLink_M_16_M_fears_I) (fun _ h9 => h9) rfl dX7_image_31 ?_
  refine va_put (D := D) (ci := 7) (v := .int (fi_1 2)) (ty := .int) (C := RX7) (T := TX7) (N := 73) hx hb hts fw_7 tyX7 tyX7_ok nmX7 hown hK hP hD hS 0 rfl rfl 49 (by decide) (hts _ m_fieldLink_M_160_M_imageFears_I) (fun _ h9 => h9) rfl (by decide +kernel) rfl rfl (Nat.le_of_ble_eq_true rfl) dX7_image_34 (fun H locs hP hD hS => ?_)
  replace hP : va_P D vwCl (Mw h q cA (upd (upd fi_1 48 (fi_1 1)) 49 (fi_1 2)) fs ga0 gs pl it asd) H := hP
  replace hD : va_D A (Mw h q cA (upd (upd fi_1 48 (fi_1 1)) 49 (fi_1 2)) fs ga0 gs pl it asd) := hD
  refine lv_aload_n hx hb dX7_image_37 rfl (lv_at hl 0 rfl) ?_
  refine lv_aload_n hx hb dX7_image_38 rfl (lv_at hl 0 rfl) ?_
  refine va_get (D := D) (ci := 7) (v := .int (fi_1 3)) (C := RX7) (T := TX7) (N := 73) hx hb hts fw_7 hown hK hP 0 rfl rfl 3 (by decide) (hts _ m_fieldLink_M_19_M_truths_I) (fun _ h9 => h9) rfl dX7_image_39 ?_
  refine va_put (D := D) (ci := 7) (v := .int (fi_1 3)) (ty := .int) (C := RX7) (T := TX7) (N := 73) hx hb hts fw_7 tyX7 tyX7_ok nmX7 hown hK hP hD hS 0 rfl rfl 50 (by decide) (hts _ m_fieldLink_M_163_M_imageTruths_I) (fun _ h9 => h9) rfl (by decide +kernel) rfl rfl (Nat.le_of_ble_eq_true rfl) dX7_image_42 (fun H locs hP hD hS => ?_)
  replace hP : va_P D vwCl (Mw h q cA (upd (upd (upd fi_1 48 (fi_1 1)) 49 (fi_1 2)) 50 (fi_1 3)) fs ga0 gs pl it asd) H := hP
  replace hD : va_D A (Mw h q cA (upd (upd (upd fi_1 48 (fi_1 1)) 49 (fi_1 2)) 50 (fi_1 3)) fs ga0 gs pl it asd) := hD
  obtain ⟨fi_3, hv4, hf⟩ := nm_of hf
  replace hP : va_P D vwCl (Mw h q cA fi_3 fs ga0 gs pl it asd) H := by rw [hv4]; exact hP
  replace hD : va_D A (Mw h q cA fi_3 fs ga0 gs pl it asd) := by rw [hv4]; exact hD
  refine lv_aload_n hx hb dX7_image_45 rfl (lv_at hl 0 rfl) ?_
  refine lv_aload_n hx hb dX7_image_46 rfl (lv_at hl 0 rfl) ?_
  refine va_get (D := D) (ci := 7) (v := .int (fi_3 4)) (C := RX7) (T := TX7) (N := 73) hx hb hts fw_7 hown hK hP 0 rfl rfl 4 (by decide) (hts _ m_fieldLink_M_22_M_silences_I) (fun _ h9 => h9) rfl dX7_image_47 ?_
  refine va_put (D := D) (ci := 7) (v := .int (fi_3 4)) (ty := .int) (C := RX7) (T := TX7) (N := 73) hx hb hts fw_7 tyX7 tyX7_ok nmX7 hown hK hP hD hS 0 rfl rfl 51 (by decide) (hts _ m_fieldLink_M_166_M_imageSilences_I) (fun _ h9 => h9) rfl (by decide +kernel) rfl rfl (Nat.le_of_ble_eq_true rfl) dX7_image_50 (fun H locs hP hD hS => ?_)
  replace hP : va_P D vwCl (Mw h q cA (upd fi_3 51 (fi_3 4)) fs ga0 gs pl it asd) H := hP
  replace hD : va_D A (Mw h q cA (upd fi_3 51 (fi_3 4)) fs ga0 gs pl it asd) := hD
  refine lv_aload_n hx hb dX7_image_53 rfl (lv_at hl 0 rfl) ?_
  refine lv_aload_n hx hb dX7_image_54 rfl (lv_at hl 0 rfl) ?_
  refine va_get (D := D) (ci := 7) (v := .int (fi_3 5)) (C := RX7) (T := TX7) (N := 73) hx hb hts fw_7 hown hK hP 0 rfl rfl 5 (by decide) (hts _ m_fieldLink_M_25_M_day_I) (fun _ h9 => h9) rfl dX7_image_55 ?_
  refine va_put (D := D) (ci := 7) (v := .int (fi_3 5)) (ty := .int) (C := RX7) (T := TX7) (N := 73) hx hb hts fw_7 tyX7 tyX7_ok nmX7 hown hK hP hD hS 0 rfl rfl 52 (by decide) (hts _ m_fieldLink_M_169_M_imageDay_I) (fun _ h9 => h9) rfl (by decide +kernel) rfl rfl (Nat.le_of_ble_eq_true rfl) dX7_image_58 (fun H locs hP hD hS => ?_)
  replace hP : va_P D vwCl (Mw h q cA (upd (upd fi_3 51 (fi_3 4)) 52 (fi_3 5)) fs ga0 gs pl it asd) H := hP
  replace hD : va_D A (Mw h q cA (upd (upd fi_3 51 (fi_3 4)) 52 (fi_3 5)) fs ga0 gs pl it asd) := hD
  refine lv_aload_n hx hb dX7_image_61 rfl (lv_at hl 0 rfl) ?_
  refine lv_aload_n hx hb dX7_image_62 rfl (lv_at hl 0 rfl) ?_
  refine va_get (D := D) (ci := 7) (v := .int (fi_3 36)) (C := RX7) (T := TX7) (N := 73) hx hb hts fw_7 hown hK hP 0 rfl rfl 36 (by decide) (hts _ m_fieldLink_M_120_M_heard_I) (fun _ h9 => h9) rfl dX7_image_63 ?_
  refine va_put (D := D) (ci := 7) (v := .int (fi_3 36)) (ty := .int) (C := RX7) (T := TX7) (N := 73) hx hb hts fw_7 tyX7 tyX7_ok nmX7 hown hK hP hD hS 0 rfl rfl 53 (by decide) (hts _ m_fieldLink_M_172_M_imageHeard_I) (fun _ h9 => h9) rfl (by decide +kernel) rfl rfl (Nat.le_of_ble_eq_true rfl) dX7_image_66 (fun H locs hP hD hS => ?_)
  replace hP : va_P D vwCl (Mw h q cA (upd (upd (upd fi_3 51 (fi_3 4)) 52 (fi_3 5)) 53 (fi_3 36)) fs ga0 gs pl it asd) H := hP
  replace hD : va_D A (Mw h q cA (upd (upd (upd fi_3 51 (fi_3 4)) 52 (fi_3 5)) 53 (fi_3 36)) fs ga0 gs pl it asd) := hD
  obtain ⟨fi_5, hv6, hf⟩ := nm_of hf
  replace hP : va_P D vwCl (Mw h q cA fi_5 fs ga0 gs pl it asd) H := by rw [hv6]; exact hP
  replace hD : va_D A (Mw h q cA fi_5 fs ga0 gs pl it asd) := by rw [hv6]; exact hD
  refine lv_aload_n hx hb dX7_image_69 rfl (lv_at hl 0 rfl) ?_
  refine lv_aload_n hx hb dX7_image_70 rfl (lv_at hl 0 rfl) ?_
  refine va_get (D := D) (ci := 7) (v := .int (fi_5 39)) (C := RX7) (T := TX7) (N := 73) hx hb hts fw_7 hown hK hP 0 rfl rfl 39 (by decide) (hts _ m_fieldLink_M_129_M_plans_I) (fun _ h9 => h9) rfl dX7_image_71 ?_
  refine va_put (D := D) (ci := 7) (v := .int (fi_5 39)) (ty := .int) (C := RX7) (T := TX7) (N := 73) hx hb hts fw_7 tyX7 tyX7_ok nmX7 hown hK hP hD hS 0 rfl rfl 54 (by decide) (hts _ m_fieldLink_M_175_M_imagePlans_I) (fun _ h9 => h9) rfl (by decide +kernel) rfl rfl (Nat.le_of_ble_eq_true rfl) dX7_image_74 (fun H locs hP hD hS => ?_)
  replace hP : va_P D vwCl (Mw h q cA (upd fi_5 54 (fi_5 39)) fs ga0 gs pl it asd) H := hP
  replace hD : va_D A (Mw h q cA (upd fi_5 54 (fi_5 39)) fs ga0 gs pl it asd) := hD
  refine lv_aload_n hx hb dX7_image_77 rfl (lv_at hl 0 rfl) ?_
  refine lv_aload_n hx hb dX7_image_78 rfl (lv_at hl 0 rfl) ?_
  refine va_get (D := D) (ci := 7) (v := .int (fi_5 40)) (C := RX7) (T := TX7) (N := 73) hx hb hts fw_7 hown hK hP 0 rfl rfl 40 (by decide) (hts _ m_fieldLink_M_132_M_books_I) (fun _ h9 => h9) rfl dX7_image_79 ?_
  refine va_put (D := D) (ci := 7) (v := .int (fi_5 40)) (ty := .int) (C := RX7) (T := TX7) (N := 73) hx hb hts fw_7 tyX7 tyX7_ok nmX7 hown hK hP hD hS 0 rfl rfl 55 (by decide) (hts _ m_fieldLink_M_178_M_imageBooks_I) (fun _ h9 => h9) rfl (by decide +kernel) rfl rfl (Nat.le_of_ble_eq_true rfl) dX7_image_82 (fun H locs hP hD hS => ?_)
  replace hP : va_P D vwCl (Mw h q cA (upd (upd fi_5 54 (fi_5 39)) 55 (fi_5 40)) fs ga0 gs pl it asd) H := hP
  replace hD : va_D A (Mw h q cA (upd (upd fi_5 54 (fi_5 39)) 55 (fi_5 40)) fs ga0 gs pl it asd) := hD
  refine lv_iconst (v := 0) hx hb dX7_image_85 (by decide) ?_
  refine lv_istore_n (lv' := [(1, .int 0), (0, .ref h)]) hx hb dX7_image_86 rfl hl (by decide) rfl (fun ls hl => ?_)
  exact J87 100000 0 (upd (upd fi_5 54 (fi_5 39)) 55 (fi_5 40)) ga0 hf _ _ hP hD hS _ (lv_sub hl [1, 0] rfl)
-- undo
noncomputable def k_X7_undo_255  : Nat → Int32 → (Nat → Int32) → (Nat → Nat → Int32) → Option (Int32 × (Nat → Int32) × (Nat → Nat → Int32))
  | 0, _, _, _ => none
  | n + 1, x1, fi, ga => if 8 ≤ x1 then some ((fi 0), fi, ga) else gd x1 8 (gd x1 8 (gd x1 8 (gd x1 8 (nm (va_up (va_up ga 43 (upd (ga 43) (Int32.toNatClampNeg x1) ((ga 65) (Int32.toNatClampNeg x1)))) 44 (upd (ga 44) (Int32.toNatClampNeg x1) ((ga 66) (Int32.toNatClampNeg x1)))) (fun ga_6 => k_X7_undo_255 n (x1 + 1) fi ga_6)))))
noncomputable def k_X7_undo_217  : Nat → Int32 → (Nat → Int32) → (Nat → Nat → Int32) → Option (Int32 × (Nat → Int32) × (Nat → Nat → Int32))
  | 0, _, _, _ => none
  | n + 1, x1, fi, ga => if 10 ≤ x1 then k_X7_undo_255 100000 0 fi ga else gd x1 10 (gd x1 10 (gd x1 10 (gd x1 10 (nm (va_up (va_up ga 41 (upd (ga 41) (Int32.toNatClampNeg x1) ((ga 63) (Int32.toNatClampNeg x1)))) 42 (upd (ga 42) (Int32.toNatClampNeg x1) ((ga 64) (Int32.toNatClampNeg x1)))) (fun ga_6 => k_X7_undo_217 n (x1 + 1) fi ga_6)))))
noncomputable def k_X7_undo_180  : Nat → Int32 → (Nat → Int32) → (Nat → Nat → Int32) → Option (Int32 × (Nat → Int32) × (Nat → Nat → Int32))
  | 0, _, _, _ => none
  | n + 1, x1, fi, ga => if 5 ≤ x1 then k_X7_undo_217 100000 0 fi ga else gd x1 5 (gd x1 5 (gd x1 5 (gd x1 5 (nm (va_up (va_up ga 37 (upd (ga 37) (Int32.toNatClampNeg x1) ((ga 61) (Int32.toNatClampNeg x1)))) 38 (upd (ga 38) (Int32.toNatClampNeg x1) ((ga 62) (Int32.toNatClampNeg x1)))) (fun ga_6 => k_X7_undo_180 n (x1 + 1) fi ga_6)))))
noncomputable def k_X7_undo_154  : Nat → Int32 → (Nat → Int32) → (Nat → Nat → Int32) → Option (Int32 × (Nat → Int32) × (Nat → Nat → Int32))
  | 0, _, _, _ => none
  | n + 1, x1, fi, ga => if 24 ≤ x1 then k_X7_undo_180 100000 0 fi ga else gd x1 24 (gd x1 24 (k_X7_undo_154 n (x1 + 1) fi (va_up ga 10 (upd (ga 10) (Int32.toNatClampNeg x1) ((ga 60) (Int32.toNatClampNeg x1))))))
noncomputable def k_X7_undo_92  : Nat → Int32 → (Nat → Int32) → (Nat → Nat → Int32) → Option (Int32 × (Nat → Int32) × (Nat → Nat → Int32))
  | 0, _, _, _ => none
  | n + 1, x1, fi, ga => if 6 ≤ x1 then k_X7_undo_154 100000 0 fi ga else gd x1 6 (gd x1 6 (gd x1 6 (gd x1 6 (nm (va_up (va_up ga 6 (upd (ga 6) (Int32.toNatClampNeg x1) ((ga 56) (Int32.toNatClampNeg x1)))) 7 (upd (ga 7) (Int32.toNatClampNeg x1) ((ga 57) (Int32.toNatClampNeg x1)))) (fun ga_6 => gd x1 6 (gd x1 6 (gd x1 6 (gd x1 6 (nm (va_up (va_up ga_6 8 (upd (ga_6 8) (Int32.toNatClampNeg x1) ((ga_6 58) (Int32.toNatClampNeg x1)))) 9 (upd (ga_6 9) (Int32.toNatClampNeg x1) ((ga_6 59) (Int32.toNatClampNeg x1)))) (fun ga_12 => k_X7_undo_92 n (x1 + 1) fi ga_12))))))))))
noncomputable def k_X7_undo (fi0 : Nat → Int32) (ga0 : Nat → Nat → Int32) : Option (Int32 × (Nat → Int32) × (Nat → Nat → Int32)) := if (fi0 45) = 0 then some ((-3), fi0, ga0) else nm (upd (upd (upd fi0 12 (fi0 46)) 0 (fi0 47)) 1 (fi0 48)) (fun fi_2 => nm (upd (upd (upd fi_2 2 (fi_2 49)) 3 (fi_2 50)) 4 (fi_2 51)) (fun fi_4 => nm (upd (upd (upd fi_4 5 (fi_4 52)) 36 (fi_4 53)) 39 (fi_4 54)) (fun fi_6 => k_X7_undo_92 100000 0 (upd fi_6 40 (fi_6 55)) ga0)))
set_option maxHeartbeats 4000000 in
set_option maxRecDepth 100000 in
theorem c_X7_undo {l : Launch} {D : va_G} {cA : Nat → ClassId} (h : Nat) (q : Nat → Nat) (fi0 : Nat → Int32) (fs : Nat → Int32) (ga0 : Nat → Nat → Int32) (gs : Nat → Nat → Int32) (pl : Nat → Int32) (it : Nat → Int64) (asd : Nat → Int64)  (o : Int32 × (Nat → Int32) × (Nat → Nat → Int32)) (hf : k_X7_undo fi0 ga0 = some o) : CI l D cA yX7_undo cX7_undo 2 (some .int) 0 0 [.ref h] (Mw h q cA fi0 fs ga0 gs pl it asd) 0 0 (fun r w => r = o.1 ∧ w = (Mw h q cA o.2.1 fs o.2.2 gs pl it asd)) := by
  intro sz
  refine met_start (by decide) rfl ?_
  intro p e s m args below meth c ls hsz hargs C0 hname hP hD hS hl
  generalize hAe : va_A (Mw h q cA fi0 fs ga0 gs pl it asd) sz = A at C0 hD hS ⊢
  obtain ⟨hx, hb, hr, hml, hown, hts, hlk, hK, hA⟩ := id C0
  replace hl : lv_has ls 2 [(0, .ref h)] := hl
  obtain ⟨Q, hQ⟩ : ∃ Q : State → Prop, Q = QI below D A (fun r w => r = o.1 ∧ w = (Mw h q cA o.2.1 fs o.2.2 gs pl it asd)) args s 0 0 := ⟨_, rfl⟩
  refine cast (by rw [hQ]) (?_ : W p l e (RMx 0 0 0 0) s m args below meth c s.heap [] 0 0 Q (F0 m 0 ls []))
  have J255 : ∀ n : Nat, ∀ (x1 : Int32) (fi : Nat → Int32) (ga : Nat → Nat → Int32), k_X7_undo_255 n x1 fi ga = some o → ∀ (H : Heap) (locs : List Loc), va_P D vwCl (Mw h q cA fi fs ga gs pl it asd) H → va_D A (Mw h q cA fi fs ga gs pl it asd) → va_S A s.heap H locs → ∀ ls : Array Slot, lv_has ls 2 [(0, .ref h), (1, .int x1)] → W p l e (RMx 0 0 0 0) s m args below meth c H locs 0 0 Q (F0 m 255 ls []) := by
    intro  n
    induction n with
    | zero =>
      intro x1 fi ga hf
      rw [k_X7_undo_255] at hf
      cases hf
    | succ n ih =>
      intro x1 fi ga hf H locs hP hD hS ls hl
      rw [k_X7_undo_255] at hf
      refine lv_iload_n hx hb dX7_undo_255 rfl (lv_at hl 1 rfl) ?_
      refine lv_bipush (v := 8) hx hb dX7_undo_256 (by decide) ?_
      refine lv_icmp_ge (tgt := 291) hx hb dX7_undo_258 (by decide) (fun c1 => ?_) (fun c1 => ?_)
      · replace hf := it_of c1 hf
        refine lv_aload_n hx hb dX7_undo_291 rfl (lv_at hl 0 rfl) ?_
        refine va_get (D := D) (ci := 7) (v := .int (fi 0)) (C := RX7) (T := TX7) (N := 73) hx hb hts fw_7 hown hK hP 0 rfl rfl 0 (by decide) (hts _ m_fieldLink_M_7_M_men_I) (fun _ h9 => h9) rfl dX7_undo_292 ?_
        rw [hQ]
        exact ret_i C0 hP hD hS (by have e := Option.some.inj hf; rw [← e]; exact ⟨rfl, rfl⟩) dX7_undo_295
      · replace hf := ie_of c1 hf
        refine lv_aload_n hx hb dX7_undo_261 rfl (lv_at hl 0 rfl) ?_
        refine va_get (D := D) (ci := 7) (v := .ref (q 43)) (C := RX7) (T := TX7) (N := 73) hx hb hts fw_7 hown hK hP 0 rfl rfl 43 (by decide) (hts _ m_fieldLink_M_141_M_bookMan_aI) (fun _ h9 => h9) rfl dX7_undo_262 ?_
        refine lv_iload_n hx hb dX7_undo_265 rfl (lv_at hl 1 rfl) ?_
        refine lv_aload_n hx hb dX7_undo_266 rfl (lv_at hl 0 rfl) ?_
        refine va_get (D := D) (ci := 7) (v := .ref (q 65)) (C := RX7) (T := TX7) (N := 73) hx hb hts fw_7 hown hK hP 0 rfl rfl 65 (by decide) (hts _ m_fieldLink_M_208_M_imageBookMan_aI) (fun _ h9 => h9) rfl dX7_undo_267 ?_
        refine lv_iload_n hx hb dX7_undo_270 rfl (lv_at hl 1 rfl) ?_
        obtain ⟨hi2, hf⟩ := gd_of hf
        refine va_iald hx hb hK hP 32 0 rfl rfl hi2 dX7_undo_271 ?_
        obtain ⟨hi3, hf⟩ := gd_of hf
        refine va_iast hx hb hK hP hD hS 21 0 rfl rfl hi3 dX7_undo_272 (fun H locs hP hD hS => ?_)
        replace hP : va_P D vwCl (Mw h q cA fi fs (va_up ga 43 (upd (ga 43) (Int32.toNatClampNeg x1) ((ga 65) (Int32.toNatClampNeg x1)))) gs pl it asd) H := hP
        replace hD : va_D A (Mw h q cA fi fs (va_up ga 43 (upd (ga 43) (Int32.toNatClampNeg x1) ((ga 65) (Int32.toNatClampNeg x1)))) gs pl it asd) := hD
        refine lv_aload_n hx hb dX7_undo_273 rfl (lv_at hl 0 rfl) ?_
        refine va_get (D := D) (ci := 7) (v := .ref (q 44)) (C := RX7) (T := TX7) (N := 73) hx hb hts fw_7 hown hK hP 0 rfl rfl 44 (by decide) (hts _ m_fieldLink_M_144_M_bookNerve_aI) (fun _ h9 => h9) rfl dX7_undo_274 ?_
        refine lv_iload_n hx hb dX7_undo_277 rfl (lv_at hl 1 rfl) ?_
        refine lv_aload_n hx hb dX7_undo_278 rfl (lv_at hl 0 rfl) ?_
        refine va_get (D := D) (ci := 7) (v := .ref (q 66)) (C := RX7) (T := TX7) (N := 73) hx hb hts fw_7 hown hK hP 0 rfl rfl 66 (by decide) (hts _ m_fieldLink_M_211_M_imageBookNerve_aI) (fun _ h9 => h9) rfl dX7_undo_279 ?_
        refine lv_iload_n hx hb dX7_undo_282 rfl (lv_at hl 1 rfl) ?_
        obtain ⟨hi4, hf⟩ := gd_of hf
        refine va_iald hx hb hK hP 33 0 rfl rfl hi4 dX7_undo_283 ?_
        obtain ⟨hi5, hf⟩ := gd_of hf
        refine va_iast hx hb hK hP hD hS 22 0 rfl rfl hi5 dX7_undo_284 (fun H locs hP hD hS => ?_)
        replace hP : va_P D vwCl (Mw h q cA fi fs (va_up (va_up ga 43 (upd (ga 43) (Int32.toNatClampNeg x1) ((ga 65) (Int32.toNatClampNeg x1)))) 44 (upd (ga 44) (Int32.toNatClampNeg x1) ((ga 66) (Int32.toNatClampNeg x1)))) gs pl it asd) H := hP
        replace hD : va_D A (Mw h q cA fi fs (va_up (va_up ga 43 (upd (ga 43) (Int32.toNatClampNeg x1) ((ga 65) (Int32.toNatClampNeg x1)))) 44 (upd (ga 44) (Int32.toNatClampNeg x1) ((ga 66) (Int32.toNatClampNeg x1)))) gs pl it asd) := hD
        obtain ⟨ga_6, hv7, hf⟩ := nm_of hf
        replace hP : va_P D vwCl (Mw h q cA fi fs ga_6 gs pl it asd) H := by rw [hv7]; exact hP
        replace hD : va_D A (Mw h q cA fi fs ga_6 gs pl it asd) := by rw [hv7]; exact hD
        refine lv_iinc (v := (x1 + 1)) (lv' := [(1, .int (x1 + 1)), (0, .ref h)]) hx hb dX7_undo_285 hl (k := 1) rfl rfl (by decide) rfl (fun ls hl => ?_)
        refine lv_goto (tgt := 255) hx hb dX7_undo_288 (by decide) ?_
        exact ih (x1 + 1) fi ga_6 hf _ _ hP hD hS _ (lv_sub hl [1, 0] rfl)
  have J217 : ∀ n : Nat, ∀ (x1 : Int32) (fi : Nat → Int32) (ga : Nat → Nat → Int32), k_X7_undo_217 n x1 fi ga = some o → ∀ (H : Heap) (locs : List Loc), va_P D vwCl (Mw h q cA fi fs ga gs pl it asd) H → va_D A (Mw h q cA fi fs ga gs pl it asd) → va_S A s.heap H locs → ∀ ls : Array Slot, lv_has ls 2 [(0, .ref h), (1, .int x1)] → W p l e (RMx 0 0 0 0) s m args below meth c H locs 0 0 Q (F0 m 217 ls []) := by
    intro  n
    induction n with
    | zero =>
      intro x1 fi ga hf
      rw [k_X7_undo_217] at hf
      cases hf
    | succ n ih =>
      intro x1 fi ga hf H locs hP hD hS ls hl
      rw [k_X7_undo_217] at hf
      refine lv_iload_n hx hb dX7_undo_217 rfl (lv_at hl 1 rfl) ?_
      refine lv_bipush (v := 10) hx hb dX7_undo_218 (by decide) ?_
      refine lv_icmp_ge (tgt := 253) hx hb dX7_undo_220 (by decide) (fun c1 => ?_) (fun c1 => ?_)
      · replace hf := it_of c1 hf
        refine lv_iconst (v := 0) hx hb dX7_undo_253 (by decide) ?_
        refine lv_istore_n (lv' := [(1, .int 0), (0, .ref h)]) hx hb dX7_undo_254 rfl hl (by decide) rfl (fun ls hl => ?_)
        exact J255 100000 0 fi ga hf _ _ hP hD hS _ (lv_sub hl [1, 0] rfl)
      · replace hf := ie_of c1 hf
        refine lv_aload_n hx hb dX7_undo_223 rfl (lv_at hl 0 rfl) ?_
        refine va_get (D := D) (ci := 7) (v := .ref (q 41)) (C := RX7) (T := TX7) (N := 73) hx hb hts fw_7 hown hK hP 0 rfl rfl 41 (by decide) (hts _ m_fieldLink_M_135_M_planWhat_aI) (fun _ h9 => h9) rfl dX7_undo_224 ?_
        refine lv_iload_n hx hb dX7_undo_227 rfl (lv_at hl 1 rfl) ?_
        refine lv_aload_n hx hb dX7_undo_228 rfl (lv_at hl 0 rfl) ?_
        refine va_get (D := D) (ci := 7) (v := .ref (q 63)) (C := RX7) (T := TX7) (N := 73) hx hb hts fw_7 hown hK hP 0 rfl rfl 63 (by decide) (hts _ m_fieldLink_M_202_M_imageWhat_aI) (fun _ h9 => h9) rfl dX7_undo_229 ?_
        refine lv_iload_n hx hb dX7_undo_232 rfl (lv_at hl 1 rfl) ?_
        obtain ⟨hi2, hf⟩ := gd_of hf
        refine va_iald hx hb hK hP 30 0 rfl rfl hi2 dX7_undo_233 ?_
        obtain ⟨hi3, hf⟩ := gd_of hf
        refine va_iast hx hb hK hP hD hS 19 0 rfl rfl hi3 dX7_undo_234 (fun H locs hP hD hS => ?_)
        replace hP : va_P D vwCl (Mw h q cA fi fs (va_up ga 41 (upd (ga 41) (Int32.toNatClampNeg x1) ((ga 63) (Int32.toNatClampNeg x1)))) gs pl it asd) H := hP
        replace hD : va_D A (Mw h q cA fi fs (va_up ga 41 (upd (ga 41) (Int32.toNatClampNeg x1) ((ga 63) (Int32.toNatClampNeg x1)))) gs pl it asd) := hD
        refine lv_aload_n hx hb dX7_undo_235 rfl (lv_at hl 0 rfl) ?_
        refine va_get (D := D) (ci := 7) (v := .ref (q 42)) (C := RX7) (T := TX7) (N := 73) hx hb hts fw_7 hown hK hP 0 rfl rfl 42 (by decide) (hts _ m_fieldLink_M_138_M_planMan_aI) (fun _ h9 => h9) rfl dX7_undo_236 ?_
        refine lv_iload_n hx hb dX7_undo_239 rfl (lv_at hl 1 rfl) ?_
        refine lv_aload_n hx hb dX7_undo_240 rfl (lv_at hl 0 rfl) ?_
        refine va_get (D := D) (ci := 7) (v := .ref (q 64)) (C := RX7) (T := TX7) (N := 73) hx hb hts fw_7 hown hK hP 0 rfl rfl 64 (by decide) (hts _ m_fieldLink_M_205_M_imageMan_aI) (fun _ h9 => h9) rfl dX7_undo_241 ?_
        refine lv_iload_n hx hb dX7_undo_244 rfl (lv_at hl 1 rfl) ?_
        obtain ⟨hi4, hf⟩ := gd_of hf
        refine va_iald hx hb hK hP 31 0 rfl rfl hi4 dX7_undo_245 ?_
        obtain ⟨hi5, hf⟩ := gd_of hf
        refine va_iast hx hb hK hP hD hS 20 0 rfl rfl hi5 dX7_undo_246 (fun H locs hP hD hS => ?_)
        replace hP : va_P D vwCl (Mw h q cA fi fs (va_up (va_up ga 41 (upd (ga 41) (Int32.toNatClampNeg x1) ((ga 63) (Int32.toNatClampNeg x1)))) 42 (upd (ga 42) (Int32.toNatClampNeg x1) ((ga 64) (Int32.toNatClampNeg x1)))) gs pl it asd) H := hP
        replace hD : va_D A (Mw h q cA fi fs (va_up (va_up ga 41 (upd (ga 41) (Int32.toNatClampNeg x1) ((ga 63) (Int32.toNatClampNeg x1)))) 42 (upd (ga 42) (Int32.toNatClampNeg x1) ((ga 64) (Int32.toNatClampNeg x1)))) gs pl it asd) := hD
        obtain ⟨ga_6, hv7, hf⟩ := nm_of hf
        replace hP : va_P D vwCl (Mw h q cA fi fs ga_6 gs pl it asd) H := by rw [hv7]; exact hP
        replace hD : va_D A (Mw h q cA fi fs ga_6 gs pl it asd) := by rw [hv7]; exact hD
        refine lv_iinc (v := (x1 + 1)) (lv' := [(1, .int (x1 + 1)), (0, .ref h)]) hx hb dX7_undo_247 hl (k := 1) rfl rfl (by decide) rfl (fun ls hl => ?_)
        refine lv_goto (tgt := 217) hx hb dX7_undo_250 (by decide) ?_
        exact ih (x1 + 1) fi ga_6 hf _ _ hP hD hS _ (lv_sub hl [1, 0] rfl)
  have J180 : ∀ n : Nat, ∀ (x1 : Int32) (fi : Nat → Int32) (ga : Nat → Nat → Int32), k_X7_undo_180 n x1 fi ga = some o → ∀ (H : Heap) (locs : List Loc), va_P D vwCl (Mw h q cA fi fs ga gs pl it asd) H → va_D A (Mw h q cA fi fs ga gs pl it asd) → va_S A s.heap H locs → ∀ ls : Array Slot, lv_has ls 2 [(0, .ref h), (1, .int x1)] → W p l e (RMx 0 0 0 0) s m args below meth c H locs 0 0 Q (F0 m 180 ls []) := by
    intro  n
    induction n with
    | zero =>
      intro x1 fi ga hf
      rw [k_X7_undo_180] at hf
      cases hf
    | succ n ih =>
      intro x1 fi ga hf H locs hP hD hS ls hl
      rw [k_X7_undo_180] at hf
      refine lv_iload_n hx hb dX7_undo_180 rfl (lv_at hl 1 rfl) ?_
      refine lv_iconst (v := 5) hx hb dX7_undo_181 (by decide) ?_
      refine lv_icmp_ge (tgt := 215) hx hb dX7_undo_182 (by decide) (fun c1 => ?_) (fun c1 => ?_)
      · replace hf := it_of c1 hf
        refine lv_iconst (v := 0) hx hb dX7_undo_215 (by decide) ?_
        refine lv_istore_n (lv' := [(1, .int 0), (0, .ref h)]) hx hb dX7_undo_216 rfl hl (by decide) rfl (fun ls hl => ?_)
        exact J217 100000 0 fi ga hf _ _ hP hD hS _ (lv_sub hl [1, 0] rfl)
      · replace hf := ie_of c1 hf
        refine lv_aload_n hx hb dX7_undo_185 rfl (lv_at hl 0 rfl) ?_
        refine va_get (D := D) (ci := 7) (v := .ref (q 37)) (C := RX7) (T := TX7) (N := 73) hx hb hts fw_7 hown hK hP 0 rfl rfl 37 (by decide) (hts _ m_fieldLink_M_123_M_heardWhen_aI) (fun _ h9 => h9) rfl dX7_undo_186 ?_
        refine lv_iload_n hx hb dX7_undo_189 rfl (lv_at hl 1 rfl) ?_
        refine lv_aload_n hx hb dX7_undo_190 rfl (lv_at hl 0 rfl) ?_
        refine va_get (D := D) (ci := 7) (v := .ref (q 61)) (C := RX7) (T := TX7) (N := 73) hx hb hts fw_7 hown hK hP 0 rfl rfl 61 (by decide) (hts _ m_fieldLink_M_196_M_imageWhen_aI) (fun _ h9 => h9) rfl dX7_undo_191 ?_
        refine lv_iload_n hx hb dX7_undo_194 rfl (lv_at hl 1 rfl) ?_
        obtain ⟨hi2, hf⟩ := gd_of hf
        refine va_iald hx hb hK hP 28 0 rfl rfl hi2 dX7_undo_195 ?_
        obtain ⟨hi3, hf⟩ := gd_of hf
        refine va_iast hx hb hK hP hD hS 17 0 rfl rfl hi3 dX7_undo_196 (fun H locs hP hD hS => ?_)
        replace hP : va_P D vwCl (Mw h q cA fi fs (va_up ga 37 (upd (ga 37) (Int32.toNatClampNeg x1) ((ga 61) (Int32.toNatClampNeg x1)))) gs pl it asd) H := hP
        replace hD : va_D A (Mw h q cA fi fs (va_up ga 37 (upd (ga 37) (Int32.toNatClampNeg x1) ((ga 61) (Int32.toNatClampNeg x1)))) gs pl it asd) := hD
        refine lv_aload_n hx hb dX7_undo_197 rfl (lv_at hl 0 rfl) ?_
        refine va_get (D := D) (ci := 7) (v := .ref (q 38)) (C := RX7) (T := TX7) (N := 73) hx hb hts fw_7 hown hK hP 0 rfl rfl 38 (by decide) (hts _ m_fieldLink_M_126_M_heardSound_aI) (fun _ h9 => h9) rfl dX7_undo_198 ?_
        refine lv_iload_n hx hb dX7_undo_201 rfl (lv_at hl 1 rfl) ?_
        refine lv_aload_n hx hb dX7_undo_202 rfl (lv_at hl 0 rfl) ?_
        refine va_get (D := D) (ci := 7) (v := .ref (q 62)) (C := RX7) (T := TX7) (N := 73) hx hb hts fw_7 hown hK hP 0 rfl rfl 62 (by decide) (hts _ m_fieldLink_M_199_M_imageSound_aI) (fun _ h9 => h9) rfl dX7_undo_203 ?_
        refine lv_iload_n hx hb dX7_undo_206 rfl (lv_at hl 1 rfl) ?_
        obtain ⟨hi4, hf⟩ := gd_of hf
        refine va_iald hx hb hK hP 29 0 rfl rfl hi4 dX7_undo_207 ?_
        obtain ⟨hi5, hf⟩ := gd_of hf
        refine va_iast hx hb hK hP hD hS 18 0 rfl rfl hi5 dX7_undo_208 (fun H locs hP hD hS => ?_)
        replace hP : va_P D vwCl (Mw h q cA fi fs (va_up (va_up ga 37 (upd (ga 37) (Int32.toNatClampNeg x1) ((ga 61) (Int32.toNatClampNeg x1)))) 38 (upd (ga 38) (Int32.toNatClampNeg x1) ((ga 62) (Int32.toNatClampNeg x1)))) gs pl it asd) H := hP
        replace hD : va_D A (Mw h q cA fi fs (va_up (va_up ga 37 (upd (ga 37) (Int32.toNatClampNeg x1) ((ga 61) (Int32.toNatClampNeg x1)))) 38 (upd (ga 38) (Int32.toNatClampNeg x1) ((ga 62) (Int32.toNatClampNeg x1)))) gs pl it asd) := hD
        obtain ⟨ga_6, hv7, hf⟩ := nm_of hf
        replace hP : va_P D vwCl (Mw h q cA fi fs ga_6 gs pl it asd) H := by rw [hv7]; exact hP
        replace hD : va_D A (Mw h q cA fi fs ga_6 gs pl it asd) := by rw [hv7]; exact hD
        refine lv_iinc (v := (x1 + 1)) (lv' := [(1, .int (x1 + 1)), (0, .ref h)]) hx hb dX7_undo_209 hl (k := 1) rfl rfl (by decide) rfl (fun ls hl => ?_)
        refine lv_goto (tgt := 180) hx hb dX7_undo_212 (by decide) ?_
        exact ih (x1 + 1) fi ga_6 hf _ _ hP hD hS _ (lv_sub hl [1, 0] rfl)
  have J154 : ∀ n : Nat, ∀ (x1 : Int32) (fi : Nat → Int32) (ga : Nat → Nat → Int32), k_X7_undo_154 n x1 fi ga = some o → ∀ (H : Heap) (locs : List Loc), va_P D vwCl (Mw h q cA fi fs ga gs pl it asd) H → va_D A (Mw h q cA fi fs ga gs pl it asd) → va_S A s.heap H locs → ∀ ls : Array Slot, lv_has ls 2 [(0, .ref h), (1, .int x1)] → W p l e (RMx 0 0 0 0) s m args below meth c H locs 0 0 Q (F0 m 154 ls []) := by
    intro  n
    induction n with
    | zero =>
      intro x1 fi ga hf
      rw [k_X7_undo_154] at hf
      cases hf
    | succ n ih =>
      intro x1 fi ga hf H locs hP hD hS ls hl
      rw [k_X7_undo_154] at hf
      refine lv_iload_n hx hb dX7_undo_154 rfl (lv_at hl 1 rfl) ?_
      refine lv_bipush (v := 24) hx hb dX7_undo_155 (by decide) ?_
      refine lv_icmp_ge (tgt := 178) hx hb dX7_undo_157 (by decide) (fun c1 => ?_) (fun c1 => ?_)
      · replace hf := it_of c1 hf
        refine lv_iconst (v := 0) hx hb dX7_undo_178 (by decide) ?_
        refine lv_istore_n (lv' := [(1, .int 0), (0, .ref h)]) hx hb dX7_undo_179 rfl hl (by decide) rfl (fun ls hl => ?_)
        exact J180 100000 0 fi ga hf _ _ hP hD hS _ (lv_sub hl [1, 0] rfl)
      · replace hf := ie_of c1 hf
        refine lv_aload_n hx hb dX7_undo_160 rfl (lv_at hl 0 rfl) ?_
        refine va_get (D := D) (ci := 7) (v := .ref (q 10)) (C := RX7) (T := TX7) (N := 73) hx hb hts fw_7 hown hK hP 0 rfl rfl 10 (by decide) (hts _ m_fieldLink_M_41_M_rows_aI) (fun _ h9 => h9) rfl dX7_undo_161 ?_
        refine lv_iload_n hx hb dX7_undo_164 rfl (lv_at hl 1 rfl) ?_
        refine lv_aload_n hx hb dX7_undo_165 rfl (lv_at hl 0 rfl) ?_
        refine va_get (D := D) (ci := 7) (v := .ref (q 60)) (C := RX7) (T := TX7) (N := 73) hx hb hts fw_7 hown hK hP 0 rfl rfl 60 (by decide) (hts _ m_fieldLink_M_193_M_imageRows_aI) (fun _ h9 => h9) rfl dX7_undo_166 ?_
        refine lv_iload_n hx hb dX7_undo_169 rfl (lv_at hl 1 rfl) ?_
        obtain ⟨hi2, hf⟩ := gd_of hf
        refine va_iald hx hb hK hP 27 0 rfl rfl hi2 dX7_undo_170 ?_
        obtain ⟨hi3, hf⟩ := gd_of hf
        refine va_iast hx hb hK hP hD hS 5 0 rfl rfl hi3 dX7_undo_171 (fun H locs hP hD hS => ?_)
        replace hP : va_P D vwCl (Mw h q cA fi fs (va_up ga 10 (upd (ga 10) (Int32.toNatClampNeg x1) ((ga 60) (Int32.toNatClampNeg x1)))) gs pl it asd) H := hP
        replace hD : va_D A (Mw h q cA fi fs (va_up ga 10 (upd (ga 10) (Int32.toNatClampNeg x1) ((ga 60) (Int32.toNatClampNeg x1)))) gs pl it asd) := hD
        refine lv_iinc (v := (x1 + 1)) (lv' := [(1, .int (x1 + 1)), (0, .ref h)]) hx hb dX7_undo_172 hl (k := 1) rfl rfl (by decide) rfl (fun ls hl => ?_)
        refine lv_goto (tgt := 154) hx hb dX7_undo_175 (by decide) ?_
        exact ih (x1 + 1) fi (va_up ga 10 (upd (ga 10) (Int32.toNatClampNeg x1) ((ga 60) (Int32.toNatClampNeg x1)))) hf _ _ hP hD hS _ (lv_sub hl [1, 0] rfl)
  have J92 : ∀ n : Nat, ∀ (x1 : Int32) (fi : Nat → Int32) (ga : Nat → Nat → Int32), k_X7_undo_92 n x1 fi ga = some o → ∀ (H : Heap) (locs : List Loc), va_P D vwCl (Mw h q cA fi fs ga gs pl it asd) H → va_D A (Mw h q cA fi fs ga gs pl it asd) → va_S A s.heap H locs → ∀ ls : Array Slot, lv_has ls 2 [(0, .ref h), (1, .int x1)] → W p l e (RMx 0 0 0 0) s m args below meth c H locs 0 0 Q (F0 m 92 ls []) := by
    intro  n
    induction n with
    | zero =>
      intro x1 fi ga hf
      rw [k_X7_undo_92] at hf
      cases hf
    | succ n ih =>
      intro x1 fi ga hf H locs hP hD hS ls hl
      rw [k_X7_undo_92] at hf
      refine lv_iload_n hx hb dX7_undo_92 rfl (lv_at hl 1 rfl) ?_
      refine lv_bipush (v := 6) hx hb dX7_undo_93 (by decide) ?_
      refine lv_icmp_ge (tgt := 152) hx hb dX7_undo_95 (by decide) (fun c1 => ?_) (fun c1 => ?_)
      · replace hf := it_of c1 hf
        refine lv_iconst (v := 0) hx hb dX7_undo_152 (by decide) ?_
        refine lv_istore_n (lv' := [(1, .int 0), (0, .ref h)]) hx hb dX7_undo_153 rfl hl (by decide) rfl (fun ls hl => ?_)
        exact J154 100000 0 fi ga hf _ _ hP hD hS _ (lv_sub hl [1, 0] rfl)
      · replace hf := ie_of c1 hf
        refine lv_aload_n hx hb dX7_undo_98 rfl (lv_at hl 0 rfl) ?_
        refine va_get (D := D) (ci := 7) (v := .ref (q 6)) (C := RX7) (T := TX7) (N := 73) hx hb hts fw_7 hown hK hP 0 rfl rfl 6 (by decide) (hts _ m_fieldLink_M_28_M_kind_aI) (fun _ h9 => h9) rfl dX7_undo_99 ?_
        refine lv_iload_n hx hb dX7_undo_102 rfl (lv_at hl 1 rfl) ?_
        refine lv_aload_n hx hb dX7_undo_103 rfl (lv_at hl 0 rfl) ?_
        refine va_get (D := D) (ci := 7) (v := .ref (q 56)) (C := RX7) (T := TX7) (N := 73) hx hb hts fw_7 hown hK hP 0 rfl rfl 56 (by decide) (hts _ m_fieldLink_M_181_M_imageKind_aI) (fun _ h9 => h9) rfl dX7_undo_104 ?_
        refine lv_iload_n hx hb dX7_undo_107 rfl (lv_at hl 1 rfl) ?_
        obtain ⟨hi2, hf⟩ := gd_of hf
        refine va_iald hx hb hK hP 23 0 rfl rfl hi2 dX7_undo_108 ?_
        obtain ⟨hi3, hf⟩ := gd_of hf
        refine va_iast hx hb hK hP hD hS 1 0 rfl rfl hi3 dX7_undo_109 (fun H locs hP hD hS => ?_)
        replace hP : va_P D vwCl (Mw h q cA fi fs (va_up ga 6 (upd (ga 6) (Int32.toNatClampNeg x1) ((ga 56) (Int32.toNatClampNeg x1)))) gs pl it asd) H := hP
        replace hD : va_D A (Mw h q cA fi fs (va_up ga 6 (upd (ga 6) (Int32.toNatClampNeg x1) ((ga 56) (Int32.toNatClampNeg x1)))) gs pl it asd) := hD
        refine lv_aload_n hx hb dX7_undo_110 rfl (lv_at hl 0 rfl) ?_
        refine va_get (D := D) (ci := 7) (v := .ref (q 7)) (C := RX7) (T := TX7) (N := 73) hx hb hts fw_7 hown hK hP 0 rfl rfl 7 (by decide) (hts _ m_fieldLink_M_32_M_v_aI) (fun _ h9 => h9) rfl dX7_undo_111 ?_
        refine lv_iload_n hx hb dX7_undo_114 rfl (lv_at hl 1 rfl) ?_
        refine lv_aload_n hx hb dX7_undo_115 rfl (lv_at hl 0 rfl) ?_
        refine va_get (D := D) (ci := 7) (v := .ref (q 57)) (C := RX7) (T := TX7) (N := 73) hx hb hts fw_7 hown hK hP 0 rfl rfl 57 (by decide) (hts _ m_fieldLink_M_184_M_imageV_aI) (fun _ h9 => h9) rfl dX7_undo_116 ?_
        refine lv_iload_n hx hb dX7_undo_119 rfl (lv_at hl 1 rfl) ?_
        obtain ⟨hi4, hf⟩ := gd_of hf
        refine va_iald hx hb hK hP 24 0 rfl rfl hi4 dX7_undo_120 ?_
        obtain ⟨hi5, hf⟩ := gd_of hf
        refine va_iast hx hb hK hP hD hS 2 0 rfl rfl hi5 dX7_undo_121 (fun H locs hP hD hS => ?_)
        replace hP : va_P D vwCl (Mw h q cA fi fs (va_up (va_up ga 6 (upd (ga 6) (Int32.toNatClampNeg x1) ((ga 56) (Int32.toNatClampNeg x1)))) 7 (upd (ga 7) (Int32.toNatClampNeg x1) ((ga 57) (Int32.toNatClampNeg x1)))) gs pl it asd) H := hP
        replace hD : va_D A (Mw h q cA fi fs (va_up (va_up ga 6 (upd (ga 6) (Int32.toNatClampNeg x1) ((ga 56) (Int32.toNatClampNeg x1)))) 7 (upd (ga 7) (Int32.toNatClampNeg x1) ((ga 57) (Int32.toNatClampNeg x1)))) gs pl it asd) := hD
        obtain ⟨ga_6, hv7, hf⟩ := nm_of hf
        replace hP : va_P D vwCl (Mw h q cA fi fs ga_6 gs pl it asd) H := by rw [hv7]; exact hP
        replace hD : va_D A (Mw h q cA fi fs ga_6 gs pl it asd) := by rw [hv7]; exact hD
        refine lv_aload_n hx hb dX7_undo_122 rfl (lv_at hl 0 rfl) ?_
        refine va_get (D := D) (ci := 7) (v := .ref (q 8)) (C := RX7) (T := TX7) (N := 73) hx hb hts fw_7 hown hK hP 0 rfl rfl 8 (by decide) (hts _ m_fieldLink_M_35_M_nerve_aI) (fun _ h9 => h9) rfl dX7_undo_123 ?_
        refine lv_iload_n hx hb dX7_undo_126 rfl (lv_at hl 1 rfl) ?_
        refine lv_aload_n hx hb dX7_undo_127 rfl (lv_at hl 0 rfl) ?_
        refine va_get (D := D) (ci := 7) (v := .ref (q 58)) (C := RX7) (T := TX7) (N := 73) hx hb hts fw_7 hown hK hP 0 rfl rfl 58 (by decide) (hts _ m_fieldLink_M_187_M_imageNerve_aI) (fun _ h9 => h9) rfl dX7_undo_128 ?_
        refine lv_iload_n hx hb dX7_undo_131 rfl (lv_at hl 1 rfl) ?_
        obtain ⟨hi8, hf⟩ := gd_of hf
        refine va_iald hx hb hK hP 25 0 rfl rfl hi8 dX7_undo_132 ?_
        obtain ⟨hi9, hf⟩ := gd_of hf
        refine va_iast hx hb hK hP hD hS 3 0 rfl rfl hi9 dX7_undo_133 (fun H locs hP hD hS => ?_)
        replace hP : va_P D vwCl (Mw h q cA fi fs (va_up ga_6 8 (upd (ga_6 8) (Int32.toNatClampNeg x1) ((ga_6 58) (Int32.toNatClampNeg x1)))) gs pl it asd) H := hP
        replace hD : va_D A (Mw h q cA fi fs (va_up ga_6 8 (upd (ga_6 8) (Int32.toNatClampNeg x1) ((ga_6 58) (Int32.toNatClampNeg x1)))) gs pl it asd) := hD
        refine lv_aload_n hx hb dX7_undo_134 rfl (lv_at hl 0 rfl) ?_
        refine va_get (D := D) (ci := 7) (v := .ref (q 9)) (C := RX7) (T := TX7) (N := 73) hx hb hts fw_7 hown hK hP 0 rfl rfl 9 (by decide) (hts _ m_fieldLink_M_38_M_spell_aI) (fun _ h9 => h9) rfl dX7_undo_135 ?_
        refine lv_iload_n hx hb dX7_undo_138 rfl (lv_at hl 1 rfl) ?_
        refine lv_aload_n hx hb dX7_undo_139 rfl (lv_at hl 0 rfl) ?_
        refine va_get (D := D) (ci := 7) (v := .ref (q 59)) (C := RX7) (T := TX7) (N := 73) hx hb hts fw_7 hown hK hP 0 rfl rfl 59 (by decide) (hts _ m_fieldLink_M_190_M_imageSpell_aI) (fun _ h9 => h9) rfl dX7_undo_140 ?_
        refine lv_iload_n hx hb dX7_undo_143 rfl (lv_at hl 1 rfl) ?_
        obtain ⟨hi10, hf⟩ := gd_of hf
        refine va_iald hx hb hK hP 26 0 rfl rfl hi10 dX7_undo_144 ?_
        obtain ⟨hi11, hf⟩ := gd_of hf
        refine va_iast hx hb hK hP hD hS 4 0 rfl rfl hi11 dX7_undo_145 (fun H locs hP hD hS => ?_)
        replace hP : va_P D vwCl (Mw h q cA fi fs (va_up (va_up ga_6 8 (upd (ga_6 8) (Int32.toNatClampNeg x1) ((ga_6 58) (Int32.toNatClampNeg x1)))) 9 (upd (ga_6 9) (Int32.toNatClampNeg x1) ((ga_6 59) (Int32.toNatClampNeg x1)))) gs pl it asd) H := hP
        replace hD : va_D A (Mw h q cA fi fs (va_up (va_up ga_6 8 (upd (ga_6 8) (Int32.toNatClampNeg x1) ((ga_6 58) (Int32.toNatClampNeg x1)))) 9 (upd (ga_6 9) (Int32.toNatClampNeg x1) ((ga_6 59) (Int32.toNatClampNeg x1)))) gs pl it asd) := hD
        obtain ⟨ga_12, hv13, hf⟩ := nm_of hf
        replace hP : va_P D vwCl (Mw h q cA fi fs ga_12 gs pl it asd) H := by rw [hv13]; exact hP
        replace hD : va_D A (Mw h q cA fi fs ga_12 gs pl it asd) := by rw [hv13]; exact hD
        refine lv_iinc (v := (x1 + 1)) (lv' := [(1, .int (x1 + 1)), (0, .ref h)]) hx hb dX7_undo_146 hl (k := 1) rfl rfl (by decide) rfl (fun ls hl => ?_)
        refine lv_goto (tgt := 92) hx hb dX7_undo_149 (by decide) ?_
        exact ih (x1 + 1) fi ga_12 hf _ _ hP hD hS _ (lv_sub hl [1, 0] rfl)
  unfold k_X7_undo at hf
  refine lv_aload_n hx hb dX7_undo_0 rfl (lv_at hl 0 rfl) ?_
  refine va_get (D := D) (ci := 7) (v := .int (fi0 45)) (C := RX7) (T := TX7) (N := 73) hx hb hts fw_7 hown hK hP 0 rfl rfl 45 (by decide) (hts _ m_fieldLink_M_147_M_hasImage_Z) (fun _ h9 => h9) rfl dX7_undo_1 ?_
  refine lv_if_ne (tgt := 10) hx hb dX7_undo_4 (by decide) (fun c1 => ?_) (fun c1 => ?_)
  · replace hf := ie_of c1 hf
    refine lv_aload_n hx hb dX7_undo_10 rfl (lv_at hl 0 rfl) ?_
    refine lv_aload_n hx hb dX7_undo_11 rfl (lv_at hl 0 rfl) ?_
    refine va_get (D := D) (ci := 7) (v := .int (fi0 46)) (C := RX7) (T := TX7) (N := 73) hx hb hts fw_7 hown hK hP 0 rfl rfl 46 (by decide) (hts _ m_fieldLink_M_151_M_imageThe_I) (fun _ h9 => h9) rfl dX7_undo_12 ?_
    refine va_put (D := D) (ci := 7) (v := .int (fi0 46)) (ty := .int) (C := RX7) (T := TX7) (N := 73) hx hb hts fw_7 tyX7 tyX7_ok nmX7 hown hK hP hD hS 0 rfl rfl 12 (by decide) (hts _ m_fieldLink_M_47_M_the_I) (fun _ h9 => h9) rfl (by decide +kernel) rfl rfl (Nat.le_of_ble_eq_true rfl) dX7_undo_15 (fun H locs hP hD hS => ?_)
    replace hP : va_P D vwCl (Mw h q cA (upd fi0 12 (fi0 46)) fs ga0 gs pl it asd) H := hP
    replace hD : va_D A (Mw h q cA (upd fi0 12 (fi0 46)) fs ga0 gs pl it asd) := hD
    refine lv_aload_n hx hb dX7_undo_18 rfl (lv_at hl 0 rfl) ?_
    refine lv_aload_n hx hb dX7_undo_19 rfl (lv_at hl 0 rfl) ?_
    refine va_get (D := D) (ci := 7) (v := .int (fi0 47)) (C := RX7) (T := TX7) (N := 73) hx hb hts fw_7 hown hK hP 0 rfl rfl 47 (by decide) (hts _ m_fieldLink_M_154_M_imageMen_I) (fun _ h9 => h9) rfl dX7_undo_20 ?_
    refine va_put (D := D) (ci := 7) (v := .int (fi0 47)) (ty := .int) (C := RX7) (T := TX7) (N := 73) hx hb hts fw_7 tyX7 tyX7_ok nmX7 hown hK hP hD hS 0 rfl rfl 0 (by decide) (hts _ m_fieldLink_M_7_M_men_I) (fun _ h9 => h9) rfl (by decide +kernel) rfl rfl (Nat.le_of_ble_eq_true rfl) dX7_undo_23 (fun H locs hP hD hS => ?_)
    replace hP : va_P D vwCl (Mw h q cA (upd (upd fi0 12 (fi0 46)) 0 (fi0 47)) fs ga0 gs pl it asd) H := hP
    replace hD : va_D A (Mw h q cA (upd (upd fi0 12 (fi0 46)) 0 (fi0 47)) fs ga0 gs pl it asd) := hD
    refine lv_aload_n hx hb dX7_undo_26 rfl (lv_at hl 0 rfl) ?_
    refine lv_aload_n hx hb dX7_undo_27 rfl (lv_at hl 0 rfl) ?_
    refine va_get (D := D) (ci := 7) (v := .int (fi0 48)) (C := RX7) (T := TX7) (N := 73) hx hb hts fw_7 hown hK hP 0 rfl rfl 48 (by decide) (hts _ m_fieldLink_M_157_M_imageUp_I) (fun _ h9 => h9) rfl dX7_undo_28 ?_
    refine va_put (D := D) (ci := 7) (v := .int (fi0 48)) (ty := .int) (C := RX7) (T := TX7) (N := 73) hx hb hts fw_7 tyX7 tyX7_ok nmX7 hown hK hP hD hS 0 rfl rfl 1 (by decide) (hts _ m_fieldLink_M_13_M_up_I) (fun _ h9 => h9) rfl (by decide +kernel) rfl rfl (Nat.le_of_ble_eq_true rfl) dX7_undo_31 (fun H locs hP hD hS => ?_)
    replace hP : va_P D vwCl (Mw h q cA (upd (upd (upd fi0 12 (fi0 46)) 0 (fi0 47)) 1 (fi0 48)) fs ga0 gs pl it asd) H := hP
    replace hD : va_D A (Mw h q cA (upd (upd (upd fi0 12 (fi0 46)) 0 (fi0 47)) 1 (fi0 48)) fs ga0 gs pl it asd) := hD
    obtain ⟨fi_2, hv3, hf⟩ := nm_of hf
    replace hP : va_P D vwCl (Mw h q cA fi_2 fs ga0 gs pl it asd) H := by rw [hv3]; exact hP
    replace hD : va_D A (Mw h q cA fi_2 fs ga0 gs pl it asd) := by rw [hv3]; exact hD
    refine lv_aload_n hx hb dX7_undo_34 rfl (lv_at hl 0 rfl) ?_
    refine lv_aload_n hx hb dX7_undo_35 rfl (lv_at hl 0 rfl) ?_
    refine va_get (D := D) (ci := 7) (v := .int (fi_2 49)) (C := RX7) (T := TX7) (N := 73) hx hb hts fw_7 hown hK hP 0 rfl rfl 49 (by decide) (hts _ m_fieldLink_M_160_M_imageFears_I) (fun _ h9 => h9) rfl dX7_undo_36 ?_
    refine va_put (D := D) (ci := 7) (v := .int (fi_2 49)) (ty := .int) (C := RX7) (T := TX7) (N := 73) hx hb hts fw_7 tyX7 tyX7_ok nmX7 hown hK hP hD hS 0 rfl rfl 2 (by decide) (hts _ m_fieldLink_M_16_M_fears_I) (fun _ h9 => h9) rfl (by decide +kernel) rfl rfl (Nat.le_of_ble_eq_true rfl) dX7_undo_39 (fun H locs hP hD hS => ?_)
    replace hP : va_P D vwCl (Mw h q cA (upd fi_2 2 (fi_2 49)) fs ga0 gs pl it asd) H := hP
    replace hD : va_D A (Mw h q cA (upd fi_2 2 (fi_2 49)) fs ga0 gs pl it asd) := hD
    refine lv_aload_n hx hb dX7_undo_42 rfl (lv_at hl 0 rfl) ?_
    refine lv_aload_n hx hb dX7_undo_43 rfl (lv_at hl 0 rfl) ?_
    refine va_get (D := D) (ci := 7) (v := .int (fi_2 50)) (C := RX7) (T := TX7) (N := 73) hx hb hts fw_7 hown hK hP 0 rfl rfl 50 (by decide) (hts _ m_fieldLink_M_163_M_imageTruths_I) (fun _ h9 => h9) rfl dX7_undo_44 ?_
    refine va_put (D := D) (ci := 7) (v := .int (fi_2 50)) (ty := .int) (C := RX7) (T := TX7) (N := 73) hx hb hts fw_7 tyX7 tyX7_ok nmX7 hown hK hP hD hS 0 rfl rfl 3 (by decide) (hts _ m_fieldLink_M_19_M_truths_I) (fun _ h9 => h9) rfl (by decide +kernel) rfl rfl (Nat.le_of_ble_eq_true rfl) dX7_undo_47 (fun H locs hP hD hS => ?_)
    replace hP : va_P D vwCl (Mw h q cA (upd (upd fi_2 2 (fi_2 49)) 3 (fi_2 50)) fs ga0 gs pl it asd) H := hP
    replace hD : va_D A (Mw h q cA (upd (upd fi_2 2 (fi_2 49)) 3 (fi_2 50)) fs ga0 gs pl it asd) := hD
    refine lv_aload_n hx hb dX7_undo_50 rfl (lv_at hl 0 rfl) ?_
    refine lv_aload_n hx hb dX7_undo_51 rfl (lv_at hl 0 rfl) ?_
    refine va_get (D := D) (ci := 7) (v := .int (fi_2 51)) (C := RX7) (T := TX7) (N := 73) hx hb hts fw_7 hown hK hP 0 rfl rfl 51 (by decide) (hts _ m_fieldLink_M_166_M_imageSilences_I) (fun _ h9 => h9) rfl dX7_undo_52 ?_
    refine va_put (D := D) (ci := 7) (v := .int (fi_2 51)) (ty := .int) (C := RX7) (T := TX7) (N := 73) hx hb hts fw_7 tyX7 tyX7_ok nmX7 hown hK hP hD hS 0 rfl rfl 4 (by decide) (hts _ m_fieldLink_M_22_M_silences_I) (fun _ h9 => h9) rfl (by decide +kernel) rfl rfl (Nat.le_of_ble_eq_true rfl) dX7_undo_55 (fun H locs hP hD hS => ?_)
    replace hP : va_P D vwCl (Mw h q cA (upd (upd (upd fi_2 2 (fi_2 49)) 3 (fi_2 50)) 4 (fi_2 51)) fs ga0 gs pl it asd) H := hP
    replace hD : va_D A (Mw h q cA (upd (upd (upd fi_2 2 (fi_2 49)) 3 (fi_2 50)) 4 (fi_2 51)) fs ga0 gs pl it asd) := hD
    obtain ⟨fi_4, hv5, hf⟩ := nm_of hf
    replace hP : va_P D vwCl (Mw h q cA fi_4 fs ga0 gs pl it asd) H := by rw [hv5]; exact hP
    replace hD : va_D A (Mw h q cA fi_4 fs ga0 gs pl it asd) := by rw [hv5]; exact hD
    refine lv_aload_n hx hb dX7_undo_58 rfl (lv_at hl 0 rfl) ?_
    refine lv_aload_n hx hb dX7_undo_59 rfl (lv_at hl 0 rfl) ?_
    refine va_get (D := D) (ci := 7) (v := .int (fi_4 52)) (C := RX7) (T := TX7) (N := 73) hx hb hts fw_7 hown hK hP 0 rfl rfl 52 (by decide) (hts _ m_fieldLink_M_169_M_imageDay_I) (fun _ h9 => h9) rfl dX7_undo_60 ?_
    refine va_put (D := D) (ci := 7) (v := .int (fi_4 52)) (ty := .int) (C := RX7) (T := TX7) (N := 73) hx hb hts fw_7 tyX7 tyX7_ok nmX7 hown hK hP hD hS 0 rfl rfl 5 (by decide) (hts _ m_fieldLink_M_25_M_day_I) (fun _ h9 => h9) rfl (by decide +kernel) rfl rfl (Nat.le_of_ble_eq_true rfl) dX7_undo_63 (fun H locs hP hD hS => ?_)
    replace hP : va_P D vwCl (Mw h q cA (upd fi_4 5 (fi_4 52)) fs ga0 gs pl it asd) H := hP
    replace hD : va_D A (Mw h q cA (upd fi_4 5 (fi_4 52)) fs ga0 gs pl it asd) := hD
    refine lv_aload_n hx hb dX7_undo_66 rfl (lv_at hl 0 rfl) ?_
    refine lv_aload_n hx hb dX7_undo_67 rfl (lv_at hl 0 rfl) ?_
    refine va_get (D := D) (ci := 7) (v := .int (fi_4 53)) (C := RX7) (T := TX7) (N := 73) hx hb hts fw_7 hown hK hP 0 rfl rfl 53 (by decide) (hts _ m_fieldLink_M_172_M_imageHeard_I) (fun _ h9 => h9) rfl dX7_undo_68 ?_
    refine va_put (D := D) (ci := 7) (v := .int (fi_4 53)) (ty := .int) (C := RX7) (T := TX7) (N := 73) hx hb hts fw_7 tyX7 tyX7_ok nmX7 hown hK hP hD hS 0 rfl rfl 36 (by decide) (hts _ m_fieldLink_M_120_M_heard_I) (fun _ h9 => h9) rfl (by decide +kernel) rfl rfl (Nat.le_of_ble_eq_true rfl) dX7_undo_71 (fun H locs hP hD hS => ?_)
    replace hP : va_P D vwCl (Mw h q cA (upd (upd fi_4 5 (fi_4 52)) 36 (fi_4 53)) fs ga0 gs pl it asd) H := hP
    replace hD : va_D A (Mw h q cA (upd (upd fi_4 5 (fi_4 52)) 36 (fi_4 53)) fs ga0 gs pl it asd) := hD
    refine lv_aload_n hx hb dX7_undo_74 rfl (lv_at hl 0 rfl) ?_
    refine lv_aload_n hx hb dX7_undo_75 rfl (lv_at hl 0 rfl) ?_
    refine va_get (D := D) (ci := 7) (v := .int (fi_4 54)) (C := RX7) (T := TX7) (N := 73) hx hb hts fw_7 hown hK hP 0 rfl rfl 54 (by decide) (hts _ m_fieldLink_M_175_M_imagePlans_I) (fun _ h9 => h9) rfl dX7_undo_76 ?_
    refine va_put (D := D) (ci := 7) (v := .int (fi_4 54)) (ty := .int) (C := RX7) (T := TX7) (N := 73) hx hb hts fw_7 tyX7 tyX7_ok nmX7 hown hK hP hD hS 0 rfl rfl 39 (by decide) (hts _ m_fieldLink_M_129_M_plans_I) (fun _ h9 => h9) rfl (by decide +kernel) rfl rfl (Nat.le_of_ble_eq_true rfl) dX7_undo_79 (fun H locs hP hD hS => ?_)
    replace hP : va_P D vwCl (Mw h q cA (upd (upd (upd fi_4 5 (fi_4 52)) 36 (fi_4 53)) 39 (fi_4 54)) fs ga0 gs pl it asd) H := hP
    replace hD : va_D A (Mw h q cA (upd (upd (upd fi_4 5 (fi_4 52)) 36 (fi_4 53)) 39 (fi_4 54)) fs ga0 gs pl it asd) := hD
    obtain ⟨fi_6, hv7, hf⟩ := nm_of hf
    replace hP : va_P D vwCl (Mw h q cA fi_6 fs ga0 gs pl it asd) H := by rw [hv7]; exact hP
    replace hD : va_D A (Mw h q cA fi_6 fs ga0 gs pl it asd) := by rw [hv7]; exact hD
    refine lv_aload_n hx hb dX7_undo_82 rfl (lv_at hl 0 rfl) ?_
    refine lv_aload_n hx hb dX7_undo_83 rfl (lv_at hl 0 rfl) ?_
    refine va_get (D := D) (ci := 7) (v := .int (fi_6 55)) (C := RX7) (T := TX7) (N := 73) hx hb hts fw_7 hown hK hP 0 rfl rfl 55 (by decide) (hts _ m_fieldLink_M_178_M_imageBooks_I) (fun _ h9 => h9) rfl dX7_undo_84 ?_
    refine va_put (D := D) (ci := 7) (v := .int (fi_6 55)) (ty := .int) (C := RX7) (T := TX7) (N := 73) hx hb hts fw_7 tyX7 tyX7_ok nmX7 hown hK hP hD hS 0 rfl rfl 40 (by decide) (hts _ m_fieldLink_M_132_M_books_I) (fun _ h9 => h9) rfl (by decide +kernel) rfl rfl (Nat.le_of_ble_eq_true rfl) dX7_undo_87 (fun H locs hP hD hS => ?_)
    replace hP : va_P D vwCl (Mw h q cA (upd fi_6 40 (fi_6 55)) fs ga0 gs pl it asd) H := hP
    replace hD : va_D A (Mw h q cA (upd fi_6 40 (fi_6 55)) fs ga0 gs pl it asd) := hD
    refine lv_iconst (v := 0) hx hb dX7_undo_90 (by decide) ?_
    refine lv_istore_n (lv' := [(1, .int 0), (0, .ref h)]) hx hb dX7_undo_91 rfl hl (by decide) rfl (fun ls hl => ?_)
    exact J92 100000 0 (upd fi_6 40 (fi_6 55)) ga0 hf _ _ hP hD hS _ (lv_sub hl [1, 0] rfl)
  · replace hf := it_of c1 hf
    refine lv_bipush (v := (-3)) hx hb dX7_undo_7 (by decide) ?_
    rw [hQ]
    exact ret_i C0 hP hD hS (by have e := Option.some.inj hf; rw [← e]; exact ⟨rfl, rfl⟩) dX7_undo_9

-- tape
noncomputable def k_X7_tape_69 (a1 : Int32) : Nat → Int32 → (Nat → Nat → Int32) → (Nat → Int64) → Option (Int32 × (Nat → Nat → Int32) × (Nat → Int64))
  | 0, _, _, _ => none
  | n + 1, x4, ga, it => if 60 ≤ x4 then some (1, ga, it) else gd ((60 * a1) + x4) 360 (k_X7_tape_69 a1 n (x4 + 1) ga (vp_updL it (Int32.toNatClampNeg ((60 * a1) + x4)) 0))
noncomputable def k_X7_tape_65 (a1 : Int32) (t1 : Int32) (t2 : Int32) (ga : Nat → Nat → Int32) (it : Nat → Int64) : Option (Int32 × (Nat → Nat → Int32) × (Nat → Int64)) := gd t1 6 (k_X7_tape_69 a1 100000 0 (va_up ga 70 (upd (ga 70) (Int32.toNatClampNeg t1) t2)) it)
noncomputable def k_X7_tape_44 (a1 : Int32) (a2 : Int32) (a3 : Int32) (ga : Nat → Nat → Int32) (it : Nat → Int64) : Option (Int32 × (Nat → Nat → Int32) × (Nat → Int64)) := gd a1 6 (if 0 ≤ a2 then k_X7_tape_65 a1 a1 a3 (va_up ga 69 (upd (ga 69) (Int32.toNatClampNeg a1) a2)) it else k_X7_tape_65 a1 a1 0 (va_up ga 69 (upd (ga 69) (Int32.toNatClampNeg a1) a2)) it)
noncomputable def k_X7_tape_33 (a1 : Int32) (a2 : Int32) (a3 : Int32) (ga : Nat → Nat → Int32) (it : Nat → Int64) : Option (Int32 × (Nat → Nat → Int32) × (Nat → Int64)) := if a2 < 0 then k_X7_tape_44 a1 a2 a3 ga it else if 0 ≤ a3 then k_X7_tape_44 a1 a2 a3 ga it else some ((-14), ga, it)
noncomputable def k_X7_tape (a1 : Int32) (a2 : Int32) (a3 : Int32) (ga0 : Nat → Nat → Int32) (it0 : Nat → Int64) : Option (Int32 × (Nat → Nat → Int32) × (Nat → Int64)) := b1 (k_X7_isTape a1) (fun r1 => if r1 = 0 then some ((-1), ga0, it0) else b1 (k_X7_in a2 (-1) 4) (fun r5 => if r5 = 0 then some ((-2), ga0, it0) else if a2 < 0 then k_X7_tape_33 a1 a2 a3 ga0 it0 else if a3 ≤ 60 then k_X7_tape_33 a1 a2 a3 ga0 it0 else some ((-2), ga0, it0)))
set_option maxHeartbeats 4000000 in
set_option maxRecDepth 100000 in
theorem c_X7_tape {l : Launch} {D : va_G} {cA : Nat → ClassId} (h : Nat) (q : Nat → Nat) (fi : Nat → Int32) (fs : Nat → Int32) (ga0 : Nat → Nat → Int32) (gs : Nat → Nat → Int32) (pl : Nat → Int32) (it0 : Nat → Int64) (asd : Nat → Int64) (a1 : Int32) (a2 : Int32) (a3 : Int32) (o : Int32 × (Nat → Nat → Int32) × (Nat → Int64)) (hf : k_X7_tape a1 a2 a3 ga0 it0 = some o) : CI l D cA yX7_tape cX7_tape 5 (some .int) 2 44 [.ref h, .int a1, .int a2, .int a3] (Mw h q cA fi fs ga0 gs pl it0 asd) 0 0 (fun r w => r = o.1 ∧ w = (Mw h q cA fi fs o.2.1 gs pl o.2.2 asd)) := by
  intro sz
  refine met_start (by decide) rfl ?_
  intro p e s m args below meth c ls hsz hargs C0 hname hP hD hS hl
  generalize hAe : va_A (Mw h q cA fi fs ga0 gs pl it0 asd) sz = A at C0 hD hS ⊢
  obtain ⟨hx, hb, hr, hml, hown, hts, hlk, hK, hA⟩ := id C0
  replace hl : lv_has ls 5 [(0, .ref h), (1, .int a1), (2, .int a2), (3, .int a3)] := hl
  obtain ⟨Q, hQ⟩ : ∃ Q : State → Prop, Q = QI below D A (fun r w => r = o.1 ∧ w = (Mw h q cA fi fs o.2.1 gs pl o.2.2 asd)) args s 0 0 := ⟨_, rfl⟩
  refine cast (by rw [hQ]) (?_ : W p l e (RMx 2 44 0 0) s m args below meth c s.heap [] 0 0 Q (F0 m 0 ls []))
  have J69 : ∀ n : Nat, ∀ (x4 : Int32) (ga : Nat → Nat → Int32) (it : Nat → Int64), k_X7_tape_69 a1 n x4 ga it = some o → ∀ (H : Heap) (locs : List Loc), va_P D vwCl (Mw h q cA fi fs ga gs pl it asd) H → va_D A (Mw h q cA fi fs ga gs pl it asd) → va_S A s.heap H locs → ∀ ls : Array Slot, lv_has ls 5 [(0, .ref h), (1, .int a1), (4, .int x4)] → W p l e (RMx 2 44 0 0) s m args below meth c H locs 0 0 Q (F0 m 69 ls []) := by
    intro  n
    induction n with
    | zero =>
      intro x4 ga it hf
      rw [k_X7_tape_69] at hf
      cases hf
    | succ n ih =>
      intro x4 ga it hf H locs hP hD hS ls hl
      rw [k_X7_tape_69] at hf
      refine lv_iload hx hb dX7_tape_69 (lv_at hl 2 rfl) ?_
      refine lv_bipush (v := 60) hx hb dX7_tape_71 (by decide) ?_
      refine lv_icmp_ge (tgt := 95) hx hb dX7_tape_73 (by decide) (fun c1 => ?_) (fun c1 => ?_)
      · replace hf := it_of c1 hf
        refine lv_iconst (v := 1) hx hb dX7_tape_95 (by decide) ?_
        rw [hQ]
        exact ret_i C0 hP hD hS (by have e := Option.some.inj hf; rw [← e]; exact ⟨rfl, rfl⟩) dX7_tape_96
      · replace hf := ie_of c1 hf
        refine lv_aload_n hx hb dX7_tape_76 rfl (lv_at hl 0 rfl) ?_
        refine va_get (D := D) (ci := 7) (v := .ref (q 71)) (C := RX7) (T := TX7) (N := 73) hx hb hts fw_7 hown hK hP 0 rfl rfl 71 (by decide) (hts _ m_fieldLink_M_226_M_item_aJ) (fun _ h9 => h9) rfl dX7_tape_77 ?_
        refine lv_bipush (v := 60) hx hb dX7_tape_80 (by decide) ?_
        refine lv_iload_n hx hb dX7_tape_82 rfl (lv_at hl 1 rfl) ?_
        refine lv_imul hx hb dX7_tape_83 ?_
        refine lv_iload hx hb dX7_tape_84 (lv_at hl 2 rfl) ?_
        refine lv_iadd hx hb dX7_tape_86 ?_
        refine lv_lconst (v := 0) hx hb dX7_tape_87 (by decide) ?_
        obtain ⟨hi2, hf⟩ := gd_of hf
        refine va_last hx hb hK hP hD hS 37 2 rfl rfl hi2 dX7_tape_88 (fun H locs hP hD hS => ?_)
        replace hP : va_P D vwCl (Mw h q cA fi fs ga gs pl (vp_updL it (Int32.toNatClampNeg ((60 * a1) + x4)) 0) asd) H := hP
        replace hD : va_D A (Mw h q cA fi fs ga gs pl (vp_updL it (Int32.toNatClampNeg ((60 * a1) + x4)) 0) asd) := hD
        refine lv_iinc (v := (x4 + 1)) (lv' := [(4, .int (x4 + 1)), (0, .ref h), (1, .int a1)]) hx hb dX7_tape_89 hl (k := 2) rfl rfl (by decide) rfl (fun ls hl => ?_)
        refine lv_goto (tgt := 69) hx hb dX7_tape_92 (by decide) ?_
        exact ih (x4 + 1) ga (vp_updL it (Int32.toNatClampNeg ((60 * a1) + x4)) 0) hf _ _ hP hD hS _ (lv_sub hl [1, 2, 0] rfl)
  have J65 : ∀ (t1 : Int32) (t2 : Int32) (ga : Nat → Nat → Int32) (it : Nat → Int64), k_X7_tape_65 a1 t1 t2 ga it = some o → ∀ (H : Heap) (locs : List Loc), va_P D vwCl (Mw h q cA fi fs ga gs pl it asd) H → va_D A (Mw h q cA fi fs ga gs pl it asd) → va_S A s.heap H locs → ∀ ls : Array Slot, lv_has ls 5 [(0, .ref h), (1, .int a1)] → W p l e (RMx 2 44 0 0) s m args below meth c H locs 0 0 Q (F0 m 65 ls [.int t2, .int t1, .ref (q 70)]) := by
    intro  t1 t2 ga it hf H locs hP hD hS ls hl
    unfold k_X7_tape_65 at hf
    obtain ⟨hi1, hf⟩ := gd_of hf
    refine va_iast hx hb hK hP hD hS 36 0 rfl rfl hi1 dX7_tape_65 (fun H locs hP hD hS => ?_)
    replace hP : va_P D vwCl (Mw h q cA fi fs (va_up ga 70 (upd (ga 70) (Int32.toNatClampNeg t1) t2)) gs pl it asd) H := hP
    replace hD : va_D A (Mw h q cA fi fs (va_up ga 70 (upd (ga 70) (Int32.toNatClampNeg t1) t2)) gs pl it asd) := hD
    refine lv_iconst (v := 0) hx hb dX7_tape_66 (by decide) ?_
    refine lv_istore (lv' := [(4, .int 0), (0, .ref h), (1, .int a1)]) hx hb dX7_tape_67 hl (by decide) rfl (fun ls hl => ?_)
    exact J69 100000 0 (va_up ga 70 (upd (ga 70) (Int32.toNatClampNeg t1) t2)) it hf _ _ hP hD hS _ (lv_sub hl [1, 2, 0] rfl)
  have J44 : ∀ (ga : Nat → Nat → Int32) (it : Nat → Int64), k_X7_tape_44 a1 a2 a3 ga it = some o → ∀ (H : Heap) (locs : List Loc), va_P D vwCl (Mw h q cA fi fs ga gs pl it asd) H → va_D A (Mw h q cA fi fs ga gs pl it asd) → va_S A s.heap H locs → ∀ ls : Array Slot, lv_has ls 5 [(0, .ref h), (1, .int a1), (2, .int a2), (3, .int a3)] → W p l e (RMx 2 44 0 0) s m args below meth c H locs 0 0 Q (F0 m 44 ls []) := by
    intro  ga it hf H locs hP hD hS ls hl
    unfold k_X7_tape_44 at hf
    refine lv_aload_n hx hb dX7_tape_44 rfl (lv_at hl 0 rfl) ?_
    refine va_get (D := D) (ci := 7) (v := .ref (q 69)) (C := RX7) (T := TX7) (N := 73) hx hb hts fw_7 hown hK hP 0 rfl rfl 69 (by decide) (hts _ m_fieldLink_M_220_M_sort_aI) (fun _ h9 => h9) rfl dX7_tape_45 ?_
    refine lv_iload_n hx hb dX7_tape_48 rfl (lv_at hl 1 rfl) ?_
    refine lv_iload_n hx hb dX7_tape_49 rfl (lv_at hl 2 rfl) ?_
    obtain ⟨hi1, hf⟩ := gd_of hf
    refine va_iast hx hb hK hP hD hS 35 0 rfl rfl hi1 dX7_tape_50 (fun H locs hP hD hS => ?_)
    replace hP : va_P D vwCl (Mw h q cA fi fs (va_up ga 69 (upd (ga 69) (Int32.toNatClampNeg a1) a2)) gs pl it asd) H := hP
    replace hD : va_D A (Mw h q cA fi fs (va_up ga 69 (upd (ga 69) (Int32.toNatClampNeg a1) a2)) gs pl it asd) := hD
    refine lv_aload_n hx hb dX7_tape_51 rfl (lv_at hl 0 rfl) ?_
    refine va_get (D := D) (ci := 7) (v := .ref (q 70)) (C := RX7) (T := TX7) (N := 73) hx hb hts fw_7 hown hK hP 0 rfl rfl 70 (by decide) (hts _ m_fieldLink_M_223_M_length_aI) (fun _ h9 => h9) rfl dX7_tape_52 ?_
    refine lv_iload_n hx hb dX7_tape_55 rfl (lv_at hl 1 rfl) ?_
    refine lv_iload_n hx hb dX7_tape_56 rfl (lv_at hl 2 rfl) ?_
    refine lv_if_ge (tgt := 64) hx hb dX7_tape_57 (by decide) (fun c2 => ?_) (fun c2 => ?_)
    · replace hf := it_of c2 hf
      refine lv_iload_n hx hb dX7_tape_64 rfl (lv_at hl 3 rfl) ?_
      exact J65 a1 a3 (va_up ga 69 (upd (ga 69) (Int32.toNatClampNeg a1) a2)) it hf _ _ hP hD hS _ (lv_sub hl [0, 1] rfl)
    · replace hf := ie_of c2 hf
      refine lv_iconst (v := 0) hx hb dX7_tape_60 (by decide) ?_
      refine lv_goto (tgt := 65) hx hb dX7_tape_61 (by decide) ?_
      exact J65 a1 0 (va_up ga 69 (upd (ga 69) (Int32.toNatClampNeg a1) a2)) it hf _ _ hP hD hS _ (lv_sub hl [0, 1] rfl)
  have J33 : ∀ (ga : Nat → Nat → Int32) (it : Nat → Int64), k_X7_tape_33 a1 a2 a3 ga it = some o → ∀ (H : Heap) (locs : List Loc), va_P D vwCl (Mw h q cA fi fs ga gs pl it asd) H → va_D A (Mw h q cA fi fs ga gs pl it asd) → va_S A s.heap H locs → ∀ ls : Array Slot, lv_has ls 5 [(0, .ref h), (1, .int a1), (2, .int a2), (3, .int a3)] → W p l e (RMx 2 44 0 0) s m args below meth c H locs 0 0 Q (F0 m 33 ls []) := by
    intro  ga it hf H locs hP hD hS ls hl
    unfold k_X7_tape_33 at hf
    refine lv_iload_n hx hb dX7_tape_33 rfl (lv_at hl 2 rfl) ?_
    refine lv_if_lt (tgt := 44) hx hb dX7_tape_34 (by decide) (fun c1 => ?_) (fun c1 => ?_)
    · replace hf := it_of c1 hf
      exact J44 ga it hf _ _ hP hD hS _ (lv_sub hl [0, 1, 2, 3] rfl)
    · replace hf := ie_of c1 hf
      refine lv_iload_n hx hb dX7_tape_37 rfl (lv_at hl 3 rfl) ?_
      refine lv_if_ge (tgt := 44) hx hb dX7_tape_38 (by decide) (fun c2 => ?_) (fun c2 => ?_)
      · replace hf := it_of c2 hf
        exact J44 ga it hf _ _ hP hD hS _ (lv_sub hl [0, 1, 2, 3] rfl)
      · replace hf := ie_of c2 hf
        refine lv_bipush (v := (-14)) hx hb dX7_tape_41 (by decide) ?_
        rw [hQ]
        exact ret_i C0 hP hD hS (by have e := Option.some.inj hf; rw [← e]; exact ⟨rfl, rfl⟩) dX7_tape_43
  unfold k_X7_tape at hf
  refine lv_aload_n hx hb dX7_tape_0 rfl (lv_at hl 0 rfl) ?_
  refine lv_iload_n hx hb dX7_tape_1 rfl (lv_at hl 1 rfl) ?_
  obtain ⟨r1q, hq2, hf⟩ := b1_of hf
  refine callVI (As := [.int a1]) (rest := []) (wr := []) C0 (c_X7_isTape h q fi fs ga0 gs pl it0 asd a1 _ hq2) lk_X7_392_X7_isTape rfl hP hD hS perm_nil 0 7 rfl rfl rfl hl.1 rfl rfl (Nat.le_of_ble_eq_true rfl) dX7_tape_2 ⟨Nat.zero_le _, Nat.zero_le _⟩ (fun r1 w H locs hw hP hD hS => ?_)
  obtain ⟨⟨e1, e2⟩, z3⟩ := hw
  replace e1 : r1 = r1q := e1
  subst e1
  subst e2
  replace hP : va_P D vwCl (Mw h q cA fi fs ga0 gs pl it0 asd) H := hP.nil
  replace hD : va_D A (Mw h q cA fi fs ga0 gs pl it0 asd) := hD.nil
  refine lv_if_ne (tgt := 10) hx hb dX7_tape_5 (by decide) (fun c4 => ?_) (fun c4 => ?_)
  · replace hf := ie_of c4 hf
    refine lv_aload_n hx hb dX7_tape_10 rfl (lv_at hl 0 rfl) ?_
    refine lv_iload_n hx hb dX7_tape_11 rfl (lv_at hl 2 rfl) ?_
    refine lv_iconst (v := (-1)) hx hb dX7_tape_12 (by decide) ?_
    refine lv_iconst (v := 4) hx hb dX7_tape_13 (by decide) ?_
    obtain ⟨r5q, hq6, hf⟩ := b1_of hf
    refine callVI (As := [.int a2, .int (-1), .int 4]) (rest := []) (wr := (Mw h q cA fi fs ga0 gs pl it0 asd)) C0 (c_X7_in h a2 (-1) 4 _ hq6) lk_X7_237_X7_in rfl hP hD hS (List.Perm.refl _) 0 7 rfl rfl rfl hl.1 rfl rfl (Nat.le_of_ble_eq_true rfl) dX7_tape_14 ⟨Nat.zero_le _, Nat.zero_le _⟩ (fun r5 w H locs hw hP hD hS => ?_)
    obtain ⟨⟨e1, e2⟩, z7⟩ := hw
    replace e1 : r5 = r5q := e1
    subst e1
    subst e2
    replace hP : va_P D vwCl (Mw h q cA fi fs ga0 gs pl it0 asd) H := hP
    replace hD : va_D A (Mw h q cA fi fs ga0 gs pl it0 asd) := hD
    refine lv_if_eq (tgt := 30) hx hb dX7_tape_17 (by decide) (fun c8 => ?_) (fun c8 => ?_)
    · replace hf := it_of c8 hf
      refine lv_bipush (v := (-2)) hx hb dX7_tape_30 (by decide) ?_
      rw [hQ]
      exact ret_i C0 hP hD hS (by have e := Option.some.inj hf; rw [← e]; exact ⟨rfl, rfl⟩) dX7_tape_32
    · replace hf := ie_of c8 hf
      refine lv_iload_n hx hb dX7_tape_20 rfl (lv_at hl 2 rfl) ?_
      refine lv_if_lt (tgt := 33) hx hb dX7_tape_21 (by decide) (fun c9 => ?_) (fun c9 => ?_)
      · replace hf := it_of c9 hf
        exact J33 ga0 it0 hf _ _ hP hD hS _ (lv_sub hl [0, 1, 2, 3] rfl)
      · replace hf := ie_of c9 hf
        refine lv_iload_n hx hb dX7_tape_24 rfl (lv_at hl 3 rfl) ?_
        refine lv_bipush (v := 60) hx hb dX7_tape_25 (by decide) ?_
        refine lv_icmp_le (tgt := 33) hx hb dX7_tape_27 (by decide) (fun c10 => ?_) (fun c10 => ?_)
        · replace hf := it_of c10 hf
          exact J33 ga0 it0 hf _ _ hP hD hS _ (lv_sub hl [0, 1, 2, 3] rfl)
        · replace hf := ie_of c10 hf
          refine lv_bipush (v := (-2)) hx hb dX7_tape_30 (by decide) ?_
          rw [hQ]
          exact ret_i C0 hP hD hS (by have e := Option.some.inj hf; rw [← e]; exact ⟨rfl, rfl⟩) dX7_tape_32
  · replace hf := it_of c4 hf
    refine lv_iconst (v := (-1)) hx hb dX7_tape_8 (by decide) ?_
    rw [hQ]
    exact ret_i C0 hP hD hS (by have e := Option.some.inj hf; rw [← e]; exact ⟨rfl, rfl⟩) dX7_tape_9
-- narrow
noncomputable def k_X7_narrow (a1 : Int32) (a2 : Int64) : Option Int64 := if a1 = 0 then some (Int32.toInt64 (Int8.toInt32 (Int32.toInt8 (Int64.toInt32 a2)))) else if a1 = 1 then some (Int32.toInt64 (Int16.toInt32 (Int32.toInt16 (Int64.toInt32 a2)))) else if a1 = 2 then some (Int32.toInt64 (Int64.toInt32 a2)) else if a1 = 4 then if (lg_cmp a2 0) = 0 then some 0 else some 1 else some a2
set_option maxHeartbeats 4000000 in
set_option maxRecDepth 100000 in
theorem c_X7_narrow {l : Launch} {D : va_G} {cA : Nat → ClassId} (h : Nat)  (a1 : Int32) (a2 : Int64) (o : Int64) (hf : k_X7_narrow a1 a2 = some o) : CL l D cA yX7_narrow cX7_narrow 4 (some .long) 0 0 [.ref h, .int a1, .long a2] ([] : va_W) 0 0 (fun r w => r = o ∧ w = ([] : va_W)) := by
  intro sz
  refine met_start (by decide) rfl ?_
  intro p e s m args below meth c ls hsz hargs C0 hname hP hD hS hl
  generalize hAe : va_A ([] : va_W) sz = A at C0 hD hS ⊢
  obtain ⟨hx, hb, hr, hml, hown, hts, hlk, hK, hA⟩ := id C0
  replace hl : lv_has ls 4 [(0, .ref h), (1, .int a1), (2, .long a2)] := hl
  obtain ⟨Q, hQ⟩ : ∃ Q : State → Prop, Q = QL below D A (fun r w => r = o ∧ w = ([] : va_W)) args s 0 0 := ⟨_, rfl⟩
  refine cast (by rw [hQ]) (?_ : W p l e (RMx 0 0 0 0) s m args below meth c s.heap [] 0 0 Q (F0 m 0 ls []))
  unfold k_X7_narrow at hf
  refine lv_iload_n hx hb dX7_narrow_0 rfl (lv_at hl 1 rfl) ?_
  refine lv_if_ne (tgt := 11) hx hb dX7_narrow_1 (by decide) (fun c1 => ?_) (fun c1 => ?_)
  · replace hf := ie_of c1 hf
    refine lv_iload_n hx hb dX7_narrow_11 rfl (lv_at hl 1 rfl) ?_
    refine lv_iconst (v := 1) hx hb dX7_narrow_12 (by decide) ?_
    refine lv_icmp_ne (tgt := 23) hx hb dX7_narrow_13 (by decide) (fun c2 => ?_) (fun c2 => ?_)
    · replace hf := ie_of c2 hf
      refine lv_iload_n hx hb dX7_narrow_23 rfl (lv_at hl 1 rfl) ?_
      refine lv_iconst (v := 2) hx hb dX7_narrow_24 (by decide) ?_
      refine lv_icmp_ne (tgt := 34) hx hb dX7_narrow_25 (by decide) (fun c3 => ?_) (fun c3 => ?_)
      · replace hf := ie_of c3 hf
        refine lv_iload_n hx hb dX7_narrow_34 rfl (lv_at hl 1 rfl) ?_
        refine lv_iconst (v := 4) hx hb dX7_narrow_35 (by decide) ?_
        refine lv_icmp_ne (tgt := 53) hx hb dX7_narrow_36 (by decide) (fun c4 => ?_) (fun c4 => ?_)
        · replace hf := ie_of c4 hf
          refine lv_lload_n hx hb dX7_narrow_53 rfl (lv_at hl 2 rfl) ?_
          rw [hQ]
          exact ret_l C0 hP hD hS (by have e := Option.some.inj hf; rw [← e]; exact ⟨rfl, rfl⟩) dX7_narrow_54
        · replace hf := it_of c4 hf
          refine lv_lload_n hx hb dX7_narrow_39 rfl (lv_at hl 2 rfl) ?_
          refine lv_lconst (v := 0) hx hb dX7_narrow_40 (by decide) ?_
          refine W.lcmp hx hb dX7_narrow_41 ?_
          refine lv_if_eq (tgt := 49) hx hb dX7_narrow_42 (by decide) (fun c5 => ?_) (fun c5 => ?_)
          · replace hf := it_of c5 hf
            refine lv_lconst (v := 0) hx hb dX7_narrow_49 (by decide) ?_
            refine lv_goto (tgt := 54) hx hb dX7_narrow_50 (by decide) ?_
            rw [hQ]
            exact ret_l C0 hP hD hS (by have e := Option.some.inj hf; rw [← e]; exact ⟨rfl, rfl⟩) dX7_narrow_54
          · replace hf := ie_of c5 hf
            refine lv_lconst (v := 1) hx hb dX7_narrow_45 (by decide) ?_
            refine lv_goto (tgt := 54) hx hb dX7_narrow_46 (by decide) ?_
            rw [hQ]
            exact ret_l C0 hP hD hS (by have e := Option.some.inj hf; rw [← e]; exact ⟨rfl, rfl⟩) dX7_narrow_54
      · replace hf := it_of c3 hf
        refine lv_lload_n hx hb dX7_narrow_28 rfl (lv_at hl 2 rfl) ?_
        refine lv_l2i (v := (Int64.toInt32 a2)) hx hb dX7_narrow_29 rfl ?_
        refine lv_i2l (v := (Int32.toInt64 (Int64.toInt32 a2))) hx hb dX7_narrow_30 rfl ?_
        refine lv_goto (tgt := 54) hx hb dX7_narrow_31 (by decide) ?_
        rw [hQ]
        exact ret_l C0 hP hD hS (by have e := Option.some.inj hf; rw [← e]; exact ⟨rfl, rfl⟩) dX7_narrow_54
    · replace hf := it_of c2 hf
      refine lv_lload_n hx hb dX7_narrow_16 rfl (lv_at hl 2 rfl) ?_
      refine lv_l2i (v := (Int64.toInt32 a2)) hx hb dX7_narrow_17 rfl ?_
      refine lv_i2s (v := (Int16.toInt32 (Int32.toInt16 (Int64.toInt32 a2)))) hx hb dX7_narrow_18 rfl ?_
      refine lv_i2l (v := (Int32.toInt64 (Int16.toInt32 (Int32.toInt16 (Int64.toInt32 a2))))) hx hb dX7_narrow_19 rfl ?_
      refine lv_goto (tgt := 54) hx hb dX7_narrow_20 (by decide) ?_
      rw [hQ]
      exact ret_l C0 hP hD hS (by have e := Option.some.inj hf; rw [← e]; exact ⟨rfl, rfl⟩) dX7_narrow_54
  · replace hf := it_of c1 hf
    refine lv_lload_n hx hb dX7_narrow_4 rfl (lv_at hl 2 rfl) ?_
    refine lv_l2i (v := (Int64.toInt32 a2)) hx hb dX7_narrow_5 rfl ?_
    refine lv_i2b (v := (Int8.toInt32 (Int32.toInt8 (Int64.toInt32 a2)))) hx hb dX7_narrow_6 rfl ?_
    refine lv_i2l (v := (Int32.toInt64 (Int8.toInt32 (Int32.toInt8 (Int64.toInt32 a2))))) hx hb dX7_narrow_7 rfl ?_
    refine lv_goto (tgt := 54) hx hb dX7_narrow_8 (by decide) ?_
    rw [hQ]
    exact ret_l C0 hP hD hS (by have e := Option.some.inj hf; rw [← e]; exact ⟨rfl, rfl⟩) dX7_narrow_54
-- item
noncomputable def k_X7_item (a1 : Int32) (a2 : Int32) (a3 : Int64) (ga : Nat → Nat → Int32) (it0 : Nat → Int64) : Option (Int32 × (Nat → Int64)) := b1 (k_X7_isTape a1) (fun r1 => if r1 = 0 then some ((-1), it0) else gd a1 6 (if 0 ≤ ((ga 69) (Int32.toNatClampNeg a1)) then gd a1 6 (b1 (k_X7_in a2 0 (((ga 70) (Int32.toNatClampNeg a1)) - 1)) (fun r8 => if r8 = 0 then some ((-13), it0) else gd a1 6 (b1 (k_X7_narrow ((ga 69) (Int32.toNatClampNeg a1)) a3) (fun r13 => gd ((60 * a1) + a2) 360 (some (1, (vp_updL it0 (Int32.toNatClampNeg ((60 * a1) + a2)) r13))))))) else some ((-11), it0)))
set_option maxHeartbeats 4000000 in
set_option maxRecDepth 100000 in
theorem c_X7_item {l : Launch} {D : va_G} {cA : Nat → ClassId} (h : Nat) (q : Nat → Nat) (fi : Nat → Int32) (fs : Nat → Int32) (ga : Nat → Nat → Int32) (gs : Nat → Nat → Int32) (pl : Nat → Int32) (it0 : Nat → Int64) (asd : Nat → Int64) (a1 : Int32) (a2 : Int32) (a3 : Int64) (o : Int32 × (Nat → Int64)) (hf : k_X7_item a1 a2 a3 ga it0 = some o) : CI l D cA yX7_item cX7_item 5 (some .int) 2 44 [.ref h, .int a1, .int a2, .long a3] (Mw h q cA fi fs ga gs pl it0 asd) 0 0 (fun r w => r = o.1 ∧ w = (Mw h q cA fi fs ga gs pl o.2 asd)) := by
  intro sz
  refine met_start (by decide) rfl ?_
  intro p e s m args below meth c ls hsz hargs C0 hname hP hD hS hl
  generalize hAe : va_A (Mw h q cA fi fs ga gs pl it0 asd) sz = A at C0 hD hS ⊢
  obtain ⟨hx, hb, hr, hml, hown, hts, hlk, hK, hA⟩ := id C0
  replace hl : lv_has ls 5 [(0, .ref h), (1, .int a1), (2, .int a2), (3, .long a3)] := hl
  obtain ⟨Q, hQ⟩ : ∃ Q : State → Prop, Q = QI below D A (fun r w => r = o.1 ∧ w = (Mw h q cA fi fs ga gs pl o.2 asd)) args s 0 0 := ⟨_, rfl⟩
  refine cast (by rw [hQ]) (?_ : W p l e (RMx 2 44 0 0) s m args below meth c s.heap [] 0 0 Q (F0 m 0 ls []))
  unfold k_X7_item at hf
  refine lv_aload_n hx hb dX7_item_0 rfl (lv_at hl 0 rfl) ?_
  refine lv_iload_n hx hb dX7_item_1 rfl (lv_at hl 1 rfl) ?_
  obtain ⟨r1q, hq2, hf⟩ := b1_of hf
  refine callVI (As := [.int a1]) (rest := []) (wr := []) C0 (c_X7_isTape h q fi fs ga gs pl it0 asd a1 _ hq2) lk_X7_392_X7_isTape rfl hP hD hS perm_nil 0 7 rfl rfl rfl hl.1 rfl rfl (Nat.le_of_ble_eq_true rfl) dX7_item_2 ⟨Nat.zero_le _, Nat.zero_le _⟩ (fun r1 w H locs hw hP hD hS => ?_)
  obtain ⟨⟨e1, e2⟩, z3⟩ := hw
  replace e1 : r1 = r1q := e1
  subst e1
  subst e2
  replace hP : va_P D vwCl (Mw h q cA fi fs ga gs pl it0 asd) H := hP.nil
  replace hD : va_D A (Mw h q cA fi fs ga gs pl it0 asd) := hD.nil
  refine lv_if_ne (tgt := 10) hx hb dX7_item_5 (by decide) (fun c4 => ?_) (fun c4 => ?_)
  · replace hf := ie_of c4 hf
    refine lv_aload_n hx hb dX7_item_10 rfl (lv_at hl 0 rfl) ?_
    refine va_get (D := D) (ci := 7) (v := .ref (q 69)) (C := RX7) (T := TX7) (N := 73) hx hb hts fw_7 hown hK hP 0 rfl rfl 69 (by decide) (hts _ m_fieldLink_M_220_M_sort_aI) (fun _ h9 => h9) rfl dX7_item_11 ?_
    refine lv_iload_n hx hb dX7_item_14 rfl (lv_at hl 1 rfl) ?_
    obtain ⟨hi5, hf⟩ := gd_of hf
    refine va_iald hx hb hK hP 35 0 rfl rfl hi5 dX7_item_15 ?_
    refine lv_if_ge (tgt := 22) hx hb dX7_item_16 (by decide) (fun c6 => ?_) (fun c6 => ?_)
    · replace hf := it_of c6 hf
      refine lv_aload_n hx hb dX7_item_22 rfl (lv_at hl 0 rfl) ?_
      refine lv_iload_n hx hb dX7_item_23 rfl (lv_at hl 2 rfl) ?_
      refine lv_iconst (v := 0) hx hb dX7_item_24 (by decide) ?_
      refine lv_aload_n hx hb dX7_item_25 rfl (lv_at hl 0 rfl) ?_
      refine va_get (D := D) (ci := 7) (v := .ref (q 70)) (C := RX7) (T := TX7) (N := 73) hx hb hts fw_7 hown hK hP 0 rfl rfl 70 (by decide) (hts _ m_fieldLink_M_223_M_length_aI) (fun _ h9 => h9) rfl dX7_item_26 ?_
      refine lv_iload_n hx hb dX7_item_29 rfl (lv_at hl 1 rfl) ?_
      obtain ⟨hi7, hf⟩ := gd_of hf
      refine va_iald hx hb hK hP 36 0 rfl rfl hi7 dX7_item_30 ?_
      refine lv_iconst (v := 1) hx hb dX7_item_31 (by decide) ?_
      refine lv_isub hx hb dX7_item_32 ?_
      obtain ⟨r8q, hq9, hf⟩ := b1_of hf
      refine callVI (As := [.int a2, .int 0, .int (((ga 70) (Int32.toNatClampNeg a1)) - 1)]) (rest := []) (wr := (Mw h q cA fi fs ga gs pl it0 asd)) C0 (c_X7_in h a2 0 (((ga 70) (Int32.toNatClampNeg a1)) - 1) _ hq9) lk_X7_237_X7_in rfl hP hD hS (List.Perm.refl _) 0 7 rfl rfl rfl hl.1 rfl rfl (Nat.le_of_ble_eq_true rfl) dX7_item_33 ⟨Nat.zero_le _, Nat.zero_le _⟩ (fun r8 w H locs hw hP hD hS => ?_)
      obtain ⟨⟨e1, e2⟩, z10⟩ := hw
      replace e1 : r8 = r8q := e1
      subst e1
      subst e2
      replace hP : va_P D vwCl (Mw h q cA fi fs ga gs pl it0 asd) H := hP
      replace hD : va_D A (Mw h q cA fi fs ga gs pl it0 asd) := hD
      refine lv_if_ne (tgt := 42) hx hb dX7_item_36 (by decide) (fun c11 => ?_) (fun c11 => ?_)
      · replace hf := ie_of c11 hf
        refine lv_aload_n hx hb dX7_item_42 rfl (lv_at hl 0 rfl) ?_
        refine va_get (D := D) (ci := 7) (v := .ref (q 71)) (C := RX7) (T := TX7) (N := 73) hx hb hts fw_7 hown hK hP 0 rfl rfl 71 (by decide) (hts _ m_fieldLink_M_226_M_item_aJ) (fun _ h9 => h9) rfl dX7_item_43 ?_
        refine lv_bipush (v := 60) hx hb dX7_item_46 (by decide) ?_
        refine lv_iload_n hx hb dX7_item_48 rfl (lv_at hl 1 rfl) ?_
        refine lv_imul hx hb dX7_item_49 ?_
        refine lv_iload_n hx hb dX7_item_50 rfl (lv_at hl 2 rfl) ?_
        refine lv_iadd hx hb dX7_item_51 ?_
        refine lv_aload_n hx hb dX7_item_52 rfl (lv_at hl 0 rfl) ?_
        refine lv_aload_n hx hb dX7_item_53 rfl (lv_at hl 0 rfl) ?_
        refine va_get (D := D) (ci := 7) (v := .ref (q 69)) (C := RX7) (T := TX7) (N := 73) hx hb hts fw_7 hown hK hP 0 rfl rfl 69 (by decide) (hts _ m_fieldLink_M_220_M_sort_aI) (fun _ h9 => h9) rfl dX7_item_54 ?_
        refine lv_iload_n hx hb dX7_item_57 rfl (lv_at hl 1 rfl) ?_
        obtain ⟨hi12, hf⟩ := gd_of hf
        refine va_iald hx hb hK hP 35 0 rfl rfl hi12 dX7_item_58 ?_
        refine lv_lload_n hx hb dX7_item_59 rfl (lv_at hl 3 rfl) ?_
        obtain ⟨r13q, hq14, hf⟩ := b1_of hf
        refine callVL (As := [.int ((ga 69) (Int32.toNatClampNeg a1)), .long a3]) (rest := [.int ((60 * a1) + a2), .ref (q 71)]) (wr := (Mw h q cA fi fs ga gs pl it0 asd)) C0 (c_X7_narrow h ((ga 69) (Int32.toNatClampNeg a1)) a3 _ hq14) lk_X7_419_X7_narrow rfl hP hD hS (List.Perm.refl _) 0 7 rfl rfl rfl hl.1 rfl rfl (Nat.le_of_ble_eq_true rfl) dX7_item_60 ⟨Nat.zero_le _, Nat.zero_le _⟩ (fun r13 w H locs hw hP hD hS => ?_)
        obtain ⟨e1, e2⟩ := hw
        replace e1 : r13 = r13q := e1
        subst e1
        subst e2
        replace hP : va_P D vwCl (Mw h q cA fi fs ga gs pl it0 asd) H := hP
        replace hD : va_D A (Mw h q cA fi fs ga gs pl it0 asd) := hD
        obtain ⟨hi15, hf⟩ := gd_of hf
        refine va_last hx hb hK hP hD hS 37 2 rfl rfl hi15 dX7_item_63 (fun H locs hP hD hS => ?_)
        replace hP : va_P D vwCl (Mw h q cA fi fs ga gs pl (vp_updL it0 (Int32.toNatClampNeg ((60 * a1) + a2)) r13) asd) H := hP
        replace hD : va_D A (Mw h q cA fi fs ga gs pl (vp_updL it0 (Int32.toNatClampNeg ((60 * a1) + a2)) r13) asd) := hD
        refine lv_iconst (v := 1) hx hb dX7_item_64 (by decide) ?_
        rw [hQ]
        exact ret_i C0 hP hD hS (by have e := Option.some.inj hf; rw [← e]; exact ⟨rfl, rfl⟩) dX7_item_65
      · replace hf := it_of c11 hf
        refine lv_bipush (v := (-13)) hx hb dX7_item_39 (by decide) ?_
        rw [hQ]
        exact ret_i C0 hP hD hS (by have e := Option.some.inj hf; rw [← e]; exact ⟨rfl, rfl⟩) dX7_item_41
    · replace hf := ie_of c6 hf
      refine lv_bipush (v := (-11)) hx hb dX7_item_19 (by decide) ?_
      rw [hQ]
      exact ret_i C0 hP hD hS (by have e := Option.some.inj hf; rw [← e]; exact ⟨rfl, rfl⟩) dX7_item_21
  · replace hf := it_of c4 hf
    refine lv_iconst (v := (-1)) hx hb dX7_item_8 (by decide) ?_
    rw [hQ]
    exact ret_i C0 hP hD hS (by have e := Option.some.inj hf; rw [← e]; exact ⟨rfl, rfl⟩) dX7_item_9
-- read
noncomputable def k_X7_read (a1 : Int32) (a2 : Int32) (ga : Nat → Nat → Int32) (it : Nat → Int64) : Option Int64 := b1 (k_X7_isTape a1) (fun r1 => if r1 = 0 then some (-9223372036854775808) else gd a1 6 (if ((ga 69) (Int32.toNatClampNeg a1)) < 0 then some (-9223372036854775808) else gd a1 6 (b1 (k_X7_in a2 0 (((ga 70) (Int32.toNatClampNeg a1)) - 1)) (fun r8 => if r8 = 0 then some (-9223372036854775808) else gd ((60 * a1) + a2) 360 (some (it (Int32.toNatClampNeg ((60 * a1) + a2))))))))
set_option maxHeartbeats 4000000 in
set_option maxRecDepth 100000 in
theorem c_X7_read {l : Launch} {D : va_G} {cA : Nat → ClassId} (h : Nat) (q : Nat → Nat) (fi : Nat → Int32) (fs : Nat → Int32) (ga : Nat → Nat → Int32) (gs : Nat → Nat → Int32) (pl : Nat → Int32) (it : Nat → Int64) (asd : Nat → Int64) (a1 : Int32) (a2 : Int32) (o : Int64) (hf : k_X7_read a1 a2 ga it = some o) : CL l D cA yX7_read cX7_read 3 (some .long) 2 44 [.ref h, .int a1, .int a2] (Mw h q cA fi fs ga gs pl it asd) 0 0 (fun r w => r = o ∧ w = (Mw h q cA fi fs ga gs pl it asd)) := by
  intro sz
  refine met_start (by decide) rfl ?_
  intro p e s m args below meth c ls hsz hargs C0 hname hP hD hS hl
  generalize hAe : va_A (Mw h q cA fi fs ga gs pl it asd) sz = A at C0 hD hS ⊢
  obtain ⟨hx, hb, hr, hml, hown, hts, hlk, hK, hA⟩ := id C0
  replace hl : lv_has ls 3 [(0, .ref h), (1, .int a1), (2, .int a2)] := hl
  obtain ⟨Q, hQ⟩ : ∃ Q : State → Prop, Q = QL below D A (fun r w => r = o ∧ w = (Mw h q cA fi fs ga gs pl it asd)) args s 0 0 := ⟨_, rfl⟩
  refine cast (by rw [hQ]) (?_ : W p l e (RMx 2 44 0 0) s m args below meth c s.heap [] 0 0 Q (F0 m 0 ls []))
  unfold k_X7_read at hf
  refine lv_aload_n hx hb dX7_read_0 rfl (lv_at hl 0 rfl) ?_
  refine lv_iload_n hx hb dX7_read_1 rfl (lv_at hl 1 rfl) ?_
  obtain ⟨r1q, hq2, hf⟩ := b1_of hf
  refine callVI (As := [.int a1]) (rest := []) (wr := []) C0 (c_X7_isTape h q fi fs ga gs pl it asd a1 _ hq2) lk_X7_392_X7_isTape rfl hP hD hS perm_nil 0 7 rfl rfl rfl hl.1 rfl rfl (Nat.le_of_ble_eq_true rfl) dX7_read_2 ⟨Nat.zero_le _, Nat.zero_le _⟩ (fun r1 w H locs hw hP hD hS => ?_)
  obtain ⟨⟨e1, e2⟩, z3⟩ := hw
  replace e1 : r1 = r1q := e1
  subst e1
  subst e2
  replace hP : va_P D vwCl (Mw h q cA fi fs ga gs pl it asd) H := hP.nil
  replace hD : va_D A (Mw h q cA fi fs ga gs pl it asd) := hD.nil
  refine lv_if_eq (tgt := 34) hx hb dX7_read_5 (by decide) (fun c4 => ?_) (fun c4 => ?_)
  · replace hf := it_of c4 hf
    refine lv_ldc2 (v := (-9223372036854775808)) hx hb hown (hts _ m_constantLong_M_382_n9223372036854775808) dX7_read_34 ?_
    refine lv_goto (tgt := 51) hx hb dX7_read_37 (by decide) ?_
    rw [hQ]
    exact ret_l C0 hP hD hS (by have e := Option.some.inj hf; rw [← e]; exact ⟨rfl, rfl⟩) dX7_read_51
  · replace hf := ie_of c4 hf
    refine lv_aload_n hx hb dX7_read_8 rfl (lv_at hl 0 rfl) ?_
    refine va_get (D := D) (ci := 7) (v := .ref (q 69)) (C := RX7) (T := TX7) (N := 73) hx hb hts fw_7 hown hK hP 0 rfl rfl 69 (by decide) (hts _ m_fieldLink_M_220_M_sort_aI) (fun _ h9 => h9) rfl dX7_read_9 ?_
    refine lv_iload_n hx hb dX7_read_12 rfl (lv_at hl 1 rfl) ?_
    obtain ⟨hi5, hf⟩ := gd_of hf
    refine va_iald hx hb hK hP 35 0 rfl rfl hi5 dX7_read_13 ?_
    refine lv_if_lt (tgt := 34) hx hb dX7_read_14 (by decide) (fun c6 => ?_) (fun c6 => ?_)
    · replace hf := it_of c6 hf
      refine lv_ldc2 (v := (-9223372036854775808)) hx hb hown (hts _ m_constantLong_M_382_n9223372036854775808) dX7_read_34 ?_
      refine lv_goto (tgt := 51) hx hb dX7_read_37 (by decide) ?_
      rw [hQ]
      exact ret_l C0 hP hD hS (by have e := Option.some.inj hf; rw [← e]; exact ⟨rfl, rfl⟩) dX7_read_51
    · replace hf := ie_of c6 hf
      refine lv_aload_n hx hb dX7_read_17 rfl (lv_at hl 0 rfl) ?_
      refine lv_iload_n hx hb dX7_read_18 rfl (lv_at hl 2 rfl) ?_
      refine lv_iconst (v := 0) hx hb dX7_read_19 (by decide) ?_
      refine lv_aload_n hx hb dX7_read_20 rfl (lv_at hl 0 rfl) ?_
      refine va_get (D := D) (ci := 7) (v := .ref (q 70)) (C := RX7) (T := TX7) (N := 73) hx hb hts fw_7 hown hK hP 0 rfl rfl 70 (by decide) (hts _ m_fieldLink_M_223_M_length_aI) (fun _ h9 => h9) rfl dX7_read_21 ?_
      refine lv_iload_n hx hb dX7_read_24 rfl (lv_at hl 1 rfl) ?_
      obtain ⟨hi7, hf⟩ := gd_of hf
      refine va_iald hx hb hK hP 36 0 rfl rfl hi7 dX7_read_25 ?_
      refine lv_iconst (v := 1) hx hb dX7_read_26 (by decide) ?_
      refine lv_isub hx hb dX7_read_27 ?_
      obtain ⟨r8q, hq9, hf⟩ := b1_of hf
      refine callVI (As := [.int a2, .int 0, .int (((ga 70) (Int32.toNatClampNeg a1)) - 1)]) (rest := []) (wr := (Mw h q cA fi fs ga gs pl it asd)) C0 (c_X7_in h a2 0 (((ga 70) (Int32.toNatClampNeg a1)) - 1) _ hq9) lk_X7_237_X7_in rfl hP hD hS (List.Perm.refl _) 0 7 rfl rfl rfl hl.1 rfl rfl (Nat.le_of_ble_eq_true rfl) dX7_read_28 ⟨Nat.zero_le _, Nat.zero_le _⟩ (fun r8 w H locs hw hP hD hS => ?_)
      obtain ⟨⟨e1, e2⟩, z10⟩ := hw
      replace e1 : r8 = r8q := e1
      subst e1
      subst e2
      replace hP : va_P D vwCl (Mw h q cA fi fs ga gs pl it asd) H := hP
      replace hD : va_D A (Mw h q cA fi fs ga gs pl it asd) := hD
      refine lv_if_ne (tgt := 40) hx hb dX7_read_31 (by decide) (fun c11 => ?_) (fun c11 => ?_)
      · replace hf := ie_of c11 hf
        refine lv_aload_n hx hb dX7_read_40 rfl (lv_at hl 0 rfl) ?_
        refine va_get (D := D) (ci := 7) (v := .ref (q 71)) (C := RX7) (T := TX7) (N := 73) hx hb hts fw_7 hown hK hP 0 rfl rfl 71 (by decide) (hts _ m_fieldLink_M_226_M_item_aJ) (fun _ h9 => h9) rfl dX7_read_41 ?_
        refine lv_bipush (v := 60) hx hb dX7_read_44 (by decide) ?_
        refine lv_iload_n hx hb dX7_read_46 rfl (lv_at hl 1 rfl) ?_
        refine lv_imul hx hb dX7_read_47 ?_
        refine lv_iload_n hx hb dX7_read_48 rfl (lv_at hl 2 rfl) ?_
        refine lv_iadd hx hb dX7_read_49 ?_
        obtain ⟨hi12, hf⟩ := gd_of hf
        refine va_lald hx hb hK hP 37 2 rfl rfl hi12 dX7_read_50 ?_
        rw [hQ]
        exact ret_l C0 hP hD hS (by have e := Option.some.inj hf; rw [← e]; exact ⟨rfl, rfl⟩) dX7_read_51
      · replace hf := it_of c11 hf
        refine lv_ldc2 (v := (-9223372036854775808)) hx hb hown (hts _ m_constantLong_M_382_n9223372036854775808) dX7_read_34 ?_
        refine lv_goto (tgt := 51) hx hb dX7_read_37 (by decide) ?_
        rw [hQ]
        exact ret_l C0 hP hD hS (by have e := Option.some.inj hf; rw [← e]; exact ⟨rfl, rfl⟩) dX7_read_51
-- shift
noncomputable def k_X7_shift_141 (a3 : Int32) (a4 : Int32) (a5 : Int32) : Nat → Int32 → (Nat → Int64) → (Nat → Int64) → Option (Int32 × (Nat → Int64) × (Nat → Int64))
  | 0, _, _, _ => none
  | n + 1, x6, it, asd => if a5 ≤ x6 then some (a5, it, asd) else gd x6 60 (gd (((60 * a3) + a4) + x6) 360 (k_X7_shift_141 a3 a4 a5 n (x6 + 1) (vp_updL it (Int32.toNatClampNeg (((60 * a3) + a4) + x6)) (asd (Int32.toNatClampNeg x6))) asd))
noncomputable def k_X7_shift_104 (a1 : Int32) (a2 : Int32) (a3 : Int32) (a4 : Int32) (a5 : Int32) : Nat → Int32 → (Nat → Int64) → (Nat → Int64) → Option (Int32 × (Nat → Int64) × (Nat → Int64))
  | 0, _, _, _ => none
  | n + 1, x6, it, asd => if a5 ≤ x6 then k_X7_shift_141 a3 a4 a5 100000 0 it asd else gd (((60 * a1) + a2) + x6) 360 (gd x6 60 (k_X7_shift_104 a1 a2 a3 a4 a5 n (x6 + 1) it (vp_updL asd (Int32.toNatClampNeg x6) (it (Int32.toNatClampNeg (((60 * a1) + a2) + x6))))))
noncomputable def k_X7_shift (a1 : Int32) (a2 : Int32) (a3 : Int32) (a4 : Int32) (a5 : Int32) (ga : Nat → Nat → Int32) (it0 : Nat → Int64) (asd0 : Nat → Int64) : Option (Int32 × (Nat → Int64) × (Nat → Int64)) := b1 (k_X7_isTape a1) (fun r1 => if r1 = 0 then some ((-1), it0, asd0) else b1 (k_X7_isTape a3) (fun r5 => if r5 = 0 then some ((-1), it0, asd0) else gd a1 6 (if ((ga 69) (Int32.toNatClampNeg a1)) < 0 then some ((-11), it0, asd0) else gd a3 6 (if 0 ≤ ((ga 69) (Int32.toNatClampNeg a3)) then gd a1 6 (gd a3 6 (if ((ga 69) (Int32.toNatClampNeg a1)) = ((ga 69) (Int32.toNatClampNeg a3)) then if a5 < 0 then some ((-13), it0, asd0) else if a2 < 0 then some ((-13), it0, asd0) else if a4 < 0 then some ((-13), it0, asd0) else gd a1 6 (if (((ga 70) (Int32.toNatClampNeg a1)) - a5) < a2 then some ((-13), it0, asd0) else gd a3 6 (if a4 ≤ (((ga 70) (Int32.toNatClampNeg a3)) - a5) then k_X7_shift_104 a1 a2 a3 a4 a5 100000 0 it0 asd0 else some ((-13), it0, asd0))) else some ((-12), it0, asd0))) else some ((-11), it0, asd0)))))
set_option maxHeartbeats 4000000 in
set_option maxRecDepth 100000 in
theorem c_X7_shift {l : Launch} {D : va_G} {cA : Nat → ClassId} (h : Nat) (q : Nat → Nat) (fi : Nat → Int32) (fs : Nat → Int32) (ga : Nat → Nat → Int32) (gs : Nat → Nat → Int32) (pl : Nat → Int32) (it0 : Nat → Int64) (asd0 : Nat → Int64) (a1 : Int32) (a2 : Int32) (a3 : Int32) (a4 : Int32) (a5 : Int32) (o : Int32 × (Nat → Int64) × (Nat → Int64)) (hf : k_X7_shift a1 a2 a3 a4 a5 ga it0 asd0 = some o) : CI l D cA yX7_shift cX7_shift 7 (some .int) 2 44 [.ref h, .int a1, .int a2, .int a3, .int a4, .int a5] (Mw h q cA fi fs ga gs pl it0 asd0) 0 0 (fun r w => r = o.1 ∧ w = (Mw h q cA fi fs ga gs pl o.2.1 o.2.2)) := by
  intro sz
  refine met_start (by decide) rfl ?_
  intro p e s m args below meth c ls hsz hargs C0 hname hP hD hS hl
  generalize hAe : va_A (Mw h q cA fi fs ga gs pl it0 asd0) sz = A at C0 hD hS ⊢
  obtain ⟨hx, hb, hr, hml, hown, hts, hlk, hK, hA⟩ := id C0
  replace hl : lv_has ls 7 [(0, .ref h), (1, .int a1), (2, .int a2), (3, .int a3), (4, .int a4), (5, .int a5)] := hl
  obtain ⟨Q, hQ⟩ : ∃ Q : State → Prop, Q = QI below D A (fun r w => r = o.1 ∧ w = (Mw h q cA fi fs ga gs pl o.2.1 o.2.2)) args s 0 0 := ⟨_, rfl⟩
  refine cast (by rw [hQ]) (?_ : W p l e (RMx 2 44 0 0) s m args below meth c s.heap [] 0 0 Q (F0 m 0 ls []))
  have J141 : ∀ n : Nat, ∀ (x6 : Int32) (it : Nat → Int64) (asd : Nat → Int64), k_X7_shift_141 a3 a4 a5 n x6 it asd = some o → ∀ (H : Heap) (locs : List Loc), va_P D vwCl (Mw h q cA fi fs ga gs pl it asd) H → va_D A (Mw h q cA fi fs ga gs pl it asd) → va_S A s.heap H locs → ∀ ls : Array Slot, lv_has ls 7 [(0, .ref h), (3, .int a3), (4, .int a4), (5, .int a5), (6, .int x6)] → W p l e (RMx 2 44 0 0) s m args below meth c H locs 0 0 Q (F0 m 141 ls []) := by
    intro  n
    induction n with
    | zero =>
      intro x6 it asd hf
      rw [k_X7_shift_141] at hf
      cases hf
    | succ n ih =>
      intro x6 it asd hf H locs hP hD hS ls hl
      rw [k_X7_shift_141] at hf
      refine lv_iload hx hb dX7_shift_141 (lv_at hl 4 rfl) ?_
      refine lv_iload hx hb dX7_shift_143 (lv_at hl 3 rfl) ?_
      refine lv_icmp_ge (tgt := 176) hx hb dX7_shift_145 (by decide) (fun c1 => ?_) (fun c1 => ?_)
      · replace hf := it_of c1 hf
        refine lv_iload hx hb dX7_shift_176 (lv_at hl 3 rfl) ?_
        rw [hQ]
        exact ret_i C0 hP hD hS (by have e := Option.some.inj hf; rw [← e]; exact ⟨rfl, rfl⟩) dX7_shift_178
      · replace hf := ie_of c1 hf
        refine lv_aload_n hx hb dX7_shift_148 rfl (lv_at hl 0 rfl) ?_
        refine va_get (D := D) (ci := 7) (v := .ref (q 71)) (C := RX7) (T := TX7) (N := 73) hx hb hts fw_7 hown hK hP 0 rfl rfl 71 (by decide) (hts _ m_fieldLink_M_226_M_item_aJ) (fun _ h9 => h9) rfl dX7_shift_149 ?_
        refine lv_bipush (v := 60) hx hb dX7_shift_152 (by decide) ?_
        refine lv_iload_n hx hb dX7_shift_154 rfl (lv_at hl 1 rfl) ?_
        refine lv_imul hx hb dX7_shift_155 ?_
        refine lv_iload hx hb dX7_shift_156 (lv_at hl 2 rfl) ?_
        refine lv_iadd hx hb dX7_shift_158 ?_
        refine lv_iload hx hb dX7_shift_159 (lv_at hl 4 rfl) ?_
        refine lv_iadd hx hb dX7_shift_161 ?_
        refine lv_aload_n hx hb dX7_shift_162 rfl (lv_at hl 0 rfl) ?_
        refine va_get (D := D) (ci := 7) (v := .ref (q 72)) (C := RX7) (T := TX7) (N := 73) hx hb hts fw_7 hown hK hP 0 rfl rfl 72 (by decide) (hts _ m_fieldLink_M_230_M_aside_aJ) (fun _ h9 => h9) rfl dX7_shift_163 ?_
        refine lv_iload hx hb dX7_shift_166 (lv_at hl 4 rfl) ?_
        obtain ⟨hi2, hf⟩ := gd_of hf
        refine va_lald hx hb hK hP 38 2 rfl rfl hi2 dX7_shift_168 ?_
        obtain ⟨hi3, hf⟩ := gd_of hf
        refine va_last hx hb hK hP hD hS 37 2 rfl rfl hi3 dX7_shift_169 (fun H locs hP hD hS => ?_)
        replace hP : va_P D vwCl (Mw h q cA fi fs ga gs pl (vp_updL it (Int32.toNatClampNeg (((60 * a3) + a4) + x6)) (asd (Int32.toNatClampNeg x6))) asd) H := hP
        replace hD : va_D A (Mw h q cA fi fs ga gs pl (vp_updL it (Int32.toNatClampNeg (((60 * a3) + a4) + x6)) (asd (Int32.toNatClampNeg x6))) asd) := hD
        refine lv_iinc (v := (x6 + 1)) (lv' := [(6, .int (x6 + 1)), (0, .ref h), (3, .int a3), (4, .int a4), (5, .int a5)]) hx hb dX7_shift_170 hl (k := 4) rfl rfl (by decide) rfl (fun ls hl => ?_)
        refine lv_goto (tgt := 141) hx hb dX7_shift_173 (by decide) ?_
        exact ih (x6 + 1) (vp_updL it (Int32.toNatClampNeg (((60 * a3) + a4) + x6)) (asd (Int32.toNatClampNeg x6))) asd hf _ _ hP hD hS _ (lv_sub hl [1, 2, 3, 4, 0] rfl)
  have J104 : ∀ n : Nat, ∀ (x6 : Int32) (it : Nat → Int64) (asd : Nat → Int64), k_X7_shift_104 a1 a2 a3 a4 a5 n x6 it asd = some o → ∀ (H : Heap) (locs : List Loc), va_P D vwCl (Mw h q cA fi fs ga gs pl it asd) H → va_D A (Mw h q cA fi fs ga gs pl it asd) → va_S A s.heap H locs → ∀ ls : Array Slot, lv_has ls 7 [(0, .ref h), (1, .int a1), (2, .int a2), (3, .int a3), (4, .int a4), (5, .int a5), (6, .int x6)] → W p l e (RMx 2 44 0 0) s m args below meth c H locs 0 0 Q (F0 m 104 ls []) := by
    intro  n
    induction n with
    | zero =>
      intro x6 it asd hf
      rw [k_X7_shift_104] at hf
      cases hf
    | succ n ih =>
      intro x6 it asd hf H locs hP hD hS ls hl
      rw [k_X7_shift_104] at hf
      refine lv_iload hx hb dX7_shift_104 (lv_at hl 6 rfl) ?_
      refine lv_iload hx hb dX7_shift_106 (lv_at hl 5 rfl) ?_
      refine lv_icmp_ge (tgt := 138) hx hb dX7_shift_108 (by decide) (fun c1 => ?_) (fun c1 => ?_)
      · replace hf := it_of c1 hf
        refine lv_iconst (v := 0) hx hb dX7_shift_138 (by decide) ?_
        refine lv_istore (lv' := [(6, .int 0), (0, .ref h), (1, .int a1), (2, .int a2), (3, .int a3), (4, .int a4), (5, .int a5)]) hx hb dX7_shift_139 hl (by decide) rfl (fun ls hl => ?_)
        exact J141 100000 0 it asd hf _ _ hP hD hS _ (lv_sub hl [1, 4, 5, 6, 0] rfl)
      · replace hf := ie_of c1 hf
        refine lv_aload_n hx hb dX7_shift_111 rfl (lv_at hl 0 rfl) ?_
        refine va_get (D := D) (ci := 7) (v := .ref (q 72)) (C := RX7) (T := TX7) (N := 73) hx hb hts fw_7 hown hK hP 0 rfl rfl 72 (by decide) (hts _ m_fieldLink_M_230_M_aside_aJ) (fun _ h9 => h9) rfl dX7_shift_112 ?_
        refine lv_iload hx hb dX7_shift_115 (lv_at hl 6 rfl) ?_
        refine lv_aload_n hx hb dX7_shift_117 rfl (lv_at hl 0 rfl) ?_
        refine va_get (D := D) (ci := 7) (v := .ref (q 71)) (C := RX7) (T := TX7) (N := 73) hx hb hts fw_7 hown hK hP 0 rfl rfl 71 (by decide) (hts _ m_fieldLink_M_226_M_item_aJ) (fun _ h9 => h9) rfl dX7_shift_118 ?_
        refine lv_bipush (v := 60) hx hb dX7_shift_121 (by decide) ?_
        refine lv_iload_n hx hb dX7_shift_123 rfl (lv_at hl 1 rfl) ?_
        refine lv_imul hx hb dX7_shift_124 ?_
        refine lv_iload_n hx hb dX7_shift_125 rfl (lv_at hl 2 rfl) ?_
        refine lv_iadd hx hb dX7_shift_126 ?_
        refine lv_iload hx hb dX7_shift_127 (lv_at hl 6 rfl) ?_
        refine lv_iadd hx hb dX7_shift_129 ?_
        obtain ⟨hi2, hf⟩ := gd_of hf
        refine va_lald hx hb hK hP 37 2 rfl rfl hi2 dX7_shift_130 ?_
        obtain ⟨hi3, hf⟩ := gd_of hf
        refine va_last hx hb hK hP hD hS 38 2 rfl rfl hi3 dX7_shift_131 (fun H locs hP hD hS => ?_)
        replace hP : va_P D vwCl (Mw h q cA fi fs ga gs pl it (vp_updL asd (Int32.toNatClampNeg x6) (it (Int32.toNatClampNeg (((60 * a1) + a2) + x6))))) H := hP
        replace hD : va_D A (Mw h q cA fi fs ga gs pl it (vp_updL asd (Int32.toNatClampNeg x6) (it (Int32.toNatClampNeg (((60 * a1) + a2) + x6))))) := hD
        refine lv_iinc (v := (x6 + 1)) (lv' := [(6, .int (x6 + 1)), (0, .ref h), (1, .int a1), (2, .int a2), (3, .int a3), (4, .int a4), (5, .int a5)]) hx hb dX7_shift_132 hl (k := 6) rfl rfl (by decide) rfl (fun ls hl => ?_)
        refine lv_goto (tgt := 104) hx hb dX7_shift_135 (by decide) ?_
        exact ih (x6 + 1) it (vp_updL asd (Int32.toNatClampNeg x6) (it (Int32.toNatClampNeg (((60 * a1) + a2) + x6)))) hf _ _ hP hD hS _ (lv_sub hl [1, 2, 3, 4, 5, 6, 0] rfl)
  unfold k_X7_shift at hf
  refine lv_aload_n hx hb dX7_shift_0 rfl (lv_at hl 0 rfl) ?_
  refine lv_iload_n hx hb dX7_shift_1 rfl (lv_at hl 1 rfl) ?_
  obtain ⟨r1q, hq2, hf⟩ := b1_of hf
  refine callVI (As := [.int a1]) (rest := []) (wr := []) C0 (c_X7_isTape h q fi fs ga gs pl it0 asd0 a1 _ hq2) lk_X7_392_X7_isTape rfl hP hD hS perm_nil 0 7 rfl rfl rfl hl.1 rfl rfl (Nat.le_of_ble_eq_true rfl) dX7_shift_2 ⟨Nat.zero_le _, Nat.zero_le _⟩ (fun r1 w H locs hw hP hD hS => ?_)
  obtain ⟨⟨e1, e2⟩, z3⟩ := hw
  replace e1 : r1 = r1q := e1
  subst e1
  subst e2
  replace hP : va_P D vwCl (Mw h q cA fi fs ga gs pl it0 asd0) H := hP.nil
  replace hD : va_D A (Mw h q cA fi fs ga gs pl it0 asd0) := hD.nil
  refine lv_if_eq (tgt := 16) hx hb dX7_shift_5 (by decide) (fun c4 => ?_) (fun c4 => ?_)
  · replace hf := it_of c4 hf
    refine lv_iconst (v := (-1)) hx hb dX7_shift_16 (by decide) ?_
    rw [hQ]
    exact ret_i C0 hP hD hS (by have e := Option.some.inj hf; rw [← e]; exact ⟨rfl, rfl⟩) dX7_shift_17
  · replace hf := ie_of c4 hf
    refine lv_aload_n hx hb dX7_shift_8 rfl (lv_at hl 0 rfl) ?_
    refine lv_iload_n hx hb dX7_shift_9 rfl (lv_at hl 3 rfl) ?_
    obtain ⟨r5q, hq6, hf⟩ := b1_of hf
    refine callVI (As := [.int a3]) (rest := []) (wr := []) C0 (c_X7_isTape h q fi fs ga gs pl it0 asd0 a3 _ hq6) lk_X7_392_X7_isTape rfl hP hD hS perm_nil 0 7 rfl rfl rfl hl.1 rfl rfl (Nat.le_of_ble_eq_true rfl) dX7_shift_10 ⟨Nat.zero_le _, Nat.zero_le _⟩ (fun r5 w H locs hw hP hD hS => ?_)
    obtain ⟨⟨e1, e2⟩, z7⟩ := hw
    replace e1 : r5 = r5q := e1
    subst e1
    subst e2
    replace hP : va_P D vwCl (Mw h q cA fi fs ga gs pl it0 asd0) H := hP.nil
    replace hD : va_D A (Mw h q cA fi fs ga gs pl it0 asd0) := hD.nil
    refine lv_if_ne (tgt := 18) hx hb dX7_shift_13 (by decide) (fun c8 => ?_) (fun c8 => ?_)
    · replace hf := ie_of c8 hf
      refine lv_aload_n hx hb dX7_shift_18 rfl (lv_at hl 0 rfl) ?_
      refine va_get (D := D) (ci := 7) (v := .ref (q 69)) (C := RX7) (T := TX7) (N := 73) hx hb hts fw_7 hown hK hP 0 rfl rfl 69 (by decide) (hts _ m_fieldLink_M_220_M_sort_aI) (fun _ h9 => h9) rfl dX7_shift_19 ?_
      refine lv_iload_n hx hb dX7_shift_22 rfl (lv_at hl 1 rfl) ?_
      obtain ⟨hi9, hf⟩ := gd_of hf
      refine va_iald hx hb hK hP 35 0 rfl rfl hi9 dX7_shift_23 ?_
      refine lv_if_lt (tgt := 36) hx hb dX7_shift_24 (by decide) (fun c10 => ?_) (fun c10 => ?_)
      · replace hf := it_of c10 hf
        refine lv_bipush (v := (-11)) hx hb dX7_shift_36 (by decide) ?_
        rw [hQ]
        exact ret_i C0 hP hD hS (by have e := Option.some.inj hf; rw [← e]; exact ⟨rfl, rfl⟩) dX7_shift_38
      · replace hf := ie_of c10 hf
        refine lv_aload_n hx hb dX7_shift_27 rfl (lv_at hl 0 rfl) ?_
        refine va_get (D := D) (ci := 7) (v := .ref (q 69)) (C := RX7) (T := TX7) (N := 73) hx hb hts fw_7 hown hK hP 0 rfl rfl 69 (by decide) (hts _ m_fieldLink_M_220_M_sort_aI) (fun _ h9 => h9) rfl dX7_shift_28 ?_
        refine lv_iload_n hx hb dX7_shift_31 rfl (lv_at hl 3 rfl) ?_
        obtain ⟨hi11, hf⟩ := gd_of hf
        refine va_iald hx hb hK hP 35 0 rfl rfl hi11 dX7_shift_32 ?_
        refine lv_if_ge (tgt := 39) hx hb dX7_shift_33 (by decide) (fun c12 => ?_) (fun c12 => ?_)
        · replace hf := it_of c12 hf
          refine lv_aload_n hx hb dX7_shift_39 rfl (lv_at hl 0 rfl) ?_
          refine va_get (D := D) (ci := 7) (v := .ref (q 69)) (C := RX7) (T := TX7) (N := 73) hx hb hts fw_7 hown hK hP 0 rfl rfl 69 (by decide) (hts _ m_fieldLink_M_220_M_sort_aI) (fun _ h9 => h9) rfl dX7_shift_40 ?_
          refine lv_iload_n hx hb dX7_shift_43 rfl (lv_at hl 1 rfl) ?_
          obtain ⟨hi13, hf⟩ := gd_of hf
          refine va_iald hx hb hK hP 35 0 rfl rfl hi13 dX7_shift_44 ?_
          refine lv_aload_n hx hb dX7_shift_45 rfl (lv_at hl 0 rfl) ?_
          refine va_get (D := D) (ci := 7) (v := .ref (q 69)) (C := RX7) (T := TX7) (N := 73) hx hb hts fw_7 hown hK hP 0 rfl rfl 69 (by decide) (hts _ m_fieldLink_M_220_M_sort_aI) (fun _ h9 => h9) rfl dX7_shift_46 ?_
          refine lv_iload_n hx hb dX7_shift_49 rfl (lv_at hl 3 rfl) ?_
          obtain ⟨hi14, hf⟩ := gd_of hf
          refine va_iald hx hb hK hP 35 0 rfl rfl hi14 dX7_shift_50 ?_
          refine lv_icmp_eq (tgt := 57) hx hb dX7_shift_51 (by decide) (fun c15 => ?_) (fun c15 => ?_)
          · replace hf := it_of c15 hf
            refine lv_iload hx hb dX7_shift_57 (lv_at hl 5 rfl) ?_
            refine lv_if_lt (tgt := 98) hx hb dX7_shift_59 (by decide) (fun c16 => ?_) (fun c16 => ?_)
            · replace hf := it_of c16 hf
              refine lv_bipush (v := (-13)) hx hb dX7_shift_98 (by decide) ?_
              rw [hQ]
              exact ret_i C0 hP hD hS (by have e := Option.some.inj hf; rw [← e]; exact ⟨rfl, rfl⟩) dX7_shift_100
            · replace hf := ie_of c16 hf
              refine lv_iload_n hx hb dX7_shift_62 rfl (lv_at hl 2 rfl) ?_
              refine lv_if_lt (tgt := 98) hx hb dX7_shift_63 (by decide) (fun c17 => ?_) (fun c17 => ?_)
              · replace hf := it_of c17 hf
                refine lv_bipush (v := (-13)) hx hb dX7_shift_98 (by decide) ?_
                rw [hQ]
                exact ret_i C0 hP hD hS (by have e := Option.some.inj hf; rw [← e]; exact ⟨rfl, rfl⟩) dX7_shift_100
              · replace hf := ie_of c17 hf
                refine lv_iload hx hb dX7_shift_66 (lv_at hl 4 rfl) ?_
                refine lv_if_lt (tgt := 98) hx hb dX7_shift_68 (by decide) (fun c18 => ?_) (fun c18 => ?_)
                · replace hf := it_of c18 hf
                  refine lv_bipush (v := (-13)) hx hb dX7_shift_98 (by decide) ?_
                  rw [hQ]
                  exact ret_i C0 hP hD hS (by have e := Option.some.inj hf; rw [← e]; exact ⟨rfl, rfl⟩) dX7_shift_100
                · replace hf := ie_of c18 hf
                  refine lv_iload_n hx hb dX7_shift_71 rfl (lv_at hl 2 rfl) ?_
                  refine lv_aload_n hx hb dX7_shift_72 rfl (lv_at hl 0 rfl) ?_
                  refine va_get (D := D) (ci := 7) (v := .ref (q 70)) (C := RX7) (T := TX7) (N := 73) hx hb hts fw_7 hown hK hP 0 rfl rfl 70 (by decide) (hts _ m_fieldLink_M_223_M_length_aI) (fun _ h9 => h9) rfl dX7_shift_73 ?_
                  refine lv_iload_n hx hb dX7_shift_76 rfl (lv_at hl 1 rfl) ?_
                  obtain ⟨hi19, hf⟩ := gd_of hf
                  refine va_iald hx hb hK hP 36 0 rfl rfl hi19 dX7_shift_77 ?_
                  refine lv_iload hx hb dX7_shift_78 (lv_at hl 5 rfl) ?_
                  refine lv_isub hx hb dX7_shift_80 ?_
                  refine lv_icmp_gt (tgt := 98) hx hb dX7_shift_81 (by decide) (fun c20 => ?_) (fun c20 => ?_)
                  · replace hf := it_of c20 hf
                    refine lv_bipush (v := (-13)) hx hb dX7_shift_98 (by decide) ?_
                    rw [hQ]
                    exact ret_i C0 hP hD hS (by have e := Option.some.inj hf; rw [← e]; exact ⟨rfl, rfl⟩) dX7_shift_100
                  · replace hf := ie_of c20 hf
                    refine lv_iload hx hb dX7_shift_84 (lv_at hl 4 rfl) ?_
                    refine lv_aload_n hx hb dX7_shift_86 rfl (lv_at hl 0 rfl) ?_
                    refine va_get (D := D) (ci := 7) (v := .ref (q 70)) (C := RX7) (T := TX7) (N := 73) hx hb hts fw_7 hown hK hP 0 rfl rfl 70 (by decide) (hts _ m_fieldLink_M_223_M_length_aI) (fun _ h9 => h9) rfl dX7_shift_87 ?_
                    refine lv_iload_n hx hb dX7_shift_90 rfl (lv_at hl 3 rfl) ?_
                    obtain ⟨hi21, hf⟩ := gd_of hf
                    refine va_iald hx hb hK hP 36 0 rfl rfl hi21 dX7_shift_91 ?_
                    refine lv_iload hx hb dX7_shift_92 (lv_at hl 5 rfl) ?_
                    refine lv_isub hx hb dX7_shift_94 ?_
                    refine lv_icmp_le (tgt := 101) hx hb dX7_shift_95 (by decide) (fun c22 => ?_) (fun c22 => ?_)
                    · replace hf := it_of c22 hf
                      refine lv_iconst (v := 0) hx hb dX7_shift_101 (by decide) ?_
                      refine lv_istore (lv' := [(6, .int 0), (0, .ref h), (1, .int a1), (2, .int a2), (3, .int a3), (4, .int a4), (5, .int a5)]) hx hb dX7_shift_102 hl (by decide) rfl (fun ls hl => ?_)
                      exact J104 100000 0 it0 asd0 hf _ _ hP hD hS _ (lv_sub hl [1, 2, 3, 4, 5, 6, 0] rfl)
                    · replace hf := ie_of c22 hf
                      refine lv_bipush (v := (-13)) hx hb dX7_shift_98 (by decide) ?_
                      rw [hQ]
                      exact ret_i C0 hP hD hS (by have e := Option.some.inj hf; rw [← e]; exact ⟨rfl, rfl⟩) dX7_shift_100
          · replace hf := ie_of c15 hf
            refine lv_bipush (v := (-12)) hx hb dX7_shift_54 (by decide) ?_
            rw [hQ]
            exact ret_i C0 hP hD hS (by have e := Option.some.inj hf; rw [← e]; exact ⟨rfl, rfl⟩) dX7_shift_56
        · replace hf := ie_of c12 hf
          refine lv_bipush (v := (-11)) hx hb dX7_shift_36 (by decide) ?_
          rw [hQ]
          exact ret_i C0 hP hD hS (by have e := Option.some.inj hf; rw [← e]; exact ⟨rfl, rfl⟩) dX7_shift_38
    · replace hf := it_of c8 hf
      refine lv_iconst (v := (-1)) hx hb dX7_shift_16 (by decide) ?_
      rw [hQ]
      exact ret_i C0 hP hD hS (by have e := Option.some.inj hf; rw [← e]; exact ⟨rfl, rfl⟩) dX7_shift_17

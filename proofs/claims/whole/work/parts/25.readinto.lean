noncomputable def k_X5_readInto_20 (xs : Nat → Int32) : Nat → Int32 → (Nat → Int32) → (Nat → Int32) → (Nat → Nat → Int32) → Option (Int32 × (Nat → Int32) × (Nat → Int32) × (Nat → Nat → Int32))
  | 0, _, _, _, _ => none
  | n + 1, x2, xf, cif, cig => if x2 ≤ 0 then some ((xf 2), xf, cif, cig) else b4 (k_X5_readClause xf xs cif cig) (fun r2 xf_3 cif_4 cig_5 => if r2 = 0 then some ((xf_3 2), xf_3, cif_4, cig_5) else if (xf_3 2) < (xf_3 0) then if x2 = 1 then some ((xf_3 2), xf_3, cif_4, cig_5) else b2 (k_X5_take 59 xf_3 xs) (fun r11 xf_12 => if r11 = 0 then some ((xf_12 2), xf_12, cif_4, cig_5) else k_X5_readInto_20 xs n (x2 + (-1)) xf_12 cif_4 cig_5) else some ((-1), xf_3, cif_4, cig_5))
noncomputable def k_X5_readInto (xf0 : Nat → Int32) (xs : Nat → Int32) (cif0 : Nat → Int32) (cig0 : Nat → Nat → Int32) : Option (Int32 × (Nat → Int32) × (Nat → Int32) × (Nat → Nat → Int32)) := b1 (k_X2_clear cif0) (fun cif_1 => k_X5_readInto_20 xs 100000 10 (upd xf0 2 0) cif_1 cig0)
set_option maxHeartbeats 4000000 in
set_option maxRecDepth 100000 in
theorem c_X5_readInto {l : Launch} {D : va_G} {cA : Nat → ClassId} {adK adV : Nat → Nat} (q : Nat → Nat) (qq : Nat → Nat) (xf0 : Nat → Int32) (xs : Nat → Int32) (xv0 : Value) (cif0 : Nat → Int32) (cig0 : Nat → Nat → Int32)  (o : Int32 × (Nat → Int32) × (Nat → Int32) × (Nat → Nat → Int32)) (hf : k_X5_readInto xf0 xs cif0 cig0 = some o) : CIs l D cA adK adV yX5_readInto cX5_readInto 3 (some .int) 20 458 [.ref (q 0), .ref (qq 0)] (List.flatten [(Tw q cA xf0 xs xv0), (Chw qq cA cif0 cig0)]) 0 0 (fun r w => r = o.1 ∧ w = (List.flatten [(Tw q cA o.2.1 xs (.ref (qq 0))), (Chw qq cA o.2.2.1 o.2.2.2)])) := by
  intro sz
  refine met_start_s (by decide) rfl ?_
  intro p e s m args below meth c ls hsz hargs C0 hname hStr hP hD hS hl
  generalize hAe : va_A (List.flatten [(Tw q cA xf0 xs xv0), (Chw qq cA cif0 cig0)]) sz = A at C0 hStr hD hS ⊢
  obtain ⟨hx, hb, hr, hml, hown, hts, hlk, hK, hA⟩ := id C0
  replace hl : lv_has ls 3 [(0, .ref (q 0)), (1, .ref (qq 0))] := hl
  obtain ⟨Q, hQ⟩ : ∃ Q : State → Prop, Q = QI below D A (fun r w => r = o.1 ∧ w = (List.flatten [(Tw q cA o.2.1 xs (.ref (qq 0))), (Chw qq cA o.2.2.1 o.2.2.2)])) args s 0 0 := ⟨_, rfl⟩
  refine cast (by rw [hQ]) (?_ : W p l e (RMx 20 458 0 0) s m args below meth c s.heap [] 0 0 Q (F0 m 0 ls []))
  have J20 : ∀ n : Nat, ∀ (x2 : Int32) (xf : Nat → Int32) (cif : Nat → Int32) (cig : Nat → Nat → Int32), k_X5_readInto_20 xs n x2 xf cif cig = some o → ∀ (H : Heap) (locs : List Loc), va_P D vwCl (List.flatten [(Tw q cA xf xs (.ref (qq 0))), (Chw qq cA cif cig)]) H → va_D A (List.flatten [(Tw q cA xf xs (.ref (qq 0))), (Chw qq cA cif cig)]) → va_S A s.heap H locs → ∀ ls : Array Slot, lv_has ls 3 [(0, .ref (q 0)), (2, .int x2)] → W p l e (RMx 20 458 0 0) s m args below meth c H locs 0 0 Q (F0 m 20 ls []) := by
    intro  n
    induction n with
    | zero =>
      intro x2 xf cif cig hf
      rw [k_X5_readInto_20] at hf
      cases hf
    | succ n ih =>
      intro x2 xf cif cig hf H locs hP hD hS ls hl
      rw [k_X5_readInto_20] at hf
      refine lv_iload_n hx hb dX5_readInto_20 rfl (lv_at hl 1 rfl) ?_
      refine lv_if_le (tgt := 74) hx hb dX5_readInto_21 (by decide) (fun c1 => ?_) (fun c1 => ?_)
      · replace hf := it_of c1 hf
        refine lv_aload_n hx hb dX5_readInto_74 rfl (lv_at hl 0 rfl) ?_
        refine va_get (D := D) (ci := 5) (v := .int (xf 2)) (C := RX5) (T := TX5) (N := 4) hx hb hts fw_5 hown hK hP 0 rfl rfl 2 (by decide) (hts _ m_fieldLink_P_Text_28_P_Text_at_I) (fun _ h9 => h9) rfl dX5_readInto_75 ?_
        rw [hQ]
        exact ret_i C0 hP hD hS (by have e := Option.some.inj hf; rw [← e]; exact ⟨rfl, rfl⟩) dX5_readInto_78
      · replace hf := ie_of c1 hf
        refine lv_aload_n hx hb dX5_readInto_24 rfl (lv_at hl 0 rfl) ?_
        obtain ⟨r2q, xf_3, cif_4, cig_5, hq6, hf⟩ := b4_of hf
        refine callVIs (As := []) (rest := []) (wr := []) C0 (c_X5_readClause q qq xf xs cif cig _ hq6) lk_X5_31_X5_readClause rfl hStr hP hD hS perm_nil (recv_w (q0 := 0) (ci := 5) C0 hP rfl rfl rfl) hl.1 rfl rfl (Nat.le_of_ble_eq_true rfl) dX5_readInto_25 ⟨Nat.zero_le _, Nat.zero_le _⟩ (fun r2 w H locs hw hP hD hS => ?_)
        obtain ⟨⟨e1, e2⟩, z7⟩ := hw
        replace e1 : r2 = r2q := e1
        subst e1
        subst e2
        replace hP : va_P D vwCl (List.flatten [(Tw q cA xf_3 xs (.ref (qq 0))), (Chw qq cA cif_4 cig_5)]) H := hP.nil
        replace hD : va_D A (List.flatten [(Tw q cA xf_3 xs (.ref (qq 0))), (Chw qq cA cif_4 cig_5)]) := hD.nil
        refine lv_if_ne (tgt := 36) hx hb dX5_readInto_28 (by decide) (fun c8 => ?_) (fun c8 => ?_)
        · replace hf := ie_of c8 hf
          refine lv_aload_n hx hb dX5_readInto_36 rfl (lv_at hl 0 rfl) ?_
          refine va_get (D := D) (ci := 5) (v := .int (xf_3 2)) (C := RX5) (T := TX5) (N := 4) hx hb hts fw_5 hown hK hP 0 rfl rfl 2 (by decide) (hts _ m_fieldLink_P_Text_28_P_Text_at_I) (fun _ h9 => h9) rfl dX5_readInto_37 ?_
          refine lv_aload_n hx hb dX5_readInto_40 rfl (lv_at hl 0 rfl) ?_
          refine va_get (D := D) (ci := 5) (v := .int (xf_3 0)) (C := RX5) (T := TX5) (N := 4) hx hb hts fw_5 hown hK hP 0 rfl rfl 0 (by decide) (hts _ m_fieldLink_P_Text_15_P_Text_length_I) (fun _ h9 => h9) rfl dX5_readInto_41 ?_
          refine lv_icmp_lt (tgt := 49) hx hb dX5_readInto_44 (by decide) (fun c9 => ?_) (fun c9 => ?_)
          · replace hf := it_of c9 hf
            refine lv_iload_n hx hb dX5_readInto_49 rfl (lv_at hl 1 rfl) ?_
            refine lv_iconst (v := 1) hx hb dX5_readInto_50 (by decide) ?_
            refine lv_icmp_eq (tgt := 63) hx hb dX5_readInto_51 (by decide) (fun c10 => ?_) (fun c10 => ?_)
            · replace hf := it_of c10 hf
              refine lv_aload_n hx hb dX5_readInto_63 rfl (lv_at hl 0 rfl) ?_
              refine va_get (D := D) (ci := 5) (v := .int (xf_3 2)) (C := RX5) (T := TX5) (N := 4) hx hb hts fw_5 hown hK hP 0 rfl rfl 2 (by decide) (hts _ m_fieldLink_P_Text_28_P_Text_at_I) (fun _ h9 => h9) rfl dX5_readInto_64 ?_
              rw [hQ]
              exact ret_i C0 hP hD hS (by have e := Option.some.inj hf; rw [← e]; exact ⟨rfl, rfl⟩) dX5_readInto_67
            · replace hf := ie_of c10 hf
              refine lv_aload_n hx hb dX5_readInto_54 rfl (lv_at hl 0 rfl) ?_
              refine lv_bipush (v := 59) hx hb dX5_readInto_55 (by decide) ?_
              obtain ⟨r11q, xf_12, hq13, hf⟩ := b2_of hf
              refine callVI (As := [.int 59]) (rest := []) (wr := segpick [(Tw q cA xf_3 xs (.ref (qq 0))), (Chw qq cA cif_4 cig_5)] [1]) C0 (c_X5_take q (.ref (qq 0)) xf_3 xs 59 _ hq13) lk_X5_35_X5_take rfl hP hD hS (seg_out [(Tw q cA xf_3 xs (.ref (qq 0))), (Chw qq cA cif_4 cig_5)] [0] [1] 2 rfl (by decide)) 0 5 rfl rfl rfl hl.1 rfl rfl (Nat.le_of_ble_eq_true rfl) dX5_readInto_57 ⟨Nat.zero_le _, Nat.zero_le _⟩ (fun r11 w H locs hw hP hD hS => ?_)
              obtain ⟨⟨e1, e2⟩, z14⟩ := hw
              replace e1 : r11 = r11q := e1
              subst e1
              subst e2
              replace hP : va_P D vwCl (List.flatten [(Tw q cA xf_12 xs (.ref (qq 0))), (Chw qq cA cif_4 cig_5)]) H := hP.perm (seg_out [(Tw q cA xf_12 xs (.ref (qq 0))), (Chw qq cA cif_4 cig_5)] [0] [1] 2 rfl (by decide)).symm
              replace hD : va_D A (List.flatten [(Tw q cA xf_12 xs (.ref (qq 0))), (Chw qq cA cif_4 cig_5)]) := hD.perm (seg_out [(Tw q cA xf_12 xs (.ref (qq 0))), (Chw qq cA cif_4 cig_5)] [0] [1] 2 rfl (by decide)).symm
              refine lv_if_ne (tgt := 68) hx hb dX5_readInto_60 (by decide) (fun c15 => ?_) (fun c15 => ?_)
              · replace hf := ie_of c15 hf
                refine lv_iinc (v := (x2 + (-1))) (lv' := [(2, .int (x2 + (-1))), (0, .ref (q 0))]) hx hb dX5_readInto_68 hl (k := 1) rfl rfl (by decide) rfl (fun ls hl => ?_)
                refine lv_goto (tgt := 20) hx hb dX5_readInto_71 (by decide) ?_
                exact ih (x2 + (-1)) xf_12 cif_4 cig_5 hf _ _ hP hD hS _ (lv_sub hl [1, 0] rfl)
              · replace hf := it_of c15 hf
                refine lv_aload_n hx hb dX5_readInto_63 rfl (lv_at hl 0 rfl) ?_
                refine va_get (D := D) (ci := 5) (v := .int (xf_12 2)) (C := RX5) (T := TX5) (N := 4) hx hb hts fw_5 hown hK hP 0 rfl rfl 2 (by decide) (hts _ m_fieldLink_P_Text_28_P_Text_at_I) (fun _ h9 => h9) rfl dX5_readInto_64 ?_
                rw [hQ]
                exact ret_i C0 hP hD hS (by have e := Option.some.inj hf; rw [← e]; exact ⟨rfl, rfl⟩) dX5_readInto_67
          · replace hf := ie_of c9 hf
            refine lv_iconst (v := (-1)) hx hb dX5_readInto_47 (by decide) ?_
            rw [hQ]
            exact ret_i C0 hP hD hS (by have e := Option.some.inj hf; rw [← e]; exact ⟨rfl, rfl⟩) dX5_readInto_48
        · replace hf := it_of c8 hf
          refine lv_aload_n hx hb dX5_readInto_31 rfl (lv_at hl 0 rfl) ?_
          refine va_get (D := D) (ci := 5) (v := .int (xf_3 2)) (C := RX5) (T := TX5) (N := 4) hx hb hts fw_5 hown hK hP 0 rfl rfl 2 (by decide) (hts _ m_fieldLink_P_Text_28_P_Text_at_I) (fun _ h9 => h9) rfl dX5_readInto_32 ?_
          rw [hQ]
          exact ret_i C0 hP hD hS (by have e := Option.some.inj hf; rw [← e]; exact ⟨rfl, rfl⟩) dX5_readInto_35
  unfold k_X5_readInto at hf
  refine lv_aload_n hx hb dX5_readInto_0 rfl (lv_at hl 0 rfl) ?_
  refine lv_aload_n hx hb dX5_readInto_1 rfl (lv_at hl 1 rfl) ?_
  refine va_put (D := D) (ci := 5) (v := .ref (qq 0)) (ty := (.object "CellarPlot$Charter")) (C := RX5) (T := TX5) (N := 4) hx hb hts fw_5 tyX5 tyX5_ok nmX5 hown hK hP hD hS 0 rfl rfl 3 (by decide) (hts _ m_fieldLink_P_Text_19_P_Text_charter_LP_Charter) (fun _ h9 => h9) rfl (by decide +kernel) rfl rfl (Nat.le_of_ble_eq_true rfl) dX5_readInto_2 (fun H locs hP hD hS => ?_)
  replace hP : va_P D vwCl (List.flatten [(Tw q cA xf0 xs (.ref (qq 0))), (Chw qq cA cif0 cig0)]) H := hP
  replace hD : va_D A (List.flatten [(Tw q cA xf0 xs (.ref (qq 0))), (Chw qq cA cif0 cig0)]) := hD
  refine lv_aload_n hx hb dX5_readInto_5 rfl (lv_at hl 0 rfl) ?_
  refine va_get (D := D) (ci := 5) (v := .ref (qq 0)) (C := RX5) (T := TX5) (N := 4) hx hb hts fw_5 hown hK hP 0 rfl rfl 3 (by decide) (hts _ m_fieldLink_P_Text_19_P_Text_charter_LP_Charter) (fun _ h9 => h9) rfl dX5_readInto_6 ?_
  obtain ⟨cif_1, hq2, hf⟩ := b1_of hf
  refine callVV (As := []) (rest := []) (wr := segpick [(Tw q cA xf0 xs (.ref (qq 0))), (Chw qq cA cif0 cig0)] [0]) C0 (c_X2_clear qq cif0 cig0 _ hq2) lk_X5_23_X2_clear rfl hP hD hS (seg_out [(Tw q cA xf0 xs (.ref (qq 0))), (Chw qq cA cif0 cig0)] [1] [0] 2 rfl (by decide)) 2 2 rfl rfl rfl hl.1 rfl rfl (Nat.le_of_ble_eq_true rfl) dX5_readInto_9 ⟨Nat.zero_le _, Nat.zero_le _⟩ (fun w H locs hw hP hD hS => ?_)
  have e2 := hw
  subst e2
  replace hP : va_P D vwCl (List.flatten [(Tw q cA xf0 xs (.ref (qq 0))), (Chw qq cA cif_1 cig0)]) H := hP.perm (seg_out [(Tw q cA xf0 xs (.ref (qq 0))), (Chw qq cA cif_1 cig0)] [1] [0] 2 rfl (by decide)).symm
  replace hD : va_D A (List.flatten [(Tw q cA xf0 xs (.ref (qq 0))), (Chw qq cA cif_1 cig0)]) := hD.perm (seg_out [(Tw q cA xf0 xs (.ref (qq 0))), (Chw qq cA cif_1 cig0)] [1] [0] 2 rfl (by decide)).symm
  refine lv_aload_n hx hb dX5_readInto_12 rfl (lv_at hl 0 rfl) ?_
  refine lv_iconst (v := 0) hx hb dX5_readInto_13 (by decide) ?_
  refine va_put (D := D) (ci := 5) (v := .int 0) (ty := .int) (C := RX5) (T := TX5) (N := 4) hx hb hts fw_5 tyX5 tyX5_ok nmX5 hown hK hP hD hS 0 rfl rfl 2 (by decide) (hts _ m_fieldLink_P_Text_28_P_Text_at_I) (fun _ h9 => h9) rfl (by decide +kernel) rfl rfl (Nat.le_of_ble_eq_true rfl) dX5_readInto_14 (fun H locs hP hD hS => ?_)
  replace hP : va_P D vwCl (List.flatten [(Tw q cA (upd xf0 2 0) xs (.ref (qq 0))), (Chw qq cA cif_1 cig0)]) H := hP
  replace hD : va_D A (List.flatten [(Tw q cA (upd xf0 2 0) xs (.ref (qq 0))), (Chw qq cA cif_1 cig0)]) := hD
  refine lv_bipush (v := 10) hx hb dX5_readInto_17 (by decide) ?_
  refine lv_istore_n (lv' := [(2, .int 10), (0, .ref (q 0)), (1, .ref (qq 0))]) hx hb dX5_readInto_19 rfl hl (by decide) rfl (fun ls hl => ?_)
  exact J20 100000 10 (upd xf0 2 0) cif_1 cig0 hf _ _ hP hD hS _ (lv_sub hl [1, 0] rfl)

-- X1 passDays
noncomputable def k_X1_passDays_2 (a1 : Int32) (a2 : Int32) (mc : Option Nat) (cn : Nat) (cf : Nat → Nat → Int32) (cg : Nat → Nat → Nat → Int32) : Nat → Int32 → (Nat → Int32) → (Nat → Nat → Int32) → (Nat → Int32) → Option ((Nat → Int32) × (Nat → Nat → Int32) × (Nat → Int32))
  | 0, _, _, _, _ => none
  | n + 1, x3, mf, mg, mv => if a1 ≤ x3 then some (mf, mg, mv) else b2 (k_X1_sound mf mg mc mv cn cf cg) (fun r2 mv_3 => b2 (k_X1_passDay r2 a2 mf mg mc cn cf) (fun mf_5 mg_6 => k_X1_passDays_2 a1 a2 mc cn cf cg n (x3 + 1) mf_5 mg_6 mv_3))
noncomputable def k_X1_passDays (a1 : Int32) (a2 : Int32) (mf0 : Nat → Int32) (mg0 : Nat → Nat → Int32) (mc : Option Nat) (mv0 : Nat → Int32) (cn : Nat) (cf : Nat → Nat → Int32) (cg : Nat → Nat → Nat → Int32) : Option ((Nat → Int32) × (Nat → Nat → Int32) × (Nat → Int32)) := k_X1_passDays_2 a1 a2 mc cn cf cg 100000 0 mf0 mg0 mv0
set_option maxHeartbeats 4000000 in
set_option maxRecDepth 100000 in
theorem c_X1_passDays {l : Launch} {D : va_G} {cA : Nat → ClassId} (q : Nat → Nat) (qc : Nat → Nat → Nat) (mf0 : Nat → Int32) (mg0 : Nat → Nat → Int32) (mc : Option Nat) (mv0 : Nat → Int32) (cn : Nat) (cf : Nat → Nat → Int32) (cg : Nat → Nat → Nat → Int32) (a1 : Int32) (a2 : Int32) (o : (Nat → Int32) × (Nat → Nat → Int32) × (Nat → Int32)) (hf : k_X1_passDays a1 a2 mf0 mg0 mc mv0 cn cf cg = some o) : CV l D cA yX1_passDays cX1_passDays 4 none 4 96 [.ref (q 0), .int a1, .int a2] (List.flatten [(Cw q cA (chv qc mc) mf0 mg0), (Vw (q 15) cA mv0), (chPool cn qc cA cf cg)]) 0 0 (fun w => w = (List.flatten [(Cw q cA (chv qc mc) o.1 o.2.1), (Vw (q 15) cA o.2.2), (chPool cn qc cA cf cg)])) := by
  intro sz
  refine met_start (by decide) rfl ?_
  intro p e s m args below meth c ls hsz hargs C0 hname hP hD hS hl
  generalize hAe : va_A (List.flatten [(Cw q cA (chv qc mc) mf0 mg0), (Vw (q 15) cA mv0), (chPool cn qc cA cf cg)]) sz = A at C0 hD hS ⊢
  obtain ⟨hx, hb, hr, hml, hown, hts, hlk, hK, hA⟩ := id C0
  replace hl : lv_has ls 4 [(0, .ref (q 0)), (1, .int a1), (2, .int a2)] := hl
  obtain ⟨Q, hQ⟩ : ∃ Q : State → Prop, Q = QV below D A (fun w => w = (List.flatten [(Cw q cA (chv qc mc) o.1 o.2.1), (Vw (q 15) cA o.2.2), (chPool cn qc cA cf cg)])) args s 0 0 := ⟨_, rfl⟩
  refine cast (by rw [hQ]) (?_ : W p l e (RMx 4 96 0 0) s m args below meth c s.heap [] 0 0 Q (F0 m 0 ls []))
  have J2 : ∀ n : Nat, ∀ (x3 : Int32) (mf : Nat → Int32) (mg : Nat → Nat → Int32) (mv : Nat → Int32), k_X1_passDays_2 a1 a2 mc cn cf cg n x3 mf mg mv = some o → ∀ (H : Heap) (locs : List Loc), va_P D vwCl (List.flatten [(Cw q cA (chv qc mc) mf mg), (Vw (q 15) cA mv), (chPool cn qc cA cf cg)]) H → va_D A (List.flatten [(Cw q cA (chv qc mc) mf mg), (Vw (q 15) cA mv), (chPool cn qc cA cf cg)]) → va_S A s.heap H locs → ∀ ls : Array Slot, lv_has ls 4 [(0, .ref (q 0)), (1, .int a1), (2, .int a2), (3, .int x3)] → W p l e (RMx 4 96 0 0) s m args below meth c H locs 0 0 Q (F0 m 2 ls []) := by
    intro  n
    induction n with
    | zero =>
      intro x3 mf mg mv hf
      rw [k_X1_passDays_2] at hf
      cases hf
    | succ n ih =>
      intro x3 mf mg mv hf H locs hP hD hS ls hl
      rw [k_X1_passDays_2] at hf
      refine lv_iload_n hx hb dX1_passDays_2 rfl (lv_at hl 3 rfl) ?_
      refine lv_iload_n hx hb dX1_passDays_3 rfl (lv_at hl 1 rfl) ?_
      refine lv_icmp_ge (tgt := 22) hx hb dX1_passDays_4 (by decide) (fun c1 => ?_) (fun c1 => ?_)
      · replace hf := it_of c1 hf
        rw [hQ]
        exact ret_v C0 hP hD hS (by have e := Option.some.inj hf; first | (rw [← e]; done) | (rw [← e]; exact rfl)) dX1_passDays_22
      · replace hf := ie_of c1 hf
        refine lv_aload_n hx hb dX1_passDays_7 rfl (lv_at hl 0 rfl) ?_
        refine lv_aload_n hx hb dX1_passDays_8 rfl (lv_at hl 0 rfl) ?_
        obtain ⟨r2q, mv_3, hq4, hf⟩ := b2_of hf
        refine callVI (As := []) (rest := [.ref (q 0)]) (wr := []) C0 (c_X1_sound q qc mf mg mc mv cn cf cg _ hq4) lk_X1_96_X1_sound rfl hP hD hS perm_nil 0 1 rfl rfl rfl hl.1 rfl rfl (Nat.le_of_ble_eq_true rfl) dX1_passDays_9 ⟨Nat.zero_le _, Nat.zero_le _⟩ (fun r2 w H locs hw hP hD hS => ?_)
        obtain ⟨e1, e2⟩ := hw
        replace e1 : r2 = r2q := e1
        subst e1
        subst e2
        replace hP : va_P D vwCl (List.flatten [(Cw q cA (chv qc mc) mf mg), (Vw (q 15) cA mv_3), (chPool cn qc cA cf cg)]) H := hP.nil
        replace hD : va_D A (List.flatten [(Cw q cA (chv qc mc) mf mg), (Vw (q 15) cA mv_3), (chPool cn qc cA cf cg)]) := hD.nil
        refine lv_iload_n hx hb dX1_passDays_12 rfl (lv_at hl 2 rfl) ?_
        obtain ⟨mf_5, mg_6, hq7, hf⟩ := b2_of hf
        refine callVV (As := [.int r2, .int a2]) (rest := []) (wr := segpick [(Cw q cA (chv qc mc) mf mg), (Vw (q 15) cA mv_3), (chPool cn qc cA cf cg)] [1]) C0 (c_X1_passDay q qc mf mg mc cn cf cg r2 a2 _ hq7) lk_X1_100_X1_passDay rfl hP hD hS (seg_out [(Cw q cA (chv qc mc) mf mg), (Vw (q 15) cA mv_3), (chPool cn qc cA cf cg)] [0, 2] [1] 3 rfl (by decide)) 0 1 rfl rfl rfl hl.1 rfl rfl (Nat.le_of_ble_eq_true rfl) dX1_passDays_13 ⟨Nat.zero_le _, Nat.zero_le _⟩ (fun w H locs hw hP hD hS => ?_)
        have e2 := hw
        subst e2
        replace hP : va_P D vwCl (List.flatten [(Cw q cA (chv qc mc) mf_5 mg_6), (Vw (q 15) cA mv_3), (chPool cn qc cA cf cg)]) H := hP.perm (seg_out [(Cw q cA (chv qc mc) mf_5 mg_6), (Vw (q 15) cA mv_3), (chPool cn qc cA cf cg)] [0, 2] [1] 3 rfl (by decide)).symm
        replace hD : va_D A (List.flatten [(Cw q cA (chv qc mc) mf_5 mg_6), (Vw (q 15) cA mv_3), (chPool cn qc cA cf cg)]) := hD.perm (seg_out [(Cw q cA (chv qc mc) mf_5 mg_6), (Vw (q 15) cA mv_3), (chPool cn qc cA cf cg)] [0, 2] [1] 3 rfl (by decide)).symm
        refine lv_iinc (v := (x3 + 1)) (lv' := [(3, .int (x3 + 1)), (0, .ref (q 0)), (1, .int a1), (2, .int a2)]) hx hb dX1_passDays_16 hl (k := 3) rfl rfl (by decide) rfl (fun ls hl => ?_)
        refine lv_goto (tgt := 2) hx hb dX1_passDays_19 (by decide) ?_
        exact ih (x3 + 1) mf_5 mg_6 mv_3 hf _ _ hP hD hS _ (lv_sub hl [1, 2, 3, 0] rfl)
  unfold k_X1_passDays at hf
  refine lv_iconst (v := 0) hx hb dX1_passDays_0 (by decide) ?_
  refine lv_istore_n (lv' := [(3, .int 0), (0, .ref (q 0)), (1, .int a1), (2, .int a2)]) hx hb dX1_passDays_1 rfl hl (by decide) rfl (fun ls hl => ?_)
  exact J2 100000 0 mf0 mg0 mv0 hf _ _ hP hD hS _ (lv_sub hl [1, 2, 3, 0] rfl)


def dyF (b : Bool) (Cs : List (Nat × Nat × List Nat)) : Nat → (Nat → Nat) → (Nat → Nat → Nat) → (Nat → Nat)
  | 0, F, _ => F
  | n + 1, F, G => dyF b Cs n (dF b F G Cs) (dG b F G)
def dyG (b : Bool) (Cs : List (Nat × Nat × List Nat)) : Nat → (Nat → Nat) → (Nat → Nat → Nat) → (Nat → Nat → Nat)
  | 0, _, G => G
  | n + 1, F, G => dyG b Cs n (dF b F G Cs) (dG b F G)
theorem dy_ok (b : Bool) (Cs : List (Nat × Nat × List Nat)) : ∀ (n B : Nat) (F : Nat → Nat) (G : Nat → Nat → Nat), okF B F G → okF (B + n) (dyF b Cs n F G) (dyG b Cs n F G)
  | 0, _, _, _, h => h
  | n + 1, B, F, G, h => by
    have := dy_ok b Cs n (B + 1) (dF b F G Cs) (dG b F G) (d_ok h)
    rw [show B + (n + 1) = B + 1 + n by omega]
    exact this
theorem runC (b : Bool) {mc : Option Nat} {cn : Nat} {cf : Nat → Nat → Int32} {cg : Nat → Nat → Nat → Int32} {Cs : List (Nat × Nat × List Nat)} (hc : hasC mc cn cf cg Cs) (hk : okCs Cs) (T : Nat) (hT : T < 2 ^ 31) : ∀ (r n x B : Nat) (mf : Nat → Int32) (mg : Nat → Nat → Int32) (mv : Nat → Int32) (F : Nat → Nat) (G : Nat → Nat → Nat), r < n → T = x + r → agr mf mg F G → okF B F G → B + r ≤ 20000 → ∃ mf' mg' mv', k_X1_passDays_2 (nI T) (mostC b) mc cn cf cg n (nI x) mf mg mv = some (mf', mg', mv') ∧ agr mf' mg' (dyF b Cs r F G) (dyG b Cs r F G)
  | 0, 0, _, _, _, _, _, _, _, hn, _, _, _, _ => by omega
  | 0, n + 1, x, B, mf, mg, mv, F, G, hn, e, h, ho, hB => by
    refine ⟨mf, mg, mv, ?_, h⟩
    show (if nI T ≤ nI x then _ else _) = _
    rw [if_pos (nI_le (by omega) (by omega))]
  | r + 1, 0, _, _, _, _, _, _, _, hn, _, _, _, _ => by omega
  | r + 1, n + 1, x, B, mf, mg, mv, F, G, hn, e, h, ho, hB => by
    simp only [k_X1_passDays_2]
    rw [if_neg (nI_ge (by omega) (by omega)), nI_1]
    obtain ⟨mv1, hq⟩ := soundC h ho (by omega) hc hk mv
    rw [hq, b2_s]
    obtain ⟨mf1, mg1, hq1, h1⟩ := dayC b h ho (by omega) hc
    rw [hq1, b2_s]
    exact runC b hc hk T hT r n (x + 1) (B + 1) mf1 mg1 mv1 _ _ (by omega) (by omega) h1 (d_ok ho) (by omega)
theorem runT {mc : Option Nat} {cn : Nat} {cf : Nat → Nat → Int32} {cg : Nat → Nat → Nat → Int32} {Cs : List (Nat × Nat × List Nat)} (hc : hasC mc cn cf cg Cs) (hk : okCs Cs) (T : Nat) (hT : T < 2 ^ 31) : ∀ (r n x B : Nat) (mf : Nat → Int32) (mg : Nat → Nat → Int32) (mv : Nat → Int32) (F : Nat → Nat) (G : Nat → Nat → Nat), r < n → T = x + r → agr mf mg F G → okF B F G → B + r ≤ 20000 → ∃ mf' mg' mv', k_X6_truthsBehind_13 (nI T) cn cf cg n (nI x) mf mg mc mv = some (nI (dyF false Cs r F G 3), mf', mg', mc, mv')
  | 0, 0, _, _, _, _, _, _, _, hn, _, _, _, _ => by omega
  | 0, n + 1, x, B, mf, mg, mv, F, G, hn, e, h, ho, hB => by
    refine ⟨mf, mg, mv, ?_⟩
    show (if nI T ≤ nI x then _ else _) = _
    rw [if_pos (nI_le (by omega) (by omega)), h.1 3 (by omega)]
    rfl
  | r + 1, 0, _, _, _, _, _, _, _, hn, _, _, _, _ => by omega
  | r + 1, n + 1, x, B, mf, mg, mv, F, G, hn, e, h, ho, hB => by
    simp only [k_X6_truthsBehind_13]
    rw [if_neg (nI_ge (by omega) (by omega)), nI_1]
    obtain ⟨mv1, hq⟩ := soundC h ho (by omega) hc hk mv
    rw [hq, b2_s]
    obtain ⟨mf1, mg1, hq1, h1⟩ := dayC false h ho (by omega) hc
    rw [show (1000000 : Int32) = mostC false from rfl, hq1, b2_s]
    exact runT hc hk T hT r n (x + 1) (B + 1) mf1 mg1 mv1 _ _ (by omega) (by omega) h1 (d_ok ho) (by omega)
theorem runM (b : Bool) {Cs : List (Nat × Nat × List Nat)} (fs : Nat → Int32) (hfs : fs 29 = mostM b) (hk : okCs Cs) (T : Nat) (hT : T < 2 ^ 31) : ∀ (r n x B : Nat) (mf : Nat → Int32) (mg : Nat → Nat → Int32) (mv : Nat → Int32) (F : Nat → Nat) (G : Nat → Nat → Nat), r < n → T = x + r → agm mf mg F G → hasM mf mg Cs → okF B F G → B + r ≤ 20000 → ∃ mf' mg' mv', k_X7_goDays_2 (nI T) fs n (nI x) mf mg mv = some (mf', mg', mv') ∧ agm mf' mg' (dyF b Cs r F G) (dyG b Cs r F G) ∧ frM mf mg mf' mg'
  | 0, 0, _, _, _, _, _, _, _, hn, _, _, _, _, _ => by omega
  | 0, n + 1, x, B, mf, mg, mv, F, G, hn, e, h, hM, ho, hB => by
    refine ⟨mf, mg, mv, ?_, h, fun _ _ _ _ _ _ => rfl, fun _ _ => rfl, fun _ _ => rfl⟩
    show (if nI T ≤ nI x then _ else _) = _
    rw [if_pos (nI_le (by omega) (by omega))]
  | r + 1, 0, _, _, _, _, _, _, _, hn, _, _, _, _, _ => by omega
  | r + 1, n + 1, x, B, mf, mg, mv, F, G, hn, e, h, hM, ho, hB => by
    simp only [k_X7_goDays_2]
    rw [if_neg (nI_ge (by omega) (by omega)), nI_1]
    obtain ⟨mf1, mg1, mv1, hq1, h1, g1⟩ := dayM b fs hfs h ho (by omega) hM hk mv
    rw [hq1, b3_s]
    obtain ⟨mf2, mg2, mv2, hq2, h2, g2⟩ := runM b fs hfs hk T hT r n (x + 1) (B + 1) mf1 mg1 mv1 _ _ (by omega) (by omega) h1 (hasM_c g1 hM) (d_ok ho) (by omega)
    exact ⟨mf2, mg2, mv2, hq2, h2, frM_t g1 g2⟩
theorem gcp_l {α : Type} {o : Option α} (sp dp n : Int32) (n0 n1 : Nat) (h : decide (¬ (sp < 0 ∨ dp < 0 ∨ n < 0 ∨ n0 < sp.toNatClampNeg + n.toNatClampNeg ∨ n1 < dp.toNatClampNeg + n.toNatClampNeg)) = true) : gcp sp dp n n0 n1 o = o := if_neg (of_decide_eq_true h)
theorem cpy6 {f g : Nat → Int32} {n : Int32} {k : Nat} (h : k < n.toNatClampNeg) : va_cpy f g (Int32.toNatClampNeg 0) (Int32.toNatClampNeg 0) n.toNatClampNeg k = f k := sb_cpy0 h
theorem copyC {nf : Nat → Int32} {ng : Nat → Nat → Int32} {F : Nat → Nat} {G : Nat → Nat → Nat} (h : agr nf ng F G) (nc : Option Nat) (tf : Nat → Int32) (tg : Nat → Nat → Int32) (tc : Option Nat) : ∃ tf' tg', k_X1_copyDays tf tg tc nf ng nc = some (tf', tg', nc) ∧ agr tf' tg' F G := by
  simp only [k_X1_copyDays, nm_e1]
  rw [gcp_l 0 0 6 6 6 rfl, gcp_l 0 0 6 6 6 rfl, gcp_l 0 0 6 6 6 rfl, gcp_l 0 0 6 6 6 rfl, gcp_l 0 0 24 24 24 rfl]
  refine ⟨_, _, rfl, fun k hk => ?_, fun s p h7 h10 hp => ?_, fun k hk => ?_⟩
  · rw [← h.1 k hk]
    rcases (show k = 0 ∨ k = 1 ∨ k = 2 ∨ k = 3 ∨ k = 4 ∨ k = 5 by omega) with rfl | rfl | rfl | rfl | rfl | rfl <;> rfl
  · rw [← h.2.1 s p h7 h10 hp]
    rcases (show s = 7 ∨ s = 8 ∨ s = 9 ∨ s = 10 by omega) with rfl | rfl | rfl | rfl <;> exact cpy6 hp
  · rw [← h.2.2 k hk]
    exact cpy6 hk
theorem beginC {nf : Nat → Int32} {ng : Nat → Nat → Int32} {F : Nat → Nat} {G : Nat → Nat → Nat} (h : agr nf ng F G) (nc : Option Nat) (tf : Nat → Int32) (tg : Nat → Nat → Int32) (tc : Option Nat) : ∃ tf' tg', k_X6_begin nf ng nc tf tg tc = some (tf', tg', nc) ∧ agr tf' tg' F G := by
  obtain ⟨tf', tg', e, g⟩ := copyC h nc tf tg tc
  refine ⟨tf', tg', ?_, g⟩
  unfold k_X6_begin
  rw [e, b3_s]
/-- what save keeps -/
def svd (fi : Nat → Int32) (ga : Nat → Nat → Int32) (fs : Nat → Int32) (gs : Nat → Nat → Int32) : Prop := fs 29 = 2000000000 ∧ fs 30 = fi 1 ∧ fs 31 = fi 2 ∧ fs 32 = fi 3 ∧ fs 33 = fi 4 ∧ fs 34 = fi 5 ∧ ∀ p, p < 6 → gs 35 p = ga 9 p
theorem saveR (ga : Nat → Nat → Int32) (fs : Nat → Int32) : ∀ (r n o : Nat) (gs : Nat → Nat → Int32), r < n → 6 = o + r → ∃ gs', k_X7_save_49 ga n (nI o) fs gs = some (fs, gs') ∧ (∀ p, p < o → gs' 35 p = gs 35 p) ∧ (∀ p, o ≤ p → p < 6 → gs' 35 p = ga 9 p)
  | 0, 0, _, _, hn, _ => by omega
  | 0, n + 1, o, gs, hn, e => by
    refine ⟨gs, ?_, fun _ _ => rfl, fun p h1 h2 => by omega⟩
    show (if 6 ≤ nI o then _ else _) = _
    rw [if_pos (show (6 : Int32) ≤ nI o from nI_le (a := 6) (by omega) (by omega))]
  | r + 1, 0, _, _, hn, _ => by omega
  | r + 1, n + 1, o, gs, hn, e => by
    obtain ⟨gs', hq, h1, h2⟩ := saveR ga fs r n (o + 1) (va_up gs 35 (upd (gs 35) o (ga 9 o))) (by omega) (by omega)
    refine ⟨gs', ?_, fun p hp => ?_, fun p h3 h4 => ?_⟩
    · simp only [k_X7_save_49]
      rw [if_neg (show ¬ (6 : Int32) ≤ nI o from nI_ge (b := 6) (by omega) (by omega)), gd_n (by omega) (by omega), gd_n (by omega) (by omega), u_cl (by omega), nI_1]
      exact hq
    · rw [h1 p (by omega), va_up_self, u_up, if_neg (by omega)]
    · by_cases c : p = o
      · subst c
        rw [h1 p (by omega), va_up_self, u_up, if_pos rfl]
      · exact h2 p (by omega) h4
theorem saveM (fi : Nat → Int32) (fs : Nat → Int32) (ga gs : Nat → Nat → Int32) : ∃ fs' gs', k_X7_save fi fs ga gs = some (fs', gs') ∧ svd fi ga fs' gs' := by
  simp only [k_X7_save, nm_e1]
  obtain ⟨gs', hq, _, h2⟩ := saveR ga (upd (upd (upd (upd (upd (upd fs 29 2000000000) 30 (fi 1)) 31 (fi 2)) 32 (fi 3)) 33 (fi 4)) 34 (fi 5)) 6 100000 0 gs (by omega) (by omega)
  exact ⟨_, gs', hq, rfl, rfl, rfl, rfl, rfl, rfl, fun p hp => h2 p (by omega) hp⟩
theorem backR (gs : Nat → Nat → Int32) (fi fs : Nat → Int32) : ∀ (r n o : Nat) (ga : Nat → Nat → Int32), r < n → 6 = o + r → ∃ ga', k_X7_putBack_49 gs n (nI o) fi fs ga = some (fi, fs, ga') ∧ (∀ s, s ≠ 9 → ga' s = ga s) ∧ (∀ p, p < o ∨ 6 ≤ p → ga' 9 p = ga 9 p) ∧ (∀ p, o ≤ p → p < 6 → ga' 9 p = gs 35 p)
  | 0, 0, _, _, hn, _ => by omega
  | 0, n + 1, o, ga, hn, e => by
    refine ⟨ga, ?_, fun _ _ => rfl, fun _ _ => rfl, fun p h1 h2 => by omega⟩
    show (if 6 ≤ nI o then _ else _) = _
    rw [if_pos (show (6 : Int32) ≤ nI o from nI_le (a := 6) (by omega) (by omega))]
  | r + 1, 0, _, _, hn, _ => by omega
  | r + 1, n + 1, o, ga, hn, e => by
    obtain ⟨ga', hq, h0, h1, h2⟩ := backR gs fi fs r n (o + 1) (va_up ga 9 (upd (ga 9) o (gs 35 o))) (by omega) (by omega)
    refine ⟨ga', ?_, fun s hs => by rw [h0 s hs, va_up_ne _ _ hs], fun p hp => ?_, fun p h3 h4 => ?_⟩
    · simp only [k_X7_putBack_49]
      rw [if_neg (show ¬ (6 : Int32) ≤ nI o from nI_ge (b := 6) (by omega) (by omega)), gd_n (by omega) (by omega), gd_n (by omega) (by omega), u_cl (by omega), nI_1]
      exact hq
    · rw [h1 p (by omega), va_up_self, u_up, if_neg (by omega)]
    · by_cases c : p = o
      · subst c
        rw [h1 p (by omega), va_up_self, u_up, if_pos rfl]
      · exact h2 p (by omega) h4
theorem backM {fi fi' fs : Nat → Int32} {ga ga' gs : Nat → Nat → Int32} (hv : svd fi ga fs gs) (hf : frM fi ga fi' ga') : k_X7_putBack fi' fs ga' gs = some (fi, upd fs 29 9999, ga) := by
  simp only [k_X7_putBack, nm_e1]
  obtain ⟨ga2, hq, h0, h1, h2⟩ := backR gs (upd (upd (upd (upd (upd fi' 1 (fs 30)) 2 (fs 31)) 3 (fs 32)) 4 (fs 33)) 5 (fs 34)) (upd fs 29 9999) 6 100000 0 ga' (by omega) (by omega)
  obtain ⟨e29, e30, e31, e32, e33, e34, e35⟩ := hv
  refine hq.trans ?_
  have e1 : upd (upd (upd (upd (upd fi' 1 (fs 30)) 2 (fs 31)) 3 (fs 32)) 4 (fs 33)) 5 (fs 34) = fi := by
    funext k
    simp only [u_up]
    split
    · rename_i c; rw [c, e34]
    split
    · rename_i c; rw [c, e33]
    split
    · rename_i c; rw [c, e32]
    split
    · rename_i c; rw [c, e31]
    split
    · rename_i c; rw [c, e30]
    · exact hf.1 k (by omega) (by omega) (by omega) (by omega) (by omega)
  have e2 : ga2 = ga := by
    funext s p
    by_cases c : s = 9
    · subst c
      by_cases d : p < 6
      · rw [h2 p (by omega) d, e35 p d]
      · rw [h1 p (by omega), hf.2.2 p (by omega)]
    · rw [h0 s c, hf.2.1 s c]
  rw [e1, e2]
def stF (F : Nat → Nat) (k v : Nat) : Nat → Nat := fun j => if j = k then v else F j
theorem agr_st {mf : Nat → Int32} {mg : Nat → Nat → Int32} {F : Nat → Nat} {G : Nat → Nat → Nat} (h : agr mf mg F G) (k v : Nat) : agr (upd mf k (nI v)) mg (stF F k v) G := by
  refine ⟨fun j hj => ?_, h.2.1, h.2.2⟩
  rw [u_up]
  show _ = nI (if j = k then v else F j)
  split
  · rfl
  · exact h.1 j hj
theorem ok_up {B : Nat} {F : Nat → Nat} {G : Nat → Nat → Nat} (h : okF B F G) {v : Nat} (hv : v < 64) : okF B (stF F 1 v) G := by
  obtain ⟨h0, h1, h2, h3, h4, h5, h7, h11⟩ := h
  exact ⟨h0, hv, h2, h3, h4, h5, h7, h11⟩
def sit (nf : Nat → Int32) (ng : Nat → Nat → Int32) (nc : Option Nat) (cn : Nat) (cf : Nat → Nat → Int32) (cg : Nat → Nat → Nat → Int32) (fi : Nat → Int32) (ga : Nat → Nat → Int32) (F : Nat → Nat) (G : Nat → Nat → Nat) (Cs : List (Nat × Nat × List Nat)) : Prop := agr nf ng F G ∧ agm fi ga F G ∧ okF 9999 F G ∧ hasC nc cn cf cg Cs ∧ hasM fi ga Cs ∧ okCs Cs
/-- TRUTHS behind n days, just these up -/
def trB (F : Nat → Nat) (G : Nat → Nat → Nat) (Cs : List (Nat × Nat × List Nat)) (n u : Nat) : Nat := dyF false Cs n (stF F 1 u) G 3
theorem trB_le {F : Nat → Nat} {G : Nat → Nat → Nat} {Cs : List (Nat × Nat × List Nat)} (ho : okF 9999 F G) (n u : Nat) (hn : n ≤ 60) (hu : u < 64) : trB F G Cs n u ≤ 10059 := by
  have := (dy_ok false Cs n 9999 _ _ (ok_up ho hu)).2.2.2.1
  unfold trB
  omega
theorem trC {nf : Nat → Int32} {ng : Nat → Nat → Int32} {nc : Option Nat} {cn : Nat} {cf : Nat → Nat → Int32} {cg : Nat → Nat → Nat → Int32} {fi : Nat → Int32} {ga : Nat → Nat → Int32} {F : Nat → Nat} {G : Nat → Nat → Nat} {Cs : List (Nat × Nat × List Nat)} (hs : sit nf ng nc cn cf cg fi ga F G Cs) (n u : Nat) (hn : n ≤ 60) (hu : u < 64) (tf : Nat → Int32) (tg : Nat → Nat → Int32) (tc : Option Nat) (tv : Nat → Int32) : ∃ tf' tg' tc' tv', k_X6_truthsBehind (nI n) (nI u) nf ng nc tf tg tc tv cn cf cg = some (nI (trB F G Cs n u), tf', tg', tc', tv') := by
  obtain ⟨ha, hm, ho, hc, hM, hk⟩ := hs
  obtain ⟨tf1, tg1, e, g⟩ := beginC ha nc tf tg tc
  obtain ⟨tf2, tg2, tv2, e2⟩ := runT hc hk n (by omega) n 100000 0 9999 (upd tf1 1 (nI u)) tg1 tv (stF F 1 u) G (by omega) (by omega) (agr_st g 1 u) (ok_up ho hu) (by omega)
  refine ⟨tf2, tg2, nc, tv2, ?_⟩
  unfold k_X6_truthsBehind
  rw [e, b3_s]
  exact e2
theorem trM {nf : Nat → Int32} {ng : Nat → Nat → Int32} {nc : Option Nat} {cn : Nat} {cf : Nat → Nat → Int32} {cg : Nat → Nat → Nat → Int32} {fi : Nat → Int32} {ga : Nat → Nat → Int32} {F : Nat → Nat} {G : Nat → Nat → Nat} {Cs : List (Nat × Nat × List Nat)} (hs : sit nf ng nc cn cf cg fi ga F G Cs) (n u : Nat) (hn : n ≤ 60) (hu : u < 64) (fs : Nat → Int32) (gs : Nat → Nat → Int32) (pl : Nat → Int32) : ∃ fs' gs' pl', k_X7_truthsBy (nI u) (nI n) fi fs ga gs pl = some (nI (trB F G Cs n u), fi, fs', ga, gs', pl') ∧ fs' 29 = 9999 := by
  obtain ⟨ha, hm, ho, hc, hM, hk⟩ := hs
  obtain ⟨fs1, gs1, e, g⟩ := saveM fi fs ga gs
  have hfr : frM fi ga (upd fi 1 (nI u)) ga := ⟨fun k a _ _ _ _ => by rw [u_up, if_neg a], fun _ _ => rfl, fun _ _ => rfl⟩
  obtain ⟨fi2, ga2, pl2, e2, h2, g2⟩ := runM false fs1 g.1 hk n (by omega) n 100000 0 9999 (upd fi 1 (nI u)) ga pl (stF F 1 u) G (by omega) (by omega) (agr_st hm 1 u) (hasM_c hfr hM) (ok_up ho hu) (by omega)
  refine ⟨upd fs1 29 9999, gs1, pl2, ?_, rfl⟩
  unfold k_X7_truthsBy
  rw [e, b2_s]
  show b3 (k_X7_goDays_2 (nI n) fs1 100000 0 (upd fi 1 (nI u)) ga pl) _ = _
  rw [show (0 : Int32) = nI 0 from rfl, e2, b3_s, backM g (frM_t hfr g2), b3_s, h2.1 3 (by omega)]
  rfl

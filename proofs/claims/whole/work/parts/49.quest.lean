
theorem isW (a m : Int32) : k_X6_isWithin a m = k_X7_in a 0 m := rfl
theorem inN (a M : Int32) (m : Nat) (hM : M.toInt = m) : k_X7_in a 0 M = some 0 ∨ (k_X7_in a 0 M = some 1 ∧ ∃ k, k ≤ m ∧ a = nI k) := by
  unfold k_X7_in
  by_cases c : a < 0
  · rw [if_pos c]; exact Or.inl rfl
  rw [if_neg c]
  by_cases d : M < a
  · rw [if_pos d]; exact Or.inl rfl
  rw [if_neg d]
  exact Or.inr ⟨rfl, nI_of2 hM c ((u_nlt _ _).mp d)⟩
theorem dayF5 (b : Bool) (Cs : List (Nat × Nat × List Nat)) : ∀ (n : Nat) (F : Nat → Nat) (G : Nat → Nat → Nat), dyF b Cs n F G 5 = F 5 + n ∧ dyF b Cs n F G 0 = F 0 ∧ dyF b Cs n F G 1 = F 1
  | 0, F, G => ⟨rfl, rfl, rfl⟩
  | n + 1, F, G => by
    obtain ⟨h1, h2, h3⟩ := dayF5 b Cs n (dF b F G Cs) (dG b F G)
    refine ⟨?_, ?_, ?_⟩
    · show dyF b Cs n (dF b F G Cs) (dG b F G) 5 = _
      rw [h1]
      show F 5 + 1 + n = _
      omega
    · exact h2.trans rfl
    · exact h3.trans rfl
theorem okF_t (Cs : List (Nat × Nat × List Nat)) : ∀ (n : Nat) (F : Nat → Nat) (G : Nat → Nat → Nat), okF 9999 F G → F 5 + n ≤ 9999 → okF 9999 (dyF true Cs n F G) (dyG true Cs n F G)
  | 0, F, G, h, _ => h
  | n + 1, F, G, h, h5 => by
    refine okF_t Cs n (dF true F G Cs) (dG true F G) ?_ (by show F 5 + 1 + n ≤ 9999; omega)
    obtain ⟨a0, a1, a2, _, _, _, a7, a11⟩ := d_ok (b := true) (Cs := Cs) h
    obtain ⟨h0, h1, h2, h3, h4, h5', h7, h11⟩ := h
    refine ⟨a0, a1, a2, ?_, ?_, ?_, fun p hp => ⟨(a7 p hp).1, (a7 p hp).2.1, (a7 p hp).2.2.1, ?_⟩, a11⟩
    · show (if 100 ≤ frD (F 2) (Snd F G Cs) (nI (calmL Cs 10)) then cap true (F 3 + 1) else F 3) ≤ 9999
      split
      · exact cap_t _
      · exact h3
    · show (if Snd F G Cs = 0 then cap true (F 4 + 1) else F 4) ≤ 9999
      split
      · exact cap_t _
      · exact h4
    · show F 5 + 1 ≤ 9999
      omega
    · show (if 10 = 10 ∧ p < F 0 then (if (F 1).testBit p = true then 0 else cap true (G 10 p + 1)) else G 10 p) ≤ 9999
      split
      · split
        · omega
        · exact cap_t _
      · exact (h7 p hp).2.2.2
theorem op_pass {nf : Nat → Int32} {ng : Nat → Nat → Int32} {nc : Option Nat} {cn : Nat} {cf : Nat → Nat → Int32} {cg : Nat → Nat → Nat → Int32} {fi : Nat → Int32} {ga : Nat → Nat → Int32} {F : Nat → Nat} {G : Nat → Nat → Nat} {Cs : List (Nat × Nat × List Nat)} (hs : sit nf ng nc cn cf cg fi ga F G Cs) (a : Int32) (nv : Nat → Int32) (fs : Nat → Int32) (hfs : fs 29 = 9999) (pl : Nat → Int32) : ∃ r nf' ng' nv' fi' ga' pl' F' G', k_X6_pass a nf ng nc nv cn cf cg = some (r, nf', ng', nv') ∧ k_X7_pass a fi fs ga pl = some (r, fi', ga', pl') ∧ agr nf' ng' F' G' ∧ agm fi' ga' F' G' ∧ okF 9999 F' G' ∧ F' 0 = F 0 ∧ frM fi ga fi' ga' := by
  obtain ⟨ha, hm, ho, hc, hM, hk⟩ := hs
  unfold k_X6_pass k_X7_pass k_X7_isDays
  rw [isW]
  rcases inN a 60 60 rfl with e | ⟨e, k, hk60, ek⟩
  · rw [e]
    exact ⟨_, nf, ng, nv, fi, ga, pl, F, G, rfl, rfl, ha, hm, ho, rfl, fun _ _ _ _ _ _ => rfl, fun _ _ => rfl, fun _ _ => rfl⟩
  subst ek
  rw [e, b1_s, b1_s, b1_s, if_neg (show ¬ (1 : Int32) = 0 by decide), if_neg (show ¬ (1 : Int32) = 0 by decide), ha.1 5 (by omega), hm.1 5 (by omega), u_ab]
  have h5 := ho.2.2.2.2.2.1
  by_cases c : F 5 + k ≤ 9999
  · rw [if_pos (show nI (F 5 + k) ≤ 9999 from nI_le (b := 9999) c (by omega)), if_pos (show nI (F 5 + k) ≤ 9999 from nI_le (b := 9999) c (by omega))]
    obtain ⟨nf', ng', nv', q1, h1⟩ := runC true hc hk k (by omega) k 100000 0 9999 nf ng nv F G (by omega) (by omega) ha ho (by omega)
    obtain ⟨fi', ga', pl', q2, h2, g2⟩ := runM true fs hfs hk k (by omega) k 100000 0 9999 fi ga pl F G (by omega) (by omega) hm hM ho (by omega)
    have q1' : k_X1_passDays (nI k) 9999 nf ng nc nv cn cf cg = some (nf', ng', nv') := q1
    have q2' : k_X7_goDays (nI k) fi fs ga pl = some (fi', ga', pl') := q2
    rw [q1', q2', b3_s, b3_s, h1.1 5 (by omega), h2.1 5 (by omega)]
    exact ⟨_, _, _, _, _, _, _, _, _, rfl, rfl, h1, h2, okF_t Cs k F G ho c, (dayF5 true Cs k F G).2.1, g2⟩
  · rw [if_neg (show ¬ nI (F 5 + k) ≤ 9999 from nI_ge (a := 9999) (by omega) (by omega)), if_neg (show ¬ nI (F 5 + k) ≤ 9999 from nI_ge (a := 9999) (by omega) (by omega))]
    exact ⟨_, nf, ng, nv, fi, ga, pl, F, G, rfl, rfl, ha, hm, ho, rfl, fun _ _ _ _ _ _ => rfl, fun _ _ => rfl, fun _ _ => rfl⟩
theorem op_on {nf : Nat → Int32} {ng : Nat → Nat → Int32} {nc : Option Nat} {cn : Nat} {cf : Nat → Nat → Int32} {cg : Nat → Nat → Nat → Int32} {fi : Nat → Int32} {ga : Nat → Nat → Int32} {F : Nat → Nat} {G : Nat → Nat → Nat} {Cs : List (Nat × Nat × List Nat)} (hs : sit nf ng nc cn cf cg fi ga F G Cs) (a b : Int32) (fs : Nat → Int32) (hfs : fs 29 = 9999) (gs : Nat → Nat → Int32) (pl tf : Nat → Int32) (tg : Nat → Nat → Int32) (tc : Option Nat) (tv : Nat → Int32) : ∃ r tf' tg' tc' tv' fs' gs' pl', k_X6_on a b nf ng nc tf tg tc tv cn cf cg = some (r, tf', tg', tc', tv') ∧ k_X7_on a b fi fs ga gs pl = some (r, fi, fs', ga, gs', pl') ∧ fs' 29 = 9999 := by
  obtain ⟨ha, hm, ho, hc, hM, hk⟩ := hs
  unfold k_X6_on k_X7_on k_X7_isDays
  rw [isW, isW]
  rcases inN b 3 3 rfl with e | ⟨e, k3, hk3, ek3⟩
  · rw [e]
    exact ⟨_, _, _, _, _, _, _, _, rfl, rfl, hfs⟩
  rw [e, b1_s, b1_s, if_neg (by decide), if_neg (by decide)]
  rcases inN a 60 60 rfl with e | ⟨e, k, hk60, ek⟩
  · rw [e]
    exact ⟨_, _, _, _, _, _, _, _, rfl, rfl, hfs⟩
  subst ek
  rw [e, b1_s, b1_s, b1_s, if_neg (by decide), if_neg (by decide)]
  obtain ⟨tf1, tg1, e1, g1⟩ := beginC ha nc tf tg tc
  obtain ⟨tf2, tg2, tv2, q1, h1⟩ := runC false hc hk k (by omega) k 100000 0 9999 tf1 tg1 tv F G (by omega) (by omega) g1 ho (by omega)
  obtain ⟨fs1, gs1, e2, g2⟩ := saveM fi fs ga gs
  obtain ⟨fi2, ga2, pl2, q2, h2, f2⟩ := runM false fs1 g2.1 hk k (by omega) k 100000 0 9999 fi ga pl F G (by omega) (by omega) hm hM ho (by omega)
  have q1' : k_X1_passDays (nI k) 1000000 tf1 tg1 nc tv cn cf cg = some (tf2, tg2, tv2) := q1
  have q2' : k_X7_goDays (nI k) fi fs1 ga pl = some (fi2, ga2, pl2) := q2
  have hok := dy_ok false Cs k 9999 F G ho
  obtain ⟨tv3, hs1⟩ := soundC h1 hok (by omega) hc hk tv2
  obtain ⟨pl3, hs2⟩ := soundM h2 hok (by omega) (hasM_c f2 hM) hk pl2
  rw [e1, b3_s, q1', b3_s, e2, b2_s, q2', b3_s, hs1, hs2, b2_s, b2_s]
  simp only [k_X7_on_71, backM g2 f2, b3_s]
  rw [h1.1 2 (by omega), h1.1 3 (by omega), h1.1 4 (by omega), h2.1 2 (by omega), h2.1 3 (by omega), h2.1 4 (by omega)]
  by_cases c0 : b = 0
  · rw [if_pos c0, if_pos c0]; exact ⟨_, _, _, _, _, _, _, _, rfl, rfl, rfl⟩
  rw [if_neg c0, if_neg c0]
  by_cases c1 : b = 1
  · rw [if_pos c1, if_pos c1]; exact ⟨_, _, _, _, _, _, _, _, rfl, rfl, rfl⟩
  rw [if_neg c1, if_neg c1]
  by_cases c2 : b = 2
  · rw [if_pos c2, if_pos c2]; exact ⟨_, _, _, _, _, _, _, _, rfl, rfl, rfl⟩
  rw [if_neg c2, if_neg c2]
  exact ⟨_, _, _, _, _, _, _, _, rfl, rfl, rfl⟩
/-- HUSHED -/
def huR (Cs : List (Nat × Nat × List Nat)) : Nat → Nat → (Nat → Nat) → (Nat → Nat → Nat) → Int32
  | 0, _, _, _ => -5
  | r + 1, x, F, G => if Snd F G Cs = 0 then nI x else huR Cs r (x + 1) (dF false F G Cs) (dG false F G)
theorem huC {cn : Nat} {cf : Nat → Nat → Int32} {cg : Nat → Nat → Nat → Int32} {mc : Option Nat} {Cs : List (Nat × Nat × List Nat)} (hc : hasC mc cn cf cg Cs) (hk : okCs Cs) : ∀ (r n x : Nat) (mf : Nat → Int32) (mg : Nat → Nat → Int32) (mv : Nat → Int32) (F : Nat → Nat) (G : Nat → Nat → Nat), r < n → 61 = x + r → agr mf mg F G → okF (9999 + x) F G → ∃ mf' mg' mv', k_X6_hushed_7 cn cf cg n (nI x) mf mg mc mv = some (huR Cs r x F G, mf', mg', mc, mv')
  | 0, 0, _, _, _, _, _, _, hn, _, _, _ => by omega
  | 0, n + 1, x, mf, mg, mv, F, G, hn, e, h, ho => by
    refine ⟨mf, mg, mv, ?_⟩
    show (if 60 < nI x then _ else _) = _
    rw [if_pos (show (60 : Int32) < nI x from nI_lt (a := 60) (by omega) (by omega))]
    rfl
  | r + 1, 0, _, _, _, _, _, _, hn, _, _, _ => by omega
  | r + 1, n + 1, x, mf, mg, mv, F, G, hn, e, h, ho => by
    simp only [k_X6_hushed_7, huR]
    rw [if_neg (show ¬ (60 : Int32) < nI x from nI_nlt (a := 60) (by omega) (by omega)), nI_1]
    obtain ⟨mv1, hq⟩ := soundC h ho (by omega) hc hk mv
    rw [hq, b2_s]
    by_cases c : Snd F G Cs = 0
    · rw [if_pos c, if_pos c]; exact ⟨_, _, _, rfl⟩
    rw [if_neg c, if_neg c]
    obtain ⟨mf1, mg1, hq1, h1⟩ := dayC false h ho (by omega) hc
    rw [show (1000000 : Int32) = mostC false from rfl, hq1, b2_s]
    exact huC hc hk r n (x + 1) mf1 mg1 mv1 _ _ (by omega) (by omega) h1 (d_ok ho)
theorem huM {Cs : List (Nat × Nat × List Nat)} {fi0 : Nat → Int32} {ga0 : Nat → Nat → Int32} (fs : Nat → Int32) (gs : Nat → Nat → Int32) (hg : svd fi0 ga0 fs gs) (hk : okCs Cs) : ∀ (r n x : Nat) (mf : Nat → Int32) (mg : Nat → Nat → Int32) (mv : Nat → Int32) (F : Nat → Nat) (G : Nat → Nat → Nat), r < n → 61 = x + r → agm mf mg F G → hasM mf mg Cs → frM fi0 ga0 mf mg → okF (9999 + x) F G → ∃ pl', k_X7_hushed_6 n (nI x) mf fs mg gs mv = some (huR Cs r x F G, fi0, upd fs 29 9999, ga0, gs, pl')
  | 0, 0, _, _, _, _, _, _, hn, _, _, _, _, _ => by omega
  | 0, n + 1, x, mf, mg, mv, F, G, hn, e, h, hM, hf, ho => by
    refine ⟨mv, ?_⟩
    show (if 61 ≤ nI x then _ else _) = _
    rw [if_pos (show (61 : Int32) ≤ nI x from nI_le (a := 61) (by omega) (by omega))]
    unfold k_X7_hushed_29
    rw [backM hg hf, b3_s, if_pos (show (61 : Int32) ≤ nI x from nI_le (a := 61) (by omega) (by omega))]
    rfl
  | r + 1, 0, _, _, _, _, _, _, hn, _, _, _, _, _ => by omega
  | r + 1, n + 1, x, mf, mg, mv, F, G, hn, e, h, hM, hf, ho => by
    simp only [k_X7_hushed_6, huR]
    rw [if_neg (show ¬ (61 : Int32) ≤ nI x from nI_ge (b := 61) (by omega) (by omega)), nI_1]
    obtain ⟨mv1, hq⟩ := soundM h ho (by omega) hM hk mv
    rw [hq, b2_s]
    by_cases c : Snd F G Cs = 0
    · rw [if_pos c, if_pos c]
      unfold k_X7_hushed_29
      rw [backM hg hf, b3_s, if_neg (show ¬ (61 : Int32) ≤ nI x from nI_ge (b := 61) (by omega) (by omega))]
      exact ⟨_, rfl⟩
    rw [if_neg c, if_neg c]
    obtain ⟨mf1, mg1, mv2, hq1, h1, g1⟩ := dayM false fs hg.1 h ho (by omega) hM hk mv1
    rw [hq1, b3_s]
    exact huM fs gs hg hk r n (x + 1) mf1 mg1 mv2 _ _ (by omega) (by omega) h1 (hasM_c g1 hM) (frM_t hf g1) (d_ok ho)
theorem hu_eq {nf : Nat → Int32} {ng : Nat → Nat → Int32} {nc : Option Nat} {cn : Nat} {cf : Nat → Nat → Int32} {cg : Nat → Nat → Nat → Int32} {fi : Nat → Int32} {ga : Nat → Nat → Int32} {F : Nat → Nat} {G : Nat → Nat → Nat} {Cs : List (Nat × Nat × List Nat)} (hs : sit nf ng nc cn cf cg fi ga F G Cs) (fs : Nat → Int32) (gs : Nat → Nat → Int32) (pl tf : Nat → Int32) (tg : Nat → Nat → Int32) (tc : Option Nat) (tv : Nat → Int32) : ∃ r tf' tg' tc' tv' fs' gs' pl', k_X6_hushed nf ng nc tf tg tc tv cn cf cg = some (r, tf', tg', tc', tv') ∧ k_X7_hushed fi fs ga gs pl = some (r, fi, fs', ga, gs', pl') ∧ fs' 29 = 9999 := by
  obtain ⟨ha, hm, ho, hc, hM, hk⟩ := hs
  obtain ⟨tf1, tg1, e1, g1⟩ := beginC ha nc tf tg tc
  obtain ⟨fs1, gs1, e2, g2⟩ := saveM fi fs ga gs
  obtain ⟨tf2, tg2, tv2, q1⟩ := huC hc hk 61 100000 0 tf1 tg1 tv F G (by omega) (by omega) g1 ho
  obtain ⟨pl2, q2⟩ := huM fs1 gs1 g2 hk 61 100000 0 fi ga pl F G (by omega) (by omega) hm hM ⟨fun _ _ _ _ _ _ => rfl, fun _ _ => rfl, fun _ _ => rfl⟩ ho
  refine ⟨huR Cs 61 0 F G, tf2, tg2, nc, tv2, upd fs1 29 9999, gs1, pl2, ?_, ?_, rfl⟩
  · unfold k_X6_hushed
    rw [e1, b3_s]
    exact q1
  · unfold k_X7_hushed
    rw [e2, b2_s]
    exact q2

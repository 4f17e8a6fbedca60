
theorem ok_w {B B' : Nat} {F : Nat → Nat} {G : Nat → Nat → Nat} (h : okF B F G) (hb : B ≤ B') : okF B' F G := by
  obtain ⟨h0, h1, h2, h3, h4, h5, h7, h11⟩ := h
  exact ⟨h0, h1, h2, by omega, by omega, by omega, fun p hp => by have := h7 p hp; omega, h11⟩
theorem ok_feB {B : Nat} {F : Nat → Nat} {G : Nat → Nat → Nat} (h : okF B F G) : okF B (stF F 2 0) G := by
  obtain ⟨h0, h1, h2, h3, h4, h5, h7, h11⟩ := h
  exact ⟨h0, h1, Nat.zero_le _, h3, h4, h5, h7, h11⟩
theorem enR {nc : Option Nat} {cn : Nat} {cf : Nat → Nat → Int32} {cg : Nat → Nat → Nat → Int32} {Cs : List (Nat × Nat × List Nat)} (hC : hasC nc cn cf cg Cs) (hk : okCs Cs) {fi0 : Nat → Int32} {ga0 : Nat → Nat → Int32} {npc : Int32} {npa npb : Nat → Int32} {pn : Nat} {w1 w2 : Nat → Nat} (hc : plC npc npa npb pn w1 w2) (hp : plM fi0 ga0 pn w1 w2) (a : Int32) (fs : Nat → Int32) (gs : Nat → Nat → Int32) (hg : svd fi0 ga0 fs gs) : ∀ (r n1 n2 x : Nat) (tf : Nat → Int32) (tg : Nat → Nat → Int32) (tv fi : Nat → Int32) (ga : Nat → Nat → Int32) (pl : Nat → Int32) (F : Nat → Nat) (G : Nat → Nat → Nat), r < n1 → r < n2 → pn = x + r → agr tf tg F G → agm fi ga F G → hasM fi ga Cs → frM fi0 ga0 fi ga → okF (9999 + x) F G → ∃ v tf' tg' tv' pl', k_X6_ends_17 a npc npa npb cn cf cg n1 (nI x) tf tg nc tv = some (v, tf', tg', nc, tv') ∧ k_X7_ends_18 a n2 (nI x) fi fs ga gs pl = some (v, fi0, upd fs 29 9999, ga0, gs, pl')
  | r, 0, _, _, _, _, _, _, _, _, _, _, hl, _, _, _, _, _, _, _ => by omega
  | r, _ + 1, 0, _, _, _, _, _, _, _, _, _, _, hl, _, _, _, _, _, _ => by omega
  | 0, n1 + 1, n2 + 1, x, tf, tg, tv, fi, ga, pl, F, G, hl1, hl2, e, h, hm, hM, hf, ho => by
    have h10 := hc.1
    have e39 : fi 39 = nI pn := (hf.1 39 (by omega) (by omega) (by omega) (by omega) (by omega)).trans hp.1
    simp only [k_X6_ends_17, k_X7_ends_18, k_X7_ends_63]
    rw [hc.2.1, e39, if_pos (nI_le (by omega) (by omega)), if_pos (nI_le (by omega) (by omega)), backM hg hf, b3_s, b3_s, h.1 2 (by omega), h.1 3 (by omega), hm.1 2 (by omega), hm.1 3 (by omega)]
    by_cases c : a = 0
    · rw [if_pos c, if_pos c]; exact ⟨_, _, _, _, _, rfl, rfl⟩
    · rw [if_neg c, if_neg c]; exact ⟨_, _, _, _, _, rfl, rfl⟩
  | r + 1, n1 + 1, n2 + 1, x, tf, tg, tv, fi, ga, pl, F, G, hl1, hl2, e, h, hm, hM, hf, ho => by
    have h10 := hc.1
    have e39 : fi 39 = nI pn := (hf.1 39 (by omega) (by omega) (by omega) (by omega) (by omega)).trans hp.1
    obtain ⟨q1, q2, q3⟩ := hc.2.2 x (by omega)
    obtain ⟨p1, p2⟩ := hp.2 x (by omega)
    have ih := fun tf tg tv fi ga pl F G => enR hC hk hc hp a fs gs hg r n1 n2 (x + 1) tf tg tv fi ga pl F G (by omega) (by omega) (by omega)
    simp only [k_X6_ends_17, k_X7_ends_18]
    rw [hc.2.1, e39, if_neg (nI_ge (by omega) (by omega)), if_neg (nI_ge (by omega) (by omega)), gd_n (by omega) (by omega), gd_n (by omega) (by omega), gd_n (by omega) (by omega), gd_n (by omega) (by omega), u_cl (show x < 2 ^ 31 by omega), q1, show ga 41 x = nI (w1 x) from (by rw [hf.2.1 41 (by omega)]; exact p1), nI_1, ← hc.2.1]
    have ho1 : okF (9999 + (x + 1)) F G := ok_w ho (by omega)
    have e42 : ga 42 x = ga0 42 x := by rw [hf.2.1 42 (by omega)]
    rcases (show w1 x = 0 ∨ w1 x = 1 ∨ w1 x = 2 ∨ w1 x = 3 by omega) with c | c | c | c
    · obtain ⟨tf1, tg1, tv1, e1, g1⟩ := runC false hC hk 1 (by omega) 1 100000 0 (9999 + x) tf tg tv F G (by omega) (by omega) h ho (by omega)
      have e1' : k_X1_passDays 1 1000000 tf tg nc tv cn cf cg = some (tf1, tg1, tv1) := e1
      obtain ⟨fi1, ga1, pl1, e2, g2, f2⟩ := dayM false fs hg.1 hm ho (by omega) hM hk pl
      simp only [k_X6_follow, k_X7_goPlan, k_X7_goPlan_8, k_X7_goPlan_33]
      rw [show nI (w1 x) = 0 by rw [c]; rfl, if_pos rfl, if_pos rfl, e1', e2, b3_s, b3_s, b3_s]
      exact ih _ _ _ _ _ _ _ _ g1 g2 (hasM_c f2 hM) (frM_t hf f2) (d_ok ho)
    · obtain ⟨r1, r2⟩ := q3 (Or.inl c)
      have r3 := p2 (Or.inl c)
      obtain ⟨o3, o4⟩ := u_orb (w2 x) r2 (F 1) ho.2.1
      simp only [k_X6_follow, k_X7_goPlan, k_X7_goPlan_8, k_X7_goPlan_30, k_X7_goPlan_33, k_X1_put, k_X7_goes]
      rw [show nI (w1 x) = 1 by rw [c]; rfl, e42, r3, r1]
      rw [h.1 1 (by omega), hm.1 1 (by omega), o3]
      exact ih _ _ _ _ _ _ _ _ (agr_st h 1 _) (agr_st hm 1 _) (hasM_e rfl (fun _ _ _ => rfl) hM) (frM_t hf ⟨fun k a _ _ _ _ => if_neg a, fun _ _ => rfl, fun _ _ => rfl⟩) (ok_up ho1 o4)
    · obtain ⟨r1, r2⟩ := q3 (Or.inr c)
      have r3 := p2 (Or.inr c)
      obtain ⟨o3, o4⟩ := u_offb (w2 x) r2 (F 1) ho.2.1
      simp only [k_X6_follow, k_X7_goPlan, k_X7_goPlan_8, k_X7_goPlan_30, k_X7_goPlan_33, k_X1_put, k_X7_goes]
      rw [show nI (w1 x) = 2 by rw [c]; rfl, e42, r3, r1]
      rw [h.1 1 (by omega), hm.1 1 (by omega), o3]
      exact ih _ _ _ _ _ _ _ _ (agr_st h 1 _) (agr_st hm 1 _) (hasM_e rfl (fun _ _ _ => rfl) hM) (frM_t hf ⟨fun k a _ _ _ _ => if_neg a, fun _ _ => rfl, fun _ _ => rfl⟩) (ok_up ho1 o4)
    · simp only [k_X6_follow, k_X7_goPlan, k_X7_goPlan_8, k_X7_goPlan_33]
      rw [show nI (w1 x) = 3 by rw [c]; rfl]
      exact ih _ _ _ _ _ _ _ _ (agr_st h 2 0) (agr_st hm 2 0) (hasM_e rfl (fun _ _ _ => rfl) hM) (frM_t hf ⟨fun k _ a _ _ _ => if_neg a, fun _ _ => rfl, fun _ _ => rfl⟩) (ok_feB ho1)
theorem op_ends {nf : Nat → Int32} {ng : Nat → Nat → Int32} {nc : Option Nat} {cn : Nat} {cf : Nat → Nat → Int32} {cg : Nat → Nat → Nat → Int32} {fi : Nat → Int32} {ga : Nat → Nat → Int32} {F : Nat → Nat} {G : Nat → Nat → Nat} {Cs : List (Nat × Nat × List Nat)} (hs : sit nf ng nc cn cf cg fi ga F G Cs) {npc : Int32} {npa npb : Nat → Int32} {pn : Nat} {w1 w2 : Nat → Nat} (hc : plC npc npa npb pn w1 w2) (hp : plM fi ga pn w1 w2) (a : Int32) (fs : Nat → Int32) (hfs : fs 29 = 9999) (gs : Nat → Nat → Int32) (pl tf : Nat → Int32) (tg : Nat → Nat → Int32) (tc : Option Nat) (tv : Nat → Int32) : ∃ r tf' tg' tc' tv' fs' gs' pl', k_X6_ends a nf ng nc npc npa npb tf tg tc tv cn cf cg = some (r, tf', tg', tc', tv') ∧ k_X7_ends a fi fs ga gs pl = some (r, fi, fs', ga, gs', pl') ∧ fs' 29 = 9999 := by
  obtain ⟨ha, hm, ho, hC, hM, hk⟩ := id hs
  unfold k_X6_ends k_X7_ends
  rw [isW]
  rcases inN a 1 1 rfl with e | ⟨e, k, hk1, ek⟩
  · rw [e]
    exact ⟨_, _, _, _, _, _, _, _, rfl, rfl, hfs⟩
  rw [e, b1_s, b1_s, if_neg (show ¬ (1 : Int32) = 0 by decide), if_neg (show ¬ (1 : Int32) = 0 by decide)]
  obtain ⟨tf1, tg1, e1, g1⟩ := beginC ha nc tf tg tc
  obtain ⟨fs1, gs1, e2, g2⟩ := saveM fi fs ga gs
  obtain ⟨v, tf2, tg2, tv2, pl2, q1, q2⟩ := enR hC hk hc hp a fs1 gs1 g2 pn 100000 100000 0 tf1 tg1 tv fi ga pl F G (by have := hc.1; omega) (by have := hc.1; omega) (by omega) g1 hm hM ⟨fun _ _ _ _ _ _ => rfl, fun _ _ => rfl, fun _ _ => rfl⟩ ho
  rw [e1, b3_s, e2, b2_s]
  exact ⟨v, tf2, tg2, nc, tv2, upd fs1 29 9999, gs1, pl2, q1, q2, rfl⟩
theorem unC : ∀ g, g < 7 → ∀ k, k < 7 → k_X6_isUnder (nI g) (nI k) = some (bI (decide (k = 0 ∨ g = k ∨ (k = 1 ∧ g = 4) ∨ (k = 2 ∧ g = 5) ∨ (k = 3 ∧ g = 6)))) := by decide +kernel
noncomputable def tkM (a2 x3 : Int32) : Option Int32 := if a2 = 0 then some x3 else if x3 = a2 then some x3 else if a2 = 1 then if x3 = 4 then some x3 else k_X7_taken_51 a2 x3 else k_X7_taken_51 a2 x3
theorem unM : ∀ g, g < 7 → ∀ k, k < 7 → tkM (nI k) (nI g) = some (if (k = 0 ∨ g = k ∨ (k = 1 ∧ g = 4) ∨ (k = 2 ∧ g = 5) ∨ (k = 3 ∧ g = 6)) then nI g else -12) := by decide +kernel
theorem op_taken {nf : Nat → Int32} {ng : Nat → Nat → Int32} {fi : Nat → Int32} {ga : Nat → Nat → Int32} {F : Nat → Nat} {G : Nat → Nat → Nat} (ha : agr nf ng F G) (hm : agm fi ga F G) (ho : okF 9999 F G) (a b : Int32) : ∃ v, k_X6_taken a b nf ng = some v ∧ k_X7_taken a b fi ga = some v := by
  unfold k_X6_taken k_X7_taken
  have h6 := ho.1
  rw [isW]
  rcases inN b 6 6 rfl with e | ⟨e, k, hk, ek⟩
  · rw [e]; exact ⟨_, rfl, rfl⟩
  subst ek
  rw [e, b1_s, b1_s, if_neg (show ¬ (1 : Int32) = 0 by decide), if_neg (show ¬ (1 : Int32) = 0 by decide)]
  rcases manQ h6 (ha.1 0 (by omega)) (hm.1 0 (by omega)) a with ⟨e1, e2⟩ | ⟨e1, e2, p, hp, ep⟩
  · rw [e1, e2]; exact ⟨_, rfl, rfl⟩
  subst ep
  have hq := ho.2.2.2.2.2.2.1 p (by omega)
  rw [e1, e2, b1_s, b1_s, if_neg (show ¬ (1 : Int32) = 0 by decide), if_neg (show ¬ (1 : Int32) = 0 by decide), gd_n (by omega) (by omega), gd_n (by omega) (by omega), gd_n (by omega) (by omega), u_cl (show p < 2 ^ 31 by omega), ha.2.1 7 p (by omega) (by omega) (by omega), show ga 6 p = nI (G 7 p) from hm.2.1 7 p (by omega) (by omega) (by omega), unC _ (by omega) k (by omega), b1_s]
  have hM := unM (G 7 p) (by omega) k (by omega)
  have hM' : (if nI k = 0 then some (nI (G 7 p)) else if nI (G 7 p) = nI k then some (nI (G 7 p)) else if nI k = 1 then if nI (G 7 p) = 4 then some (nI (G 7 p)) else k_X7_taken_51 (nI k) (nI (G 7 p)) else k_X7_taken_51 (nI k) (nI (G 7 p))) = _ := hM
  rw [hM']
  by_cases c : (k = 0 ∨ G 7 p = k ∨ (k = 1 ∧ G 7 p = 4) ∨ (k = 2 ∧ G 7 p = 5) ∨ (k = 3 ∧ G 7 p = 6))
  · rw [if_pos c, decide_eq_true c]; exact ⟨_, rfl, rfl⟩
  · rw [if_neg c, decide_eq_false c]; exact ⟨_, rfl, rfl⟩
theorem op_count {pf nf xf af fi : Nat → Int32} {nhc npc nbc : Int32} (h0 : nf 0 = fi 0) (h1 : pf 7 = fi 11) (h2 : nhc = fi 36) (h3 : npc = fi 39) (h4 : nbc = fi 40) (h5 : xf 0 = fi 13) (h6 : af 0 = fi 67) (a : Int32) : ∃ v, k_X6_count a pf nf nhc npc nbc xf af = some v ∧ k_X7_count a fi = some v := by
  unfold k_X6_count k_X7_count
  rw [h0, h1, h2, h3, h4, h5, h6]
  by_cases c : a = 0
  · rw [if_pos c]; exact ⟨_, rfl, rfl⟩
  rw [if_neg c]; clear c
  by_cases c : a = 1
  · rw [if_pos c]; exact ⟨_, rfl, rfl⟩
  rw [if_neg c]; clear c
  by_cases c : a = 2
  · rw [if_pos c]; exact ⟨_, rfl, rfl⟩
  rw [if_neg c]; clear c
  by_cases c : a = 3
  · rw [if_pos c]; exact ⟨_, rfl, rfl⟩
  rw [if_neg c]; clear c
  by_cases c : a = 4
  · rw [if_pos c]; exact ⟨_, rfl, rfl⟩
  rw [if_neg c]; clear c
  by_cases c : a = 5
  · rw [if_pos c]; exact ⟨_, rfl, rfl⟩
  rw [if_neg c]; clear c
  by_cases c : a = 6
  · rw [if_pos c]; exact ⟨_, rfl, rfl⟩
  rw [if_neg c]
  exact ⟨_, rfl, rfl⟩
def acR (af ab fi : Nat → Int32) (ga : Nat → Nat → Int32) (n : Nat) : Prop := n ≤ 100 ∧ af 0 = nI n ∧ fi 67 = nI n ∧ ∀ k, k < 20 → ab k = ga 68 k
theorem op_trace {af ab fi : Nat → Int32} {ga : Nat → Nat → Int32} {n : Nat} (h : acR af ab fi ga n) (a : Int32) : ∃ v, k_X6_trace a af ab = some v ∧ k_X7_trace a fi ga = some v := by
  obtain ⟨h0, h1, h2, h3⟩ := h
  unfold k_X6_trace k_X7_trace k_X6_isWithin k_X7_in
  rw [h1, h2, nm_e1]
  by_cases c : a < 0
  · rw [if_pos c, if_pos c]; exact ⟨_, rfl, rfl⟩
  rw [if_neg c, if_neg c]
  obtain ⟨k, hk, ek⟩ := nI_of c
  subst ek
  have em : (if (20 : Int32) < nI n then 20 else nI n) = nI (if 20 < n then 20 else n) := by
    by_cases d : 20 < n
    · rw [if_pos (show (20 : Int32) < nI n from nI_lt (a := 20) d (by omega)), if_pos d]; rfl
    · rw [if_neg (show ¬ (20 : Int32) < nI n from nI_nlt (a := 20) (by omega) (by omega)), if_neg d]
  rw [em]
  have hm : (if 20 < n then 20 else n) ≤ 20 := by split <;> omega
  by_cases d : (if 20 < n then 20 else n) ≤ k
  · rw [if_pos ((u_m1 (by omega) hk).mpr d)]
    by_cases e : 19 < k
    · rw [if_pos (show (19 : Int32) < nI k from nI_lt (a := 19) e hk)]; exact ⟨_, rfl, rfl⟩
    · rw [if_neg (show ¬ (19 : Int32) < nI k from nI_nlt (a := 19) (by omega) (by omega)), b1_s, b1_s, if_pos (show (0 : Int32) = 0 from rfl), if_neg (show ¬ (1 : Int32) = 0 by decide), if_pos (nI_le (by split at d <;> omega) hk)]
      exact ⟨_, rfl, rfl⟩
  · rw [if_neg (fun y => d ((u_m1 (by omega) hk).mp y)), if_neg (show ¬ (19 : Int32) < nI k from nI_nlt (a := 19) (by omega) (by omega)), b1_s, b1_s, if_neg (show ¬ (1 : Int32) = 0 by decide), if_neg (show ¬ (1 : Int32) = 0 by decide), if_neg (nI_ge (by split at d <;> omega) (by omega)), gd_n (by omega) (by omega), gd_n (by omega) (by omega), u_cl hk, h3 k (by omega)]
    exact ⟨_, rfl, rfl⟩

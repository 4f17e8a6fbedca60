
theorem manQ {nf fi : Nat → Int32} {m : Nat} (hm : m ≤ 6) (h1 : nf 0 = nI m) (h2 : fi 0 = nI m) (a : Int32) : (k_X1_has a nf = some 0 ∧ k_X7_isMan a fi = some 0) ∨ (k_X1_has a nf = some 1 ∧ k_X7_isMan a fi = some 1 ∧ ∃ p, p < m ∧ a = nI p) := by
  unfold k_X1_has k_X7_isMan k_X7_in
  rw [h1, h2]
  by_cases c : a < 0
  · rw [if_pos c, if_pos c]; exact Or.inl ⟨rfl, rfl⟩
  rw [if_neg c, if_neg c]
  obtain ⟨k, hk, ek⟩ := nI_of c
  subst ek
  by_cases d : m ≤ k
  · rw [if_pos (nI_le d hk), if_pos ((u_m1 (by omega) hk).mpr d)]; exact Or.inl ⟨rfl, rfl⟩
  · rw [if_neg (nI_ge (by omega) (by omega)), if_neg (fun y => d ((u_m1 (by omega) hk).mp y))]
    exact Or.inr ⟨rfl, rfl, k, by omega, rfl⟩
theorem op_of {nhc : Int32} {nha nhb : Nat → Int32} {hn : Nat} {h1 h2 : Nat → Nat} (hc : hrC nhc nha nhb hn h1 h2) {nf : Nat → Int32} {ng : Nat → Nat → Int32} {nc : Option Nat} {cn : Nat} {cf : Nat → Nat → Int32} {cg : Nat → Nat → Nat → Int32} {fi : Nat → Int32} {ga : Nat → Nat → Int32} {F : Nat → Nat} {G : Nat → Nat → Nat} {Cs : List (Nat × Nat × List Nat)} (hs : sit nf ng nc cn cf cg fi ga F G Cs) (hh : hrM fi ga hn h1 h2) (a b : Int32) (fs : Nat → Int32) (hfs : fs 29 = 9999) (gs : Nat → Nat → Int32) (pl nv tf : Nat → Int32) (tg : Nat → Nat → Int32) (tc : Option Nat) (tv : Nat → Int32) : ∃ r nv' tf' tg' tc' tv' fs' gs' pl', k_X6_of a b nf ng nc nv nhc nha nhb tf tg tc tv cn cf cg = some (r, nv', tf', tg', tc', tv') ∧ k_X7_of a b fi fs ga gs pl = some (r, fi, fs', ga, gs', pl') ∧ fs' 29 = 9999 := by
  obtain ⟨ha, hm, ho, hC, hM, hk⟩ := id hs
  have h6 := ho.1
  have hu6 := ho.2.1
  unfold k_X6_of k_X7_of
  rcases manQ h6 (ha.1 0 (by omega)) (hm.1 0 (by omega)) a with ⟨e1, e2⟩ | ⟨e1, e2, p, hp, ep⟩
  · rw [e1, e2]
    exact ⟨_, _, _, _, _, _, _, _, _, rfl, rfl, hfs⟩
  subst ep
  have g1 : ∀ {α : Type} (o : Option α), gd (nI p) 6 o = o := fun o => gd_n (by omega) (by omega)
  rw [e1, e2, b1_s, b1_s, if_neg (show ¬ (1 : Int32) = 0 by decide), if_neg (show ¬ (1 : Int32) = 0 by decide)]
  simp only [g1]
  rw [u_cl (by omega), ha.2.1 7 p (by omega) (by omega) (by omega), ha.2.1 8 p (by omega) (by omega) (by omega), ha.2.1 9 p (by omega) (by omega) (by omega), ha.2.1 10 p (by omega) (by omega) (by omega), show ga 6 p = nI (G 7 p) from hm.2.1 7 p (by omega) (by omega) (by omega), show ga 7 p = nI (G 8 p) from hm.2.1 8 p (by omega) (by omega) (by omega), show ga 8 p = nI (G 9 p) from hm.2.1 9 p (by omega) (by omega) (by omega), show ga 9 p = nI (G 10 p) from hm.2.1 10 p (by omega) (by omega) (by omega)]
  by_cases c : b = 0
  · rw [if_pos c, if_pos c]; exact ⟨_, _, _, _, _, _, _, _, _, rfl, rfl, hfs⟩
  rw [if_neg c, if_neg c]; clear c
  by_cases c : b = 1
  · rw [if_pos c, if_pos c]; exact ⟨_, _, _, _, _, _, _, _, _, rfl, rfl, hfs⟩
  rw [if_neg c, if_neg c]; clear c
  by_cases c : b = 2
  · rw [if_pos c, if_pos c]; exact ⟨_, _, _, _, _, _, _, _, _, rfl, rfl, hfs⟩
  rw [if_neg c, if_neg c]; clear c
  by_cases c : b = 3
  · rw [if_pos c, if_pos c, upC (ha.1 1 (by omega)) hu6 (by omega), hm.1 1 (by omega), hasB (by omega) (by omega), b1_s, b1_s]
    rcases Bool.eq_false_or_eq_true ((F 1).testBit p) with d | d
    · rw [if_neg (bi_t d), if_neg (bi_t d)]; exact ⟨_, _, _, _, _, _, _, _, _, rfl, rfl, hfs⟩
    · rw [if_pos (bi_f d), if_pos (bi_f d)]; exact ⟨_, _, _, _, _, _, _, _, _, rfl, rfl, hfs⟩
  rw [if_neg c, if_neg c]; clear c
  by_cases c : b = 4
  · rw [if_pos c, if_pos c]; exact ⟨_, _, _, _, _, _, _, _, _, rfl, rfl, hfs⟩
  rw [if_neg c, if_neg c]; clear c
  by_cases c : b = 5
  · obtain ⟨nv1, q1⟩ := noiseC ha ho (by omega) hC hk p (by omega) nv
    obtain ⟨pl1, q2⟩ := noiseM hm ho (by omega) hM hk p (by omega) pl
    rw [if_pos c, if_pos c, q1, q2]
    exact ⟨_, _, _, _, _, _, _, _, _, rfl, rfl, hfs⟩
  rw [if_neg c, if_neg c]; clear c
  by_cases c : b = 6
  · obtain ⟨tf1, tg1, tc1, tv1, q1⟩ := lkC hc hs p (by omega) 21 100000 0 0 tf tg tc tv (by omega) (by omega)
    obtain ⟨fs1, gs1, pl1, q2, f1⟩ := lkM hc.1 (fun i hi => (hc.2.2 i hi).2.2) hs hh p (by omega) 21 100000 0 0 (ga 8 p) fs gs pl hfs (by omega) (by omega)
    rw [up_id] at q2
    have q1' : k_X6_likelyNerves (nI p) nf ng nc nhc nha nhb tf tg tc tv cn cf cg = some (nI (lkR (pLk F G Cs hn h1 h2 9 p) 21 0 0), tf1, tg1, tc1, tv1) := q1
    have q2' : k_X7_nerves (nI p) fi fs ga gs pl = some (nI (lkR (pLk F G Cs hn h1 h2 9 p) 21 0 0), fi, fs1, ga, gs1, pl1) := by
      unfold k_X7_nerves
      rw [g1, u_cl (by omega)]
      exact q2
    rw [if_pos c, if_pos c, q1', q2']
    exact ⟨_, _, _, _, _, _, _, _, _, rfl, rfl, f1⟩
  rw [if_neg c, if_neg c]
  exact ⟨_, _, _, _, _, _, _, _, _, rfl, rfl, hfs⟩
theorem op_can {nhc : Int32} {nha nhb : Nat → Int32} {hn : Nat} {h1 h2 : Nat → Nat} (hc : hrC nhc nha nhb hn h1 h2) {nf : Nat → Int32} {ng : Nat → Nat → Int32} {nc : Option Nat} {cn : Nat} {cf : Nat → Nat → Int32} {cg : Nat → Nat → Nat → Int32} {fi : Nat → Int32} {ga : Nat → Nat → Int32} {F : Nat → Nat} {G : Nat → Nat → Nat} {Cs : List (Nat × Nat × List Nat)} (hs : sit nf ng nc cn cf cg fi ga F G Cs) (hh : hrM fi ga hn h1 h2) (a b : Int32) (fs : Nat → Int32) (hfs : fs 29 = 9999) (gs : Nat → Nat → Int32) (pl tf : Nat → Int32) (tg : Nat → Nat → Int32) (tc : Option Nat) (tv : Nat → Int32) : ∃ r tf' tg' tc' tv' fs' gs' pl', k_X6_can a b nf ng nc nhc nha nhb tf tg tc tv cn cf cg = some (r, tf', tg', tc', tv') ∧ k_X7_can a b fi fs ga gs pl = some (r, fi, fs', ga, gs', pl') ∧ fs' 29 = 9999 := by
  obtain ⟨ha, hm, ho, hC, hM, hk⟩ := id hs
  have h6 := ho.1
  unfold k_X6_can k_X7_can
  rcases manQ h6 (ha.1 0 (by omega)) (hm.1 0 (by omega)) a with ⟨e1, e2⟩ | ⟨e1, e2, p, hp, ep⟩
  · rw [e1, e2]
    exact ⟨_, _, _, _, _, _, _, _, rfl, rfl, hfs⟩
  subst ep
  rw [e1, e2, b1_s, b1_s, if_neg (show ¬ (1 : Int32) = 0 by decide), if_neg (show ¬ (1 : Int32) = 0 by decide), isW]
  rcases inN b 1 1 rfl with e | ⟨e, k1, hk1, ek1⟩
  · rw [e]
    exact ⟨_, _, _, _, _, _, _, _, rfl, rfl, hfs⟩
  rw [e, b1_s, b1_s, if_neg (show ¬ (1 : Int32) = 0 by decide), if_neg (show ¬ (1 : Int32) = 0 by decide), gd_n (by omega) (by omega), u_cl (by omega)]
  obtain ⟨tf1, tg1, tc1, tv1, q1⟩ := lkV hc hs p (by omega) 10 100000 0 0 tf tg tc tv (by omega) (by omega)
  have q1' : k_X6_likelyNumbers (nI p) nf ng nc nhc nha nhb tf tg tc tv cn cf cg = some (nI (lkR (pLk F G Cs hn h1 h2 8 p) 10 0 0), tf1, tg1, tc1, tv1) := q1
  obtain ⟨b1', b2', b3'⟩ := lkR_bit (pLk F G Cs hn h1 h2 8 p) 10 0 0 (by omega)
  have hml : lkR (pLk F G Cs hn h1 h2 8 p) 10 0 0 < 1024 := b1'
  rw [q1', b5_s]
  generalize hmm : lkR (pLk F G Cs hn h1 h2 8 p) 10 0 0 = m at hml b3'
  obtain ⟨fs1, gs1, pl1, q2, f1⟩ := caM hc.1 (fun i hi => (hc.2.2 i hi).2.2) hs hh p (by omega) b m (fun y hy => b3' y (Nat.zero_le _) (by omega)) 10 100000 (ga 7 p) fs gs pl hfs (by omega) (by omega)
  rw [up_id] at q2
  have q2' : k_X7_can_38 (nI p) b 100000 (ga 7 p) 0 (-5) 9 fi fs ga gs pl = some (if b = 0 then nI (pcR m 10 0 0) else lsR m 10 0, fi, fs1, ga, gs1, pl1) := q2
  have q3 := lsC m hml 10 100000 0 (by omega) (by omega)
  have q3' : k_X6_leastOf (nI m) = some (lsR m 10 0) := q3
  rw [q2', bc10 m hml, q3', b1_s, b1_s]
  by_cases c : b = 0
  · rw [if_pos c, if_pos c]
    exact ⟨_, _, _, _, _, _, _, _, rfl, rfl, f1⟩
  · rw [if_neg c, if_neg c]
    exact ⟨_, _, _, _, _, _, _, _, rfl, rfl, f1⟩
def odR (F : Nat → Nat) (G : Nat → Nat → Nat) (Cs : List (Nat × Nat × List Nat)) (k : Nat) : Nat → Nat → Nat → Nat
  | 0, _, a => a
  | r + 1, o, a => odR F G Cs k r (o + 1) (if F 3 < trB F G Cs k (F 1 ^^^ 2 ^ o) then a + 1 else a)
theorem odR_le (F : Nat → Nat) (G : Nat → Nat → Nat) (Cs : List (Nat × Nat × List Nat)) (k : Nat) : ∀ (r o a : Nat), odR F G Cs k r o a ≤ a + r
  | 0, _, _ => Nat.le_refl _
  | r + 1, o, a => by
    have := odR_le F G Cs k r (o + 1) (if F 3 < trB F G Cs k (F 1 ^^^ 2 ^ o) then a + 1 else a)
    show odR F G Cs k r (o + 1) (if F 3 < trB F G Cs k (F 1 ^^^ 2 ^ o) then a + 1 else a) ≤ _
    split at this <;> split <;> simp_all <;> omega
theorem odC {nf : Nat → Int32} {ng : Nat → Nat → Int32} {nc : Option Nat} {cn : Nat} {cf : Nat → Nat → Int32} {cg : Nat → Nat → Nat → Int32} {fi : Nat → Int32} {ga : Nat → Nat → Int32} {F : Nat → Nat} {G : Nat → Nat → Nat} {Cs : List (Nat × Nat × List Nat)} (hs : sit nf ng nc cn cf cg fi ga F G Cs) (k : Nat) (hk12 : k ≤ 60) (b : Int32) (L : Int64) (E : Nat) (hL : k_X6_lowest (nI E) (nI (F 0)) b = some L) : ∀ (r n x g : Nat) (tf : Nat → Int32) (tg : Nat → Nat → Int32) (tc : Option Nat) (tv : Nat → Int32), r < n → F 0 = x + r → E = odR F G Cs k r x g → ∃ tf' tg' tc' tv', k_X6_odds_36 (nI k) b nf ng nc cn cf cg n (nI g) (nI x) tf tg tc tv = some (L, tf', tg', tc', tv')
  | 0, 0, _, _, _, _, _, _, hlt, _, _ => by omega
  | 0, n + 1, x, g, tf, tg, tc, tv, hlt, e, hE => by
    have h6 := hs.2.2.1.1
    refine ⟨tf, tg, tc, tv, ?_⟩
    have hE' : E = g := hE
    simp only [k_X6_odds_36]
    rw [hs.1.1 0 (by omega), if_pos (nI_le (by omega) (by omega)), ← hE', hL, b1_s]
  | r + 1, 0, _, _, _, _, _, _, hlt, _, _ => by omega
  | r + 1, n + 1, x, g, tf, tg, tc, tv, hlt, e, hE => by
    have h6 := hs.2.2.1.1
    have h3 := hs.2.2.1.2.2.2.1
    obtain ⟨w1, w2⟩ := u_xob x (by omega) (F 1) hs.2.2.1.2.1
    have l2 := trB_le (Cs := Cs) hs.2.2.1 k _ hk12 w2
    simp only [k_X6_odds_36]
    rw [hs.1.1 0 (by omega), if_neg (nI_ge (by omega) (by omega)), hs.1.1 1 (by omega), w1, nI_1, nI_1, hs.1.1 3 (by omega)]
    obtain ⟨tf1, tg1, tc1, tv1, q⟩ := trC hs k _ hk12 w2 tf tg tc tv
    rw [q, b5_s]
    simp only [odR] at hE
    by_cases c : F 3 < trB F G Cs k (F 1 ^^^ 2 ^ x)
    · rw [if_neg (nI_ge c (by omega))]
      rw [if_pos c] at hE
      exact odC hs k hk12 b L E hL r n (x + 1) (g + 1) _ _ _ _ (by omega) (by omega) hE
    · rw [if_pos (nI_le (by omega) (by omega))]
      rw [if_neg c] at hE
      exact odC hs k hk12 b L E hL r n (x + 1) g _ _ _ _ (by omega) (by omega) hE
theorem odM {nf : Nat → Int32} {ng : Nat → Nat → Int32} {nc : Option Nat} {cn : Nat} {cf : Nat → Nat → Int32} {cg : Nat → Nat → Nat → Int32} {fi : Nat → Int32} {ga : Nat → Nat → Int32} {F : Nat → Nat} {G : Nat → Nat → Nat} {Cs : List (Nat × Nat × List Nat)} (hs : sit nf ng nc cn cf cg fi ga F G Cs) (k : Nat) (hk12 : k ≤ 60) (b : Int32) (L : Int64) (E : Nat) (hL : k_X7_lowest (nI E) (nI (F 0)) b = some L) : ∀ (r n x g : Nat) (fs : Nat → Int32) (gs : Nat → Nat → Int32) (pl : Nat → Int32), fs 29 = 9999 → r < n → F 0 = x + r → E = odR F G Cs k r x g → ∃ fs' gs' pl', k_X7_odds_37 (nI k) b n (nI g) (nI x) fi fs ga gs pl = some (L, fi, fs', ga, gs', pl') ∧ fs' 29 = 9999
  | 0, 0, _, _, _, _, _, _, hlt, _, _ => by omega
  | 0, n + 1, x, g, fs, gs, pl, hf, hlt, e, hE => by
    have h6 := hs.2.2.1.1
    refine ⟨fs, gs, pl, ?_, hf⟩
    have hE' : E = g := hE
    simp only [k_X7_odds_37]
    rw [hs.2.1.1 0 (by omega), if_pos (nI_le (by omega) (by omega)), ← hE', hL, b1_s]
  | r + 1, 0, _, _, _, _, _, _, hlt, _, _ => by omega
  | r + 1, n + 1, x, g, fs, gs, pl, hf, hlt, e, hE => by
    have h6 := hs.2.2.1.1
    have h3 := hs.2.2.1.2.2.2.1
    obtain ⟨w1, w2⟩ := u_xob x (by omega) (F 1) hs.2.2.1.2.1
    have l2 := trB_le (Cs := Cs) hs.2.2.1 k _ hk12 w2
    simp only [k_X7_odds_37]
    rw [hs.2.1.1 0 (by omega), if_neg (nI_ge (by omega) (by omega)), hs.2.1.1 1 (by omega), w1, nI_1, nI_1, Int32.add_zero]
    obtain ⟨fs1, gs1, pl1, q, f1⟩ := trM hs k _ hk12 w2 fs gs pl
    rw [q, b6_s, hs.2.1.1 3 (by omega)]
    simp only [odR] at hE
    by_cases c : F 3 < trB F G Cs k (F 1 ^^^ 2 ^ x)
    · rw [if_neg (nI_ge c (by omega))]
      rw [if_pos c] at hE
      exact odM hs k hk12 b L E hL r n (x + 1) (g + 1) _ _ _ f1 (by omega) (by omega) hE
    · rw [if_pos (nI_le (by omega) (by omega))]
      rw [if_neg c] at hE
      exact odM hs k hk12 b L E hL r n (x + 1) g _ _ _ f1 (by omega) (by omega) hE
theorem lowQ (A B k : Nat) (hA : A < 121) (hB : B < 7) (hB0 : 0 < B) (hk : k ≤ 1) : ∃ L, k_X6_lowest (nI A) (nI B) (nI k) = some L ∧ k_X7_lowest (nI A) (nI B) (nI k) = some L := by
  rcases (show k = 0 ∨ k = 1 by omega) with e | e <;> subst e
  · obtain ⟨e1, e2⟩ := lowE B hB hB0 A hA
    obtain ⟨L, hL⟩ := Option.isSome_iff_exists.mp e2
    exact ⟨L, hL, e1 ▸ hL⟩
  · obtain ⟨e1, e2⟩ := lowE1 B hB hB0 A hA
    obtain ⟨L, hL⟩ := Option.isSome_iff_exists.mp e2
    exact ⟨L, hL, e1 ▸ hL⟩
theorem op_odds {nf : Nat → Int32} {ng : Nat → Nat → Int32} {nc : Option Nat} {cn : Nat} {cf : Nat → Nat → Int32} {cg : Nat → Nat → Nat → Int32} {fi : Nat → Int32} {ga : Nat → Nat → Int32} {F : Nat → Nat} {G : Nat → Nat → Nat} {Cs : List (Nat × Nat × List Nat)} (hs : sit nf ng nc cn cf cg fi ga F G Cs) (a b : Int32) (fs : Nat → Int32) (hfs : fs 29 = 9999) (gs : Nat → Nat → Int32) (pl tf : Nat → Int32) (tg : Nat → Nat → Int32) (tc : Option Nat) (tv : Nat → Int32) : ∃ r tf' tg' tc' tv' fs' gs' pl', k_X6_odds a b nf ng nc tf tg tc tv cn cf cg = some (r, tf', tg', tc', tv') ∧ k_X7_odds a b fi fs ga gs pl = some (r, fi, fs', ga, gs', pl') ∧ fs' 29 = 9999 := by
  have h6 := hs.2.2.1.1
  unfold k_X6_odds k_X7_odds
  rw [isW, isW]
  rcases inN a 20 20 rfl with e | ⟨e, k, hk20, ek⟩
  · rw [e]
    exact ⟨_, _, _, _, _, _, _, _, rfl, rfl, hfs⟩
  subst ek
  rw [e, b1_s, b1_s, if_neg (show ¬ (1 : Int32) = 0 by decide), if_neg (show ¬ (1 : Int32) = 0 by decide)]
  clear e
  rcases inN b 1 1 rfl with e | ⟨e, k1, hk1, ek1⟩
  · rw [e]
    exact ⟨_, _, _, _, _, _, _, _, rfl, rfl, hfs⟩
  subst ek1
  rw [e, b1_s, b1_s, if_neg (show ¬ (1 : Int32) = 0 by decide), if_neg (show ¬ (1 : Int32) = 0 by decide), hs.1.1 0 (by omega), hs.2.1.1 0 (by omega)]
  by_cases c : F 0 = 0
  · rw [if_pos (show nI (F 0) = 0 by rw [c]; rfl), if_pos (show nI (F 0) = 0 by rw [c]; rfl)]
    exact ⟨_, _, _, _, _, _, _, _, rfl, rfl, hfs⟩
  rw [if_neg (show ¬ nI (F 0) = 0 from fun y => c ((u_ei (b := 0) (by omega) (by omega)).mp y)), if_neg (show ¬ nI (F 0) = 0 from fun y => c ((u_ei (b := 0) (by omega) (by omega)).mp y))]
  have hle := odR_le F G Cs k (F 0) 0 0
  obtain ⟨L, e1, e2⟩ := lowQ (odR F G Cs k (F 0) 0 0) (F 0) k1 (by omega) (by omega) (by omega) hk1
  obtain ⟨tf1, tg1, tc1, tv1, q1⟩ := odC hs k (by omega) (nI k1) L _ e1 (F 0) 100000 0 0 tf tg tc tv (by omega) (by omega) rfl
  obtain ⟨fs1, gs1, pl1, q2, f1⟩ := odM hs k (by omega) (nI k1) L _ e2 (F 0) 100000 0 0 fs gs pl hfs (by omega) (by omega) rfl
  exact ⟨_, _, _, _, _, _, _, _, q1, q2, f1⟩
def ctR (u : Nat) : Nat → Nat → Nat → Nat
  | 0, _, a => a
  | r + 1, o, a => ctR u r (o + 1) (if u.testBit o = true then a else a + 1)
theorem ctE : ∀ m, m < 7 → ∀ u, u < 64 → ctR u m 0 0 = pc ((2 ^ m - 1) &&& (63 - u)) ∧ ctR u m 0 0 ≤ m := by decide +kernel
def neR (u : Nat) (N : Nat → Nat) : Nat → Nat → Nat → Nat
  | 0, _, a => a
  | r + 1, o, a => neR u N r (o + 1) (if u.testBit o = true then a else a + N o)
theorem neR_le (u : Nat) (N : Nat → Nat) : ∀ (r o a : Nat), (∀ p, p < o + r → N p ≤ 20) → neR u N r o a ≤ a + 20 * r
  | 0, _, _, _ => by simp [neR]
  | r + 1, o, a, h => by
    have h9 := h o (by omega)
    have := neR_le u N r (o + 1) (if u.testBit o = true then a else a + N o) (fun p hp => h p (by omega))
    show neR u N r (o + 1) (if u.testBit o = true then a else a + N o) ≤ _
    by_cases c : u.testBit o = true
    · rw [if_pos c] at this ⊢; omega
    · rw [if_neg c] at this ⊢; omega
noncomputable def meE (a c s : Int32) : Option Int64 := b1 (k_X6_isWithin a 1) (fun r2 => if r2 = 0 then some (-9223372036854775808) else if c = 0 then some (-9223372036854775808) else b1 (k_X6_lowest s c a) (fun r7 => some r7))
theorem meC {nf : Nat → Int32} {ng : Nat → Nat → Int32} {nc : Option Nat} {cn : Nat} {cf : Nat → Nat → Int32} {cg : Nat → Nat → Nat → Int32} {fi : Nat → Int32} {ga : Nat → Nat → Int32} {F : Nat → Nat} {G : Nat → Nat → Nat} {Cs : List (Nat × Nat × List Nat)} (hs : sit nf ng nc cn cf cg fi ga F G Cs) (a : Int32) : ∀ (r n o x y : Nat), r < n → F 0 = o + r → k_X6_mean_7 a nf ng n (nI x) (nI y) (nI o) = meE a (nI (ctR (F 1) r o x)) (nI (neR (F 1) (G 9) r o y))
  | 0, 0, _, _, _, hlt, _ => by omega
  | 0, n + 1, o, x, y, hlt, e => by
    have h6 := hs.2.2.1.1
    show (if (nf 0) ≤ nI o then _ else _) = _
    rw [hs.1.1 0 (by omega), if_pos (nI_le (by omega) (by omega))]
    rfl
  | r + 1, 0, _, _, _, hlt, _ => by omega
  | r + 1, n + 1, o, x, y, hlt, e => by
    have h6 := hs.2.2.1.1
    simp only [k_X6_mean_7, ctR, neR]
    rw [hs.1.1 0 (by omega), if_neg (nI_ge (by omega) (by omega)), upC (hs.1.1 1 (by omega)) hs.2.2.1.2.1 (by omega), b1_s, gd_n (by omega) (by omega), u_cl (by omega), hs.1.2.1 9 o (by omega) (by omega) (by omega), nI_1, nI_1, u_ab]
    rcases Bool.eq_false_or_eq_true ((F 1).testBit o) with c | c
    · rw [if_neg (bi_t c), if_pos c, if_pos c]
      exact meC hs a r n (o + 1) x y (by omega) (by omega)
    · rw [if_pos (bi_f c), if_neg (nt_f c), if_neg (nt_f c)]
      exact meC hs a r n (o + 1) _ _ (by omega) (by omega)
theorem meM {nf : Nat → Int32} {ng : Nat → Nat → Int32} {nc : Option Nat} {cn : Nat} {cf : Nat → Nat → Int32} {cg : Nat → Nat → Nat → Int32} {fi : Nat → Int32} {ga : Nat → Nat → Int32} {F : Nat → Nat} {G : Nat → Nat → Nat} {Cs : List (Nat × Nat × List Nat)} (hs : sit nf ng nc cn cf cg fi ga F G Cs) (a x : Int32) : ∀ (r n o y : Nat), r < n → F 0 = o + r → k_X7_mean_32 a fi ga n x (nI y) (nI o) = b1 (k_X7_lowest (nI (neR (F 1) (G 9) r o y)) x a) (fun r7 => some r7)
  | 0, 0, _, _, hlt, _ => by omega
  | 0, n + 1, o, y, hlt, e => by
    have h6 := hs.2.2.1.1
    show (if (fi 0) ≤ nI o then _ else _) = _
    rw [hs.2.1.1 0 (by omega), if_pos (nI_le (by omega) (by omega))]
    rfl
  | r + 1, 0, _, _, hlt, _ => by omega
  | r + 1, n + 1, o, y, hlt, e => by
    have h6 := hs.2.2.1.1
    have hu6 := hs.2.2.1.2.1
    simp only [k_X7_mean_32, neR]
    rw [hs.2.1.1 0 (by omega), if_neg (nI_ge (by omega) (by omega)), hs.2.1.1 1 (by omega), hasB (by omega) (by omega), b1_s, gd_n (by omega) (by omega), u_cl (by omega), show ga 8 o = nI (G 9 o) from hs.2.1.2.1 9 o (by omega) (by omega) (by omega), nI_1, u_ab, Int32.add_zero]
    rcases Bool.eq_false_or_eq_true ((F 1).testBit o) with c | c
    · rw [if_neg (bi_t c), if_pos c]
      exact meM hs a x r n (o + 1) y (by omega) (by omega)
    · rw [if_pos (bi_f c), if_neg (nt_f c)]
      exact meM hs a x r n (o + 1) _ (by omega) (by omega)
theorem op_mean {nf : Nat → Int32} {ng : Nat → Nat → Int32} {nc : Option Nat} {cn : Nat} {cf : Nat → Nat → Int32} {cg : Nat → Nat → Nat → Int32} {fi : Nat → Int32} {ga : Nat → Nat → Int32} {F : Nat → Nat} {G : Nat → Nat → Nat} {Cs : List (Nat × Nat × List Nat)} (hs : sit nf ng nc cn cf cg fi ga F G Cs) (a : Int32) : ∃ r, k_X6_mean a nf ng = some r ∧ k_X7_mean a fi ga = some r := by
  have h6 := hs.2.2.1.1
  have hu6 := hs.2.2.1.2.1
  obtain ⟨u1, u2, u3, u4⟩ := u_all (F 0) (by omega)
  obtain ⟨w1, w2⟩ := u_mask (F 0) (by omega) (F 1) hu6
  obtain ⟨v1, v2⟩ := ctE (F 0) (by omega) (F 1) hu6
  unfold k_X7_mean k_X7_below
  rw [hs.2.1.1 0 (by omega), u1, hs.2.1.1 1 (by omega), w1, b1_s, bcM _ w2, b1_s, ← v1]
  have q1 := meC hs a (F 0) 100000 0 0 0 (by omega) (by omega)
  have q1' : k_X6_mean a nf ng = meE a (nI (ctR (F 1) (F 0) 0 0)) (nI (neR (F 1) (G 9) (F 0) 0 0)) := q1
  rw [q1']
  unfold meE
  rw [isW]
  rcases inN a 1 1 rfl with e | ⟨e, k1, hk1, ek1⟩
  · rw [e]; exact ⟨_, rfl, rfl⟩
  subst ek1
  rw [e, b1_s, b1_s, if_neg (show ¬ (1 : Int32) = 0 by decide), if_neg (show ¬ (1 : Int32) = 0 by decide)]
  by_cases c : ctR (F 1) (F 0) 0 0 = 0
  · rw [if_pos (show nI (ctR (F 1) (F 0) 0 0) = 0 by rw [c]; rfl), if_pos (show nI (ctR (F 1) (F 0) 0 0) = 0 by rw [c]; rfl)]
    exact ⟨_, rfl, rfl⟩
  rw [if_neg (show ¬ nI (ctR (F 1) (F 0) 0 0) = 0 from fun y => c ((u_ei (b := 0) (by omega) (by omega)).mp y)), if_neg (show ¬ nI (ctR (F 1) (F 0) 0 0) = 0 from fun y => c ((u_ei (b := 0) (by omega) (by omega)).mp y))]
  have hle := neR_le (F 1) (G 9) (F 0) 0 0 (fun p hp => (hs.2.2.1.2.2.2.2.2.2.1 p (by omega)).2.2.1)
  obtain ⟨L, e1, e2⟩ := lowQ (neR (F 1) (G 9) (F 0) 0 0) (ctR (F 1) (F 0) 0 0) k1 (by omega) (by omega) (by omega) hk1
  have q2 := meM hs (nI k1) (nI (ctR (F 1) (F 0) 0 0)) (F 0) 100000 0 0 (by omega) (by omega)
  rw [e1]
  exact ⟨L, rfl, by rw [show (0 : Int32) = nI 0 from rfl, q2, e2]; rfl⟩

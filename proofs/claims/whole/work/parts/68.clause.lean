
def mG (ga ga' : Nat → Nat → Int32) (c a : Nat) : Prop := (∀ k, k < a → ga' 22 k = ga 22 k) ∧ (∀ j, j ≠ c → ga' 18 j = ga 18 j ∧ ga' 19 j = ga 19 j ∧ ga' 20 j = ga 20 j ∧ ga' 21 j = ga 21 j) ∧ ∀ k, k ≠ 18 → k ≠ 19 → k ≠ 20 → k ≠ 21 → k ≠ 22 → ga' k = ga k
theorem mG_r (ga : Nat → Nat → Int32) (c a : Nat) : mG ga ga c a := ⟨fun _ _ => rfl, fun _ _ => ⟨rfl, rfl, rfl, rfl⟩, fun _ _ _ _ _ _ => rfl⟩
theorem mG_t {x y z : Nat → Nat → Int32} {c a : Nat} (h : mG x y c a) (k : mG y z c a) : mG x z c a :=
  ⟨fun i hi => (k.1 i hi).trans (h.1 i hi), fun j hj => ⟨(k.2.1 j hj).1.trans (h.2.1 j hj).1, (k.2.1 j hj).2.1.trans (h.2.1 j hj).2.1, (k.2.1 j hj).2.2.1.trans (h.2.1 j hj).2.2.1, (k.2.1 j hj).2.2.2.trans (h.2.1 j hj).2.2.2⟩, fun i a1 a2 a3 a4 a5 => (k.2.2 i a1 a2 a3 a4 a5).trans (h.2.2 i a1 a2 a3 a4 a5)⟩
theorem mG_u (ga : Nat → Nat → Int32) (c a u : Nat) (v : Int32) (hu : u = 18 ∨ u = 19 ∨ u = 20 ∨ u = 21) : mG ga (va_up ga u (upd (ga u) c v)) c a := by
  refine ⟨fun k hk => by rw [va_up_ne _ _ (by omega)], fun j hj => ?_, fun k k1 k2 k3 k4 k5 => va_up_ne _ _ (by omega)⟩
  rcases hu with rfl | rfl | rfl | rfl <;> simp [va_up, upd, hj]
theorem mG_e {ga ga' : Nat → Nat → Int32} {c a : Nat} {Ls : List Nat} (h : mE ga ga' c a Ls) : mG ga ga' c a :=
  ⟨h.2.1, fun j hj => ⟨by rw [h.2.2.2 18 (by omega) (by omega)], by rw [h.2.2.2 19 (by omega) (by omega)], by rw [h.2.2.2 20 (by omega) (by omega)], h.2.2.1 j hj⟩, fun k k1 k2 k3 k4 k5 => h.2.2.2 k k4 k5⟩
theorem mG_g {ga ga1 : Nat → Nat → Int32} {c a L : Nat} {T : Nat → Nat} (h1 : mG ga ga1 c a) (h : tg ga L T) : tg ga1 L T := fun k hk => by rw [h1.2.2 16 (by omega) (by omega) (by omega) (by omega) (by omega)]; exact h k hk
theorem takE {T : Nat → Nat} {L : Nat} {fi : Nat → Int32} (hy : tyY fi L T) {f c p s : Nat} {fs : Nat → Int32} {ga gs : Nat → Nat → Int32} (hf : f < 6) (hc : c < 60) (hg : tg ga L T) (h14 : fs 14 = nI p) (h24 : fs 24 = nI (100 * f + s)) (hp : p ≤ L) (h0 : 0 < p) (hs : s ≤ p) : ((spE T L (spF T L 5 0) p).1 = true → ∃ fs' ga' gs', k_X7_takesE (nI c) fi fs ga gs = some (1, fs', ga', gs') ∧ fs' 14 = nI (spE T L (spF T L 5 0) p).2.1 ∧ fs' 24 = nI (100 * f + (s + (spE T L (spF T L 5 0) p).2.2.length)) ∧ ga' 20 c = nI (100 * f + s) ∧ ga' 21 c = nI (100 * f + s + (spE T L (spF T L 5 0) p).2.2.length) ∧ mRl ga' (100 * f + s) (spE T L (spF T L 5 0) p).2.2 ∧ mG ga ga' c (100 * f + s) ∧ (∀ k, k = 18 ∨ k = 19 → ga' k = ga k) ∧ mF fs fs') ∧ ((spE T L (spF T L 5 0) p).1 = false → ∃ fs' ga' gs', k_X7_takesE (nI c) fi fs ga gs = some (0, fs', ga', gs') ∧ fs' 14 = nI (spE T L (spF T L 5 0) p).2.1 ∧ mG ga ga' c (100 * f + s) ∧ mF fs fs') := by
  have hL := hy.1
  have ht := hy.2.2
  unfold k_X7_takesE
  rw [gd_n hc (by omega), u_cl (by omega), h24]
  have hg' : tg (va_up ga 20 (upd (ga 20) c (nI (100 * f + s)))) L T := hg
  have hG0 := mG_u ga c (100 * f + s) 20 (nI (100 * f + s)) (by omega)
  have hF0 : mF fs (upd (upd fs 25 0) 26 0) := mF_t (mF_u _ 25 _ (by omega)) (mF_u _ 26 _ (by omega))
  obtain ⟨i1, i2⟩ := eLoop (m := 10) hy hf (spF_ok ht 5 0) (facY hy hf hc 4 0 rfl) (by omega) (Q := []) (fun x hx => by cases hx) 100 0 100000 p s (upd (upd fs 25 0) 26 0) (va_up ga 20 (upd (ga 20) c (nI (100 * f + s)))) gs hg' ⟨h14, h24, rfl, rfl, trivial⟩ hp (by rw [if_pos rfl]; simp; omega) (by omega) (by omega) h0
  have hB : spL T L (spB T L (spF T L 5 0)) 124 2 100 0 p = spE T L (spF T L 5 0) p := rfl
  rw [hB] at i1 i2
  refine ⟨fun ho => ?_, fun ho => ?_⟩
  · obtain ⟨q1, q2, q3, _, _⟩ := spE_ok (T := T) (spF_ok ht 5 0) _ ho
    obtain ⟨N1, fs1, ga1, gs1, P, L1, j1, j2, j2', j3, j4, j5, j6, j7, j8, j8', j9⟩ := i1 ho
    have hg1 := mE_g j6 hg'
    clear hB i1 i2
    generalize spE T L (spF T L 5 0) p = C at *
    obtain ⟨ok, p1, F⟩ := C
    dsimp only at *
    obtain ⟨N2, rfl⟩ : ∃ N2, N1 = N2 + 1 := ⟨N1 - 1, by omega⟩
    rw [E22_e hy hg1 j5.1 (by omega) j8 j8'] at j1
    obtain ⟨fs2, ga2, w1, w2, w3, w4⟩ := settY (c := c) (a := 124) hf (show p1 ≤ 100 by omega) (S := []) (fun x hx => by cases hx) P 100000 (s + L1.length) fs1 ga1 (fun x hx => by
      rcases j2 x hx with h | h
      · exact Or.inl h
      · exact Or.inr ⟨h, by decide⟩) (by omega) j5 j9
    obtain ⟨v14, v24, v25, v26, vk⟩ := id w2
    have hFl : L1.length + P.length = F.length := by rw [← j3, List.length_append, List.length_map]
    have w1' : k_X7_settle 124 fs1 ga1 gs1 = some (fs2, ga2) := w1
    rw [w1', b2_s, gd_n hc (by omega), u_cl (by omega), if_pos (show fs2 25 = 0 from v25)] at j1
    have m3 : mE (va_up ga 20 (upd (ga 20) c (nI (100 * f + s)))) ga2 c (100 * f + s) F := by
      rw [← j3]; exact mE_t j6 (by rw [Nat.add_assoc]; exact w3)
    have m4 : mE (va_up ga 20 (upd (ga 20) c (nI (100 * f + s)))) (va_up ga2 21 (upd (ga2 21) c (fs2 24))) c (100 * f + s) F := by
      have := mE_t m3 (mE_21 ga2 c (100 * f + s + F.length) (fs2 24))
      rw [List.append_nil] at this
      exact this
    have v24' : fs2 24 = nI (100 * f + (s + F.length)) := by rw [v24, Nat.add_assoc s, hFl]
    refine ⟨_, _, gs1, j1, v14, v24', ?_, ?_, m4.1, mG_t hG0 (mG_e m4), fun k hk => ?_, mF_t hF0 (mF_t j7 w4)⟩
    · rw [m4.2.2.2 20 (by omega) (by omega), va_up_self, u_up, if_pos rfl]
    · rw [va_up_self, u_up, if_pos rfl, v24', Nat.add_assoc]
    · rw [m4.2.2.2 k (by omega) (by omega), va_up_ne _ _ (by omega)]
  · obtain ⟨fs', ga', gs', j1, j2, j3, j4⟩ := i2 ho
    exact ⟨fs', ga', gs', j1, j2, mG_t hG0 (mG_e j3), mF_t hF0 j4⟩
def ltrs : List Nat := [108, 111, 117, 100, 104, 117, 115, 104, 99, 97, 108, 109]
def lt27 (ga : Nat → Nat → Int32) : Prop := ∀ k, k < 12 → ga 27 k = nI (ltrs.getD k 0)
theorem ltw : ∀ i, i < 3 → ∀ j, j < 4 → ltrs.getD (4 * i + j) 0 = (wrd i).getD j 0 := by decide +kernel
theorem wordY {T : Nat → Nat} {L : Nat} {fi : Nat → Int32} (hy : tyY fi L T) {ga : Nat → Nat → Int32} (hg : tg ga L T) (h27 : lt27 ga) (i : Nat) (hi : i < 3) : ∀ (r n j p : Nat) (fs : Nat → Int32), r < n → r + j = 4 → fs 14 = nI p → p ≤ L → ∃ fs', k_X7_takesWord_2 (nI (4 * i)) 4 fi ga n (nI j) fs = some (bI (spW T L ((wrd i).drop j ++ [32]) p).1, fs') ∧ fs' 14 = nI (spW T L ((wrd i).drop j ++ [32]) p).2 ∧ ∀ k, k ≠ 14 → fs' k = fs k
  | _, 0, _, _, _, hn, _, _, _ => by omega
  | 0, n + 1, j, p, fs, hn, hj, h, hp => by
    have hL := hy.1
    simp only [k_X7_takesWord_2]
    rw [show j = 4 by omega, if_pos (show (4 : Int32) ≤ nI 4 by decide), wd4 i hi, takeY hy hg h (by omega)]
    by_cases c : tpk T L p = 32
    · rw [if_pos c, b2_s, show spW T L ([] ++ [32]) p = (true, p + 1) from if_pos c]
      exact ⟨_, rfl, if_pos rfl, fun k hk => if_neg hk⟩
    · rw [if_neg c, b2_s, show spW T L ([] ++ [32]) p = (false, p) from if_neg c]
      exact ⟨_, rfl, h, fun _ _ => rfl⟩
  | r + 1, n + 1, j, p, fs, hn, hj, h, hp => by
    have hL := hy.1
    simp only [k_X7_takesWord_2]
    rw [if_neg (show ¬ (4 : Int32) ≤ nI j from nI_ge (b := 4) (by omega) (by omega)), u_ab, gd_n (by omega) (by omega), u_cl (by omega), h27 _ (by omega), ltw i hi j (by omega), takeY hy hg h (by omega), wdr i hi j (by omega)]
    by_cases c : tpk T L p = nI ((wrd i).getD j 0)
    · have hlt := tpk_lt (wdc i hi j (by omega)) c
      have e1 : spW T L ((wrd i).getD j 0 :: (wrd i).drop (j + 1) ++ [32]) p = spW T L ((wrd i).drop (j + 1) ++ [32]) (p + 1) := if_pos c
      rw [if_pos c, b2_s, if_neg (by decide), e1, nI_1]
      obtain ⟨fs', i1, i2, i3⟩ := wordY hy hg h27 i hi r n (j + 1) (p + 1) (upd fs 14 (nI (p + 1))) (by omega) (by omega) rfl (by omega)
      exact ⟨fs', i1, i2, fun k hk => (i3 k hk).trans (if_neg hk)⟩
    · have e1 : spW T L ((wrd i).getD j 0 :: (wrd i).drop (j + 1) ++ [32]) p = (false, p) := if_neg c
      rw [if_neg c, b2_s, if_pos rfl, e1]
      exact ⟨_, rfl, h, fun _ _ => rfl⟩
theorem headY {T : Nat → Nat} {L : Nat} {fi : Nat → Int32} (hy : tyY fi L T) {ga : Nat → Nat → Int32} (hg : tg ga L T) (h27 : lt27 ga) {c p : Nat} (hc : c < 60) {fs : Nat → Int32} (h : fs 14 = nI p) (hp : p ≤ L) : ∃ fs', k_X7_takesHead (nI c) fi fs ga = some (bI (spW T L (wrd (srt T L p) ++ [32]) p).1, fs', va_up ga 18 (upd (ga 18) c (nI (srt T L p)))) ∧ fs' 14 = nI (spW T L (wrd (srt T L p) ++ [32]) p).2 ∧ ∀ k, k ≠ 14 → fs' k = fs k := by
  have hL := hy.1
  unfold k_X7_takesHead
  rw [nextY hy hg h (by omega), b1_s]
  simp only [gd_n hc (show 60 < 2 ^ 31 by omega)]
  rw [u_cl (show c < 2 ^ 31 by omega)]
  have key : ∀ i, i < 3 → ∃ fs', k_X7_takesWord (nI (4 * i)) 4 fi fs (va_up ga 18 (upd (ga 18) c (nI i))) = some (bI (spW T L (wrd i ++ [32]) p).1, fs') ∧ fs' 14 = nI (spW T L (wrd i ++ [32]) p).2 ∧ ∀ k, k ≠ 14 → fs' k = fs k := fun i hi =>
    wordY hy (ga := va_up ga 18 (upd (ga 18) c (nI i))) hg h27 i hi 4 100000 0 p fs (by omega) rfl h hp
  unfold srt
  by_cases c1 : tpk T L p = 104
  · rw [if_pos c1, if_neg (show ¬ tpk T L p = 108 by rw [c1]; decide), if_pos c1]
    obtain ⟨fs', w1, w2, w3⟩ := key 1 (by omega)
    rw [show k_X7_takesWord 4 4 fi fs (va_up ga 18 (upd (ga 18) c 1)) = _ from w1, b2_s]
    exact ⟨fs', rfl, w2, w3⟩
  · rw [if_neg c1]
    by_cases c2 : tpk T L p = 108
    · rw [if_pos c2, if_pos c2]
      obtain ⟨fs', w1, w2, w3⟩ := key 0 (by omega)
      rw [show k_X7_takesWord 0 4 fi fs (va_up ga 18 (upd (ga 18) c 0)) = _ from w1, b2_s]
      exact ⟨fs', rfl, w2, w3⟩
    · rw [if_neg c2, if_neg c2, if_neg c1]
      obtain ⟨fs', w1, w2, w3⟩ := key 2 (by omega)
      rw [show k_X7_takesWord 8 4 fi fs (va_up ga 18 (upd (ga 18) c 2)) = _ from w1, b2_s]
      exact ⟨fs', rfl, w2, w3⟩
theorem clauY {T : Nat → Nat} {L : Nat} {fi : Nat → Int32} (hy : tyY fi L T) {f c p s : Nat} {fs : Nat → Int32} {ga gs : Nat → Nat → Int32} (hf : f < 6) (hc : c < 60) (hg : tg ga L T) (h27 : lt27 ga) (h14 : fs 14 = nI p) (h24 : fs 24 = nI (100 * f + s)) (hp : p ≤ L) (hs : s ≤ p) : ((spC T L p).1 = true → ∃ fs' ga' gs', k_X7_takesClause (nI c) fi fs ga gs = some (1, fs', ga', gs') ∧ fs' 14 = nI (spC T L p).2.1 ∧ fs' 24 = nI (100 * f + (s + (spC T L p).2.2.2.2.length)) ∧ ga' 18 c = nI (spC T L p).2.2.1 ∧ ga' 19 c = nI (spC T L p).2.2.2.1 ∧ ((spC T L p).2.2.1 < 2 → ga' 20 c = nI (100 * f + s) ∧ ga' 21 c = nI (100 * f + s + (spC T L p).2.2.2.2.length)) ∧ mRl ga' (100 * f + s) (spC T L p).2.2.2.2 ∧ mG ga ga' c (100 * f + s) ∧ mF fs fs') ∧ ((spC T L p).1 = false → ∃ fs' ga' gs', k_X7_takesClause (nI c) fi fs ga gs = some (0, fs', ga', gs') ∧ fs' 14 = nI (spC T L p).2.1 ∧ mG ga ga' c (100 * f + s) ∧ mF fs fs') := by
  have hL := hy.1
  have ht := hy.2.2
  unfold k_X7_takesClause spC
  obtain ⟨fs1, e1, e2, e3⟩ := headY hy hg h27 hc h14 hp
  have hsr := srt_lt T L p
  have hwl := spW_le (T := T) (L := L) _ p (wrd_c (srt T L p)) hp
  rw [e1, b3_s]
  generalize srt T L p = so at *
  have hG1 : mG ga (va_up ga 18 (upd (ga 18) c (nI so))) c (100 * f + s) := mG_u _ _ _ 18 _ (by omega)
  have hg1 := mG_g hG1 hg
  have hF1 : mF fs fs1 := fun k k1 _ _ _ _ => e3 k k1
  by_cases ho : (spW T L (wrd so ++ [32]) p).1 = true
  rotate_left
  · have ho' : (spW T L (wrd so ++ [32]) p).1 = false := by simpa using ho
    rw [ho', if_pos (show bI false = 0 by decide), if_neg (by decide)]
    exact ⟨fun h => (by cases h), fun _ => ⟨_, _, _, rfl, e2, hG1, hF1⟩⟩
  rw [ho, if_neg (show ¬ bI true = 0 by decide), if_pos rfl]
  clear e1 ho
  generalize (spW T L (wrd so ++ [32]) p).2 = p1 at *
  rcases numY hy hg1 e2 (by omega) with ⟨n1, n2⟩ | ⟨n, p2, fs2, n1, n2, n3, n4, n5⟩
  · rw [n2, b2_s, if_pos rfl, n1]
    exact ⟨fun h => (by cases h), fun _ => ⟨_, _, _, rfl, e2, hG1, hF1⟩⟩
  obtain ⟨q1, q2, q3, _⟩ := spN_ok ht n1
  have hF2 : mF fs fs2 := mF_t hF1 (fun k k1 k2 _ _ _ => n5 k k1 k2)
  rw [n2, b2_s, if_neg (by decide), gd_n hc (by omega), gd_n hc (by omega), n1, u_cl (show c < 2 ^ 31 by omega), n3]
  dsimp only
  have e18 : (va_up ga 18 (upd (ga 18) c (nI so))) 18 c = nI so := by rw [va_up_self, u_up, if_pos rfl]
  rw [e18]
  obtain ⟨g2, hg2e⟩ : ∃ g2, g2 = va_up (va_up ga 18 (upd (ga 18) c (nI so))) 19 (upd ((va_up ga 18 (upd (ga 18) c (nI so))) 19) c (nI n)) := ⟨_, rfl⟩
  rw [← hg2e]
  have hG2 : mG ga g2 c (100 * f + s) := by rw [hg2e]; exact mG_t hG1 (mG_u _ _ _ 19 _ (by omega))
  have hg2 := mG_g hG2 hg
  have r18 : g2 18 c = nI so := by rw [hg2e, va_up_ne _ _ (by omega)]; exact e18
  have r19 : g2 19 c = nI n := by rw [hg2e, va_up_self, u_up, if_pos rfl]
  have k24 : fs2 24 = nI (100 * f + s) := by rw [n5 24 (by omega) (by omega), e3 24 (by omega), h24]
  by_cases c2 : so = 2
  · rw [if_pos (show nI so = 2 by rw [c2]; rfl), if_pos c2]
    refine ⟨fun _ => ⟨_, _, _, rfl, n4, k24, ?_, r19, fun h => absurd (show (2 : Nat) < 2 from h) (by decide), trivial, hG2, hF2⟩, fun h => (by cases h)⟩
    rw [r18, c2]
  rw [if_neg (show ¬ nI so = 2 from fun e => c2 ((u_ei (b := 2) (by omega) (by omega)).mp e)), if_neg c2]
  by_cases c3 : tpk T L p2 = 32
  rotate_left
  · rw [(takeY hy hg2 n4 (by omega) 32).trans (if_neg c3), b2_s, if_pos rfl, if_neg c3]
    exact ⟨fun h => (by cases h), fun _ => ⟨_, _, _, rfl, n4, hG2, hF2⟩⟩
  have hlt := tpk_lt (c := 32) (by omega) c3
  rw [(takeY hy hg2 n4 (by omega) 32).trans (if_pos c3), b2_s, if_pos c3, if_neg (show ¬ (1 : Int32) = 0 by decide)]
  obtain ⟨i1, i2⟩ := takE (fs := upd fs2 14 (nI (p2 + 1))) (gs := gs) hy hf hc hg2 rfl k24 (show p2 + 1 ≤ L by omega) (by omega) (show s ≤ p2 + 1 by omega)
  have hF3 : mF fs (upd fs2 14 (nI (p2 + 1))) := mF_t hF2 (mF_u _ 14 _ (by omega))
  by_cases h6 : (spE T L (spF T L 5 0) (p2 + 1)).1 = true
  · obtain ⟨fs', ga', gs', j1, j2, j3, j4, j5, j6, j7, j8, j9⟩ := i1 h6
    rw [if_pos h6, j1, b4_s, if_neg (by decide)]
    refine ⟨fun _ => ⟨_, _, _, rfl, j2, j3, ?_, ?_, fun _ => ⟨j4, j5⟩, j6, mG_t hG2 j7, mF_t hF3 j9⟩, fun h => (by cases h)⟩
    · rw [j8 18 (by omega)]; exact r18
    · rw [j8 19 (by omega)]; exact r19
  · have h6' : (spE T L (spF T L 5 0) (p2 + 1)).1 = false := by simpa using h6
    obtain ⟨fs', ga', gs', j1, j2, j3, j4⟩ := i2 h6'
    rw [if_neg h6, j1, b4_s, if_pos rfl]
    exact ⟨fun h => (by cases h), fun _ => ⟨_, _, _, rfl, j2, mG_t hG2 j3, mF_t hF3 j4⟩⟩
def mH (ga ga' : Nat → Nat → Int32) (f i a : Nat) : Prop := (∀ k, k < a → ga' 22 k = ga 22 k) ∧ (∀ j, j < i → ga' 18 j = ga 18 j ∧ ga' 19 j = ga 19 j ∧ ga' 20 j = ga 20 j ∧ ga' 21 j = ga 21 j) ∧ (∀ j, j ≠ f → ga' 17 j = ga 17 j) ∧ ∀ k, k ≠ 17 → k ≠ 18 → k ≠ 19 → k ≠ 20 → k ≠ 21 → k ≠ 22 → ga' k = ga k
theorem mH_t {x y z : Nat → Nat → Int32} {f i a i' a' : Nat} (h : mH x y f i a) (k : mH y z f i' a') (hi : i ≤ i') (ha : a ≤ a') : mH x z f i a :=
  ⟨fun j hj => (k.1 j (by omega)).trans (h.1 j hj), fun j hj => ⟨(k.2.1 j (by omega)).1.trans (h.2.1 j hj).1, (k.2.1 j (by omega)).2.1.trans (h.2.1 j hj).2.1, (k.2.1 j (by omega)).2.2.1.trans (h.2.1 j hj).2.2.1, (k.2.1 j (by omega)).2.2.2.trans (h.2.1 j hj).2.2.2⟩, fun j hj => (k.2.2.1 j hj).trans (h.2.2.1 j hj), fun j a1 a2 a3 a4 a5 a6 => (k.2.2.2 j a1 a2 a3 a4 a5 a6).trans (h.2.2.2 j a1 a2 a3 a4 a5 a6)⟩
theorem mH_g {ga ga' : Nat → Nat → Int32} {f c a : Nat} (h : mG ga ga' c a) : mH ga ga' f c a := ⟨h.1, fun j hj => h.2.1 j (by omega), fun j _ => by rw [h.2.2 17 (by omega) (by omega) (by omega) (by omega) (by omega)], fun k _ k1 k2 k3 k4 k5 => h.2.2 k k1 k2 k3 k4 k5⟩
theorem mH_17 (ga : Nat → Nat → Int32) (f i a : Nat) (v : Int32) : mH ga (va_up ga 17 (upd (ga 17) f v)) f i a :=
  ⟨fun k _ => by rw [va_up_ne _ _ (by omega)], fun j _ => by simp [va_up], fun j hj => by rw [va_up_self]; exact if_neg hj, fun k k1 _ _ _ _ _ => va_up_ne _ _ k1⟩
theorem kM_cg {ga ga' : Nat → Nat → Int32} : ∀ {Cs : List (Nat × Nat × List Nat)} {i b : Nat}, (∀ k, k < b + tlC Cs → ga' 22 k = ga 22 k) → (∀ j, j < i + Cs.length → ga' 18 j = ga 18 j ∧ ga' 19 j = ga 19 j ∧ ga' 20 j = ga 20 j ∧ ga' 21 j = ga 21 j) → kM ga Cs i b → kM ga' Cs i b
  | [], _, _, _, _, _ => trivial
  | c :: Cs, i, b, h2, h1, h => by
    obtain ⟨a1, a2, a3, a4, a5⟩ := h
    obtain ⟨b1, b2, b3, b4⟩ := h1 i (by simp)
    exact ⟨b1.trans a1, b2.trans a2, fun hc => ⟨b3.trans (a3 hc).1, b4.trans (a3 hc).2⟩, mRl_cg (fun k hk => h2 k (by simp only [tlC]; omega)) a4, kM_cg (fun k hk => h2 k (by simp only [tlC]; omega)) (fun j hj => h1 j (by simp; omega)) a5⟩
theorem textY {T : Nat → Nat} {L : Nat} {fi : Nat → Int32} (hy : tyY fi L T) {f : Nat} (hf : f < 6) : ∀ (r n j p s : Nat) (fs : Nat → Int32) (ga : Nat → Nat → Int32) (gs : Nat → Nat → Int32), r < n → r + 1 + j = 10 → tg ga L T → lt27 ga → fs 14 = nI p → fs 24 = nI (100 * f + s) → p ≤ L → s ≤ p → ∃ fs' ga' gs', k_X7_goesText_15 (nI f) fi n (nI j) fs ga gs = some (bI (spX T L (r + 1) p).1, fs', ga', gs') ∧ mF fs fs' ∧ mH ga ga' f (10 * f + j) (100 * f + s) ∧ ((spX T L (r + 1) p).1 = false → fs' 14 = nI (spX T L (r + 1) p).2.1) ∧ ((spX T L (r + 1) p).1 = true → ga' 17 f = nI (j + (spX T L (r + 1) p).2.2.length) ∧ kM ga' (spX T L (r + 1) p).2.2 (10 * f + j) (100 * f + s))
  | _, 0, _, _, _, _, _, _, hn, _, _, _, _, _, _, _ => by omega
  | r, n + 1, j, p, s, fs, ga, gs, hn, hj, hg, h27, h14, h24, hp, hs => by
    have hL := hy.1
    have ht := hy.2.2
    simp only [k_X7_goesText_15]
    rw [show (10 : Int32) * nI f + nI j = nI (10 * f + j) by rw [show (10 : Int32) = nI 10 from rfl, u_ml, u_ab]]
    obtain ⟨i1, i2⟩ := clauY (c := 10 * f + j) (gs := gs) hy hf (by omega) hg h27 h14 h24 hp hs
    by_cases ho : (spC T L p).1 = true
    rotate_left
    · have ho' : (spC T L p).1 = false := by simpa using ho
      obtain ⟨fs', ga', gs', e1, e2, e3, e4⟩ := i2 ho'
      have ex : spX T L (r + 1) p = (false, (spC T L p).2.1, []) := by rw [spX, if_neg ho]
      rw [e1, b4_s, if_pos rfl, ex]
      exact ⟨_, _, _, rfl, e4, mH_g e3, fun _ => e2, fun h => (by cases h)⟩
    obtain ⟨q1, q2, q3, q4, q5⟩ := spC_ok ht hp ho
    obtain ⟨fs1, ga1, gs1, e1, e2, e3, e4, e5, e6, e7, e8, e9⟩ := i1 ho
    have ex : spX T L (r + 1) p = if L ≤ (spC T L p).2.1 then (true, (spC T L p).2.1, [(spC T L p).2.2]) else if r = 0 then (false, (spC T L p).2.1, []) else if tpk T L (spC T L p).2.1 = 59 then ((spX T L r ((spC T L p).2.1 + 1)).1, (spX T L r ((spC T L p).2.1 + 1)).2.1, (spC T L p).2.2 :: (spX T L r ((spC T L p).2.1 + 1)).2.2) else (false, (spC T L p).2.1, []) := by rw [spX, if_pos ho]
    rw [e1, b4_s, if_neg (by decide), gd_n hf (by omega), u_cl (show f < 2 ^ 31 by omega), e2, hy.2.1, nI_1, ex]
    clear ex i1 i2 ho e1
    generalize spC T L p = C at *
    obtain ⟨ok, p1, c⟩ := C
    dsimp only at *
    have hH : mH ga (va_up ga1 17 (upd (ga1 17) f (nI (j + 1)))) f (10 * f + j) (100 * f + s) := mH_t (mH_g e8) (mH_17 ga1 f _ _ _) (Nat.le_refl _) (Nat.le_refl _)
    have hg1 : tg (va_up ga1 17 (upd (ga1 17) f (nI (j + 1)))) L T := fun k hk => by rw [hH.2.2.2 16 (by omega) (by omega) (by omega) (by omega) (by omega) (by omega)]; exact hg k hk
    have h271 : lt27 (va_up ga1 17 (upd (ga1 17) f (nI (j + 1)))) := fun k hk => by rw [hH.2.2.2 27 (by omega) (by omega) (by omega) (by omega) (by omega) (by omega)]; exact h27 k hk
    by_cases c1 : L ≤ p1
    · rw [if_pos (show nI p1 = nI L by rw [show p1 = L by omega]), if_pos c1]
      refine ⟨_, _, _, rfl, e9, hH, fun h => (by cases h), fun _ => ⟨by rw [va_up_self, u_up, if_pos rfl]; rfl, ⟨e4, e5, e6, ?_, trivial⟩⟩⟩
      exact mRl_cg (fun k _ => by rw [va_up_ne _ _ (by omega)]) e7
    rw [if_neg (show ¬ nI p1 = nI L from fun e => c1 (by have := (u_ei (by omega) (by omega)).mp e; omega)), if_neg c1]
    by_cases c2 : r = 0
    · rw [if_pos (show nI (j + 1) = 10 by rw [show j + 1 = 10 by omega]; rfl), if_pos c2]
      exact ⟨_, _, _, rfl, e9, hH, fun _ => e2, fun h => (by cases h)⟩
    rw [if_neg (show ¬ nI (j + 1) = 10 from fun e => c2 (by have := (u_ei (b := 10) (by omega) (by omega)).mp e; omega)), if_neg c2, takeY hy hg1 e2 (by omega)]
    by_cases c3 : tpk T L p1 = 59
    rotate_left
    · rw [if_neg c3, b2_s, if_pos rfl, if_neg c3]
      exact ⟨_, _, _, rfl, e9, hH, fun _ => e2, fun h => (by cases h)⟩
    have hlt := tpk_lt (c := 59) (by omega) c3
    rw [if_pos c3, b2_s, if_neg (by decide), if_pos c3]
    obtain ⟨r, rfl⟩ : ∃ r1, r = r1 + 1 := ⟨r - 1, by omega⟩
    obtain ⟨fs2, ga2, gs2, w1, w2, w3, w4, w5⟩ := textY hy hf r n (j + 1) (p1 + 1) (s + c.2.2.length) (upd fs1 14 (nI (p1 + 1))) _ gs1 (by omega) (by omega) hg1 h271 rfl e3 (by omega) (by omega)
    rw [w1]
    refine ⟨_, _, _, rfl, mF_t e9 (mF_t (mF_u _ 14 _ (by omega)) w2), mH_t hH w3 (by omega) (by omega), w4, fun h => ?_⟩
    obtain ⟨v1, v2⟩ := w5 h
    have x1 := w3.2.1 (10 * f + j) (by omega)
    refine ⟨by rw [v1]; congr 1; simp; omega, ⟨?_, ?_, fun hc => ⟨?_, ?_⟩, ?_, ?_⟩⟩
    · rw [x1.1, va_up_ne _ _ (by omega)]; exact e4
    · rw [x1.2.1, va_up_ne _ _ (by omega)]; exact e5
    · rw [x1.2.2.1, va_up_ne _ _ (by omega)]; exact (e6 hc).1
    · rw [x1.2.2.2, va_up_ne _ _ (by omega)]; exact (e6 hc).2
    · exact mRl_cg (fun k hk => by rw [w3.1 k (by omega), va_up_ne _ _ (by omega)]) e7
    · rw [Nat.add_assoc (100 * f)]; exact v2

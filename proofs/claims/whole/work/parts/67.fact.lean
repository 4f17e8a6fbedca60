
theorem E22_w (c : Nat) (fi : Nat → Int32) (N : Nat) (fs : Nat → Int32) (ga gs : Nat → Nat → Int32) : k_X7_takesE_22 (nI c) fi (N + 1) 1 fs ga gs = b1 (k_X7_next fi fs ga) (fun r1 => if r1 = 33 then k_X7_takesE_43 (k_X7_takesE_22 (nI c) fi N) 1 r1 fs ga gs else if r1 = 40 then k_X7_takesE_43 (k_X7_takesE_22 (nI c) fi N) 1 r1 fs ga gs else b3 (k_X7_takesTest fi fs ga gs) (fun r19 fs_20 ga_21 => if r19 = 0 then some (0, fs_20, ga_21, gs) else k_X7_takesE_22 (nI c) fi N 0 fs_20 ga_21 gs)) := by
  simp only [k_X7_takesE_22]
  rfl
theorem E22_e {T : Nat → Nat} {L : Nat} {fi : Nat → Int32} (hy : tyY fi L T) {c : Nat} {N p : Nat} {fs : Nat → Int32} {ga gs : Nat → Nat → Int32} (hg : tg ga L T) (h : fs 14 = nI p) (hp : p ≤ 200) (h1 : tpk T L p ≠ 38) (h2 : tpk T L p ≠ 124) : k_X7_takesE_22 (nI c) fi (N + 1) 0 fs ga gs = b2 (k_X7_settle 124 fs ga gs) (fun fs_6 ga_7 => gd (nI c) 60 (if (fs_6 25) = 0 then some (1, fs_6, (va_up ga_7 21 (upd (ga_7 21) (Int32.toNatClampNeg (nI c)) (fs_6 24))), gs) else if tpk T L p = 41 then nm (upd (upd (upd fs_6 25 ((fs_6 25) - 1)) 26 ((fs_6 26) - 1)) 14 ((fs_6 14) + 1)) (fun fs_12 => b2 (k_X7_whole fs_12 (va_up ga_7 21 (upd (ga_7 21) (Int32.toNatClampNeg (nI c)) (fs_6 24))) gs) (fun fs_14 ga_15 => k_X7_takesE_22 (nI c) fi N 0 fs_14 ga_15 gs)) else some (0, fs_6, (va_up ga_7 21 (upd (ga_7 21) (Int32.toNatClampNeg (nI c)) (fs_6 24))), gs))) := by
  simp only [k_X7_takesE_22]
  rw [nextY hy hg h hp, b1_s, if_pos trivial, if_neg h1, if_neg h2]
theorem plc_tab : ∀ t, t < 128 → k_X7_place (nI t) = some (chI (ltT t)) := by decide +kernel
theorem placeY {T : Nat → Nat} {L p : Nat} (ht : ∀ k, k < L → T k < 128) : k_X7_place (tpk T L p) = some (chI (ltr T L p)) := by
  unfold tpk ltr
  by_cases c : L ≤ p
  · rw [if_pos c, if_pos c]; decide
  · rw [if_neg c, if_neg c]; exact plc_tab _ (ht p (by omega))
theorem in_tab : ∀ t, t < 128 → sgn (nI t) = none → k_X7_in (nI t) 60 62 = some 0 := by decide +kernel
theorem sgn_in {T : Nat → Nat} {L p : Nat} (ht : ∀ k, k < L → T k < 128) (h : sgn (tpk T L p) = none) : k_X7_in (tpk T L p) 60 62 = some 0 := by
  unfold tpk at h ⊢
  by_cases c : L ≤ p
  · rw [if_pos c]; decide
  · rw [if_neg c] at h ⊢; exact in_tab _ (ht p (by omega)) h
theorem sgn_y : ∀ g, g < 3 → k_X7_in (nI (60 + g)) 60 62 = some 1 := by decide +kernel
theorem testY {T : Nat → Nat} {L : Nat} {fi : Nat → Int32} (hy : tyY fi L T) {f c p s w : Nat} {fs : Nat → Int32} {ga gs : Nat → Nat → Int32} {S : List Nat} (hf : f < 6) (hg : tg ga L T) (h : mS fs gs f p s w S) (hp : p ≤ L) (hs : s ≤ p) : ((spT T L p).1 = true → ∃ fs' ga', k_X7_takesTest fi fs ga gs = b2 (k_X7_whole fs' ga' gs) (fun a b => some (1, a, b)) ∧ mS fs' gs f (spT T L p).2.1 (s + (spT T L p).2.2.length) w S ∧ mE ga ga' c (100 * f + s) (spT T L p).2.2 ∧ mF fs fs') ∧ ((spT T L p).1 = false → ∃ fs', k_X7_takesTest fi fs ga gs = some (0, fs', ga) ∧ fs' 14 = nI (spT T L p).2.1 ∧ mF fs fs') := by
  have hL := hy.1
  have ht := hy.2.2
  obtain ⟨h14, h24, h25, h26, hk⟩ := h
  unfold k_X7_takesTest spT
  rw [nextY hy hg h14 (by omega), b1_s, placeY ht, b1_s]
  rcases h1 : ltr T L p with _ | g
  · rw [if_neg (show ¬ (0 : Int32) ≤ chI none by decide)]
    exact ⟨fun h => (by cases h), fun _ => ⟨fs, rfl, h14, mF_r _⟩⟩
  · obtain ⟨a1, a2⟩ := ltr_lt h1
    rw [if_pos (show (0 : Int32) ≤ chI (some g) from nI_pos' (by omega)), h14, nI_1]
    have h14' : (upd fs 14 (nI (p + 1))) 14 = nI (p + 1) := if_pos rfl
    rw [nextY hy hg h14' (by omega), b1_s]
    dsimp only
    rcases h3 : sgn (tpk T L (p + 1)) with _ | q
    · rw [sgn_in ht h3, b1_s, if_pos rfl]
      exact ⟨fun h => (by cases h), fun _ => ⟨_, rfl, h14', mF_u _ 14 _ (by omega)⟩⟩
    · obtain ⟨b1', b2', b3'⟩ := sgn_lt h3
      rw [b3', sgn_y q b2', b1_s, if_neg (by decide), nI_1]
      have h14'' : (upd (upd fs 14 (nI (p + 1))) 14 (nI (p + 1 + 1))) 14 = nI (p + 2) := if_pos rfl
      have hF2 : mF fs (upd (upd fs 14 (nI (p + 1))) 14 (nI (p + 1 + 1))) := mF_t (mF_u _ 14 _ (by omega)) (mF_u _ 14 _ (by omega))
      rcases numY hy hg h14'' (by omega) with ⟨n1, n2⟩ | ⟨n, p', fs', n1, n2, n3, n4, n5⟩
      · rw [n2, b2_s, if_pos rfl, n1]
        exact ⟨fun h => (by cases h), fun _ => ⟨_, rfl, h14'', hF2⟩⟩
      · obtain ⟨q1, q2, q3, q4⟩ := spN_ok ht n1
        have k24 : fs' 24 = nI (100 * f + s) := by rw [n5 24 (by omega) (by omega)]; exact h24
        rw [n2, b2_s, if_neg (by decide), n1, n3, emitY (a := 100 * f + s) _ k24 (by omega), b2_s]
        refine ⟨fun _ => ⟨_, _, rfl, ⟨?_, ?_, ?_, ?_, hk⟩, mE_e _ _ _ (3 + (1000 * g + 100 * q + n)) _ ?_, mF_t (mF_t hF2 (fun k k1 k2 k3 k4 k5 => n5 k k1 k2)) (mF_u _ 24 _ (by omega))⟩, fun h => (by cases h)⟩
        · exact n4
        · rfl
        · show fs' 25 = _
          rw [n5 25 (by omega) (by omega)]; exact h25
        · show fs' 26 = _
          rw [n5 26 (by omega) (by omega)]; exact h26
        · unfold cmS
          rw [if_neg (by omega), if_neg (by omega), if_neg (by omega), show (60 : Int32) = nI 60 from rfl, u_sb (by omega), show chI (some g) = nI g from rfl, show (1000 : Int32) = nI 1000 from rfl, show (100 : Int32) = nI 100 from rfl, u_ml, u_ml, u_ab, u_ab]
          congr 1; omega
theorem b23 {α β γ : Type} (X : Option (α × β)) (k : Int32 → α → β → Option γ) : b3 (b2 X (fun a b => some ((1 : Int32), a, b))) k = b2 X (fun a b => k 1 a b) := by
  rcases X with _ | ⟨a, b⟩
  · rfl
  · rfl
theorem facT {T : Nat → Nat} {L : Nat} {fi : Nat → Int32} (hy : tyY fi L T) {f c : Nat} (hf : f < 6) {N p s w : Nat} {fs : Nat → Int32} {ga gs : Nat → Nat → Int32} {S : List Nat} (hg : tg ga L T) (h : mS fs gs f p s w S) (hp : p ≤ L) (hs : s + S.length ≤ p) (hN : L + 3 ≤ N + 1 + p) (n : Nat) (kF : Nat → Bool × Nat × List Nat) (e : kF p = spT T L p) (hE : k_X7_takesE_22 (nI c) fi (N + 1) 1 fs ga gs = b3 (k_X7_takesTest fi fs ga gs) (fun r19 fs_20 ga_21 => if r19 = 0 then some (0, fs_20, ga_21, gs) else k_X7_takesE_22 (nI c) fi N 0 fs_20 ga_21 gs)) : ((kF p).1 = true → ∃ N' m fs' ga' gs', k_X7_takesE_22 (nI c) fi (N + 1) 1 fs ga gs = b2 (k_X7_whole_0 gs' m fs' ga') (fun fs2 ga2 => k_X7_takesE_22 (nI c) fi N' 0 fs2 ga2 gs') ∧ L + 3 ≤ N' + (kF p).2.1 ∧ 99990 ≤ m + n ∧ mS fs' gs' f (kF p).2.1 (s + (kF p).2.2.length) w S ∧ mE ga ga' c (100 * f + s) (kF p).2.2 ∧ mF fs fs') ∧ ((kF p).1 = false → ∃ fs' ga' gs', k_X7_takesE_22 (nI c) fi (N + 1) 1 fs ga gs = some (0, fs', ga', gs') ∧ fs' 14 = nI (kF p).2.1 ∧ mE ga ga' c (100 * f + s) [] ∧ mF fs fs') := by
  rw [e, hE]
  obtain ⟨t1, t2⟩ := testY (c := c) hy hf hg h hp (by omega)
  refine ⟨fun ho => ?_, fun ho => ?_⟩
  · obtain ⟨fs', ga', w1, w2, w3, w4⟩ := t1 ho
    obtain ⟨q1, _, _, _, _⟩ := spT_ok hy.2.2 p ho
    rw [w1, b23]
    exact ⟨N, 100000, fs', ga', gs, rfl, by omega, by omega, w2, w3, w4⟩
  · obtain ⟨fs', w1, w2, w3⟩ := t2 ho
    rw [w1, b3_s, if_pos rfl]
    exact ⟨fs', ga, gs, rfl, w2, mE_0 _ _ _, w3⟩
theorem facY {T : Nat → Nat} {L : Nat} {fi : Nat → Int32} (hy : tyY fi L T) {f c : Nat} (hf : f < 6) (hc : c < 60) : ∀ (n w : Nat), n + w = 4 → rdM T L fi f c (spF T L (n + 1) w) w (n + 1)
  | n, w, hn => by
    intro N p s fs ga gs S hg h hp hs hN
    have hL := hy.1
    have ht := hy.2.2
    obtain ⟨N, rfl⟩ : ∃ N1, N = N1 + 1 := ⟨N - 1, by omega⟩
    have hE := E22_w c fi N fs ga gs
    rw [nextY hy hg h.1 (by omega), b1_s] at hE
    by_cases c1 : tpk T L p = 33
    · have hlt := tpk_lt (c := 33) (by omega) c1
      rw [if_pos c1] at hE
      unfold k_X7_takesE_43 at hE
      obtain ⟨h14, h24, h25, h26, hk⟩ := id h
      by_cases c2 : 4 ≤ w
      · have ex : spF T L (n + 1) w p = (false, p, []) := by rw [spF, if_pos c1, if_pos c2]
        rw [ex, hE, if_pos (show fs 26 = 4 by rw [h26, show w = 4 by omega]; rfl)]
        exact ⟨fun h => (by cases h), fun _ => ⟨_, _, _, rfl, h14, mE_0 _ _ _, mF_r _⟩⟩
      · rcases n with _ | n
        · omega
        · rw [if_neg (show ¬ fs 26 = 4 by rw [h26]; exact fun e => c2 (by have := (u_ei (b := 4) (by omega) (by omega)).mp e; omega)), h25, gd_n (by omega) (by omega), u_cl (by omega), h26, h14, nm_e1, nI_1, nI_1, nI_1, c1] at hE
          obtain ⟨i1, i2⟩ := facY hy hf hc n (w + 1) (by omega) N (p + 1) s (upd (upd (upd fs 26 (nI (w + 1))) 25 (nI (S.length + 1))) 14 (nI (p + 1))) ga (va_up gs 23 (upd (gs 23) S.length 33)) (33 :: S) hg ⟨rfl, h24, rfl, rfl, stk_p rfl hk⟩ (by omega) (by rw [List.length_cons]; omega) (by omega)
          have hF2 : mF fs (upd (upd (upd fs 26 (nI (w + 1))) 25 (nI (S.length + 1))) 14 (nI (p + 1))) := mF_t (mF_t (mF_u _ 26 _ (by omega)) (mF_u _ 25 _ (by omega))) (mF_u _ 14 _ (by omega))
          by_cases ho : (spF T L (n + 1) (w + 1) (p + 1)).1 = true
          · have ex : spF T L (n + 1 + 1) w p = (true, (spF T L (n + 1) (w + 1) (p + 1)).2.1, (spF T L (n + 1) (w + 1) (p + 1)).2.2 ++ [0]) := by rw [spF, if_pos c1, if_neg c2, if_pos ho]
            obtain ⟨q1, q2, q3, _, _⟩ := spF_ok ht (n + 1) (w + 1) _ ho
            obtain ⟨N', m, fs', ga', gs', j1, j2, j3, j4, j5, j6⟩ := i1 ho
            obtain ⟨m, rfl⟩ : ∃ m1, m = m1 + 1 := ⟨m - 1, by omega⟩
            obtain ⟨fs2, ga2, v1, v2, v3, v4⟩ := wholN (c := c) (m := m) (ga := ga') hf (by omega) j4 (by omega)
            rw [v1] at j1
            rw [ex]
            refine ⟨fun _ => ⟨N', m, fs2, ga2, gs', hE.trans j1, j2, by omega, ?_, ?_, mF_t hF2 (mF_t j6 v4)⟩, fun h => (by cases h)⟩
            · rw [List.length_append, ← Nat.add_assoc]; exact v2
            · exact mE_t j5 (by rw [Nat.add_assoc]; exact v3)
          · have ho' : (spF T L (n + 1) (w + 1) (p + 1)).1 = false := by simpa using ho
            have ex : spF T L (n + 1 + 1) w p = (false, (spF T L (n + 1) (w + 1) (p + 1)).2.1, []) := by rw [spF, if_pos c1, if_neg c2, if_neg ho]
            obtain ⟨fs', ga', gs', j1, j2, j3, j4⟩ := i2 ho'
            rw [ex]
            exact ⟨fun h => (by cases h), fun _ => ⟨fs', ga', gs', hE.trans j1, j2, j3, mF_t hF2 j4⟩⟩
    · rw [if_neg c1] at hE
      by_cases c3 : tpk T L p = 40
      · have hlt := tpk_lt (c := 40) (by omega) c3
        rw [if_pos c3] at hE
        unfold k_X7_takesE_43 at hE
        obtain ⟨h14, h24, h25, h26, hk⟩ := id h
        by_cases c2 : 4 ≤ w
        · have ex : spF T L (n + 1) w p = (false, p, []) := by rw [spF, if_neg c1, if_pos c3, if_pos c2]
          rw [ex, hE, if_pos (show fs 26 = 4 by rw [h26, show w = 4 by omega]; rfl)]
          exact ⟨fun h => (by cases h), fun _ => ⟨_, _, _, rfl, h14, mE_0 _ _ _, mF_r _⟩⟩
        · rcases n with _ | n
          · omega
          · rw [if_neg (show ¬ fs 26 = 4 by rw [h26]; exact fun e => c2 (by have := (u_ei (b := 4) (by omega) (by omega)).mp e; omega)), h25, gd_n (by omega) (by omega), u_cl (by omega), h26, h14, nm_e1, nI_1, nI_1, nI_1, c3] at hE
            obtain ⟨i1, i2⟩ := eLoop (m := 2 * (n + 1)) hy hf (spF_ok ht (n + 1) (w + 1)) (facY hy hf hc n (w + 1) (by omega)) (by omega) (Q := 40 :: S) (fun x hx => by have : 40 = x := Option.some.inj hx; omega) 100 0 N (p + 1) s (upd (upd (upd fs 26 (nI (w + 1))) 25 (nI (S.length + 1))) 14 (nI (p + 1))) ga (va_up gs 23 (upd (gs 23) S.length 40)) hg ⟨rfl, h24, rfl, rfl, stk_p rfl hk⟩ (by omega) (by rw [if_pos rfl, List.length_cons]; omega) (by omega) (by omega) (by omega)
            have hF2 : mF fs (upd (upd (upd fs 26 (nI (w + 1))) 25 (nI (S.length + 1))) 14 (nI (p + 1))) := mF_t (mF_t (mF_u _ 26 _ (by omega)) (mF_u _ 25 _ (by omega))) (mF_u _ 14 _ (by omega))
            have hB : spL T L (spB T L (spF T L (n + 1) (w + 1))) 124 2 100 0 (p + 1) = spE T L (spF T L (n + 1) (w + 1)) (p + 1) := rfl
            rw [hB] at i1 i2
            by_cases ho : (spE T L (spF T L (n + 1) (w + 1)) (p + 1)).1 = true
            rotate_left
            · have ho' : (spE T L (spF T L (n + 1) (w + 1)) (p + 1)).1 = false := by simpa using ho
              have ex : spF T L (n + 1 + 1) w p = (false, (spE T L (spF T L (n + 1) (w + 1)) (p + 1)).2.1, []) := by rw [spF, if_neg c1, if_pos c3, if_neg c2, if_neg ho]
              obtain ⟨fs', ga', gs', j1, j2, j3, j4⟩ := i2 ho'
              rw [ex]
              exact ⟨fun h => (by cases h), fun _ => ⟨fs', ga', gs', hE.trans j1, j2, j3, mF_t hF2 j4⟩⟩
            have ex : spF T L (n + 1 + 1) w p = if tpk T L (spE T L (spF T L (n + 1) (w + 1)) (p + 1)).2.1 = 41 then (true, (spE T L (spF T L (n + 1) (w + 1)) (p + 1)).2.1 + 1, (spE T L (spF T L (n + 1) (w + 1)) (p + 1)).2.2) else (false, (spE T L (spF T L (n + 1) (w + 1)) (p + 1)).2.1, []) := by rw [spF, if_neg c1, if_pos c3, if_neg c2, if_pos ho]
            obtain ⟨q1, q2, q3, _, _⟩ := spE_ok (T := T) (spF_ok ht (n + 1) (w + 1)) _ ho
            obtain ⟨N1, fs1, ga1, gs1, P, L1, j1, j2, j2', j3, j4, j5, j6, j7, j8, j8', j9⟩ := i1 ho
            rw [ex]
            clear hB ex i1 i2
            have hg1 := mE_g j6 hg
            generalize spE T L (spF T L (n + 1) (w + 1)) (p + 1) = C at *
            obtain ⟨ok, p1, F⟩ := C
            dsimp only at *
            obtain ⟨N2, rfl⟩ : ∃ N2, N1 = N2 + 1 := ⟨N1 - 1, by omega⟩
            rw [E22_e hy hg1 j5.1 (by omega) j8 j8'] at j1
            obtain ⟨fs2, ga2, w1, w2, w3, w4⟩ := settY (c := c) (a := 124) hf (show p1 ≤ 100 by omega) (S := 40 :: S) (fun x hx => by have : 40 = x := Option.some.inj hx; omega) P 100000 (s + L1.length) fs1 ga1 (fun x hx => by
              rcases j2 x hx with h | h
              · exact Or.inl h
              · exact Or.inr ⟨h, by decide⟩) (by omega) j5 j9
            obtain ⟨v14, v24, v25, v26, vk⟩ := id w2
            have hFl : L1.length + P.length = F.length := by rw [← j3, List.length_append, List.length_map]
            have w1' : k_X7_settle 124 fs1 ga1 gs1 = some (fs2, ga2) := w1
            have v25' : fs2 25 = nI (S.length + 1) := v25
            rw [w1', b2_s, gd_n hc (by omega), u_cl (by omega), v25', if_neg (show ¬ nI (S.length + 1) = 0 from fun e => by have := (u_ei (b := 0) (by omega) (by omega)).mp e; omega)] at j1
            have m3 : mE ga ga2 c (100 * f + s) F := by
              rw [← j3]; exact mE_t j6 (by rw [Nat.add_assoc]; exact w3)
            have m4 : mE ga (va_up ga2 21 (upd (ga2 21) c (fs2 24))) c (100 * f + s) F := by
              have := mE_t m3 (mE_21 ga2 c (100 * f + s + F.length) (fs2 24))
              rw [List.append_nil] at this
              exact this
            by_cases hq : tpk T L p1 = 41
            · rw [if_pos hq, nm_e1, u_ps, v26, u_ps, v14, nI_1] at j1
              rw [if_pos hq]
              refine ⟨fun _ => ⟨N2, 100000, _, _, gs1, hE.trans j1, by dsimp only; omega, by omega, ⟨rfl, ?_, rfl, rfl, vk.2⟩, m4, mF_t hF2 (mF_t j7 (mF_t w4 (mF_t (mF_t (mF_u _ 25 _ (by omega)) (mF_u _ 26 _ (by omega))) (mF_u _ 14 _ (by omega)))))⟩, fun h => (by cases h)⟩
              show fs2 24 = _
              rw [v24, Nat.add_assoc s, hFl]
            · rw [if_neg hq] at j1
              rw [if_neg hq]
              exact ⟨fun h => (by cases h), fun _ => ⟨_, _, _, hE.trans j1, v14, mE_w m4, mF_t hF2 (mF_t j7 w4)⟩⟩
      · rw [if_neg c3] at hE
        exact facT hy hf hg h hp hs hN _ _ (by rw [spF, if_neg c1, if_neg c3]) hE

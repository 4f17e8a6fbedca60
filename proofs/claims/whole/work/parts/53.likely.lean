
theorem nx_or (a b : Nat) : nI a ||| nI b = nI (a ||| b) := by
  apply Int32.toBitVec_inj.1
  show BitVec.ofNat 32 a ||| BitVec.ofNat 32 b = BitVec.ofNat 32 (a ||| b)
  apply BitVec.eq_of_getLsbD_eq
  intro i hi
  simp [hi]
theorem u_1s : ∀ x, x < 21 → (1 : Int32) <<< (nI x &&& 31) = nI (2 ^ x) := by decide +kernel
def lkR (P : Nat → Bool) : Nat → Nat → Nat → Nat
  | 0, _, m => m
  | r + 1, x, m => lkR P r (x + 1) (if P x = true then m ||| 2 ^ x else m)
def stG (G : Nat → Nat → Nat) (s p v : Nat) : Nat → Nat → Nat := fun s' p' => if s' = s ∧ p' = p then v else G s' p'
theorem agr_sg {mf : Nat → Int32} {mg : Nat → Nat → Int32} {F : Nat → Nat} {G : Nat → Nat → Nat} (h : agr mf mg F G) (s p v : Nat) (hs : s < 11) : agr mf (va_up mg s (upd (mg s) p (nI v))) F (stG G s p v) := by
  refine ⟨h.1, fun s' p' a b c => ?_, fun k hk => ?_⟩
  · show va_up mg s (upd (mg s) p (nI v)) s' p' = nI (if s' = s ∧ p' = p then v else G s' p')
    by_cases e : s' = s
    · subst e
      rw [va_up_self, u_up]
      by_cases d : p' = p
      · rw [if_pos d, if_pos ⟨rfl, d⟩]
      · rw [if_neg d, if_neg (fun g => d g.2)]
        exact h.2.1 s' p' a b c
    · rw [va_up_ne _ _ e, if_neg (fun g => e g.1)]
      exact h.2.1 s' p' a b c
  · show va_up mg s (upd (mg s) p (nI v)) 11 k = nI (if 11 = s ∧ k = p then v else G 11 k)
    rw [va_up_ne _ _ (by omega), if_neg (by omega)]
    exact h.2.2 k hk
theorem agm_sg {fi : Nat → Int32} {ga : Nat → Nat → Int32} {F : Nat → Nat} {G : Nat → Nat → Nat} (h : agm fi ga F G) (s p v : Nat) (hs : s < 11) (h7 : 7 ≤ s) : agm fi (va_up ga (s - 1) (upd (ga (s - 1)) p (nI v))) F (stG G s p v) := by
  have := agr_sg h s p v hs
  refine ⟨this.1, fun s' p' a b c => ?_, fun k hk => ?_⟩
  · rw [← this.2.1 s' p' a b c]
    show va_up ga (s - 1) (upd (ga (s - 1)) p (nI v)) (s' - 1) p' = va_up (fun s => ga (s - 1)) s (upd (ga (s - 1)) p (nI v)) s' p'
    by_cases e : s' = s
    · subst e; rw [va_up_self, va_up_self]
    · rw [va_up_ne _ _ e, va_up_ne _ _ (by omega)]
  · rw [← this.2.2 k hk]
    show va_up ga (s - 1) (upd (ga (s - 1)) p (nI v)) 10 k = va_up (fun s => ga (s - 1)) s (upd (ga (s - 1)) p (nI v)) 11 k
    rw [va_up_ne _ _ (by omega), va_up_ne _ _ (by omega)]
theorem ok_sg {F : Nat → Nat} {G : Nat → Nat → Nat} (ho : okF 9999 F G) (s p v : Nat) (hs : (s = 8 ∧ v ≤ 9) ∨ (s = 9 ∧ v ≤ 20)) : okF 9999 F (stG G s p v) := by
  obtain ⟨h0, h1, h2, h3, h4, h5, h7, h11⟩ := ho
  refine ⟨h0, h1, h2, h3, h4, h5, fun q hq => ?_, fun k hk => ?_⟩
  · have h := h7 q hq
    refine ⟨?_, ?_, ?_, ?_⟩
    · show (if 7 = s ∧ q = p then v else G 7 q) ≤ 6
      rw [if_neg (by omega)]; omega
    · show (if 8 = s ∧ q = p then v else G 8 q) ≤ 9
      split <;> omega
    · show (if 9 = s ∧ q = p then v else G 9 q) ≤ 20
      split <;> omega
    · show (if 10 = s ∧ q = p then v else G 10 q) ≤ 9999
      rw [if_neg (by omega)]; omega
  · show (if 11 = s ∧ k = p then v else G 11 k) ≤ 9
    rw [if_neg (by omega)]; exact h11 k hk
theorem kM_e {ga ga' : Nat → Nat → Int32} (e : ∀ s, 17 ≤ s → s ≤ 22 → ga' s = ga s) : ∀ {Cs : List (Nat × Nat × List Nat)} {i b : Nat}, kM ga Cs i b → kM ga' Cs i b
  | [], _, _, _ => trivial
  | c :: Cs, i, b, h => by
    have hr : ∀ {L : List Nat} {a : Nat}, mRl ga a L → mRl ga' a L := by
      intro L
      induction L with
      | nil => intro a _; trivial
      | cons t L ih => intro a hh; exact ⟨by rw [e 22 (by omega) (by omega)]; exact hh.1, ih hh.2⟩
    exact ⟨by rw [e 18 (by omega) (by omega)]; exact h.1, by rw [e 19 (by omega) (by omega)]; exact h.2.1, by rw [e 20 (by omega) (by omega), e 21 (by omega) (by omega)]; exact h.2.2.1, hr h.2.2.2.1, kM_e e h.2.2.2.2⟩
theorem hasM_e {fi fi' : Nat → Int32} {ga ga' : Nat → Nat → Int32} {Cs : List (Nat × Nat × List Nat)} (g : fi' 12 = fi 12) (e : ∀ s, 17 ≤ s → s ≤ 22 → ga' s = ga s) (h : hasM fi ga Cs) : hasM fi' ga' Cs := by
  rcases h with ⟨e1, e2⟩ | ⟨f, hf, e1, hl, hk⟩
  · exact Or.inl ⟨g.trans e1, e2⟩
  · exact Or.inr ⟨f, hf, g.trans e1, by rw [e 17 (by omega) (by omega)]; exact hl, kM_e e hk⟩
/-- one likely, by the place s of the number that is tried -/
def pLk (F : Nat → Nat) (G : Nat → Nat → Nat) (Cs : List (Nat × Nat × List Nat)) (hn : Nat) (h1 h2 : Nat → Nat) (s p v : Nat) : Bool := okA F (stG G s p v) Cs hn h1 h2
theorem lkC {nhc : Int32} {nha nhb : Nat → Int32} {hn : Nat} {h1 h2 : Nat → Nat} (hc : hrC nhc nha nhb hn h1 h2) {nf : Nat → Int32} {ng : Nat → Nat → Int32} {nc : Option Nat} {cn : Nat} {cf : Nat → Nat → Int32} {cg : Nat → Nat → Nat → Int32} {fi : Nat → Int32} {ga : Nat → Nat → Int32} {F : Nat → Nat} {G : Nat → Nat → Nat} {Cs : List (Nat × Nat × List Nat)} (hs : sit nf ng nc cn cf cg fi ga F G Cs) (p : Nat) (hp : p < 6) : ∀ (r n x m : Nat) (tf : Nat → Int32) (tg : Nat → Nat → Int32) (tc : Option Nat) (tv : Nat → Int32), r < n → 21 = x + r → ∃ tf' tg' tc' tv', k_X6_likelyNerves_4 (nI p) nf ng nc nhc nha nhb cn cf cg n (nI m) (nI x) tf tg tc tv = some (nI (lkR (pLk F G Cs hn h1 h2 9 p) r x m), tf', tg', tc', tv')
  | 0, 0, _, _, _, _, _, _, hlt, _ => by omega
  | 0, n + 1, x, m, tf, tg, tc, tv, hlt, e => by
    refine ⟨tf, tg, tc, tv, ?_⟩
    show (if 20 < nI x then _ else _) = _
    rw [if_pos (show (20 : Int32) < nI x from nI_lt (a := 20) (by omega) (by omega))]
    rfl
  | r + 1, 0, _, _, _, _, _, _, hlt, _ => by omega
  | r + 1, n + 1, x, m, tf, tg, tc, tv, hlt, e => by
    obtain ⟨ha, hm, ho, hC, hM, hk⟩ := id hs
    simp only [k_X6_likelyNerves_4, lkR]
    rw [if_neg (show ¬ (20 : Int32) < nI x from nI_nlt (a := 20) (by omega) (by omega))]
    obtain ⟨tf1, tg1, e1, g1⟩ := beginC ha nc tf tg tc
    obtain ⟨tf2, tg2, tv2, e2⟩ := asC hc hC hk (ok_sg ho 9 p x (Or.inr ⟨rfl, by omega⟩)) tf1 _ tv (agr_sg g1 9 p x (by omega))
    rw [e1, b3_s, gd_n hp (by omega), u_cl (by omega), e2, b4_s, nI_1, u_1s x (by omega), nx_or]
    show ∃ tf' tg' tc' tv', (if bI (pLk F G Cs hn h1 h2 9 p x) = 0 then _ else _) = _
    rcases Bool.eq_false_or_eq_true (pLk F G Cs hn h1 h2 9 p x) with c | c
    · rw [if_neg (bi_t c), if_pos c]
      exact lkC hc hs p hp r n (x + 1) _ _ _ _ _ (by omega) (by omega)
    · rw [if_pos (bi_f c), if_neg (nt_f c)]
      exact lkC hc hs p hp r n (x + 1) _ _ _ _ _ (by omega) (by omega)
theorem lkV {nhc : Int32} {nha nhb : Nat → Int32} {hn : Nat} {h1 h2 : Nat → Nat} (hc : hrC nhc nha nhb hn h1 h2) {nf : Nat → Int32} {ng : Nat → Nat → Int32} {nc : Option Nat} {cn : Nat} {cf : Nat → Nat → Int32} {cg : Nat → Nat → Nat → Int32} {fi : Nat → Int32} {ga : Nat → Nat → Int32} {F : Nat → Nat} {G : Nat → Nat → Nat} {Cs : List (Nat × Nat × List Nat)} (hs : sit nf ng nc cn cf cg fi ga F G Cs) (p : Nat) (hp : p < 6) : ∀ (r n x m : Nat) (tf : Nat → Int32) (tg : Nat → Nat → Int32) (tc : Option Nat) (tv : Nat → Int32), r < n → 10 = x + r → ∃ tf' tg' tc' tv', k_X6_likelyNumbers_4 (nI p) nf ng nc nhc nha nhb cn cf cg n (nI m) (nI x) tf tg tc tv = some (nI (lkR (pLk F G Cs hn h1 h2 8 p) r x m), tf', tg', tc', tv')
  | 0, 0, _, _, _, _, _, _, hlt, _ => by omega
  | 0, n + 1, x, m, tf, tg, tc, tv, hlt, e => by
    refine ⟨tf, tg, tc, tv, ?_⟩
    show (if 9 < nI x then _ else _) = _
    rw [if_pos (show (9 : Int32) < nI x from nI_lt (a := 9) (by omega) (by omega))]
    rfl
  | r + 1, 0, _, _, _, _, _, _, hlt, _ => by omega
  | r + 1, n + 1, x, m, tf, tg, tc, tv, hlt, e => by
    obtain ⟨ha, hm, ho, hC, hM, hk⟩ := id hs
    simp only [k_X6_likelyNumbers_4, lkR]
    rw [if_neg (show ¬ (9 : Int32) < nI x from nI_nlt (a := 9) (by omega) (by omega))]
    obtain ⟨tf1, tg1, e1, g1⟩ := beginC ha nc tf tg tc
    obtain ⟨tf2, tg2, tv2, e2⟩ := asC hc hC hk (ok_sg ho 8 p x (Or.inl ⟨rfl, by omega⟩)) tf1 _ tv (agr_sg g1 8 p x (by omega))
    rw [e1, b3_s, gd_n hp (by omega), u_cl (by omega), e2, b4_s, nI_1, u_1s x (by omega), nx_or]
    show ∃ tf' tg' tc' tv', (if bI (pLk F G Cs hn h1 h2 8 p x) = 0 then _ else _) = _
    rcases Bool.eq_false_or_eq_true (pLk F G Cs hn h1 h2 8 p x) with c | c
    · rw [if_neg (bi_t c), if_pos c]
      exact lkV hc hs p hp r n (x + 1) _ _ _ _ _ (by omega) (by omega)
    · rw [if_pos (bi_f c), if_neg (nt_f c)]
      exact lkV hc hs p hp r n (x + 1) _ _ _ _ _ (by omega) (by omega)
/-- the model: the number tried stands in its array; put back, the array is as it was -/
theorem up_up (ga : Nat → Nat → Int32) (s p : Nat) (v w : Int32) : va_up (va_up ga s (upd (ga s) p v)) s (upd (va_up ga s (upd (ga s) p v) s) p w) = va_up ga s (upd (ga s) p w) := by
  funext s' p'
  by_cases e : s' = s
  · subst e
    rw [va_up_self, va_up_self, va_up_self, u_up, u_up, u_up]
    split <;> rfl
  · rw [va_up_ne _ _ e, va_up_ne _ _ e, va_up_ne _ _ e]
theorem up_id (ga : Nat → Nat → Int32) (s p : Nat) : va_up ga s (upd (ga s) p (ga s p)) = ga := by
  funext s' p'
  by_cases e : s' = s
  · subst e
    rw [va_up_self, u_up]
    split
    · rename_i c; rw [c]
    · rfl
  · rw [va_up_ne _ _ e]
theorem lkM {hn : Nat} {h1 h2 : Nat → Nat} (h5 : hn ≤ 5) (hb : ∀ i, i < hn → h1 i ≤ 12 ∧ h2 i ≤ 999) {nf : Nat → Int32} {ng : Nat → Nat → Int32} {nc : Option Nat} {cn : Nat} {cf : Nat → Nat → Int32} {cg : Nat → Nat → Nat → Int32} {fi : Nat → Int32} {ga : Nat → Nat → Int32} {F : Nat → Nat} {G : Nat → Nat → Nat} {Cs : List (Nat × Nat × List Nat)} (hs : sit nf ng nc cn cf cg fi ga F G Cs) (hh : hrM fi ga hn h1 h2) (p : Nat) (hp : p < 6) : ∀ (r n x m : Nat) (v : Int32) (fs : Nat → Int32) (gs : Nat → Nat → Int32) (pl : Nat → Int32), fs 29 = 9999 → r < n → 21 = x + r → ∃ fs' gs' pl', k_X7_nerves_12 (nI p) n (ga 8 p) (nI m) (nI x) fi fs (va_up ga 8 (upd (ga 8) p v)) gs pl = some (nI (lkR (pLk F G Cs hn h1 h2 9 p) r x m), fi, fs', ga, gs', pl') ∧ fs' 29 = 9999
  | 0, 0, _, _, _, _, _, _, _, hlt, _ => by omega
  | 0, n + 1, x, m, v, fs, gs, pl, hf, hlt, e => by
    refine ⟨fs, gs, pl, ?_, hf⟩
    show (if 21 ≤ nI x then _ else _) = _
    rw [if_pos (show (21 : Int32) ≤ nI x from nI_le (a := 21) (by omega) (by omega)), gd_n hp (by omega), u_cl (by omega), up_up, up_id]
    rfl
  | r + 1, 0, _, _, _, _, _, _, _, hlt, _ => by omega
  | r + 1, n + 1, x, m, v, fs, gs, pl, hf, hlt, e => by
    obtain ⟨ha, hm, ho, hC, hM, hk⟩ := id hs
    simp only [k_X7_nerves_12, lkR]
    rw [if_neg (show ¬ (21 : Int32) ≤ nI x from nI_ge (b := 21) (by omega) (by omega)), gd_n hp (by omega), u_cl (by omega), up_up]
    have hh' : hrM fi (va_up ga 8 (upd (ga 8) p (nI x))) hn h1 h2 := ⟨hh.1, fun i hi => by rw [va_up_ne _ _ (by omega), va_up_ne _ _ (by omega)]; exact hh.2 i hi⟩
    obtain ⟨fs1, gs1, pl1, e2, f1⟩ := asM h5 hb hh' (hasM_e rfl (fun s a b => va_up_ne _ _ (by omega)) hM) hk (ok_sg ho 9 p x (Or.inr ⟨rfl, by omega⟩)) (agm_sg hm 9 p x (by omega) (by omega)) fs gs pl hf
    rw [e2, b6_s, nI_1, u_1s x (by omega), nx_or, Int32.or_zero]
    show ∃ fs' gs' pl', (if bI (pLk F G Cs hn h1 h2 9 p x) = 0 then _ else _) = _ ∧ _
    rcases Bool.eq_false_or_eq_true (pLk F G Cs hn h1 h2 9 p x) with c | c
    · rw [if_neg (bi_t c), if_pos c]
      exact lkM h5 hb hs hh p hp r n (x + 1) _ _ _ _ _ f1 (by omega) (by omega)
    · rw [if_pos (bi_f c), if_neg (nt_f c)]
      exact lkM h5 hb hs hh p hp r n (x + 1) _ _ _ _ _ f1 (by omega) (by omega)
def lsR (m : Nat) : Nat → Nat → Int32
  | 0, _ => -5
  | r + 1, x => if m.testBit x = true then nI x else lsR m r (x + 1)
theorem pcR_add (m : Nat) : ∀ (r o a : Nat), pcR m r o (a + 1) = pcR m r o a + 1
  | 0, _, _ => rfl
  | r + 1, o, a => by
    simp only [pcR]
    split <;> exact pcR_add m r (o + 1) _
theorem lkR_bit (P : Nat → Bool) : ∀ (r x m : Nat), m < 2 ^ x → (lkR P r x m < 2 ^ (x + r)) ∧ (∀ y, y < x → (lkR P r x m).testBit y = m.testBit y) ∧ (∀ y, x ≤ y → y < x + r → (lkR P r x m).testBit y = P y)
  | 0, x, m, h => ⟨h, fun _ _ => rfl, fun y a b => by omega⟩
  | r + 1, x, m, h => by
    have hp : 2 ^ (x + 1) = 2 ^ x * 2 := Nat.pow_succ ..
    have hb : m.testBit x = false := Nat.testBit_lt_two_pow h
    have h1 : (if P x = true then m ||| 2 ^ x else m) < 2 ^ (x + 1) := by
      split
      · exact Nat.or_lt_two_pow (by omega) (by omega)
      · omega
    obtain ⟨a1, a2, a3⟩ := lkR_bit P r (x + 1) _ h1
    refine ⟨by rw [show x + (r + 1) = x + 1 + r by omega]; exact a1, fun y hy => ?_, fun y b1 b2 => ?_⟩
    · rw [show lkR P (r + 1) x m = lkR P r (x + 1) (if P x = true then m ||| 2 ^ x else m) from rfl, a2 y (by omega)]
      split
      · rw [Nat.testBit_or, Nat.testBit_two_pow, decide_eq_false (by omega), Bool.or_false]
      · rfl
    · rw [show lkR P (r + 1) x m = lkR P r (x + 1) (if P x = true then m ||| 2 ^ x else m) from rfl]
      by_cases c : y = x
      · subst c
        rw [a2 y (by omega)]
        rcases Bool.eq_false_or_eq_true (P y) with d | d
        · rw [if_pos d, Nat.testBit_or, Nat.testBit_two_pow, d]; simp
        · rw [if_neg (nt_f d), hb, d]
      · exact a3 y (by omega) (by omega)
theorem bc10 : ∀ k, k < 1024 → k_J6_bitCount_0f7a4 (nI k) = some (nI (pcR k 10 0 0)) := by decide +kernel
theorem lsC (m : Nat) (hm : m < 1024) : ∀ (r n x : Nat), r < n → 10 = x + r → k_X6_leastOf_2 (nI m) n (nI x) = some (lsR m r x)
  | 0, 0, _, hlt, _ => by omega
  | 0, n + 1, x, hlt, e => by
    show (if 9 < nI x then _ else _) = _
    rw [if_pos (show (9 : Int32) < nI x from nI_lt (a := 9) (by omega) (by omega))]
    rfl
  | r + 1, 0, _, hlt, _ => by omega
  | r + 1, n + 1, x, hlt, e => by
    simp only [k_X6_leastOf_2, lsR]
    rw [if_neg (show ¬ (9 : Int32) < nI x from nI_nlt (a := 9) (by omega) (by omega)), u_bit (by omega) (by omega), nI_1]
    rcases Bool.eq_false_or_eq_true (m.testBit x) with c | c
    · rw [if_neg (bi_t c), if_pos c]
    · rw [if_pos (bi_f c), if_neg (nt_f c)]
      exact lsC m hm r n (x + 1) (by omega) (by omega)
theorem caM {hn : Nat} {h1 h2 : Nat → Nat} (h5 : hn ≤ 5) (hb : ∀ i, i < hn → h1 i ≤ 12 ∧ h2 i ≤ 999) {nf : Nat → Int32} {ng : Nat → Nat → Int32} {nc : Option Nat} {cn : Nat} {cf : Nat → Nat → Int32} {cg : Nat → Nat → Nat → Int32} {fi : Nat → Int32} {ga : Nat → Nat → Int32} {F : Nat → Nat} {G : Nat → Nat → Nat} {Cs : List (Nat × Nat × List Nat)} (hs : sit nf ng nc cn cf cg fi ga F G Cs) (hh : hrM fi ga hn h1 h2) (p : Nat) (hp : p < 6) (a2 : Int32) (m : Nat) (hbit : ∀ y, y < 10 → m.testBit y = pLk F G Cs hn h1 h2 8 p y) : ∀ (x n : Nat) (v : Int32) (fs : Nat → Int32) (gs : Nat → Nat → Int32) (pl : Nat → Int32), fs 29 = 9999 → x + 1 < n → x ≤ 10 → ∃ fs' gs' pl', k_X7_can_38 (nI p) a2 n (ga 7 p) (nI (pcR m (10 - x) x 0)) (lsR m (10 - x) x) (nI x - 1) fi fs (va_up ga 7 (upd (ga 7) p v)) gs pl = some (if a2 = 0 then nI (pcR m 10 0 0) else lsR m 10 0, fi, fs', ga, gs', pl') ∧ fs' 29 = 9999
  | 0, 0, _, _, _, _, _, hlt, _ => by omega
  | 0, n + 1, v, fs, gs, pl, hf, hlt, e => by
    refine ⟨fs, gs, pl, ?_, hf⟩
    show (if nI 0 - 1 < 0 then _ else _) = _
    rw [if_pos (show nI 0 - 1 < 0 by decide), gd_n hp (by omega), u_cl (by omega), up_up, up_id]
    split <;> rfl
  | x + 1, 0, _, _, _, _, _, hlt, _ => by omega
  | x + 1, n + 1, v, fs, gs, pl, hf, hlt, e => by
    obtain ⟨ha, hm, ho, hC, hM, hk⟩ := id hs
    simp only [k_X7_can_38]
    rw [nI_pred, if_neg (nI_pos (by omega)), gd_n hp (by omega), u_cl (by omega), up_up]
    have hh' : hrM fi (va_up ga 7 (upd (ga 7) p (nI x))) hn h1 h2 := ⟨hh.1, fun i hi => by rw [va_up_ne _ _ (by omega), va_up_ne _ _ (by omega)]; exact hh.2 i hi⟩
    obtain ⟨fs1, gs1, pl1, e2, f1⟩ := asM h5 hb hh' (hasM_e rfl (fun s a b => va_up_ne _ _ (by omega)) hM) hk (ok_sg ho 8 p x (Or.inl ⟨rfl, by omega⟩)) (agm_sg hm 8 p x (by omega) (by omega)) fs gs pl hf
    rw [e2, b6_s, nI_1, show nI x + (-1) = nI x - 1 from (Int32.sub_eq_add_neg ..).symm]
    have ih := fun v fs gs pl g => caM h5 hb hs hh p hp a2 m hbit x n v fs gs pl g (by omega) (by omega)
    have ep : pcR m (10 - x) x 0 = pcR m (10 - (x + 1)) (x + 1) (if m.testBit x = true then 0 + 1 else 0) := by
      rw [show 10 - x = 10 - (x + 1) + 1 by omega]; rfl
    have el : lsR m (10 - x) x = if m.testBit x = true then nI x else lsR m (10 - (x + 1)) (x + 1) := by
      rw [show 10 - x = 10 - (x + 1) + 1 by omega]; rfl
    rw [ep, el, hbit x (by omega)] at ih
    show ∃ fs' gs' pl', (if bI (pLk F G Cs hn h1 h2 8 p x) = 0 then _ else _) = _ ∧ _
    rcases Bool.eq_false_or_eq_true (pLk F G Cs hn h1 h2 8 p x) with c | c
    · rw [if_pos c, if_pos c, pcR_add] at ih
      rw [if_neg (bi_t c)]
      exact ih _ _ _ _ f1
    · rw [if_neg (nt_f c), if_neg (nt_f c)] at ih
      rw [if_pos (bi_f c)]
      exact ih _ _ _ _ f1

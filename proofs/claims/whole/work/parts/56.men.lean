
def mnG (G : Nat → Nat → Nat) (m a b c : Nat) : Nat → Nat → Nat := fun s k => if s = 7 ∧ k = m then a else if s = 8 ∧ k = m then b else if s = 9 ∧ k = m then c else if s = 10 ∧ k = m then 0 else if s = 11 ∧ 4 * m ≤ k ∧ k < 4 * m + 4 then 0 else G s k
theorem ro0C (m : Nat) (hm : m < 6) : ∀ (r n o : Nat) (mf : Nat → Int32) (mg : Nat → Nat → Int32), r < n → 4 = o + r → ∃ mg', k_X1_add_48 n (nI m) (nI o) mf mg = some (nI m, upd mf 0 (mf 0 + 1), mg') ∧ (∀ s, s ≠ 11 → mg' s = mg s) ∧ (∀ k, (k < 4 * m + o ∨ 4 * m + 4 ≤ k) → mg' 11 k = mg 11 k) ∧ (∀ k, 4 * m + o ≤ k → k < 4 * m + 4 → mg' 11 k = 0)
  | 0, 0, _, _, _, hlt, _ => by omega
  | 0, n + 1, o, mf, mg, hlt, e => by
    refine ⟨mg, ?_, fun _ _ => rfl, fun _ _ => rfl, fun k a b => by omega⟩
    show (if 4 ≤ nI o then _ else _) = _
    rw [if_pos (show (4 : Int32) ≤ nI o from nI_le (a := 4) (by omega) (by omega))]
  | r + 1, 0, _, _, _, hlt, _ => by omega
  | r + 1, n + 1, o, mf, mg, hlt, e => by
    obtain ⟨mg', e1, e2, e3, e4⟩ := ro0C m hm r n (o + 1) mf (va_up mg 11 (upd (mg 11) (4 * m + o) 0)) (by omega) (by omega)
    refine ⟨mg', ?_, fun s h => by rw [e2 s h, va_up_ne _ _ h], fun k h => ?_, fun k a b => ?_⟩
    · simp only [k_X1_add_48]
      rw [if_neg (show ¬ (4 : Int32) ≤ nI o from nI_ge (b := 4) (by omega) (by omega)), show nI m * 4 = nI (m * 4) from u_ml m 4, u_ab, Nat.mul_comm m 4, gd_n (by omega) (by omega), u_cl (by omega), nI_1]
      exact e1
    · rw [e3 k (by omega), va_up_self, u_up, if_neg (by omega)]
    · by_cases c : k = 4 * m + o
      · rw [e3 k (by omega), va_up_self, u_up, if_pos c]
      · exact e4 k (by omega) b
theorem ro0M (m : Nat) (hm : m < 6) : ∀ (r n o : Nat) (mf : Nat → Int32) (mg : Nat → Nat → Int32), mf 0 = nI m → r < n → 4 = o + r → ∃ mg', k_X7_man_107 n (nI o) mf mg = some (nI m, upd mf 0 (nI m + 1), mg') ∧ (∀ s, s ≠ 10 → mg' s = mg s) ∧ (∀ k, (k < 4 * m + o ∨ 4 * m + 4 ≤ k) → mg' 10 k = mg 10 k) ∧ (∀ k, 4 * m + o ≤ k → k < 4 * m + 4 → mg' 10 k = 0)
  | 0, 0, _, _, _, _, hlt, _ => by omega
  | 0, n + 1, o, mf, mg, h0, hlt, e => by
    refine ⟨mg, ?_, fun _ _ => rfl, fun _ _ => rfl, fun k a b => by omega⟩
    show (if 4 ≤ nI o then _ else _) = _
    rw [if_pos (show (4 : Int32) ≤ nI o from nI_le (a := 4) (by omega) (by omega)), h0, nI_1, nI_pred]
  | r + 1, 0, _, _, _, _, hlt, _ => by omega
  | r + 1, n + 1, o, mf, mg, h0, hlt, e => by
    obtain ⟨mg', e1, e2, e3, e4⟩ := ro0M m hm r n (o + 1) mf (va_up mg 10 (upd (mg 10) (4 * m + o) 0)) h0 (by omega) (by omega)
    refine ⟨mg', ?_, fun s h => by rw [e2 s h, va_up_ne _ _ h], fun k h => ?_, fun k a b => ?_⟩
    · simp only [k_X7_man_107]
      rw [if_neg (show ¬ (4 : Int32) ≤ nI o from nI_ge (b := 4) (by omega) (by omega)), h0, show 4 * nI m = nI (4 * m) from u_ml 4 m, u_ab, gd_n (by omega) (by omega), u_cl (by omega), nI_1]
      exact e1
    · rw [e3 k (by omega), va_up_self, u_up, if_neg (by omega)]
    · by_cases c : k = 4 * m + o
      · rw [e3 k (by omega), va_up_self, u_up, if_pos c]
      · exact e4 k (by omega) b
def mnF (F : Nat → Nat) (m : Nat) : Nat → Nat := fun k => if k = 0 then m + 1 else if k = 1 then F 1 &&& (63 - 2 ^ m) else F k
/-- the arrays of one who comes -/
theorem mn_agr {mf mf' : Nat → Int32} {mg mg' : Nat → Nat → Int32} {F : Nat → Nat} {G : Nat → Nat → Nat} (h : agr mf mg F G) (m a b c : Nat) (hm : m < 6) (h0 : mf' 0 = nI (m + 1)) (h1 : mf' 1 = nI (F 1 &&& (63 - 2 ^ m))) (hk : ∀ k, 2 ≤ k → k < 6 → mf' k = mf k) (e7 : mg' 7 = upd (mg 7) m (nI a)) (e8 : mg' 8 = upd (mg 8) m (nI b)) (e9 : mg' 9 = upd (mg 9) m (nI c)) (e10 : mg' 10 = upd (mg 10) m 0) (r1 : ∀ k, (k < 4 * m + 0 ∨ 4 * m + 4 ≤ k) → mg' 11 k = mg 11 k) (r2 : ∀ k, 4 * m + 0 ≤ k → k < 4 * m + 4 → mg' 11 k = 0) : agr mf' mg' (mnF F m) (mnG G m a b c) := by
  refine ⟨fun k hk6 => ?_, fun s p h7 h10 hp => ?_, fun k hk24 => ?_⟩
  · by_cases c0 : k = 0
    · subst c0; exact h0
    by_cases c1 : k = 1
    · subst c1; exact h1
    rw [hk k (by omega) hk6, h.1 k hk6]
    show nI (F k) = nI (if k = 0 then m + 1 else if k = 1 then F 1 &&& (63 - 2 ^ m) else F k)
    rw [if_neg c0, if_neg c1]
  · rcases (show s = 7 ∨ s = 8 ∨ s = 9 ∨ s = 10 by omega) with e | e | e | e <;> subst e
    · rw [e7, u_up, h.2.1 7 p (by omega) (by omega) hp]
      by_cases d : p = m <;> simp [mnG, d]
    · rw [e8, u_up, h.2.1 8 p (by omega) (by omega) hp]
      by_cases d : p = m <;> simp [mnG, d]
    · rw [e9, u_up, h.2.1 9 p (by omega) (by omega) hp]
      by_cases d : p = m <;> simp [mnG, d]
    · rw [e10, u_up, h.2.1 10 p (by omega) (by omega) hp]
      by_cases d : p = m
      · simp [mnG, d]; rfl
      · simp [mnG, d]
  · by_cases d : 4 * m ≤ k ∧ k < 4 * m + 4
    · rw [r2 k (by omega) d.2]
      have : mnG G m a b c 11 k = 0 := by simp [mnG, d]
      rw [this]; rfl
    · rw [r1 k (by omega), h.2.2 k hk24]
      have : mnG G m a b c 11 k = G 11 k := by simp only [mnG]; rw [if_neg (by omega), if_neg (by omega), if_neg (by omega), if_neg (by omega), if_neg (fun q => d q.2)]
      rw [this]
theorem op_man {nf : Nat → Int32} {ng : Nat → Nat → Int32} {fi : Nat → Int32} {ga : Nat → Nat → Int32} {F : Nat → Nat} {G : Nat → Nat → Nat} (ha : agr nf ng F G) (hm : agm fi ga F G) (ho : okF 9999 F G) (a b c : Int32) : ∃ r nf' ng' fi' ga' F' G', k_X6_man a b c nf ng = some (r, nf', ng') ∧ k_X7_man a b c fi ga = some (r, fi', ga') ∧ agr nf' ng' F' G' ∧ agm fi' ga' F' G' ∧ okF 9999 F' G' ∧ F 0 ≤ F' 0 ∧ (∀ k, k ≠ 0 → k ≠ 1 → fi' k = fi k) ∧ (∀ s, s ≠ 6 → s ≠ 7 → s ≠ 8 → s ≠ 9 → s ≠ 10 → ga' s = ga s) := by
  unfold k_X6_man k_X7_man k_X7_isNerve
  rw [isW, isW, isW]
  have no : ∀ r : Int32, ∃ r' nf' ng' fi' ga' F' G', some (r, nf, ng) = some (r', nf', ng') ∧ some (r, fi, ga) = some (r', fi', ga') ∧ agr nf' ng' F' G' ∧ agm fi' ga' F' G' ∧ okF 9999 F' G' ∧ F 0 ≤ F' 0 ∧ (∀ k, k ≠ 0 → k ≠ 1 → fi' k = fi k) ∧ (∀ s, s ≠ 6 → s ≠ 7 → s ≠ 8 → s ≠ 9 → s ≠ 10 → ga' s = ga s) := fun r => ⟨r, nf, ng, fi, ga, F, G, rfl, rfl, ha, hm, ho, Nat.le_refl _, fun _ _ _ => rfl, fun _ _ _ _ _ _ => rfl⟩
  rcases inN a 6 6 rfl with e | ⟨e, k1, hk1, ek1⟩
  · rw [e]; exact no _
  rw [e, b1_s, b1_s, if_neg (show ¬ (1 : Int32) = 0 by decide), if_neg (show ¬ (1 : Int32) = 0 by decide)]; clear e
  rcases inN b 9 9 rfl with e | ⟨e, k2, hk2, ek2⟩
  · rw [e]; exact no _
  rw [e, b1_s, b1_s, if_neg (show ¬ (1 : Int32) = 0 by decide), if_neg (show ¬ (1 : Int32) = 0 by decide)]; clear e
  rcases inN c 20 20 rfl with e | ⟨e, k3, hk3, ek3⟩
  · rw [e]; exact no _
  rw [e, b1_s, b1_s, b1_s, if_neg (show ¬ (1 : Int32) = 0 by decide), if_neg (show ¬ (1 : Int32) = 0 by decide)]; clear e
  subst ek1 ek2 ek3
  obtain ⟨h0, h1, h2, h3, h4, h5, h7, h11⟩ := id ho
  rw [ha.1 0 (by omega), hm.1 0 (by omega)]
  by_cases c6 : F 0 = 6
  · rw [if_neg (show ¬ nI (F 0) < 6 by rw [c6]; decide), if_pos (show nI (F 0) = 6 by rw [c6]; rfl)]; exact no _
  have hlt : F 0 < 6 := by omega
  have g1 : ∀ {α : Type} (o : Option α), gd (nI (F 0)) 6 o = o := fun o => gd_n hlt (by omega)
  rw [if_pos (show nI (F 0) < 6 from nI_lt (b := 6) hlt (by omega)), if_neg (show ¬ nI (F 0) = 6 from fun y => c6 ((u_ei (b := 6) (by omega) (by omega)).mp y))]
  obtain ⟨o1, o2⟩ := u_offb (F 0) hlt (F 1) h1
  simp only [k_X1_add, k_X1_put, nm_e1]
  rw [ha.1 0 (by omega), ha.1 1 (by omega), hm.1 1 (by omega)]
  simp only [g1]
  rw [u_cl (by omega), o1, if_pos trivial, b1_s]
  obtain ⟨mg1, q1, q2, q3, q4⟩ := ro0C (F 0) hlt 4 100000 0 (upd nf 1 (nI (F 1 &&& (63 - 2 ^ F 0)))) (va_up (va_up (va_up (va_up ng 7 (upd (ng 7) (F 0) (nI k1))) 8 (upd (ng 8) (F 0) (nI k2))) 9 (upd (va_up (va_up ng 7 (upd (ng 7) (F 0) (nI k1))) 8 (upd (ng 8) (F 0) (nI k2)) 9) (F 0) (nI k3))) 10 (upd (va_up (va_up ng 7 (upd (ng 7) (F 0) (nI k1))) 8 (upd (ng 8) (F 0) (nI k2)) 10) (F 0) 0)) (by omega) (by omega)
  obtain ⟨ga1, p1, p2, p3, p4⟩ := ro0M (F 0) hlt 4 100000 0 (upd fi 1 (nI (F 1 &&& (63 - 2 ^ F 0)))) (va_up (va_up (va_up (va_up ga 6 (upd (ga 6) (F 0) (nI k1))) 7 (upd (ga 7) (F 0) (nI k2))) 8 (upd (va_up (va_up ga 6 (upd (ga 6) (F 0) (nI k1))) 7 (upd (ga 7) (F 0) (nI k2)) 8) (F 0) (nI k3))) 9 (upd (va_up (va_up ga 6 (upd (ga 6) (F 0) (nI k1))) 7 (upd (ga 7) (F 0) (nI k2)) 9) (F 0) 0)) (hm.1 0 (by omega)) (by omega) (by omega)
  refine ⟨nI (F 0), upd (upd nf 1 (nI (F 1 &&& (63 - 2 ^ F 0)))) 0 (nf 0 + 1), mg1, upd (upd fi 1 (nI (F 1 &&& (63 - 2 ^ F 0)))) 0 (nI (F 0) + 1), ga1, mnF F (F 0), mnG G (F 0) k1 k2 k3, ?_, p1, ?_, ?_, ?_, ?_, ?_, ?_⟩
  · exact congrArg (fun z => b3 z (fun r14 nf_15 ng_16 => some (r14, nf_15, ng_16))) q1
  · exact mn_agr ha (F 0) k1 k2 k3 hlt (by show nf 0 + 1 = _; rw [ha.1 0 (by omega), nI_1]) rfl (fun k a b => by rw [u_up, if_neg (by omega), u_up, if_neg (by omega)]) (q2 7 (by omega)) (q2 8 (by omega)) (q2 9 (by omega)) (q2 10 (by omega)) q3 q4
  · exact mn_agr hm (F 0) k1 k2 k3 hlt (by show nI (F 0) + 1 = _; rw [nI_1]) rfl (fun k a b => by rw [u_up, if_neg (by omega), u_up, if_neg (by omega)]) (p2 6 (by omega)) (p2 7 (by omega)) (p2 8 (by omega)) (p2 9 (by omega)) p3 p4
  · refine ⟨by show F 0 + 1 ≤ 6; omega, o2, h2, h3, h4, h5, fun p hp => ?_, fun k hk => ?_⟩
    · have := h7 p hp
      refine ⟨?_, ?_, ?_, ?_⟩ <;> simp only [mnG] <;> (repeat' split) <;> omega
    · have := h11 k hk
      simp only [mnG]; (repeat' split) <;> omega
  · show F 0 ≤ F 0 + 1; omega
  · intro k a b; rw [u_up, if_neg a, u_up, if_neg b]
  · intro s a b c d e
    rw [p2 s e, va_up_ne _ _ d, va_up_ne _ _ c, va_up_ne _ _ b, va_up_ne _ _ a]
theorem op_steady {nf : Nat → Int32} {ng : Nat → Nat → Int32} {fi : Nat → Int32} {ga : Nat → Nat → Int32} {F : Nat → Nat} {G : Nat → Nat → Nat} (ha : agr nf ng F G) (hm : agm fi ga F G) (ho : okF 9999 F G) (a b : Int32) : ∃ r ng' ga' G', k_X6_steady a b nf ng = some (r, ng') ∧ k_X7_steady a b fi ga = some (r, ga') ∧ agr nf ng' F G' ∧ agm fi ga' F G' ∧ okF 9999 F G' ∧ (∀ s, s ≠ 8 → ga' s = ga s) := by
  unfold k_X6_steady k_X7_steady k_X7_isNerve
  have h6 := ho.1
  rcases manQ h6 (ha.1 0 (by omega)) (hm.1 0 (by omega)) a with ⟨e1, e2⟩ | ⟨e1, e2, p, hp, ep⟩
  · rw [e1, e2]; exact ⟨_, _, _, G, rfl, rfl, ha, hm, ho, fun _ _ => rfl⟩
  subst ep
  rw [e1, e2, b1_s, b1_s, if_neg (show ¬ (1 : Int32) = 0 by decide), if_neg (show ¬ (1 : Int32) = 0 by decide), isW]
  rcases inN b 20 20 rfl with e | ⟨e, k1, hk1, ek1⟩
  · rw [e]; exact ⟨_, _, _, G, rfl, rfl, ha, hm, ho, fun _ _ => rfl⟩
  subst ek1
  have g1 : ∀ {α : Type} (o : Option α), gd (nI p) 6 o = o := fun o => gd_n (by omega) (by omega)
  rw [e, b1_s, b1_s, b1_s, if_neg (show ¬ (1 : Int32) = 0 by decide), if_neg (show ¬ (1 : Int32) = 0 by decide), g1, g1, g1, g1, u_cl (by omega), ha.2.1 9 p (by omega) (by omega) (by omega), show ga 8 p = nI (G 9 p) from hm.2.1 9 p (by omega) (by omega) (by omega)]
  exact ⟨_, _, _, stG G 9 p k1, rfl, rfl, agr_sg ha 9 p k1 (by omega), agm_sg hm 9 p k1 (by omega) (by omega), ok_sg ho 9 p k1 (Or.inr ⟨rfl, hk1⟩), fun s h => va_up_ne _ _ h⟩
theorem op_change {nf : Nat → Int32} {ng : Nat → Nat → Int32} {fi : Nat → Int32} {ga : Nat → Nat → Int32} {F : Nat → Nat} {G : Nat → Nat → Nat} (ha : agr nf ng F G) (hm : agm fi ga F G) (ho : okF 9999 F G) (a b : Int32) : ∃ r nf' fi' F', k_X6_change a b nf = some (r, nf') ∧ k_X7_change a b fi = some (r, fi') ∧ agr nf' ng F' G ∧ agm fi' ga F' G ∧ okF 9999 F' G ∧ F' 0 = F 0 ∧ (∀ k, k ≠ 1 → fi' k = fi k) := by
  unfold k_X6_change k_X7_change
  have h6 := ho.1
  have hu6 := ho.2.1
  rcases manQ h6 (ha.1 0 (by omega)) (hm.1 0 (by omega)) a with ⟨e1, e2⟩ | ⟨e1, e2, p, hp, ep⟩
  · rw [e1, e2]; exact ⟨_, _, _, F, rfl, rfl, ha, hm, ho, rfl, fun _ _ => rfl⟩
  subst ep
  obtain ⟨o1, o2⟩ := u_offb p (by omega) (F 1) hu6
  obtain ⟨o3, o4⟩ := u_orb p (by omega) (F 1) hu6
  rw [e1, e2, b1_s, b1_s, if_neg (show ¬ (1 : Int32) = 0 by decide), if_neg (show ¬ (1 : Int32) = 0 by decide), upC (ha.1 1 (by omega)) hu6 (by omega), hm.1 1 (by omega), hasB (by omega) (by omega), b1_s, b1_s]
  simp only [k_X7_change_27, k_X1_put, k_X7_goes]
  rw [ha.1 1 (by omega), hm.1 1 (by omega), o1, o3]
  by_cases c : b = 0
  · rw [if_pos c, if_pos c, b1_s, b1_s]
    refine ⟨bI ((F 1).testBit p), _, _, stF F 1 (F 1 &&& (63 - 2 ^ p)), ?_, ?_, agr_st ha 1 _, agr_st hm 1 _, ok_up ho o2, rfl, fun k h => if_neg h⟩
    · rcases Bool.eq_false_or_eq_true ((F 1).testBit p) with d | d
      · rw [if_neg (bi_t d), d]; rfl
      · rw [if_pos (bi_f d), d]; rfl
    · rcases Bool.eq_false_or_eq_true ((F 1).testBit p) with d | d
      · rw [if_neg (bi_t d), d]; rfl
      · rw [if_pos (bi_f d), d]; rfl
  · rw [if_neg c, if_neg c, b1_s, b1_s]
    refine ⟨bI ((F 1).testBit p), _, _, stF F 1 (F 1 ||| 2 ^ p), ?_, ?_, agr_st ha 1 _, agr_st hm 1 _, ok_up ho o4, rfl, fun k h => if_neg h⟩
    · rcases Bool.eq_false_or_eq_true ((F 1).testBit p) with d | d
      · rw [if_neg (bi_t d), d]; rfl
      · rw [if_pos (bi_f d), d]; rfl
    · rcases Bool.eq_false_or_eq_true ((F 1).testBit p) with d | d
      · rw [if_neg (bi_t d), d]; rfl
      · rw [if_pos (bi_f d), d]; rfl
theorem ok_fe {B : Nat} {F : Nat → Nat} {G : Nat → Nat → Nat} (h : okF B F G) {v : Nat} (hv : v ≤ 9999) : okF B (stF F 2 v) G := by
  obtain ⟨h0, h1, h2, h3, h4, h5, h7, h11⟩ := h
  exact ⟨h0, h1, hv, h3, h4, h5, h7, h11⟩
theorem op_fear {nf : Nat → Int32} {ng : Nat → Nat → Int32} {fi : Nat → Int32} {ga : Nat → Nat → Int32} {F : Nat → Nat} {G : Nat → Nat → Nat} (ha : agr nf ng F G) (hm : agm fi ga F G) (ho : okF 9999 F G) (a : Int32) : ∃ r nf' fi' F', k_X6_fear a nf = some (r, nf') ∧ k_X7_fear a fi = some (r, fi') ∧ agr nf' ng F' G ∧ agm fi' ga F' G ∧ okF 9999 F' G ∧ F' 0 = F 0 ∧ (∀ k, k ≠ 2 → fi' k = fi k) := by
  unfold k_X6_fear k_X7_fear
  rw [isW]
  rcases inN a 9999 9999 rfl with e | ⟨e, k, hk, ek⟩
  · rw [e]; exact ⟨_, _, _, F, rfl, rfl, ha, hm, ho, rfl, fun _ _ => rfl⟩
  subst ek
  rw [e, b1_s, b1_s, if_neg (show ¬ (1 : Int32) = 0 by decide), if_neg (show ¬ (1 : Int32) = 0 by decide), ha.1 2 (by omega), hm.1 2 (by omega)]
  exact ⟨_, _, _, stF F 2 k, rfl, rfl, agr_st ha 2 k, agr_st hm 2 k, ok_fe ho hk, rfl, fun k h => if_neg h⟩
theorem op_row {nf : Nat → Int32} {ng : Nat → Nat → Int32} {fi : Nat → Int32} {ga : Nat → Nat → Int32} {F : Nat → Nat} {G : Nat → Nat → Nat} (ha : agr nf ng F G) (hm : agm fi ga F G) (ho : okF 9999 F G) (a b c : Int32) : ∃ r ng' ga' G', k_X6_row a b c nf ng = some (r, ng') ∧ k_X7_row a b c fi ga = some (r, ga') ∧ agr nf ng' F G' ∧ agm fi ga' F G' ∧ okF 9999 F G' ∧ (∀ s, s ≠ 10 → ga' s = ga s) := by
  unfold k_X6_row k_X7_row
  have h6 := ho.1
  have no : ∀ r : Int32, ∃ r' ng' ga' G', some (r, ng) = some (r', ng') ∧ some (r, ga) = some (r', ga') ∧ agr nf ng' F G' ∧ agm fi ga' F G' ∧ okF 9999 F G' ∧ (∀ s, s ≠ 10 → ga' s = ga s) := fun r => ⟨r, ng, ga, G, rfl, rfl, ha, hm, ho, fun _ _ => rfl⟩
  rcases manQ h6 (ha.1 0 (by omega)) (hm.1 0 (by omega)) a with ⟨e1, e2⟩ | ⟨e1, e2, p, hp, ep⟩
  · rw [e1, e2]; exact no _
  subst ep
  rw [e1, e2, b1_s, b1_s, if_neg (show ¬ (1 : Int32) = 0 by decide), if_neg (show ¬ (1 : Int32) = 0 by decide), isW, isW]
  rcases inN b 3 3 rfl with e | ⟨e, k1, hk1, ek1⟩
  · rw [e]; exact no _
  rw [e, b1_s, b1_s, if_neg (show ¬ (1 : Int32) = 0 by decide), if_neg (show ¬ (1 : Int32) = 0 by decide)]; clear e
  rcases inN c 9 9 rfl with e | ⟨e, k2, hk2, ek2⟩
  · rw [e]; exact no _
  rw [e, b1_s, b1_s, if_neg (show ¬ (1 : Int32) = 0 by decide), if_neg (show ¬ (1 : Int32) = 0 by decide)]; clear e
  subst ek1 ek2
  have hq := ho.2.2.2.2.2.2.1 p (by omega)
  rw [gd_n (by omega) (by omega), gd_n (by omega) (by omega), u_cl (show p < 2 ^ 31 by omega), ha.2.1 7 p (by omega) (by omega) (by omega), show ga 6 p = nI (G 7 p) from hm.2.1 7 p (by omega) (by omega) (by omega)]
  by_cases c6 : G 7 p = 6
  · rw [c6, if_pos (show nI 6 = 6 from rfl), if_pos (show nI 6 = 6 from rfl), show nI p * 4 = nI (p * 4) from u_ml p 4, show 4 * nI p = nI (4 * p) from u_ml 4 p, u_ab, u_ab, Nat.mul_comm p 4, gd_n (by omega) (by omega), gd_n (by omega) (by omega), gd_n (by omega) (by omega), gd_n (by omega) (by omega), u_cl (by omega), ha.2.2 _ (by omega), show ga 10 (4 * p + k1) = nI (G 11 (4 * p + k1)) from hm.2.2 _ (by omega)]
    refine ⟨_, _, _, stG G 11 (4 * p + k1) k2, rfl, rfl, ?_, ?_, ?_, fun s h => va_up_ne _ _ h⟩
    · refine ⟨ha.1, fun s' p' a b c => ?_, fun k hk => ?_⟩
      · rw [va_up_ne _ _ (by omega)]
        show _ = nI (if s' = 11 ∧ p' = 4 * p + k1 then k2 else G s' p')
        rw [if_neg (by omega)]; exact ha.2.1 s' p' a b c
      · rw [va_up_self, u_up, ha.2.2 k hk]
        show _ = nI (if 11 = 11 ∧ k = 4 * p + k1 then k2 else G 11 k)
        by_cases d : k = 4 * p + k1 <;> simp [d]
    · refine ⟨hm.1, fun s' p' a b c => ?_, fun k hk => ?_⟩
      · show va_up ga 10 _ (s' - 1) p' = nI (if s' = 11 ∧ p' = 4 * p + k1 then k2 else G s' p')
        rw [va_up_ne _ _ (by omega), if_neg (by omega)]; exact hm.2.1 s' p' a b c
      · show va_up ga 10 _ 10 k = nI (if 11 = 11 ∧ k = 4 * p + k1 then k2 else G 11 k)
        rw [va_up_self, u_up, show ga 10 k = nI (G 11 k) from hm.2.2 k hk]
        by_cases d : k = 4 * p + k1 <;> simp [d]
    · obtain ⟨h0, h1, h2, h3, h4, h5, h7, h11⟩ := ho
      refine ⟨h0, h1, h2, h3, h4, h5, fun q hq => ?_, fun k hk => ?_⟩
      · have h := h7 q hq
        refine ⟨?_, ?_, ?_, ?_⟩ <;> simp only [stG] <;> rw [if_neg (by omega)] <;> omega
      · have := h11 k hk
        simp only [stG]; split <;> omega
  · rw [if_neg (show ¬ nI (G 7 p) = 6 from fun y => c6 ((u_ei (b := 6) (by omega) (by omega)).mp y)), if_neg (show ¬ nI (G 7 p) = 6 from fun y => c6 ((u_ei (b := 6) (by omega) (by omega)).mp y))]
    exact no _

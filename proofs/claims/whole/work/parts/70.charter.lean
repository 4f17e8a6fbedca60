
theorem spT_le {T : Nat → Nat} {L p : Nat} (ht : ∀ k, k < L → T k < 128) (hp : p ≤ L) : (spT T L p).2.1 ≤ L := by
  unfold spT
  rcases h1 : ltr T L p with _ | f
  · exact hp
  · have a1 := ltr_lt h1
    dsimp only
    rcases h2 : sgn (tpk T L (p + 1)) with _ | s
    · dsimp only; omega
    · have a2 := sgn_lt h2
      dsimp only
      rcases h3 : spN T L (p + 2) with _ | ⟨n, p'⟩
      · dsimp only; omega
      · have a3 := spN_ok ht h3
        dsimp only; omega
theorem spL_le {T : Nat → Nat} {L c0 tk : Nat} {kF : Nat → Bool × Nat × List Nat} (hc : c0 < 128) (hk : ∀ p, p ≤ L → (kF p).2.1 ≤ L) : ∀ (r k p : Nat), p ≤ L → (spL T L kF (nI c0) tk r k p).2.1 ≤ L
  | 0, _, _, hp => hp
  | r + 1, k, p, hp => by
    have ih := spL_le (T := T) (tk := tk) hc hk r (k + 1) ((kF p).2.1 + 1)
    simp only [spL]
    by_cases h1 : (kF p).1 = true
    · rw [if_pos h1]
      by_cases h2 : tpk T L (kF p).2.1 = nI c0
      · rw [if_pos h2]; exact ih (tpk_lt hc h2)
      · rw [if_neg h2]; exact hk p hp
    · rw [if_neg h1]; exact hk p hp
theorem spE_le {T : Nat → Nat} {L : Nat} {kF : Nat → Bool × Nat × List Nat} (hk : ∀ p, p ≤ L → (kF p).2.1 ≤ L) (p : Nat) (hp : p ≤ L) : (spE T L kF p).2.1 ≤ L :=
  spL_le (c0 := 124) (by omega) (fun p hp => spL_le (c0 := 38) (by omega) hk 100 0 p hp) 100 0 p hp
theorem spF_le {T : Nat → Nat} {L : Nat} (ht : ∀ k, k < L → T k < 128) : ∀ (n w p : Nat), p ≤ L → (spF T L n w p).2.1 ≤ L
  | 0, w, p, hp => hp
  | n + 1, w, p, hp => by
    have hF := spF_le ht n (w + 1)
    simp only [spF]
    by_cases h1 : tpk T L p = 33
    · have := tpk_lt (c := 33) (by omega) h1
      rw [if_pos h1]
      split
      · exact hp
      · split <;> exact hF _ this
    · rw [if_neg h1]
      by_cases h2 : tpk T L p = 40
      · have := tpk_lt (c := 40) (by omega) h2
        rw [if_pos h2]
        split
        · exact hp
        · split
          · by_cases h3 : tpk T L (spE T L (spF T L n (w + 1)) (p + 1)).2.1 = 41
            · rw [if_pos h3]; exact tpk_lt (c := 41) (by omega) h3
            · rw [if_neg h3]; exact spE_le hF _ this
          · exact spE_le hF _ this
      · rw [if_neg h2]; exact spT_le ht hp
theorem spC_le {T : Nat → Nat} {L p : Nat} (ht : ∀ k, k < L → T k < 128) (hp : p ≤ L) : (spC T L p).2.1 ≤ L := by
  unfold spC
  have hw := spW_le (T := T) (L := L) _ p (wrd_c (srt T L p)) hp
  by_cases h1 : (spW T L (wrd (srt T L p) ++ [32]) p).1 = true
  · rw [if_pos h1]
    rcases h3 : spN T L (spW T L (wrd (srt T L p) ++ [32]) p).2 with _ | ⟨n, p2⟩
    · exact hw.2
    · have a3 := spN_ok ht h3
      dsimp only
      split
      · exact a3.2.2.1
      · by_cases h5 : tpk T L p2 = 32
        · rw [if_pos h5]
          have := tpk_lt (c := 32) (by omega) h5
          split <;> exact spE_le (spF_le ht 5 0) _ this
        · rw [if_neg h5]; exact a3.2.2.1
  · rw [if_neg h1]; exact hw.2
theorem spX_le {T : Nat → Nat} {L : Nat} (ht : ∀ k, k < L → T k < 128) : ∀ (r p : Nat), p ≤ L → (spX T L r p).2.1 ≤ L
  | 0, p, hp => hp
  | r + 1, p, hp => by
    have ih := spX_le ht r ((spC T L p).2.1 + 1)
    have hc := spC_le ht hp
    simp only [spX]
    split
    · split
      · exact hc
      · split
        · exact hc
        · by_cases h : tpk T L (spC T L p).2.1 = 59
          · rw [if_pos h]; exact ih (tpk_lt (c := 59) (by omega) h)
          · rw [if_neg h]; exact hc
    · exact hc

def chP (f : Nat) (cf : Nat → Nat → Int32) (cg : Nat → Nat → Nat → Int32) (ga : Nat → Nat → Int32) (Cs : List (Nat × Nat × List Nat)) : Prop := cf f 1 = nI Cs.length ∧ cf f 0 = nI (calmL Cs 10) ∧ kC (cg f) Cs 0 0 ∧ ga 17 f = nI Cs.length ∧ kM ga Cs (10 * f) (100 * f) ∧ okCs Cs
def chR (pf : Nat → Int32) (sp : Option Nat) (cn : Nat) (cf : Nat → Nat → Int32) (cg : Nat → Nat → Nat → Int32) (fi : Nat → Int32) (ga : Nat → Nat → Int32) (m : Nat) (X : Nat → List (Nat × Nat × List Nat)) : Prop := m ≤ 6 ∧ pf 7 = nI m ∧ fi 11 = nI m ∧ ((sp = none ∧ cn = m) ∨ (sp = some m ∧ cn = m + 1)) ∧ ∀ f, f < m → chP f cf cg ga (X f)
def ltO (m : Nat) (c : Option Nat) : Prop := ∀ j, c = some j → j < m
def csO (X : Nat → List (Nat × Nat × List Nat)) : Option Nat → List (Nat × Nat × List Nat)
  | none => []
  | some j => X j
theorem okCs_nil : okCs [] := ⟨fun c h => by (cases h), by simp, by simp [tlC]⟩
theorem ch_sit {pf : Nat → Int32} {sp : Option Nat} {cn : Nat} {cf : Nat → Nat → Int32} {cg : Nat → Nat → Nat → Int32} {fi : Nat → Int32} {ga : Nat → Nat → Int32} {m : Nat} {X : Nat → List (Nat × Nat × List Nat)} (h : chR pf sp cn cf cg fi ga m X) {nc : Option Nat} (hn : ltO m nc) (hi : fi 12 = chI nc) : hasC nc cn cf cg (csO X nc) ∧ hasM fi ga (csO X nc) ∧ okCs (csO X nc) := by
  obtain ⟨h1, h2, h3, h4, h5⟩ := h
  rcases nc with _ | j
  · exact ⟨Or.inl ⟨rfl, rfl⟩, Or.inl ⟨hi, rfl⟩, okCs_nil⟩
  · have hj := hn j rfl
    obtain ⟨a1, a2, a3, a4, a5, a6⟩ := h5 j hj
    exact ⟨Or.inr ⟨j, rfl, by rcases h4 with ⟨_, e⟩ | ⟨_, e⟩ <;> omega, a1, a2, a3⟩, Or.inr ⟨j, by omega, hi, a4, a5⟩, a6⟩
theorem chP_k {f f1 : Nat} {cf cf' : Nat → Nat → Int32} {cg cg' : Nat → Nat → Nat → Int32} {ga ga' : Nat → Nat → Int32} {Cs : List (Nat × Nat × List Nat)} (h : chP f cf cg ga Cs) (hf : f < f1) (h1 : cf' f = cf f) (h2 : cg' f = cg f) (hH : mH ga ga' f1 (10 * f1) (100 * f1)) : chP f cf' cg' ga' Cs := by
  obtain ⟨a1, a2, a3, a4, a5, a6⟩ := h
  have hl := a6.2.1
  have ht := a6.2.2
  refine ⟨by rw [h1]; exact a1, by rw [h1]; exact a2, by rw [h2]; exact a3, by rw [hH.2.2.1 f (by omega)]; exact a4, kM_cg (fun k hk => hH.1 k (by omega)) (fun j hj => hH.2.1 j (by omega)) a5, a6⟩
theorem op_charter {pf : Nat → Int32} {sp nc : Option Nat} {cn : Nat} {cf : Nat → Nat → Int32} {cg : Nat → Nat → Nat → Int32} {fi : Nat → Int32} {ga : Nat → Nat → Int32} {m : Nat} {X : Nat → List (Nat × Nat × List Nat)} (h : chR pf sp cn cf cg fi ga m X) (hn : ltO m nc) (hi : fi 12 = chI nc) {xf xs : Nat → Int32} {L : Nat} {T : Nat → Nat} (ht : txR xf xs fi ga L T) (h27 : lt27 ga) (fs : Nat → Int32) (gs : Nat → Nat → Int32) : ∃ r pf' sp' nc' xf' cn' cf' cg' fi' fs' ga' gs' m' X' L', k_X6_charter pf sp xf xs nc cn cf cg = some (r, pf', sp', nc', xf', cn', cf', cg') ∧ k_X7_charter fi fs ga gs = some (r, fi', fs', ga', gs') ∧ chR pf' sp' cn' cf' cg' fi' ga' m' X' ∧ m ≤ m' ∧ cn ≤ cn' ∧ ltO m' nc' ∧ fi' 12 = chI nc' ∧ txR xf' xs fi' ga' L' T ∧ fs' 29 = fs 29 ∧ (∀ k, k ≠ 11 → k ≠ 12 → k ≠ 13 → fi' k = fi k) ∧ (∀ k, (k < 17 ∨ 22 < k) → ga' k = ga k) ∧ (∀ k, k ≠ 7 → pf' k = pf k) := by
  obtain ⟨h1, h2, h3, h4, h5⟩ := id h
  obtain ⟨t1, t2, t3, t4⟩ := id ht
  have hx : txX xs L T := ⟨t3, fun k hk => (t4 k hk).1, fun k hk => (t4 k hk).2.2⟩
  have hy : tyY fi L T := ⟨t3, t2, fun k hk => (t4 k hk).2.2⟩
  have hg : tg ga L T := fun k hk => (t4 k hk).2.1
  unfold k_X6_charter k_X7_charter
  rw [h2, h3]
  by_cases c : m = 6
  · rw [if_neg (show ¬ nI m < 6 by rw [c]; decide), if_pos (show nI m = 6 by rw [c]; rfl)]
    exact ⟨_, _, _, _, _, _, _, _, _, _, _, _, m, X, L, rfl, rfl, h, Nat.le_refl _, Nat.le_refl _, hn, hi, ht, rfl, fun _ _ _ _ => rfl, fun _ _ => rfl, fun _ _ => rfl⟩
  have hm : m < 6 := by omega
  rw [if_pos (show nI m < 6 from nI_lt (b := 6) hm (by omega)), if_neg (show ¬ nI m = 6 from fun e => c ((u_ei (b := 6) (by omega) (by omega)).mp e))]
  have hred : ∃ cf0 cg0, (oc sp (b7 (k_X6_charter_30 pf xf xs nc (cn + 1) (va_up cf cn (fun _ => 0)) (va_up cg cn (fun _ _ => 0)) cn) (fun r pf1 sp1 nc1 xf1 cf1 cg1 => some (r, pf1, sp1, nc1, xf1, (cn + 1), cf1, cg1))) (fun i => b7 (k_X6_charter_30 pf xf xs nc cn cf cg i) (fun r pf1 sp1 nc1 xf1 cf1 cg1 => some (r, pf1, sp1, nc1, xf1, cn, cf1, cg1)))) = b7 (k_X6_charter_30 pf xf xs nc (m + 1) cf0 cg0 m) (fun r pf1 sp1 nc1 xf1 cf1 cg1 => some (r, pf1, sp1, nc1, xf1, (m + 1), cf1, cg1)) ∧ (∀ f, f < m → cf0 f = cf f ∧ cg0 f = cg f) ∧ cn ≤ m + 1 := by
    rcases h4 with ⟨e1, e2⟩ | ⟨e1, e2⟩
    · subst e1 e2
      exact ⟨_, _, rfl, fun f hf => ⟨va_up_ne _ _ (by omega), va_up_ne _ _ (by omega)⟩, by omega⟩
    · subst e1 e2
      exact ⟨_, _, rfl, fun _ _ => ⟨rfl, rfl⟩, Nat.le_refl _⟩
  obtain ⟨cf0, cg0, er, ek, ecn⟩ := hred
  rw [er]
  unfold k_X6_charter_30
  rw [gp_i (by omega)]
  obtain ⟨xf1, cif1, cig1, q1, q2, q3⟩ := readX hx t1 (cif := cf0 m) (cig := cg0 m)
  have h24 : (upd (upd fs 14 0) 24 (100 * nI m)) 24 = nI (100 * m + 0) := by
    show 100 * nI m = _
    rw [show (100 : Int32) = nI 100 from rfl, u_ml]; rfl
  obtain ⟨fs1, ga1, gs1, p1, p2, p3, p4, p5⟩ := textY hy hm 9 100000 0 0 0 (upd (upd fs 14 0) 24 (100 * nI m)) ga gs (by omega) rfl hg h27 rfl h24 (by omega) (Nat.le_refl _)
  have eg : k_X7_goesText (nI m) fi fs ga gs = some (bI (spX T L 10 0).1, fs1, ga1, gs1) := p1
  rw [q1, b4_s, eg, b4_s, h2]
  have hso := spX_ok (T := T) (L := L) hx.2.2 10 0 (by omega)
  have p29 : fs1 29 = fs 29 := by rw [p2 29 (by omega) (by omega) (by omega) (by omega) (by omega)]; rfl
  have hga : ∀ k, (k < 17 ∨ 22 < k) → ga1 k = ga k := fun k hk => p3.2.2.2 k (by omega) (by omega) (by omega) (by omega) (by omega) (by omega)
  unfold xAn
  by_cases ho : (spX T L 10 0).1 = true
  · rw [if_pos ho, if_pos rfl, b7_s, ho, if_neg (show ¬ bI true = 0 by decide), nm_e1]
    obtain ⟨v1, v2, v3⟩ := q3 ho
    obtain ⟨w1, w2⟩ := p5 ho
    obtain ⟨o1, o2, o3⟩ := hso ho
    refine ⟨nI m, upd pf 7 (nI (m + 1)), none, some m, upd xf1 0 0, m + 1, va_up cf0 m cif1, va_up cg0 m cig1, upd (upd (upd fi 13 0) 12 (nI m)) 11 (nI (m + 1)), fs1, ga1, gs1, m + 1, fun f => if f = m then (spX T L 10 0).2.2 else X f, 0, ?_, ?_, ⟨by omega, rfl, rfl, Or.inl ⟨rfl, rfl⟩, fun f hf => ?_⟩, by omega, ecn, fun j e => ?_, rfl, ⟨rfl, rfl, by omega, fun k hk => by omega⟩, p29, fun k k1 k2 k3 => ?_, hga, fun k hk => if_neg hk⟩
    · rw [nI_1, u_ps]
    · show some (upd (upd (upd fi 13 0) 12 (nI m)) 11 (nI m + 1) 12, _, _, _, _) = _
      rw [nI_1]; rfl
    · by_cases e : f = m
      · subst e
        show chP f _ _ _ (if f = f then _ else _)
        rw [if_pos rfl]
        refine ⟨by rw [va_up_self]; exact v1, by rw [va_up_self]; exact v2, by rw [va_up_self]; exact v3, by rw [w1, Nat.zero_add], w2, o1, o2, by omega⟩
      · show chP f _ _ _ (if f = m then _ else _)
        rw [if_neg e]
        exact chP_k (h5 f (by omega)) (show f < m by omega) (by rw [va_up_ne _ _ e]; exact (ek f (by omega)).1) (by rw [va_up_ne _ _ e]; exact (ek f (by omega)).2) p3
    · have : m = j := Option.some.inj e
      omega
    · show (if k = 11 then _ else if k = 12 then _ else if k = 13 then _ else fi k) = _
      rw [if_neg k1, if_neg k2, if_neg k3]
  · have ho' : (spX T L 10 0).1 = false := by simpa using ho
    have hne : ¬ nI (spX T L 10 0).2.1 = -1 ∨ nI (spX T L 10 0).2.1 = -1 := by
      by_cases e : nI (spX T L 10 0).2.1 = -1
      · exact Or.inr e
      · exact Or.inl e
    have hpos := spX_le (T := T) (L := L) hx.2.2 10 0 (by omega)
    rw [if_neg ho, if_neg (show ¬ nI (spX T L 10 0).2.1 = -1 from fun e => nI_pos (n := (spX T L 10 0).2.1) (by omega) (by rw [e]; decide)), b7_s, ho', if_pos (show bI false = 0 by decide), p4 ho']
    refine ⟨_, pf, some m, nc, upd xf1 0 0, m + 1, va_up cf0 m cif1, va_up cg0 m cig1, upd fi 13 0, fs1, ga1, gs1, m, X, 0, rfl, rfl, ⟨h1, h2, h3, Or.inr ⟨rfl, rfl⟩, fun f hf => ?_⟩, Nat.le_refl _, ecn, hn, hi, ⟨rfl, rfl, by omega, fun k hk => by omega⟩, p29, fun k _ _ k3 => if_neg k3, hga, fun _ _ => rfl⟩
    exact chP_k (h5 f hf) (show f < m by omega) (by rw [va_up_ne _ _ (by omega)]; exact (ek f hf).1) (by rw [va_up_ne _ _ (by omega)]; exact (ek f hf).2) p3

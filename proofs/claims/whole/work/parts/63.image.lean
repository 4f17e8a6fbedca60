
def chI : Option Nat → Int32
  | none => -1
  | some i => nI i
def clR (mf : Nat → Int32) (mg : Nat → Nat → Int32) (hc : Int32) (ha hb : Nat → Int32) (pc : Int32) (pa pb : Nat → Int32) (bc : Int32) (ba bb : Nat → Int32) (F : Nat → Nat) (G : Nat → Nat → Nat) (hn : Nat) (h1 h2 : Nat → Nat) (pn : Nat) (w1 w2 : Nat → Nat) (bn : Nat) (b1 b2 : Nat → Nat) : Prop := agr mf mg F G ∧ hrC hc ha hb hn h1 h2 ∧ plC pc pa pb pn w1 w2 ∧ boC bc ba bb (F 0) bn b1 b2
def mdR (fi : Nat → Int32) (ga : Nat → Nat → Int32) (c : Option Nat) (F : Nat → Nat) (G : Nat → Nat → Nat) (hn : Nat) (h1 h2 : Nat → Nat) (pn : Nat) (w1 w2 : Nat → Nat) (bn : Nat) (b1 b2 : Nat → Nat) : Prop := agm fi ga F G ∧ fi 12 = chI c ∧ hrM fi ga hn h1 h2 ∧ plM fi ga pn w1 w2 ∧ boM fi ga bn b1 b2
def fiI (fi : Nat → Int32) : Nat → Int32 := fun k => if k < 6 then fi (47 + k) else if k = 12 then fi 46 else if k = 36 then fi 53 else if k = 39 then fi 54 else if k = 40 then fi 55 else 0
def gaI (ga : Nat → Nat → Int32) : Nat → Nat → Int32 := fun s => if s < 11 then ga (s + 50) else if s = 37 then ga 61 else if s = 38 then ga 62 else if s = 41 then ga 63 else if s = 42 then ga 64 else if s = 43 then ga 65 else if s = 44 then ga 66 else ga s
def imEq (fi : Nat → Int32) (ga : Nat → Nat → Int32) (fi' : Nat → Int32) (ga' : Nat → Nat → Int32) : Prop := (∀ k, k < 6 → fi' (47 + k) = fi k) ∧ fi' 46 = fi 12 ∧ fi' 53 = fi 36 ∧ fi' 54 = fi 39 ∧ fi' 55 = fi 40 ∧ (∀ s p, 6 ≤ s → s ≤ 9 → p < 6 → ga' (s + 50) p = ga s p) ∧ (∀ p, p < 24 → ga' 60 p = ga 10 p) ∧ (∀ p, p < 5 → ga' 61 p = ga 37 p ∧ ga' 62 p = ga 38 p) ∧ (∀ p, p < 10 → ga' 63 p = ga 41 p ∧ ga' 64 p = ga 42 p) ∧ (∀ p, p < 8 → ga' 65 p = ga 43 p ∧ ga' 66 p = ga 44 p)
theorem md_im {fi fi' : Nat → Int32} {ga ga' : Nat → Nat → Int32} {c : Option Nat} {F : Nat → Nat} {G : Nat → Nat → Nat} {hn : Nat} {h1 h2 : Nat → Nat} {pn : Nat} {w1 w2 : Nat → Nat} {bn : Nat} {b1 b2 : Nat → Nat} (e : imEq fi ga fi' ga') (l5 : hn ≤ 5) (l10 : pn ≤ 10) (l8 : bn ≤ 8) : mdR fi ga c F G hn h1 h2 pn w1 w2 bn b1 b2 ↔ mdR (fiI fi') (gaI ga') c F G hn h1 h2 pn w1 w2 bn b1 b2 := by
  obtain ⟨a0, a1, a2, a3, a4, a5, a6, a7, a8, a9⟩ := e
  have k0 : ∀ k, k < 6 → fiI fi' k = fi k := fun k hk => (if_pos hk).trans (a0 k hk)
  have g0 : ∀ s p, 6 ≤ s → s ≤ 9 → p < 6 → gaI ga' s p = ga s p := fun s p h1 h2 h3 => by
    rw [← a5 s p h1 h2 h3]
    exact congrFun (if_pos (by omega)) p
  have g1 : ∀ p, p < 24 → gaI ga' 10 p = ga 10 p := fun p hp => a6 p hp
  have g2 : ∀ p, p < 5 → gaI ga' 37 p = ga 37 p ∧ gaI ga' 38 p = ga 38 p := fun p hp => a7 p hp
  have g3 : ∀ p, p < 10 → gaI ga' 41 p = ga 41 p ∧ gaI ga' 42 p = ga 42 p := fun p hp => a8 p hp
  have g4 : ∀ p, p < 8 → gaI ga' 43 p = ga 43 p ∧ gaI ga' 44 p = ga 44 p := fun p hp => a9 p hp
  have f12 : fiI fi' 12 = fi 12 := a1
  have f36 : fiI fi' 36 = fi 36 := a2
  have f39 : fiI fi' 39 = fi 39 := a3
  have f40 : fiI fi' 40 = fi 40 := a4
  constructor
  · rintro ⟨⟨x0, x1, x2⟩, y, z, u, v⟩
    refine ⟨⟨fun k hk => (k0 k hk).trans (x0 k hk), fun s p h7 h10 hp => (g0 (s - 1) p (by omega) (by omega) hp).trans (x1 s p h7 h10 hp), fun k hk => (g1 k hk).trans (x2 k hk)⟩, f12.trans y, ⟨f36.trans z.1, fun i hi => ?_⟩, ⟨f39.trans u.1, fun i hi => ?_⟩, ⟨f40.trans v.1, fun i hi => ?_⟩⟩
    · rw [(g2 i (by omega)).1, (g2 i (by omega)).2]; exact z.2 i hi
    · rw [(g3 i (by omega)).1, (g3 i (by omega)).2]; exact u.2 i hi
    · rw [(g4 i (by omega)).1, (g4 i (by omega)).2]; exact v.2 i hi
  · rintro ⟨⟨x0, x1, x2⟩, y, z, u, v⟩
    refine ⟨⟨fun k hk => (k0 k hk).symm.trans (x0 k hk), fun s p h7 h10 hp => (g0 (s - 1) p (by omega) (by omega) hp).symm.trans (x1 s p h7 h10 hp), fun k hk => (g1 k hk).symm.trans (x2 k hk)⟩, f12.symm.trans y, ⟨f36.symm.trans z.1, fun i hi => ?_⟩, ⟨f39.symm.trans u.1, fun i hi => ?_⟩, ⟨f40.symm.trans v.1, fun i hi => ?_⟩⟩
    · rw [← (g2 i (by omega)).1, ← (g2 i (by omega)).2]; exact z.2 i hi
    · rw [← (g3 i (by omega)).1, ← (g3 i (by omega)).2]; exact u.2 i hi
    · rw [← (g4 i (by omega)).1, ← (g4 i (by omega)).2]; exact v.2 i hi
theorem imM (fi : Nat → Int32) (ga : Nat → Nat → Int32) : ∃ fi' ga', k_X7_image fi ga = some (fi 0, fi', ga') ∧ imEq fi ga fi' ga' ∧ fi' 45 = 1 ∧ (∀ k, (k < 45 ∨ 55 < k) → fi' k = fi k) ∧ (∀ s, (s < 56 ∨ 66 < s) → ga' s = ga s) := by
  obtain ⟨ga1, e1, f1, _, j56, _, j57, _, j58, _, j59⟩ := im87 (upd (upd (upd (upd (upd (upd (upd (upd (upd (upd (upd fi 45 1) 46 (fi 12)) 47 (fi 0)) 48 (fi 1)) 49 (fi 2)) 50 (fi 3)) 51 (fi 4)) 52 (fi 5)) 53 (fi 36)) 54 (fi 39)) 55 (fi 40)) 6 100000 0 ga (by omega) (by omega)
  obtain ⟨ga2, e2, f2, _, j60⟩ := im149 (upd (upd (upd (upd (upd (upd (upd (upd (upd (upd (upd fi 45 1) 46 (fi 12)) 47 (fi 0)) 48 (fi 1)) 49 (fi 2)) 50 (fi 3)) 51 (fi 4)) 52 (fi 5)) 53 (fi 36)) 54 (fi 39)) 55 (fi 40)) 24 100000 0 ga1 (by omega) (by omega)
  obtain ⟨ga3, e3, f3, _, j61, _, j62⟩ := im175 (upd (upd (upd (upd (upd (upd (upd (upd (upd (upd (upd fi 45 1) 46 (fi 12)) 47 (fi 0)) 48 (fi 1)) 49 (fi 2)) 50 (fi 3)) 51 (fi 4)) 52 (fi 5)) 53 (fi 36)) 54 (fi 39)) 55 (fi 40)) 5 100000 0 ga2 (by omega) (by omega)
  obtain ⟨ga4, e4, f4, _, j63, _, j64⟩ := im212 (upd (upd (upd (upd (upd (upd (upd (upd (upd (upd (upd fi 45 1) 46 (fi 12)) 47 (fi 0)) 48 (fi 1)) 49 (fi 2)) 50 (fi 3)) 51 (fi 4)) 52 (fi 5)) 53 (fi 36)) 54 (fi 39)) 55 (fi 40)) 10 100000 0 ga3 (by omega) (by omega)
  obtain ⟨ga5, e5, f5, _, j65, _, j66⟩ := im250 (upd (upd (upd (upd (upd (upd (upd (upd (upd (upd (upd fi 45 1) 46 (fi 12)) 47 (fi 0)) 48 (fi 1)) 49 (fi 2)) 50 (fi 3)) 51 (fi 4)) 52 (fi 5)) 53 (fi 36)) 54 (fi 39)) 55 (fi 40)) 8 100000 0 ga4 (by omega) (by omega)
  refine ⟨(upd (upd (upd (upd (upd (upd (upd (upd (upd (upd (upd fi 45 1) 46 (fi 12)) 47 (fi 0)) 48 (fi 1)) 49 (fi 2)) 50 (fi 3)) 51 (fi 4)) 52 (fi 5)) 53 (fi 36)) 54 (fi 39)) 55 (fi 40)), ga5, ?_, ⟨?_, rfl, rfl, rfl, rfl, ?_, ?_, ?_, ?_, ?_⟩, rfl, ?_, ?_⟩
  · have hc := e1.trans (e2.trans (e3.trans (e4.trans e5)))
    unfold k_X7_image
    rw [nm_e1, nm_e1, nm_e1]
    exact hc
  · intro k hk
    rcases (show k = 0 ∨ k = 1 ∨ k = 2 ∨ k = 3 ∨ k = 4 ∨ k = 5 by omega) with rfl | rfl | rfl | rfl | rfl | rfl <;> rfl
  · intro s p hs6 hs9 hp
    rcases (show s = 6 ∨ s = 7 ∨ s = 8 ∨ s = 9 by omega) with rfl | rfl | rfl | rfl
    · show ga5 56 p = ga 6 p
      rw [f5 56 (by omega) (by omega), f4 56 (by omega) (by omega), f3 56 (by omega) (by omega), f2 56 (by omega), j56 p (Nat.zero_le _) hp]
    · show ga5 57 p = ga 7 p
      rw [f5 57 (by omega) (by omega), f4 57 (by omega) (by omega), f3 57 (by omega) (by omega), f2 57 (by omega), j57 p (Nat.zero_le _) hp]
    · show ga5 58 p = ga 8 p
      rw [f5 58 (by omega) (by omega), f4 58 (by omega) (by omega), f3 58 (by omega) (by omega), f2 58 (by omega), j58 p (Nat.zero_le _) hp]
    · show ga5 59 p = ga 9 p
      rw [f5 59 (by omega) (by omega), f4 59 (by omega) (by omega), f3 59 (by omega) (by omega), f2 59 (by omega), j59 p (Nat.zero_le _) hp]
  · intro p hp
    rw [f5 60 (by omega) (by omega), f4 60 (by omega) (by omega), f3 60 (by omega) (by omega), j60 p (Nat.zero_le _) hp, f1 10 (by omega) (by omega) (by omega) (by omega)]
  · intro p hp
    refine ⟨?_, ?_⟩
    · rw [f5 61 (by omega) (by omega), f4 61 (by omega) (by omega), j61 p (Nat.zero_le _) hp, f2 37 (by omega), f1 37 (by omega) (by omega) (by omega) (by omega)]
    · rw [f5 62 (by omega) (by omega), f4 62 (by omega) (by omega), j62 p (Nat.zero_le _) hp, f2 38 (by omega), f1 38 (by omega) (by omega) (by omega) (by omega)]
  · intro p hp
    refine ⟨?_, ?_⟩
    · rw [f5 63 (by omega) (by omega), j63 p (Nat.zero_le _) hp, f3 41 (by omega) (by omega), f2 41 (by omega), f1 41 (by omega) (by omega) (by omega) (by omega)]
    · rw [f5 64 (by omega) (by omega), j64 p (Nat.zero_le _) hp, f3 42 (by omega) (by omega), f2 42 (by omega), f1 42 (by omega) (by omega) (by omega) (by omega)]
  · intro p hp
    refine ⟨?_, ?_⟩
    · rw [j65 p (Nat.zero_le _) hp, f4 43 (by omega) (by omega), f3 43 (by omega) (by omega), f2 43 (by omega), f1 43 (by omega) (by omega) (by omega) (by omega)]
    · rw [j66 p (Nat.zero_le _) hp, f4 44 (by omega) (by omega), f3 44 (by omega) (by omega), f2 44 (by omega), f1 44 (by omega) (by omega) (by omega) (by omega)]
  · intro k hk
    simp only [upd]
    repeat rw [if_neg (by omega)]
  · intro s hs
    rw [f5 s (by omega) (by omega), f4 s (by omega) (by omega), f3 s (by omega) (by omega), f2 s (by omega), f1 s (by omega) (by omega) (by omega) (by omega)]
theorem undM (fi : Nat → Int32) (ga : Nat → Nat → Int32) (h45 : ¬ fi 45 = 0) : ∃ fi' ga', k_X7_undo fi ga = some (fi 47, fi', ga') ∧ imEq fi' ga' fi ga ∧ (∀ k, k ≠ 12 → 6 ≤ k → k ≠ 36 → k ≠ 39 → k ≠ 40 → fi' k = fi k) ∧ (∀ s, (s < 6 ∨ 10 < s) → (s < 37 ∨ 38 < s) → (s < 41 ∨ 44 < s) → ga' s = ga s) := by
  obtain ⟨ga1, e1, f1, _, j6, _, j7, _, j8, _, j9⟩ := un92 (upd (upd (upd (upd (upd (upd (upd (upd (upd (upd fi 12 (fi 46)) 0 (fi 47)) 1 (fi 48)) 2 (fi 49)) 3 (fi 50)) 4 (fi 51)) 5 (fi 52)) 36 (fi 53)) 39 (fi 54)) 40 (fi 55)) 6 100000 0 ga (by omega) (by omega)
  obtain ⟨ga2, e2, f2, _, j10⟩ := un154 (upd (upd (upd (upd (upd (upd (upd (upd (upd (upd fi 12 (fi 46)) 0 (fi 47)) 1 (fi 48)) 2 (fi 49)) 3 (fi 50)) 4 (fi 51)) 5 (fi 52)) 36 (fi 53)) 39 (fi 54)) 40 (fi 55)) 24 100000 0 ga1 (by omega) (by omega)
  obtain ⟨ga3, e3, f3, _, j37, _, j38⟩ := un180 (upd (upd (upd (upd (upd (upd (upd (upd (upd (upd fi 12 (fi 46)) 0 (fi 47)) 1 (fi 48)) 2 (fi 49)) 3 (fi 50)) 4 (fi 51)) 5 (fi 52)) 36 (fi 53)) 39 (fi 54)) 40 (fi 55)) 5 100000 0 ga2 (by omega) (by omega)
  obtain ⟨ga4, e4, f4, _, j41, _, j42⟩ := un217 (upd (upd (upd (upd (upd (upd (upd (upd (upd (upd fi 12 (fi 46)) 0 (fi 47)) 1 (fi 48)) 2 (fi 49)) 3 (fi 50)) 4 (fi 51)) 5 (fi 52)) 36 (fi 53)) 39 (fi 54)) 40 (fi 55)) 10 100000 0 ga3 (by omega) (by omega)
  obtain ⟨ga5, e5, f5, _, j43, _, j44⟩ := un255 (upd (upd (upd (upd (upd (upd (upd (upd (upd (upd fi 12 (fi 46)) 0 (fi 47)) 1 (fi 48)) 2 (fi 49)) 3 (fi 50)) 4 (fi 51)) 5 (fi 52)) 36 (fi 53)) 39 (fi 54)) 40 (fi 55)) 8 100000 0 ga4 (by omega) (by omega)
  refine ⟨(upd (upd (upd (upd (upd (upd (upd (upd (upd (upd fi 12 (fi 46)) 0 (fi 47)) 1 (fi 48)) 2 (fi 49)) 3 (fi 50)) 4 (fi 51)) 5 (fi 52)) 36 (fi 53)) 39 (fi 54)) 40 (fi 55)), ga5, ?_, ⟨?_, rfl, rfl, rfl, rfl, ?_, ?_, ?_, ?_, ?_⟩, ?_, ?_⟩
  · unfold k_X7_undo
    have hc := e1.trans (e2.trans (e3.trans (e4.trans e5)))
    rw [if_neg h45, nm_e1, nm_e1, nm_e1]
    exact hc
  · intro k hk
    rcases (show k = 0 ∨ k = 1 ∨ k = 2 ∨ k = 3 ∨ k = 4 ∨ k = 5 by omega) with rfl | rfl | rfl | rfl | rfl | rfl <;> rfl
  · intro s p hs6 hs9 hp
    rcases (show s = 6 ∨ s = 7 ∨ s = 8 ∨ s = 9 by omega) with rfl | rfl | rfl | rfl
    · show ga 56 p = ga5 6 p
      rw [f5 6 (by omega) (by omega), f4 6 (by omega) (by omega), f3 6 (by omega) (by omega), f2 6 (by omega), j6 p (Nat.zero_le _) hp]
    · show ga 57 p = ga5 7 p
      rw [f5 7 (by omega) (by omega), f4 7 (by omega) (by omega), f3 7 (by omega) (by omega), f2 7 (by omega), j7 p (Nat.zero_le _) hp]
    · show ga 58 p = ga5 8 p
      rw [f5 8 (by omega) (by omega), f4 8 (by omega) (by omega), f3 8 (by omega) (by omega), f2 8 (by omega), j8 p (Nat.zero_le _) hp]
    · show ga 59 p = ga5 9 p
      rw [f5 9 (by omega) (by omega), f4 9 (by omega) (by omega), f3 9 (by omega) (by omega), f2 9 (by omega), j9 p (Nat.zero_le _) hp]
  · intro p hp
    rw [f5 10 (by omega) (by omega), f4 10 (by omega) (by omega), f3 10 (by omega) (by omega), j10 p (Nat.zero_le _) hp, f1 60 (by omega) (by omega) (by omega) (by omega)]
  · intro p hp
    refine ⟨?_, ?_⟩
    · rw [f5 37 (by omega) (by omega), f4 37 (by omega) (by omega), j37 p (Nat.zero_le _) hp, f2 61 (by omega), f1 61 (by omega) (by omega) (by omega) (by omega)]
    · rw [f5 38 (by omega) (by omega), f4 38 (by omega) (by omega), j38 p (Nat.zero_le _) hp, f2 62 (by omega), f1 62 (by omega) (by omega) (by omega) (by omega)]
  · intro p hp
    refine ⟨?_, ?_⟩
    · rw [f5 41 (by omega) (by omega), j41 p (Nat.zero_le _) hp, f3 63 (by omega) (by omega), f2 63 (by omega), f1 63 (by omega) (by omega) (by omega) (by omega)]
    · rw [f5 42 (by omega) (by omega), j42 p (Nat.zero_le _) hp, f3 64 (by omega) (by omega), f2 64 (by omega), f1 64 (by omega) (by omega) (by omega) (by omega)]
  · intro p hp
    refine ⟨?_, ?_⟩
    · rw [j43 p (Nat.zero_le _) hp, f4 65 (by omega) (by omega), f3 65 (by omega) (by omega), f2 65 (by omega), f1 65 (by omega) (by omega) (by omega) (by omega)]
    · rw [j44 p (Nat.zero_le _) hp, f4 66 (by omega) (by omega), f3 66 (by omega) (by omega), f2 66 (by omega), f1 66 (by omega) (by omega) (by omega) (by omega)]
  · intro k k1 k2 k3 k4 k5
    simp only [upd]
    repeat rw [if_neg (by omega)]
  · intro s s1 s2 s3
    rw [f5 s (by omega) (by omega), f4 s (by omega) (by omega), f3 s (by omega) (by omega), f2 s (by omega), f1 s (by omega) (by omega) (by omega) (by omega)]
theorem cp3 {c : Int32} {n N : Nat} (hc : c = nI n) (hn : n ≤ N) (hN : N ≤ 100) (c0 : Int32) (a0 b0 a b : Nat → Int32) : ∃ a' b', k_X3_copy N c0 a0 b0 c a b = some (c, a', b') ∧ ∀ i, i < n → a' i = a i ∧ b' i = b i := by
  subst hc
  have hg : ∀ {α : Type} (o : Option α), gcp 0 0 (nI n) N N o = o := by
    intro α o
    unfold gcp
    rw [u_cl (show n < 2 ^ 31 by omega)]
    rw [if_neg]
    rintro (y | y | y | y | y)
    · exact absurd y (by decide)
    · exact absurd y (by decide)
    · exact nI_pos (by omega) y
    · have e : Int32.toNatClampNeg 0 = 0 := rfl
      rw [e] at y; omega
    · have e : Int32.toNatClampNeg 0 = 0 := rfl
      rw [e] at y; omega
  unfold k_X3_copy
  rw [hg, hg]
  refine ⟨_, _, rfl, fun i hi => ⟨sb_cpy0 (by rw [u_cl (by omega)]; exact hi), sb_cpy0 (by rw [u_cl (by omega)]; exact hi)⟩⟩
theorem cpA {nf : Nat → Int32} {ng : Nat → Nat → Int32} {nhc : Int32} {nha nhb : Nat → Int32} {npc : Int32} {npa npb : Nat → Int32} {nbc : Int32} {nba nbb : Nat → Int32} {F : Nat → Nat} {G : Nat → Nat → Nat} {hn : Nat} {h1 h2 : Nat → Nat} {pn : Nat} {w1 w2 : Nat → Nat} {bn : Nat} {b1 b2 : Nat → Nat} (h : clR nf ng nhc nha nhb npc npa npb nbc nba nbb F G hn h1 h2 pn w1 w2 bn b1 b2) (nc : Option Nat) (kf : Nat → Int32) (kg : Nat → Nat → Int32) (kc : Option Nat) (khc : Int32) (kha khb : Nat → Int32) (kpc : Int32) (kpa kpb : Nat → Int32) (kbc : Int32) (kba kbb : Nat → Int32) : ∃ kf' kg' kha' khb' kpa' kpb' kba' kbb', k_X1_copyAll kf kg kc khc kha khb kpc kpa kpb kbc kba kbb nf ng nc nhc nha nhb npc npa npb nbc nba nbb = some (kf', kg', nc, nhc, kha', khb', npc, kpa', kpb', nbc, kba', kbb') ∧ clR kf' kg' nhc kha' khb' npc kpa' kpb' nbc kba' kbb' F G hn h1 h2 pn w1 w2 bn b1 b2 := by
  obtain ⟨ha, hh, hp, hb⟩ := h
  obtain ⟨kf', kg', e1, g1⟩ := copyC ha nc kf kg kc
  obtain ⟨kha', khb', e2, g2⟩ := cp3 hh.2.1 hh.1 (by omega) khc kha khb nha nhb
  obtain ⟨kpa', kpb', e3, g3⟩ := cp3 hp.2.1 hp.1 (by omega) kpc kpa kpb npa npb
  obtain ⟨kba', kbb', e4, g4⟩ := cp3 hb.2.1 hb.1 (by omega) kbc kba kbb nba nbb
  refine ⟨kf', kg', kha', khb', kpa', kpb', kba', kbb', ?_, g1, ⟨hh.1, hh.2.1, fun i hi => ?_⟩, ⟨hp.1, hp.2.1, fun i hi => ?_⟩, ⟨hb.1, hb.2.1, fun i hi => ?_⟩⟩
  · unfold k_X1_copyAll
    rw [e1, b3_s, e2, b3_s, e3, b3_s, e4, b3_s]
  · rw [(g2 i hi).1, (g2 i hi).2]; exact hh.2.2 i hi
  · rw [(g3 i hi).1, (g3 i hi).2]; exact hp.2.2 i hi
  · rw [(g4 i hi).1, (g4 i hi).2]; exact hb.2.2 i hi

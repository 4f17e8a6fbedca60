theorem lt100 {f1 : Nat} (h : f1 ≤ 9999) : (nI f1 < 100) ↔ ¬ 100 ≤ f1 := by
  rw [show (100 : Int32) = nI 100 from rfl, u_ti (by omega) (by omega)]
  omega
theorem clipC (y : Int32) : (if 9999 < (if 0 < y then y else 0) then 9999 else (if 0 < y then y else 0)) = nI (if y < 0 then 0 else if 9999 < y then 9999 else y.toNatClampNeg) := by
  by_cases c : y < 0
  · rw [if_pos c, if_neg (fun h : 0 < y => Int32.lt_irrefl (Int32.lt_trans c h))]
    rfl
  · rw [if_neg c]
    have e : (if 0 < y then y else 0) = y := by
      by_cases d : 0 < y
      · exact if_pos d
      · rw [if_neg d]; exact Int32.le_antisymm ((u_nlt _ _).mp c) ((u_nlt _ _).mp d)
    rw [e]
    by_cases d : 9999 < y
    · rw [if_pos d, if_pos d]; rfl
    · rw [if_neg d, if_neg d]
      exact (u_of ((u_nlt _ _).mp c)).1
theorem day51C (b : Bool) {B : Nat} {F : Nat → Nat} {G : Nat → Nat → Nat} (ho : okF B F G) (hB : B ≤ 20000) (mf : Nat → Int32) (mg : Nat → Nat → Int32) (f1 v4 : Nat) (hf1 : f1 ≤ 9999) (hy : (if 9999 < mf 2 then 9999 else mf 2) = nI f1) (e0 : mf 0 = nI (F 0)) (e1 : mf 1 = nI (F 1)) (e3 : mf 3 = nI (F 3)) (e4 : mf 4 = nI v4) (e5 : mf 5 = nI (F 5)) (hg : ∀ p, p < 6 → mg 10 p = nI (G 10 p)) : ∃ mf' mg', k_X1_passDay_51 (mostC b) mf mg = some (mf', mg') ∧ mf' 0 = nI (F 0) ∧ mf' 1 = nI (F 1) ∧ mf' 2 = nI (if 100 ≤ f1 then f1 / 2 else f1) ∧ mf' 3 = nI (if 100 ≤ f1 then cap b (F 3 + 1) else F 3) ∧ mf' 4 = nI v4 ∧ mf' 5 = nI (F 5) + 1 ∧ (∀ s, s ≠ 10 → mg' s = mg s) ∧ (∀ p, F 0 ≤ p → mg' 10 p = mg 10 p) ∧ (∀ p, p < F 0 → mg' 10 p = nI (if (F 1).testBit p = true then 0 else cap b (G 10 p + 1))) := by
  obtain ⟨h0, h1, h2, h3, h4, h5, h7, h11⟩ := ho
  unfold k_X1_passDay_51
  rw [hy, nm_e1]
  have sp := splC b (F 1) (F 0) h1 h0 (G 10) (fun p hp => by have := (h7 p hp).2.2.2; omega) (F 0) 100000 0
  by_cases c : 100 ≤ f1
  · rw [if_neg (fun h => (lt100 hf1).mp h c), nm_e1, e3, nI_1, capC b (by omega), nm_e1, show nI f1 / 2 = nI (f1 / 2) from u_dv 2 (by omega) (by omega) (by omega)]
    obtain ⟨mg', hq, g1, g2, g3⟩ := sp (upd (upd (upd mf 2 (nI f1)) 3 (nI (cap b (F 3 + 1)))) 2 (nI (f1 / 2))) mg (by omega) (by omega) (by simpa [u_up] using e0) (by simpa [u_up] using e1) (fun p _ hp => hg p hp)
    refine ⟨_, mg', hq, by simpa [u_up] using e0, by simpa [u_up] using e1, by simp [u_up, c], by simp [u_up, c], by simpa [u_up] using e4, by simp [u_up, e5], g1, fun p hp => g2 p (Or.inr hp), fun p hp => g3 p (Nat.zero_le _) hp⟩
  · rw [if_pos ((lt100 hf1).mpr c)]
    obtain ⟨mg', hq, g1, g2, g3⟩ := sp (upd mf 2 (nI f1)) mg (by omega) (by omega) (by simpa [u_up] using e0) (by simpa [u_up] using e1) (fun p _ hp => hg p hp)
    refine ⟨_, mg', hq, by simpa [u_up] using e0, by simpa [u_up] using e1, by simp [u_up, c], by simp [u_up, c, e3], by simpa [u_up] using e4, by simp [u_up, e5], g1, fun p hp => g2 p (Or.inr hp), fun p hp => g3 p (Nat.zero_le _) hp⟩
theorem fear50 {x : Nat} (h : x ≤ 9999) : (if 9999 < nI x + 50 then 9999 else nI x + 50) = nI (if 9999 < x + 50 then 9999 else x + 50) := by
  rw [show nI x + 50 = nI (x + 50) from u_ab x 50]
  by_cases c : 9999 < x + 50
  · rw [if_pos (show (9999 : Int32) < nI (x + 50) from nI_lt (a := 9999) c (by omega)), if_pos c]; rfl
  · rw [if_neg (show ¬ (9999 : Int32) < nI (x + 50) from nI_nlt (a := 9999) (by omega) (by omega)), if_neg c]
theorem dayC (b : Bool) {B : Nat} {mf : Nat → Int32} {mg : Nat → Nat → Int32} {F : Nat → Nat} {G : Nat → Nat → Nat} {mc : Option Nat} {cn : Nat} {cf : Nat → Nat → Int32} {cg : Nat → Nat → Nat → Int32} {Cs : List (Nat × Nat × List Nat)} (h : agr mf mg F G) (ho : okF B F G) (hB : B ≤ 20000) (hc : hasC mc cn cf cg Cs) : ∃ mf' mg', k_X1_passDay (Snd F G Cs) (mostC b) mf mg mc cn cf = some (mf', mg') ∧ agr mf' mg' (dF b F G Cs) (dG b F G) := by
  obtain ⟨h0, h1, h2, h3, h4, h5, h7, h11⟩ := id ho
  have hle := frD_le (F 2) (Snd F G Cs) (nI (calmL Cs 10))
  have fin : ∀ mf1 v4, v4 = (if Snd F G Cs = 0 then cap b (F 4 + 1) else F 4) → (if 9999 < mf1 2 then 9999 else mf1 2) = nI (frD (F 2) (Snd F G Cs) (nI (calmL Cs 10))) → mf1 0 = nI (F 0) → mf1 1 = nI (F 1) → mf1 3 = nI (F 3) → mf1 4 = nI v4 → mf1 5 = nI (F 5) → ∃ mf' mg', k_X1_passDay_51 (mostC b) mf1 mg = some (mf', mg') ∧ agr mf' mg' (dF b F G Cs) (dG b F G) := by
    intro mf1 v4 hv hy e0 e1 e3 e4 e5
    obtain ⟨mf', mg', hq, a0, a1, a2, a3, a4, a5, a6, a7, a8⟩ := day51C b ho hB mf1 mg _ v4 hle hy e0 e1 e3 e4 e5 (fun p hp => h.2.1 10 p (by omega) (by omega) hp)
    refine ⟨mf', mg', hq, agr_day h ho (fun k hk hk5 => ?_) a5 a8 a7 a6⟩
    rcases (show k = 0 ∨ k = 1 ∨ k = 2 ∨ k = 3 ∨ k = 4 by omega) with rfl | rfl | rfl | rfl | rfl
    · exact a0
    · exact a1
    · exact a2
    · exact a3
    · rw [a4, hv]; rfl
  unfold k_X1_passDay
  by_cases hs : Snd F G Cs = 0
  · rw [if_pos hs, nm_e1, h.1 4 (by omega), nI_1, capC b (by omega), h.1 2 (by omega)]
    exact fin _ (cap b (F 4 + 1)) (by rw [if_pos hs]) (by show (if 9999 < nI (F 2) + 50 then 9999 else nI (F 2) + 50) = _; rw [fear50 h2]; unfold frD; rw [if_pos hs]) (by simpa [u_up] using h.1 0 (by omega)) (by simpa [u_up] using h.1 1 (by omega)) (by simpa [u_up] using h.1 3 (by omega)) (by simp [u_up]) (by simpa [u_up] using h.1 5 (by omega))
  · rw [if_neg hs, calmC hc, b1_s, nm_e1, h.1 2 (by omega)]
    exact fin _ (F 4) (by rw [if_neg hs]) (by simp only [u_up, if_true]; rw [clipC]; unfold frD; rw [if_neg hs]) (by simpa [u_up] using h.1 0 (by omega)) (by simpa [u_up] using h.1 1 (by omega)) (by simpa [u_up] using h.1 3 (by omega)) (by simpa [u_up] using h.1 4 (by omega)) (by simpa [u_up] using h.1 5 (by omega))
/-- what the model's days leave as it was -/
def frM (fi : Nat → Int32) (ga : Nat → Nat → Int32) (fi' : Nat → Int32) (ga' : Nat → Nat → Int32) : Prop := (∀ k, k ≠ 1 → k ≠ 2 → k ≠ 3 → k ≠ 4 → k ≠ 5 → fi' k = fi k) ∧ (∀ s, s ≠ 9 → ga' s = ga s) ∧ (∀ p, 6 ≤ p → ga' 9 p = ga 9 p)
theorem frM_t {fi fi' fi2 : Nat → Int32} {ga ga' ga2 : Nat → Nat → Int32} (h : frM fi ga fi' ga') (g : frM fi' ga' fi2 ga2) : frM fi ga fi2 ga2 :=
  ⟨fun k a1 a2 a3 a4 a5 => (g.1 k a1 a2 a3 a4 a5).trans (h.1 k a1 a2 a3 a4 a5), fun s a => (g.2.1 s a).trans (h.2.1 s a), fun p a => (g.2.2 p a).trans (h.2.2 p a)⟩
theorem kM_c {ga ga' : Nat → Nat → Int32} (e : ∀ s, s ≠ 9 → ga' s = ga s) : ∀ {Cs : List (Nat × Nat × List Nat)} {i b : Nat}, kM ga Cs i b → kM ga' Cs i b
  | [], _, _, _ => trivial
  | c :: Cs, i, b, h => by
    have hr : ∀ {L : List Nat} {a : Nat}, mRl ga a L → mRl ga' a L := by
      intro L
      induction L with
      | nil => intro a _; trivial
      | cons t L ih => intro a hh; exact ⟨by rw [e 22 (by omega)]; exact hh.1, ih hh.2⟩
    exact ⟨by rw [e 18 (by omega)]; exact h.1, by rw [e 19 (by omega)]; exact h.2.1, by rw [e 20 (by omega), e 21 (by omega)]; exact h.2.2.1, hr h.2.2.2.1, kM_c e h.2.2.2.2⟩
theorem hasM_c {fi fi' : Nat → Int32} {ga ga' : Nat → Nat → Int32} {Cs : List (Nat × Nat × List Nat)} (g : frM fi ga fi' ga') (h : hasM fi ga Cs) : hasM fi' ga' Cs := by
  rcases h with ⟨e1, e2⟩ | ⟨f, hf, e1, hl, hk⟩
  · exact Or.inl ⟨by rw [g.1 12 (by omega) (by omega) (by omega) (by omega) (by omega)]; exact e1, e2⟩
  · exact Or.inr ⟨f, hf, by rw [g.1 12 (by omega) (by omega) (by omega) (by omega) (by omega)]; exact e1, by rw [g.2.1 17 (by omega)]; exact hl, kM_c g.2.1 hk⟩
theorem day70M (b : Bool) {B : Nat} {F : Nat → Nat} {G : Nat → Nat → Nat} (ho : okF B F G) (hB : B ≤ 20000) (fs : Nat → Int32) (hfs : fs 29 = mostM b) (mf : Nat → Int32) (mg : Nat → Nat → Int32) (pl : Nat → Int32) (f1 v4 : Nat) (hf1 : f1 ≤ 9999) (e0 : mf 0 = nI (F 0)) (e1 : mf 1 = nI (F 1)) (e3 : mf 3 = nI (F 3)) (e4 : mf 4 = nI v4) (e5 : mf 5 = nI (F 5)) (hg : ∀ p, p < 6 → mg 9 p = nI (G 10 p)) : ∃ mf' mg', k_X7_goDay_70 fs (nI f1) mf mg pl = some (mf', mg', pl) ∧ mf' 0 = nI (F 0) ∧ mf' 1 = nI (F 1) ∧ mf' 2 = nI (if 100 ≤ f1 then f1 / 2 else f1) ∧ mf' 3 = nI (if 100 ≤ f1 then cap b (F 3 + 1) else F 3) ∧ mf' 4 = nI v4 ∧ mf' 5 = nI (F 5) + 1 ∧ (∀ s, s ≠ 9 → mg' s = mg s) ∧ (∀ p, F 0 ≤ p → mg' 9 p = mg 9 p) ∧ (∀ p, p < F 0 → mg' 9 p = nI (if (F 1).testBit p = true then 0 else cap b (G 10 p + 1))) ∧ (∀ k, k ≠ 2 → k ≠ 3 → k ≠ 5 → mf' k = mf k) := by
  obtain ⟨h0, h1, h2, h3, h4, h5, h7, h11⟩ := ho
  unfold k_X7_goDay_70
  have sp := splM b (F 1) (F 0) h1 h0 (G 10) (fun p hp => by have := (h7 p hp).2.2.2; omega) fs hfs pl (F 0) 100000 0
  by_cases c : 100 ≤ f1
  · rw [if_neg (fun h => (lt100 hf1).mp h c), e3, nI_1, hfs, capM b (by omega), b1_s, nm_e1, show nI f1 / 2 = nI (f1 / 2) from u_dv 2 (by omega) (by omega) (by omega)]
    obtain ⟨mg', hq, g1, g2, g3⟩ := sp (upd (upd (upd mf 2 (nI f1)) 3 (nI (cap b (F 3 + 1)))) 2 (nI (f1 / 2))) mg (by omega) (by omega) (by simpa [u_up] using e0) (by simpa [u_up] using e1) (fun p _ hp => hg p hp)
    exact ⟨_, mg', hq, by simpa [u_up] using e0, by simpa [u_up] using e1, by simp [u_up, c], by simp [u_up, c], by simpa [u_up] using e4, by simp [u_up, e5], g1, fun p hp => g2 p (Or.inr hp), fun p hp => g3 p (Nat.zero_le _) hp, fun k a b c => by simp [u_up, a, b, c]⟩
  · rw [if_pos ((lt100 hf1).mpr c)]
    obtain ⟨mg', hq, g1, g2, g3⟩ := sp (upd mf 2 (nI f1)) mg (by omega) (by omega) (by simpa [u_up] using e0) (by simpa [u_up] using e1) (fun p _ hp => hg p hp)
    exact ⟨_, mg', hq, by simpa [u_up] using e0, by simpa [u_up] using e1, by simp [u_up, c], by simp [u_up, c, e3], by simpa [u_up] using e4, by simp [u_up, e5], g1, fun p hp => g2 p (Or.inr hp), fun p hp => g3 p (Nat.zero_le _) hp, fun k a b c => by simp [u_up, a, b, c]⟩
theorem dayM (b : Bool) {B : Nat} {fi : Nat → Int32} {ga : Nat → Nat → Int32} {F : Nat → Nat} {G : Nat → Nat → Nat} {Cs : List (Nat × Nat × List Nat)} (fs : Nat → Int32) (hfs : fs 29 = mostM b) (h : agm fi ga F G) (ho : okF B F G) (hB : B ≤ 20000) (hc : hasM fi ga Cs) (hk : okCs Cs) (pl : Nat → Int32) : ∃ fi' ga' pl', k_X7_goDay fi fs ga pl = some (fi', ga', pl') ∧ agm fi' ga' (dF b F G Cs) (dG b F G) ∧ frM fi ga fi' ga' := by
  obtain ⟨h0, h1, h2, h3, h4, h5, h7, h11⟩ := id ho
  have hle := frD_le (F 2) (Snd F G Cs) (nI (calmL Cs 10))
  obtain ⟨pl', hsd⟩ := soundM h ho hB hc hk pl
  have fin : ∀ mf1 v4, v4 = (if Snd F G Cs = 0 then cap b (F 4 + 1) else F 4) → (∀ k, k ≠ 2 → k ≠ 4 → mf1 k = fi k) → mf1 0 = nI (F 0) → mf1 1 = nI (F 1) → mf1 3 = nI (F 3) → mf1 4 = nI v4 → mf1 5 = nI (F 5) → ∃ fi' ga' pl2, k_X7_goDay_70 fs (nI (frD (F 2) (Snd F G Cs) (nI (calmL Cs 10)))) mf1 ga pl' = some (fi', ga', pl2) ∧ agm fi' ga' (dF b F G Cs) (dG b F G) ∧ frM fi ga fi' ga' := by
    intro mf1 v4 hv hfr e0 e1 e3 e4 e5
    obtain ⟨mf', mg', hq, a0, a1, a2, a3, a4, a5, a6, a7, a8, a9⟩ := day70M b ho hB fs hfs mf1 ga pl' _ v4 hle e0 e1 e3 e4 e5 (fun p hp => h.2.1 10 p (by omega) (by omega) hp)
    refine ⟨mf', mg', pl', hq, agr_day h ho (fun k hk hk5 => ?_) a5 a8 a7 (fun s hs => ?_), fun k _ b2 b3 b4 b5 => by rw [a9 k b2 b3 b5, hfr k b2 b4], a6, fun p hp => a7 p (by omega)⟩
    · rcases (show k = 0 ∨ k = 1 ∨ k = 2 ∨ k = 3 ∨ k = 4 by omega) with rfl | rfl | rfl | rfl | rfl
      · exact a0
      · exact a1
      · exact a2
      · exact a3
      · rw [a4, hv]; rfl
    · by_cases c : s = 0
      · subst c; exact a6 0 (by omega)
      · exact a6 (s - 1) (by omega)
  unfold k_X7_goDay
  rw [hsd, b2_s]
  simp only [k_X7_goDay_27]
  have lst : ∀ {y : Int32} {z : Nat} {α : Type} (k : Int32 → Option α), nI z = nI (if y < 0 then 0 else if 9999 < y then 9999 else y.toNatClampNeg) → (if 0 ≤ y then b1 (k_X7_least y 9999) k else k 0) = k (nI z) := by
    intro y z α k e
    rw [e]
    by_cases c : y < 0
    · rw [if_neg (fun h => absurd c ((u_nlt _ _).mpr h)), if_pos c]; rfl
    · rw [if_pos ((u_nlt _ _).mp c), if_neg c]
      unfold k_X7_least
      by_cases d : 9999 < y
      · rw [if_pos (Int32.le_of_lt d), if_pos d]; rfl
      · rw [if_neg d, ← (u_of ((u_nlt _ _).mp c)).1]
        by_cases e9 : 9999 ≤ y
        · rw [if_pos e9, Int32.le_antisymm e9 ((u_nlt _ _).mp d)]; rfl
        · rw [if_neg e9]; rfl
  by_cases hs : Snd F G Cs = 0
  · rw [if_pos hs, h.1 4 (by omega), nI_1, hfs, capM b (by omega), b1_s, if_pos hs]
    have := fin (upd fi 4 (nI (cap b (F 4 + 1)))) (cap b (F 4 + 1)) (by rw [if_pos hs]) (fun k _ a => by simp [u_up, a]) (by simpa [u_up] using h.1 0 (by omega)) (by simpa [u_up] using h.1 1 (by omega)) (by simpa [u_up] using h.1 3 (by omega)) (by simp [u_up]) (by simpa [u_up] using h.1 5 (by omega))
    unfold k_X7_goDay_52
    rw [lst (fun t => k_X7_goDay_70 fs t (upd fi 4 (nI (cap b (F 4 + 1)))) ga pl') (z := frD (F 2) (Snd F G Cs) (nI (calmL Cs 10))) ?_]
    · exact this
    · rw [show (upd fi 4 (nI (cap b (F 4 + 1)))) 2 = nI (F 2) from h.1 2 (by omega), ← clipC]
      unfold frD
      rw [if_pos hs, ← fear50 h2, if_pos (show 0 < nI (F 2) + 50 by rw [show nI (F 2) + 50 = nI (F 2 + 50) from u_ab _ 50]; exact nI_lt (a := 0) (by omega) (by omega))]
  · rw [if_neg hs, if_neg hs, calmM hc hk, b1_s]
    have := fin fi (F 4) (by rw [if_neg hs]) (fun k _ a => rfl) (h.1 0 (by omega)) (h.1 1 (by omega)) (h.1 3 (by omega)) (h.1 4 (by omega)) (h.1 5 (by omega))
    unfold k_X7_goDay_52
    rw [lst (fun t => k_X7_goDay_70 fs t fi ga pl') (z := frD (F 2) (Snd F G Cs) (nI (calmL Cs 10))) ?_]
    · exact this
    · rw [h.1 2 (by omega)]
      unfold frD
      rw [if_neg hs]

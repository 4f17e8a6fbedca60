
def txR (xf xs fi : Nat → Int32) (ga : Nat → Nat → Int32) (L : Nat) (T : Nat → Nat) : Prop := xf 0 = nI L ∧ fi 13 = nI L ∧ L ≤ 100 ∧ ∀ k, k < L → xs k = nI (T k) ∧ ga 16 k = nI (T k) ∧ T k < 128
theorem u_byte : ∀ k, k < 128 → vp_nar .byte (Int8.toInt32 (Int32.toInt8 (nI k))) = nI k := by
  have h : ∀ k, k < 128 → (Int8.toInt32 (Int32.toInt8 (nI k))).toInt8.toInt32 = nI k := by decide +kernel
  intro k hk
  rw [vp_nar_byte]
  exact h k hk
theorem op_feed {xf xs fi : Nat → Int32} {ga : Nat → Nat → Int32} {L : Nat} {T : Nat → Nat} (h : txR xf xs fi ga L T) (a : Int32) : ∃ r xf' xs' fi' ga' L' T', k_X6_feed a xf xs = some (r, xf', xs') ∧ k_X7_feed a fi ga = some (r, fi', ga') ∧ txR xf' xs' fi' ga' L' T' ∧ (∀ k, k ≠ 13 → fi' k = fi k) ∧ (∀ s, s ≠ 16 → ga' s = ga s) := by
  obtain ⟨h1, h2, h3, h4⟩ := id h
  unfold k_X6_feed k_X7_feed k_X5_add
  rw [isW]
  rcases inN a 127 127 rfl with e | ⟨e, k, hk, ek⟩
  · rw [e]; exact ⟨_, _, _, _, _, L, T, rfl, rfl, h, fun _ _ => rfl, fun _ _ => rfl⟩
  subst ek
  rw [e, b1_s, b1_s, if_neg (show ¬ (1 : Int32) = 0 by decide), if_neg (show ¬ (1 : Int32) = 0 by decide), h1, h2]
  by_cases c : L = 100
  · rw [if_neg (show ¬ nI L < 100 by rw [c]; decide), if_pos (show nI L = 100 by rw [c]; rfl)]
    exact ⟨_, _, _, _, _, L, T, rfl, rfl, h, fun _ _ => rfl, fun _ _ => rfl⟩
  · rw [if_pos (show nI L < 100 from nI_lt (b := 100) (by omega) (by omega)), if_neg (show ¬ nI L = 100 from fun y => c ((u_ei (b := 100) (by omega) (by omega)).mp y)), gd_n (by omega) (by omega), gd_n (by omega) (by omega), u_cl (by omega), nI_1, u_byte k (by omega)]
    refine ⟨_, _, _, _, _, L + 1, fun j => if j = L then k else T j, rfl, rfl, ⟨rfl, rfl, by omega, fun j hj => ?_⟩, fun k h => if_neg h, fun s h => va_up_ne _ _ h⟩
    rw [va_up_self, u_up, u_up]
    by_cases d : j = L
    · simp only [d, if_true]; exact ⟨trivial, trivial, by omega⟩
    · simp only [d, if_false]; exact h4 j (by omega)
theorem op_hear {nhc : Int32} {nha nhb : Nat → Int32} {hn : Nat} {h1 h2 : Nat → Nat} {fi : Nat → Int32} {ga : Nat → Nat → Int32} (hc : hrC nhc nha nhb hn h1 h2) (hm : hrM fi ga hn h1 h2) (a b : Int32) : ∃ r nhc' nha' nhb' fi' ga' hn' h1' h2', k_X6_hear a b nhc nha nhb = some (r, nhc', nha', nhb') ∧ k_X7_hear a b fi ga = some (r, fi', ga') ∧ hrC nhc' nha' nhb' hn' h1' h2' ∧ hrM fi' ga' hn' h1' h2' ∧ (∀ k, k ≠ 36 → fi' k = fi k) ∧ (∀ s, s ≠ 37 → s ≠ 38 → ga' s = ga s) := by
  unfold k_X6_hear k_X7_hear
  by_cases c : a = -1
  · rw [if_pos c, if_pos c]
    exact ⟨0, 0, nha, nhb, upd fi 36 0, ga, 0, h1, h2, rfl, rfl, ⟨by omega, rfl, fun i hi => by omega⟩, ⟨rfl, fun i hi => by omega⟩, fun k h => if_neg h, fun _ _ _ => rfl⟩
  have no : ∀ r : Int32, ∃ r' nhc' nha' nhb' fi' ga' hn' h1' h2', some (r, nhc, nha, nhb) = some (r', nhc', nha', nhb') ∧ some (r, fi, ga) = some (r', fi', ga') ∧ hrC nhc' nha' nhb' hn' h1' h2' ∧ hrM fi' ga' hn' h1' h2' ∧ (∀ k, k ≠ 36 → fi' k = fi k) ∧ (∀ s, s ≠ 37 → s ≠ 38 → ga' s = ga s) := fun r => ⟨r, nhc, nha, nhb, fi, ga, hn, h1, h2, rfl, rfl, hc, hm, fun _ _ => rfl, fun _ _ _ => rfl⟩
  rw [if_neg c, if_neg c, isW, isW]
  rcases inN a 12 12 rfl with e | ⟨e, k, hk, ek⟩
  · rw [e]; exact no _
  rw [e, b1_s, b1_s, if_neg (show ¬ (1 : Int32) = 0 by decide), if_neg (show ¬ (1 : Int32) = 0 by decide)]; clear e
  rcases inN b 999 999 rfl with e | ⟨e, k2, hk2, ek2⟩
  · rw [e]; exact no _
  rw [e, b1_s, b1_s, if_neg (show ¬ (1 : Int32) = 0 by decide), if_neg (show ¬ (1 : Int32) = 0 by decide)]; clear e
  subst ek ek2
  obtain ⟨h5, hcn, hci⟩ := id hc
  unfold k_X3_isFull k_X3_add
  rw [hcn, hm.1]
  by_cases d : hn = 5
  · rw [if_neg (show ¬ nI hn < nI 5 by rw [d]; decide), if_pos (show nI hn = 5 by rw [d]; rfl)]; rw [← hcn]; exact no _
  rw [if_pos (show nI hn < nI 5 from nI_lt (by omega) (by omega)), if_neg (show ¬ nI hn = 5 from fun y => d ((u_ei (b := 5) (by omega) (by omega)).mp y)), b1_s, if_pos rfl, gd_n (by omega) (by omega), gd_n (by omega) (by omega), gd_n (by omega) (by omega), gd_n (by omega) (by omega), u_cl (by omega), nI_1]
  refine ⟨nI (hn + 1), nI (hn + 1), _, _, _, _, hn + 1, stF h1 hn k, stF h2 hn k2, rfl, rfl, ⟨by omega, rfl, fun i hi => ?_⟩, ⟨rfl, fun i hi => ?_⟩, fun k h => if_neg h, fun s a b => by rw [va_up_ne _ _ b, va_up_ne _ _ a]⟩
  · simp only [stF, u_up]
    by_cases e : i = hn
    · simp only [e, if_true]; exact ⟨trivial, trivial, hk, hk2⟩
    · simp only [e, if_false]; exact hci i (by omega)
  · simp only [stF]
    rw [va_up_ne _ _ (by omega), va_up_self, va_up_self, u_up, u_up]
    by_cases e : i = hn
    · simp only [e, if_true]; exact ⟨trivial, trivial⟩
    · simp only [e, if_false]; exact hm.2 i (by omega)
def plC (npc : Int32) (npa npb : Nat → Int32) (pn : Nat) (w1 w2 : Nat → Nat) : Prop := pn ≤ 10 ∧ npc = nI pn ∧ ∀ i, i < pn → npa i = nI (w1 i) ∧ w1 i ≤ 3 ∧ (w1 i = 1 ∨ w1 i = 2 → npb i = nI (w2 i) ∧ w2 i < 6)
def plM (fi : Nat → Int32) (ga : Nat → Nat → Int32) (pn : Nat) (w1 w2 : Nat → Nat) : Prop := fi 39 = nI pn ∧ ∀ i, i < pn → ga 41 i = nI (w1 i) ∧ (w1 i = 1 ∨ w1 i = 2 → ga 42 i = nI (w2 i))
def boC (nbc : Int32) (nba nbb : Nat → Int32) (m bn : Nat) (b1 b2 : Nat → Nat) : Prop := bn ≤ 8 ∧ nbc = nI bn ∧ ∀ i, i < bn → nba i = nI (b1 i) ∧ nbb i = nI (b2 i) ∧ b1 i < m ∧ b2 i ≤ 20
def boM (fi : Nat → Int32) (ga : Nat → Nat → Int32) (bn : Nat) (b1 b2 : Nat → Nat) : Prop := fi 40 = nI bn ∧ ∀ i, i < bn → ga 43 i = nI (b1 i) ∧ ga 44 i = nI (b2 i)
theorem op_plan {nf : Nat → Int32} {m : Nat} (hm6 : m ≤ 6) {npc : Int32} {npa npb : Nat → Int32} {pn : Nat} {w1 w2 : Nat → Nat} {fi : Nat → Int32} {ga : Nat → Nat → Int32} (e0 : nf 0 = nI m) (e1 : fi 0 = nI m) (hc : plC npc npa npb pn w1 w2) (hm : plM fi ga pn w1 w2) (a b : Int32) : ∃ r npc' npa' npb' fi' ga' pn' w1' w2', k_X6_plan a b nf npc npa npb = some (r, npc', npa', npb') ∧ k_X7_plan a b fi ga = some (r, fi', ga') ∧ plC npc' npa' npb' pn' w1' w2' ∧ plM fi' ga' pn' w1' w2' ∧ (∀ k, k ≠ 39 → fi' k = fi k) ∧ (∀ s, s ≠ 41 → s ≠ 42 → ga' s = ga s) := by
  unfold k_X6_plan k_X7_plan
  by_cases c : a = -1
  · rw [if_pos c, if_pos c]
    exact ⟨0, 0, npa, npb, upd fi 39 0, ga, 0, w1, w2, rfl, rfl, ⟨by omega, rfl, fun i hi => by omega⟩, ⟨rfl, fun i hi => by omega⟩, fun k h => if_neg h, fun _ _ _ => rfl⟩
  have no : ∀ r : Int32, ∃ r' nhc' nha' nhb' fi' ga' hn' h1' h2', some (r, npc, npa, npb) = some (r', nhc', nha', nhb') ∧ some (r, fi, ga) = some (r', fi', ga') ∧ plC nhc' nha' nhb' hn' h1' h2' ∧ plM fi' ga' hn' h1' h2' ∧ (∀ k, k ≠ 39 → fi' k = fi k) ∧ (∀ s, s ≠ 41 → s ≠ 42 → ga' s = ga s) := fun r => ⟨r, npc, npa, npb, fi, ga, pn, w1, w2, rfl, rfl, hc, hm, fun _ _ => rfl, fun _ _ _ => rfl⟩
  rw [if_neg c, if_neg c, isW]
  rcases inN a 3 3 rfl with e | ⟨e, k, hk, ek⟩
  · rw [e]; exact no _
  rw [e, b1_s, b1_s, if_neg (show ¬ (1 : Int32) = 0 by decide), if_neg (show ¬ (1 : Int32) = 0 by decide)]; clear e
  subst ek
  obtain ⟨h5, hcn, hci⟩ := id hc
  have put : ∀ (w : Int32) (j : Nat), (k_X7_in (nI k) 1 2 = some 0 ∧ ¬ (k = 1 ∨ k = 2)) ∨ (k_X7_in (nI k) 1 2 = some 1 ∧ w = nI j ∧ j < 6) → ∃ r npc' npa' npb' fi' ga' pn' w1' w2', k_X6_plan_49 (nI k) w npc npa npb = some (r, npc', npa', npb') ∧ k_X7_plan_42 (nI k) w fi ga = some (r, fi', ga') ∧ plC npc' npa' npb' pn' w1' w2' ∧ plM fi' ga' pn' w1' w2' ∧ (∀ k, k ≠ 39 → fi' k = fi k) ∧ (∀ s, s ≠ 41 → s ≠ 42 → ga' s = ga s) := by
    intro w j hw
    unfold k_X6_plan_49 k_X7_plan_42 k_X3_isFull k_X3_add
    rw [hcn, hm.1]
    by_cases d : pn = 10
    · rw [if_neg (show ¬ nI pn < nI 10 by rw [d]; decide), if_pos (show nI pn = 10 by rw [d]; rfl)]; rw [← hcn]; exact no _
    rw [if_pos (show nI pn < nI 10 from nI_lt (by omega) (by omega)), if_neg (show ¬ nI pn = 10 from fun y => d ((u_ei (b := 10) (by omega) (by omega)).mp y)), b1_s, if_pos rfl, gd_n (by omega) (by omega), gd_n (by omega) (by omega), gd_n (by omega) (by omega), u_cl (by omega), nI_1]
    simp only [k_X7_plan_87]
    rw [gd_n (by omega) (by omega), gd_n (by omega) (by omega), u_cl (by omega), hm.1, nI_1]
    rcases hw with ⟨q1, q2⟩ | ⟨q1, q2, q3⟩
    · rw [q1, b1_s, if_pos rfl]
      refine ⟨nI (pn + 1), nI (pn + 1), _, _, _, _, pn + 1, stF w1 pn k, stF w2 pn j, rfl, rfl, ⟨by omega, rfl, fun i hi => ?_⟩, ⟨rfl, fun i hi => ?_⟩, fun k h => if_neg h, fun s a b => by rw [va_up_ne _ _ b, va_up_ne _ _ a]⟩
      · simp only [stF, u_up]
        by_cases e : i = pn
        · simp only [e, if_true]; exact ⟨trivial, hk, fun y => absurd y q2⟩
        · simp only [e, if_false]; exact hci i (by omega)
      · simp only [stF]
        rw [va_up_ne _ _ (by omega), va_up_self, va_up_self, va_up_ne _ _ (by omega), u_up, u_up]
        by_cases e : i = pn
        · simp only [e, if_true]; exact ⟨trivial, fun y => absurd y q2⟩
        · simp only [e, if_false]; exact hm.2 i (by omega)
    · rw [q1, b1_s, if_neg (by decide)]
      refine ⟨nI (pn + 1), nI (pn + 1), _, _, _, _, pn + 1, stF w1 pn k, stF w2 pn j, rfl, rfl, ⟨by omega, rfl, fun i hi => ?_⟩, ⟨rfl, fun i hi => ?_⟩, fun k h => if_neg h, fun s a b => by rw [va_up_ne _ _ b, va_up_ne _ _ a]⟩
      · simp only [stF, u_up]
        by_cases e : i = pn
        · simp only [e, if_true]; exact ⟨trivial, hk, fun y => ⟨q2, q3⟩⟩
        · simp only [e, if_false]; exact hci i (by omega)
      · simp only [stF]
        rw [va_up_ne _ _ (by omega), va_up_self, va_up_self, va_up_ne _ _ (by omega), u_up, u_up]
        by_cases e : i = pn
        · simp only [e, if_true]; exact ⟨trivial, fun y => q2⟩
        · simp only [e, if_false]; exact hm.2 i (by omega)
  have man : k_X7_in (nI k) 1 2 = some 1 → (k = 1 ∨ k = 2) → ∃ r npc' npa' npb' fi' ga' pn' w1' w2', k_X6_plan_36 (nI k) b nf npc npa npb = some (r, npc', npa', npb') ∧ b1 (k_X7_isMan b fi) (fun r10 => if r10 = 0 then some ((-1), fi, ga) else k_X7_plan_42 (nI k) b fi ga) = some (r, fi', ga') ∧ plC npc' npa' npb' pn' w1' w2' ∧ plM fi' ga' pn' w1' w2' ∧ (∀ k, k ≠ 39 → fi' k = fi k) ∧ (∀ s, s ≠ 41 → s ≠ 42 → ga' s = ga s) := by
    intro hin hk12
    unfold k_X6_plan_36
    rcases manQ hm6 e0 e1 b with ⟨q1, q2⟩ | ⟨q1, q2, p, hp, ep⟩
    · rw [q1, q2]; exact no _
    · rw [q1, q2, b1_s, b1_s, if_neg (show ¬ (1 : Int32) = 0 by decide), if_neg (show ¬ (1 : Int32) = 0 by decide)]
      exact put b p (Or.inr ⟨hin, ep, by omega⟩)
  rcases (show k = 0 ∨ k = 1 ∨ k = 2 ∨ k = 3 by omega) with e | e | e | e
  · have hin : k_X7_in (nI k) 1 2 = some 0 := by rw [e]; rfl
    rw [hin, b1_s, if_pos (show (0 : Int32) = 0 from rfl), if_neg (show ¬ nI k = 1 by rw [e]; decide), if_neg (show ¬ nI k = 2 by rw [e]; decide)]
    exact put b 0 (Or.inl ⟨hin, by omega⟩)
  · have hin : k_X7_in (nI k) 1 2 = some 1 := by rw [e]; rfl
    rw [hin, b1_s, if_neg (show ¬ (1 : Int32) = 0 by decide), if_pos (show nI k = 1 by rw [e]; rfl)]
    exact man hin (by omega)
  · have hin : k_X7_in (nI k) 1 2 = some 1 := by rw [e]; rfl
    rw [hin, b1_s, if_neg (show ¬ (1 : Int32) = 0 by decide), if_neg (show ¬ nI k = 1 by rw [e]; decide), if_pos (show nI k = 2 by rw [e]; rfl)]
    exact man hin (by omega)
  · have hin : k_X7_in (nI k) 1 2 = some 0 := by rw [e]; rfl
    rw [hin, b1_s, if_pos (show (0 : Int32) = 0 from rfl), if_neg (show ¬ nI k = 1 by rw [e]; decide), if_neg (show ¬ nI k = 2 by rw [e]; decide)]
    exact put b 0 (Or.inl ⟨hin, by omega⟩)
theorem op_book {nf : Nat → Int32} {m : Nat} (hm6 : m ≤ 6) {nbc : Int32} {nba nbb : Nat → Int32} {bn : Nat} {b1' b2' : Nat → Nat} {fi : Nat → Int32} {ga : Nat → Nat → Int32} (e0 : nf 0 = nI m) (e1 : fi 0 = nI m) (hc : boC nbc nba nbb m bn b1' b2') (hm : boM fi ga bn b1' b2') (a b : Int32) : ∃ r nbc' nba' nbb' fi' ga' bn' c1 c2, k_X6_book a b nf nbc nba nbb = some (r, nbc', nba', nbb') ∧ k_X7_book a b fi ga = some (r, fi', ga') ∧ boC nbc' nba' nbb' m bn' c1 c2 ∧ boM fi' ga' bn' c1 c2 ∧ (∀ k, k ≠ 40 → fi' k = fi k) ∧ (∀ s, s ≠ 43 → s ≠ 44 → ga' s = ga s) := by
  unfold k_X6_book k_X7_book k_X7_isNerve
  by_cases c : a = -1
  · rw [if_pos c, if_pos c]
    exact ⟨0, 0, nba, nbb, upd fi 40 0, ga, 0, b1', b2', rfl, rfl, ⟨by omega, rfl, fun i hi => by omega⟩, ⟨rfl, fun i hi => by omega⟩, fun k h => if_neg h, fun _ _ _ => rfl⟩
  have no : ∀ r : Int32, ∃ r' nhc' nha' nhb' fi' ga' hn' h1' h2', some (r, nbc, nba, nbb) = some (r', nhc', nha', nhb') ∧ some (r, fi, ga) = some (r', fi', ga') ∧ boC nhc' nha' nhb' m hn' h1' h2' ∧ boM fi' ga' hn' h1' h2' ∧ (∀ k, k ≠ 40 → fi' k = fi k) ∧ (∀ s, s ≠ 43 → s ≠ 44 → ga' s = ga s) := fun r => ⟨r, nbc, nba, nbb, fi, ga, bn, b1', b2', rfl, rfl, hc, hm, fun _ _ => rfl, fun _ _ _ => rfl⟩
  rw [if_neg c, if_neg c, isW]
  rcases manQ hm6 e0 e1 a with ⟨q1, q2⟩ | ⟨q1, q2, p, hp, ep⟩
  · rw [q1, q2]; exact no _
  rw [q1, q2, b1_s, b1_s, if_neg (show ¬ (1 : Int32) = 0 by decide), if_neg (show ¬ (1 : Int32) = 0 by decide)]; clear q1 q2
  rcases inN b 20 20 rfl with e | ⟨e, k2, hk2, ek2⟩
  · rw [e]; exact no _
  rw [e, b1_s, b1_s, b1_s, if_neg (show ¬ (1 : Int32) = 0 by decide), if_neg (show ¬ (1 : Int32) = 0 by decide)]; clear e
  subst ep ek2
  obtain ⟨h5, hcn, hci⟩ := id hc
  unfold k_X3_isFull k_X3_add
  rw [hcn, hm.1]
  by_cases d : bn = 8
  · rw [if_neg (show ¬ nI bn < nI 8 by rw [d]; decide), if_pos (show nI bn = 8 by rw [d]; rfl)]; rw [← hcn]; exact no _
  rw [if_pos (show nI bn < nI 8 from nI_lt (by omega) (by omega)), if_neg (show ¬ nI bn = 8 from fun y => d ((u_ei (b := 8) (by omega) (by omega)).mp y)), b1_s, if_pos rfl, gd_n (by omega) (by omega), gd_n (by omega) (by omega), gd_n (by omega) (by omega), gd_n (by omega) (by omega), u_cl (by omega), nI_1]
  refine ⟨nI (bn + 1), nI (bn + 1), _, _, _, _, bn + 1, stF b1' bn p, stF b2' bn k2, rfl, rfl, ⟨by omega, rfl, fun i hi => ?_⟩, ⟨rfl, fun i hi => ?_⟩, fun k h => if_neg h, fun s a b => by rw [va_up_ne _ _ b, va_up_ne _ _ a]⟩
  · simp only [stF, u_up]
    by_cases e : i = bn
    · simp only [e, if_true]; exact ⟨trivial, trivial, hp, hk2⟩
    · simp only [e, if_false]; exact hci i (by omega)
  · simp only [stF]
    rw [va_up_ne _ _ (by omega), va_up_self, va_up_self, u_up, u_up]
    by_cases e : i = bn
    · simp only [e, if_true]; exact ⟨trivial, trivial⟩
    · simp only [e, if_false]; exact hm.2 i (by omega)
theorem loR {nf : Nat → Int32} {ng : Nat → Nat → Int32} {fi : Nat → Int32} {ga : Nat → Nat → Int32} {F : Nat → Nat} {G : Nat → Nat → Nat} (ha : agr nf ng F G) (hm : agm fi ga F G) (ho : okF 9999 F G) {nbc : Int32} {nba nbb : Nat → Int32} {bn : Nat} {b1' b2' : Nat → Nat} (hc : boC nbc nba nbb (F 0) bn b1' b2') (hb : boM fi ga bn b1' b2') : ∀ (r n1 n2 x : Nat), r < n1 → r < n2 → bn = x + r → ∃ v, k_X6_looked_2 nf ng nbc nba nbb n1 (nI x) = some v ∧ k_X7_looked_2 fi ga n2 (nI x) = some v
  | r, 0, _, _, hl, _, _ => by omega
  | r, _ + 1, 0, _, _, hl, _ => by omega
  | 0, n1 + 1, n2 + 1, x, hl1, hl2, e => by
    have h8 := hc.1
    refine ⟨-5, ?_, ?_⟩
    · show (if nbc ≤ nI x then _ else _) = _
      rw [hc.2.1, if_pos (nI_le (by omega) (by omega))]
    · show (if fi 40 ≤ nI x then _ else _) = _
      rw [hb.1, if_pos (nI_le (by omega) (by omega))]
  | r + 1, n1 + 1, n2 + 1, x, hl1, hl2, e => by
    have h8 := hc.1
    have h6 := ho.1
    obtain ⟨q1, q2, q3, q4⟩ := hc.2.2 x (by omega)
    obtain ⟨p1, p2⟩ := hb.2 x (by omega)
    have ih := loR ha hm ho hc hb r n1 n2 (x + 1) (by omega) (by omega) (by omega)
    simp only [k_X6_looked_2, k_X7_looked_2]
    have hh : k_X1_has (nI (b1' x)) nf = some 1 := by
      unfold k_X1_has
      rw [ha.1 0 (by omega), if_neg (nI_pos (by omega)), if_neg (nI_ge q3 (by omega))]
    rw [hc.2.1, hb.1, if_neg (nI_ge (by omega) (by omega)), if_neg (nI_ge (by omega) (by omega)), gd_n (by omega) (by omega), gd_n (by omega) (by omega), gd_n (by omega) (by omega), gd_n (by omega) (by omega), u_cl (show x < 2 ^ 31 by omega), q1, p1, q2, p2, hh, b1_s, if_neg (show ¬ (1 : Int32) = 0 by decide), gd_n (by omega) (by omega), gd_n (by omega) (by omega), u_cl (show b1' x < 2 ^ 31 by omega), ha.2.1 9 _ (by omega) (by omega) (by omega), show ga 8 (b1' x) = nI (G 9 (b1' x)) from hm.2.1 9 _ (by omega) (by omega) (by omega), nI_1, ← hc.2.1]
    by_cases c : nI (G 9 (b1' x)) = nI (b2' x)
    · rw [if_pos c, if_pos c]; exact ih
    · rw [if_neg c, if_neg c]; exact ⟨_, rfl, rfl⟩
theorem op_looked {nf : Nat → Int32} {ng : Nat → Nat → Int32} {fi : Nat → Int32} {ga : Nat → Nat → Int32} {F : Nat → Nat} {G : Nat → Nat → Nat} (ha : agr nf ng F G) (hm : agm fi ga F G) (ho : okF 9999 F G) {nbc : Int32} {nba nbb : Nat → Int32} {bn : Nat} {b1' b2' : Nat → Nat} (hc : boC nbc nba nbb (F 0) bn b1' b2') (hb : boM fi ga bn b1' b2') : ∃ v, k_X6_looked nf ng nbc nba nbb = some v ∧ k_X7_looked fi ga = some v :=
  loR ha hm ho hc hb bn 100000 100000 0 (by have := hc.1; omega) (by have := hc.1; omega) (by omega)

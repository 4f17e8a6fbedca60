def agr (mf : Nat → Int32) (mg : Nat → Nat → Int32) (F : Nat → Nat) (G : Nat → Nat → Nat) : Prop := (∀ k, k < 6 → mf k = nI (F k)) ∧ (∀ s p, 7 ≤ s → s ≤ 10 → p < 6 → mg s p = nI (G s p)) ∧ (∀ k, k < 24 → mg 11 k = nI (G 11 k))
def agm (fi : Nat → Int32) (ga : Nat → Nat → Int32) (F : Nat → Nat) (G : Nat → Nat → Nat) : Prop := agr fi (fun s => ga (s - 1)) F G
def okF (B : Nat) (F : Nat → Nat) (G : Nat → Nat → Nat) : Prop := F 0 ≤ 6 ∧ F 1 < 64 ∧ F 2 ≤ 9999 ∧ F 3 ≤ B ∧ F 4 ≤ B ∧ F 5 ≤ B ∧ (∀ p, p < 6 → G 7 p ≤ 6 ∧ G 8 p ≤ 9 ∧ G 9 p ≤ 20 ∧ G 10 p ≤ B) ∧ (∀ k, k < 24 → G 11 k ≤ 9)
def hasC (mc : Option Nat) (cn : Nat) (cf : Nat → Nat → Int32) (cg : Nat → Nat → Nat → Int32) (Cs : List (Nat × Nat × List Nat)) : Prop := (mc = none ∧ Cs = []) ∨ ∃ i, mc = some i ∧ i < cn ∧ cf i 1 = nI Cs.length ∧ cf i 0 = nI (calmL Cs 10) ∧ kC (cg i) Cs 0 0
def hasM (fi : Nat → Int32) (ga : Nat → Nat → Int32) (Cs : List (Nat × Nat × List Nat)) : Prop := (fi 12 = -1 ∧ Cs = []) ∨ ∃ f, f < 6 ∧ fi 12 = nI f ∧ ga 17 f = nI Cs.length ∧ kM ga Cs (10 * f) (100 * f)
def vsF (F : Nat → Nat) (G : Nat → Nat → Nat) (p f : Nat) : Nat := if f = 0 then (if p < 6 then p else 0) else if f = 1 then G 7 p else if f = 2 then G 8 p else if f = 3 then G 9 p else if f = 4 then G 10 p % 10 else F 5 % 7
def dnR (F : Nat → Nat) (G : Nat → Nat → Nat) (p : Nat) : Nat → Nat → Bool
  | 0, _ => false
  | r + 1, o => if o = p then dnR F G p r (o + 1) else if G 7 o = 5 then (if (F 1).testBit o = true then dnR F G p r (o + 1) else true) else dnR F G p r (o + 1)
def nzK (F : Nat → Nat) (G : Nat → Nat → Nat) (p : Nat) (sm : Int32) : Int32 := if G 7 p = 1 then sm + nI (G 8 p) else if G 7 p = 2 then sm / 2 + 3 else if G 7 p = 3 then (if F 5 % 7 = 0 then 0 else sm) else if G 7 p = 4 then sm + nI (G 8 p) - nI (if 9 < G 10 p then 9 else G 10 p) else if G 7 p = 5 then (if dnR F G p (F 0) 0 = true then (sm / 2 + 3) * 2 else sm / 2 + 3) else if G 7 p = 6 then (if F 5 % 7 = 0 then 0 else sm) + nI (G 11 (4 * p + F 5 % 4)) else sm
def Nz (F : Nat → Nat) (G : Nat → Nat → Nat) (Cs : List (Nat × Nat × List Nat)) (p : Nat) : Int32 := nzK F G p (sumL (vsF F G p) Cs 0 - nI (G 9 p / 4))
theorem gd_l {α : Type} {o : Option α} (i : Int32) (n : Nat) (h : decide (¬ (i < 0 ∨ n ≤ i.toNatClampNeg)) = true) : gd i n o = o := gd_in (show ¬ (i < 0 ∨ n ≤ i.toNatClampNeg) from of_decide_eq_true h)
theorem vsF_le {B : Nat} {F : Nat → Nat} {G : Nat → Nat → Nat} (ho : okF B F G) {p : Nat} (hp : p < 6) (f : Nat) : vsF F G p f ≤ 9999 := by
  obtain ⟨_, _, _, _, _, _, h7, _⟩ := ho
  have h := h7 p hp
  unfold vsF
  rw [if_pos hp]
  have h1 : G 10 p % 10 < 10 := Nat.mod_lt _ (by omega)
  have h2 : F 5 % 7 < 7 := Nat.mod_lt _ (by omega)
  split
  · omega
  · split
    · omega
    · split
      · omega
      · split
        · omega
        · split <;> omega
theorem valC {B : Nat} {mf : Nat → Int32} {mg : Nat → Nat → Int32} {F : Nat → Nat} {G : Nat → Nat → Nat} (h : agr mf mg F G) (ho : okF B F G) (hB : B ≤ 20000) (p : Nat) (hp : p < 6) (mv : Nat → Int32) : ∃ mv', k_X1_valuesOf (nI p) mf mg mv = some mv' ∧ ∀ f, f < 6 → mv' f = nI (vsF F G p f) := by
  simp only [k_X1_valuesOf, nm_e1]
  have g1 : ∀ {α : Type} (o : Option α), gd (nI p) 6 o = o := fun o => gd_n hp (by omega)
  simp only [g1]
  rw [gd_l 0 6 rfl, gd_l 1 6 rfl, gd_l 2 6 rfl, gd_l 3 6 rfl, gd_l 4 6 rfl, gd_l 5 6 rfl, u_cl (by omega)]
  refine ⟨_, rfl, ?_⟩
  obtain ⟨_, _, _, _, _, h5, h7, _⟩ := ho
  have hq := h7 p hp
  intro f hf
  rw [h.2.1 7 p (by omega) (by omega) hp, h.2.1 8 p (by omega) (by omega) hp, h.2.1 9 p (by omega) (by omega) hp, h.2.1 10 p (by omega) (by omega) hp, h.1 5 (by omega), show nI (G 10 p) - nI (G 10 p) / 10 * 10 = nI (G 10 p % 10) from u_rm 10 (by omega) (by omega) (by omega), show nI (F 5) - nI (F 5) / 7 * 7 = nI (F 5 % 7) from u_rm 7 (by omega) (by omega) (by omega)]
  have hvs : vsF F G p f = if f = 0 then p else if f = 1 then G 7 p else if f = 2 then G 8 p else if f = 3 then G 9 p else if f = 4 then G 10 p % 10 else F 5 % 7 := by unfold vsF; rw [if_pos hp]
  rw [hvs]
  rcases (show f = 0 ∨ f = 1 ∨ f = 2 ∨ f = 3 ∨ f = 4 ∨ f = 5 by omega) with rfl | rfl | rfl | rfl | rfl | rfl <;> rfl
theorem factM {B : Nat} {fi : Nat → Int32} {ga : Nat → Nat → Int32} {F : Nat → Nat} {G : Nat → Nat → Nat} (h : agm fi ga F G) (ho : okF B F G) (hB : B ≤ 20000) (p : Nat) (hp : p < 6) : ∀ f, f < 6 → k_X7_factOf (nI f) (nI p) fi ga = some (nI (vsF F G p f)) := by
  intro f hf
  obtain ⟨_, _, _, _, _, h5, h7, _⟩ := ho
  have hq := h7 p hp
  have g1 : ∀ {α : Type} (o : Option α), gd (nI p) 6 o = o := fun o => gd_n hp (by omega)
  simp only [k_X7_factOf, g1]
  rw [u_cl (by omega), show ga 6 p = nI (G 7 p) from h.2.1 7 p (by omega) (by omega) hp, show ga 7 p = nI (G 8 p) from h.2.1 8 p (by omega) (by omega) hp, show ga 8 p = nI (G 9 p) from h.2.1 9 p (by omega) (by omega) hp, show ga 9 p = nI (G 10 p) from h.2.1 10 p (by omega) (by omega) hp, h.1 5 (by omega), show nI (G 10 p) - nI (G 10 p) / 10 * 10 = nI (G 10 p % 10) from u_rm 10 (by omega) (by omega) (by omega), show nI (F 5) - nI (F 5) / 7 * 7 = nI (F 5 % 7) from u_rm 7 (by omega) (by omega) (by omega)]
  have hvs : vsF F G p f = if f = 0 then p else if f = 1 then G 7 p else if f = 2 then G 8 p else if f = 3 then G 9 p else if f = 4 then G 10 p % 10 else F 5 % 7 := by unfold vsF; rw [if_pos hp]
  rw [hvs]
  rcases (show f = 0 ∨ f = 1 ∨ f = 2 ∨ f = 3 ∨ f = 4 ∨ f = 5 by omega) with rfl | rfl | rfl | rfl | rfl | rfl <;> rfl
theorem upC {mf : Nat → Int32} {u p : Nat} (h : mf 1 = nI u) (hu : u < 64) (hp : p < 6) : k_X1_isUp (nI p) mf = some (bI (u.testBit p)) := by
  unfold k_X1_isUp
  rw [h, u_bit (by omega) (by omega)]
  cases u.testBit p <;> rfl
theorem hasB {u p : Nat} (hu : u < 2 ^ 31) (hp : p < 32) : k_X7_has (nI u) (nI p) = some (bI (u.testBit p)) := by
  unfold k_X7_has
  rw [u_bit hu hp]
  cases u.testBit p <;> rfl
theorem dncC {B : Nat} {mf : Nat → Int32} {mg : Nat → Nat → Int32} {F : Nat → Nat} {G : Nat → Nat → Nat} (h : agr mf mg F G) (ho : okF B F G) (p : Nat) (hp : p < 6) : ∀ (r n o : Nat), r < n → F 0 = o + r → k_X1_isDancingWith_2 (nI p) mf mg n (nI o) = some (bI (dnR F G p r o))
  | 0, 0, _, hn, _ => by omega
  | 0, n + 1, o, hn, e => by
    have h6 := ho.1
    show (if (mf 0) ≤ nI o then _ else _) = _
    rw [h.1 0 (by omega), e, if_pos (nI_le (by omega) (by omega))]
    rfl
  | r + 1, 0, _, hn, _ => by omega
  | r + 1, n + 1, o, hn, e => by
    have h6 := ho.1
    have hq := ho.2.2.2.2.2.2.1 o (by omega)
    have ih := dncC h ho p hp r n (o + 1) (by omega) (by omega)
    simp only [k_X1_isDancingWith_2, dnR]
    rw [h.1 0 (by omega), e, if_neg (nI_ge (by omega) (by omega)), nI_1]
    by_cases c : o = p
    · subst c
      rw [if_pos rfl, if_pos rfl]
      exact ih
    rw [if_neg (fun x => c ((u_ei (by omega) (by omega)).mp x)), if_neg c, gd_n (by omega) (by omega), u_cl (by omega), h.2.1 7 o (by omega) (by omega) (by omega), upC (h.1 1 (by omega)) ho.2.1 (by omega), b1_s]
    by_cases c5 : G 7 o = 5
    · rw [c5, if_pos (by decide), if_pos rfl]
      cases hb : (F 1).testBit o
      · rfl
      · rw [if_neg (by decide), if_pos rfl]
        exact ih
    · rw [if_neg (show ¬ nI (G 7 o) = 5 from fun x => c5 ((u_ei (b := 5) (by omega) (by omega)).mp x)), if_neg c5]
      exact ih
theorem dncM {B : Nat} {fi : Nat → Int32} {ga : Nat → Nat → Int32} {F : Nat → Nat} {G : Nat → Nat → Nat} (h : agm fi ga F G) (ho : okF B F G) (p : Nat) (hp : p < 6) : ∀ (r n o : Nat), r < n → F 0 = o + r → k_X7_isDancerBelow_2 (nI p) fi ga n (nI o) = some (bI (dnR F G p r o))
  | 0, 0, _, hn, _ => by omega
  | 0, n + 1, o, hn, e => by
    have h6 := ho.1
    show (if (fi 0) ≤ nI o then _ else _) = _
    rw [h.1 0 (by omega), e, if_pos (nI_le (by omega) (by omega))]
    rfl
  | r + 1, 0, _, hn, _ => by omega
  | r + 1, n + 1, o, hn, e => by
    have h6 := ho.1
    have hq := ho.2.2.2.2.2.2.1 o (by omega)
    have hu := ho.2.1
    have ih := dncM h ho p hp r n (o + 1) (by omega) (by omega)
    simp only [k_X7_isDancerBelow_2, dnR]
    rw [h.1 0 (by omega), e, if_neg (nI_ge (by omega) (by omega)), nI_1]
    by_cases c : o = p
    · subst c
      rw [if_pos rfl, if_pos rfl]
      exact ih
    rw [if_neg (fun x => c ((u_ei (by omega) (by omega)).mp x)), if_neg c, gd_n (by omega) (by omega), u_cl (by omega), show ga 6 o = nI (G 7 o) from h.2.1 7 o (by omega) (by omega) (by omega), h.1 1 (by omega), hasB (by omega) (by omega), b1_s]
    by_cases c5 : G 7 o = 5
    · rw [c5, if_pos (by decide), if_pos rfl]
      cases hb : (F 1).testBit o
      · rfl
      · rw [if_neg (by decide), if_pos rfl]
        exact ih
    · rw [if_neg (show ¬ nI (G 7 o) = 5 from fun x => c5 ((u_ei (b := 5) (by omega) (by omega)).mp x)), if_neg c5]
      exact ih
theorem nz48C {B : Nat} {mf : Nat → Int32} {mg : Nat → Nat → Int32} {F : Nat → Nat} {G : Nat → Nat → Nat} (h : agr mf mg F G) (ho : okF B F G) (hB : B ≤ 20000) (p : Nat) (hp : p < 6) (sm : Int32) (mv : Nat → Int32) : k_X1_noise_48 (nI p) mf mg sm (if F 5 % 7 = 0 then 0 else sm) mv = some (nzK F G p sm, mv) := by
  obtain ⟨h0, _, _, _, _, h5, h7, _⟩ := id ho
  have hq := h7 p hp
  have g1 : ∀ {α : Type} (o : Option α), gd (nI p) 6 o = o := fun o => gd_n hp (by omega)
  have h4 : F 5 % 4 < 4 := Nat.mod_lt _ (by omega)
  simp only [k_X1_noise_48, g1, nm_e1, nzK]
  rw [u_cl (show p < 2 ^ 31 by omega), h.2.1 7 p (by omega) (by omega) hp, h.2.1 8 p (by omega) (by omega) hp, h.2.1 10 p (by omega) (by omega) hp, h.1 5 (by omega), show nI (F 5) - nI (F 5) / 4 * 4 = nI (F 5 % 4) from u_rm 4 (by omega) (by omega) (by omega), show nI p * 4 = nI (p * 4) from u_ml p 4, u_ab, Nat.mul_comm p 4, gd_n (by omega) (by omega), u_cl (by omega), h.2.2 _ (by omega)]
  rcases (show G 7 p = 0 ∨ G 7 p = 1 ∨ G 7 p = 2 ∨ G 7 p = 3 ∨ G 7 p = 4 ∨ G 7 p = 5 ∨ G 7 p = 6 by omega) with e | e | e | e | e | e | e <;> rw [e]
  · rfl
  · rfl
  · rfl
  · rfl
  · show some (sm + nI (G 8 p) - (if 9 < nI (G 10 p) then 9 else nI (G 10 p)), mv) = some (sm + nI (G 8 p) - nI (if 9 < G 10 p then 9 else G 10 p), mv)
    by_cases c : 9 < G 10 p
    · rw [if_pos (show (9 : Int32) < nI (G 10 p) from nI_lt (a := 9) c (by omega)), if_pos c]; rfl
    · rw [if_neg (show ¬ (9 : Int32) < nI (G 10 p) from nI_nlt (a := 9) (by omega) (by omega)), if_neg c]
  · have := dncC h ho p hp (F 0) 100000 0 (by omega) (by omega)
    have e2 : k_X1_isDancingWith (nI p) mf mg = some (bI (dnR F G p (F 0) 0)) := this
    rw [e2, b1_s]
    cases dnR F G p (F 0) 0 <;> rfl
  · rfl
theorem nz21M {B : Nat} {fi : Nat → Int32} {ga : Nat → Nat → Int32} {F : Nat → Nat} {G : Nat → Nat → Nat} (h : agm fi ga F G) (ho : okF B F G) (hB : B ≤ 20000) (p : Nat) (hp : p < 6) (sm : Int32) (pl : Nat → Int32) : k_X7_noise_21 (nI p) fi ga sm (if F 5 % 7 = 0 then 0 else sm) pl = some (nzK F G p sm, pl) := by
  obtain ⟨h0, _, _, _, _, h5, h7, _⟩ := id ho
  have hq := h7 p hp
  have g1 : ∀ {α : Type} (o : Option α), gd (nI p) 6 o = o := fun o => gd_n hp (by omega)
  have h4 : F 5 % 4 < 4 := Nat.mod_lt _ (by omega)
  simp only [k_X7_noise_21, g1, nzK, k_X7_least]
  rw [u_cl (show p < 2 ^ 31 by omega), show ga 6 p = nI (G 7 p) from h.2.1 7 p (by omega) (by omega) hp, show ga 7 p = nI (G 8 p) from h.2.1 8 p (by omega) (by omega) hp, show ga 9 p = nI (G 10 p) from h.2.1 10 p (by omega) (by omega) hp, h.1 5 (by omega), show nI (F 5) - nI (F 5) / 4 * 4 = nI (F 5 % 4) from u_rm 4 (by omega) (by omega) (by omega), show 4 * nI p = nI (4 * p) from u_ml 4 p, u_ab, gd_n (by omega) (by omega), u_cl (by omega), show ga 10 (4 * p + F 5 % 4) = nI (G 11 (4 * p + F 5 % 4)) from h.2.2 _ (by omega)]
  rcases (show G 7 p = 0 ∨ G 7 p = 1 ∨ G 7 p = 2 ∨ G 7 p = 3 ∨ G 7 p = 4 ∨ G 7 p = 5 ∨ G 7 p = 6 by omega) with e | e | e | e | e | e | e <;> rw [e]
  · rfl
  · rfl
  · rfl
  · rfl
  · show b1 (if 9 ≤ nI (G 10 p) then some 9 else some (nI (G 10 p))) (fun r9 => some (sm + nI (G 8 p) - r9, pl)) = some (sm + nI (G 8 p) - nI (if 9 < G 10 p then 9 else G 10 p), pl)
    by_cases c : 9 ≤ G 10 p
    · rw [if_pos (show (9 : Int32) ≤ nI (G 10 p) from nI_le (a := 9) c (by omega)), show (if 9 < G 10 p then 9 else G 10 p) = 9 by split <;> omega]; rfl
    · rw [if_neg (show ¬ (9 : Int32) ≤ nI (G 10 p) from nI_ge (b := 9) (by omega) (by omega)), if_neg (by omega)]; rfl
  · have := dncM h ho p hp (F 0) 100000 0 (by omega) (by omega)
    have e2 : k_X7_isDancerBelow (nI p) fi ga = some (bI (dnR F G p (F 0) 0)) := this
    rw [e2]
    show b1 (some (bI (dnR F G p (F 0) 0))) (fun r12 => if r12 = 0 then some (sm / 2 + 3, pl) else some (2 * (sm / 2 + 3), pl)) = some (if dnR F G p (F 0) 0 = true then (sm / 2 + 3) * 2 else sm / 2 + 3, pl)
    rw [Int32.mul_comm]
    cases dnR F G p (F 0) 0 <;> rfl
  · rfl
theorem noiseC {B : Nat} {mf : Nat → Int32} {mg : Nat → Nat → Int32} {F : Nat → Nat} {G : Nat → Nat → Nat} {mc : Option Nat} {cn : Nat} {cf : Nat → Nat → Int32} {cg : Nat → Nat → Nat → Int32} {Cs : List (Nat × Nat × List Nat)} (h : agr mf mg F G) (ho : okF B F G) (hB : B ≤ 20000) (hc : hasC mc cn cf cg Cs) (hk : okCs Cs) (p : Nat) (hp : p < 6) (mv : Nat → Int32) : ∃ mv', k_X1_noise (nI p) mf mg mc mv cn cf cg = some (Nz F G Cs p, mv') := by
  obtain ⟨h0, _, _, _, _, h5, h7, _⟩ := id ho
  have hq := h7 p hp
  have tl : ∀ (t0 : Int32) (mv : Nat → Int32), t0 = sumL (vsF F G p) Cs 0 → k_X1_noise_23 (nI p) mf mg t0 mv = some (Nz F G Cs p, mv) := by
    intro t0 mv et
    unfold k_X1_noise_23 Nz
    rw [gd_n hp (by omega), u_cl (by omega), h.2.1 9 p (by omega) (by omega) hp, h.1 5 (by omega), show nI (F 5) - nI (F 5) / 7 * 7 = nI (F 5 % 7) from u_rm 7 (by omega) (by omega) (by omega), show nI (G 9 p) / 4 = nI (G 9 p / 4) from u_dv 4 (by omega) (by omega) (by omega), et]
    have := nz48C h ho hB p hp (sumL (vsF F G p) Cs 0 - nI (G 9 p / 4)) mv
    by_cases c : F 5 % 7 = 0
    · rw [c, if_pos (by decide)]
      rw [if_pos c] at this
      exact this
    · rw [if_neg (show ¬ nI (F 5 % 7) = 0 from fun x => c ((u_ei (b := 0) (by omega) (by omega)).mp x))]
      rw [if_neg c] at this
      exact this
  unfold k_X1_noise
  rcases hc with ⟨e1, e2⟩ | ⟨i, e1, hi, hl, hcm, hkc⟩
  · subst e1 e2
    exact ⟨mv, tl 0 mv rfl⟩
  · subst e1
    obtain ⟨mv', hv, hmv⟩ := valC h ho hB p hp mv
    refine ⟨mv', ?_⟩
    show b1 (k_X1_valuesOf (nI p) mf mg mv) _ = _
    rw [hv, b1_s, gp_i hi]
    have := sumC (vsF F G p) (vsF_le ho hp) (cf i) (cg i) mv' hmv Cs 100000 0 0 0 (by have := hk.2.1; omega) (by rw [hl, Nat.zero_add]) (by have := hk.2.1; omega) (by have := hk.2.2; omega) hk.1 hkc
    have e3 : k_X2_sumBy (cf i) (cg i) mv' = some (sumL (vsF F G p) Cs 0) := this
    rw [e3, b1_s]
    exact tl _ mv' rfl
theorem noiseM {B : Nat} {fi : Nat → Int32} {ga : Nat → Nat → Int32} {F : Nat → Nat} {G : Nat → Nat → Nat} {Cs : List (Nat × Nat × List Nat)} (h : agm fi ga F G) (ho : okF B F G) (hB : B ≤ 20000) (hc : hasM fi ga Cs) (hk : okCs Cs) (p : Nat) (hp : p < 6) (pl : Nat → Int32) : ∃ pl', k_X7_noise (nI p) fi ga pl = some (Nz F G Cs p, pl') := by
  obtain ⟨h0, _, _, _, _, h5, h7, _⟩ := id ho
  have hq := h7 p hp
  have hl10 := hk.2.1
  have hl100 := hk.2.2
  have hs : ∃ pl', k_X7_sum (nI p) fi ga pl = some (sumL (vsF F G p) Cs 0 - nI (G 9 p / 4), pl') := by
    unfold k_X7_sum
    rw [gd_n hp (by omega), u_cl (by omega), show ga 8 p = nI (G 9 p) from h.2.1 9 p (by omega) (by omega) hp, show nI (G 9 p) / 4 = nI (G 9 p / 4) from u_dv 4 (by omega) (by omega) (by omega), ← sumL_0]
    rcases hc with ⟨e1, e2⟩ | ⟨f, hf, e1, hl, hkc⟩
    · subst e2
      have e3 : k_X7_begin fi = some 0 := by unfold k_X7_begin; rw [e1]; rfl
      have e4 : k_X7_behind fi ga = some (nI 0) := by unfold k_X7_behind; rw [e1]; rfl
      rw [e3, b1_s]
      exact sumM (vsF F G p) (vsF_le ho hp) fi ga (nI p) (factM h ho hB p hp) 0 (by omega) e4 [] 100000 0 0 _ pl (by simp) rfl (by simp [tlC]) (by intro c h; cases h) trivial
    · have e3 : k_X7_begin fi = some (nI (10 * f)) := by
        unfold k_X7_begin
        rw [e1, if_pos (nI_pos' (by omega))]
        exact congrArg some (u_ml 10 f)
      have e4 : k_X7_behind fi ga = some (nI (10 * f + Cs.length)) := by
        unfold k_X7_behind
        rw [e1, if_pos (nI_pos' (by omega)), gd_n hf (by omega), u_cl (by omega), hl, show 10 * nI f = nI (10 * f) from u_ml 10 f, u_ab]
      rw [e3, b1_s]
      exact sumM (vsF F G p) (vsF_le ho hp) fi ga (nI p) (factM h ho hB p hp) (10 * f + Cs.length) (by omega) e4 Cs 100000 (10 * f) (100 * f) _ pl (by omega) rfl (by omega) hk.1 hkc
  obtain ⟨pl', hs⟩ := hs
  refine ⟨pl', ?_⟩
  unfold k_X7_noise Nz
  rw [hs, b2_s, h.1 5 (by omega), show nI (F 5) - nI (F 5) / 7 * 7 = nI (F 5 % 7) from u_rm 7 (by omega) (by omega) (by omega)]
  have := nz21M h ho hB p hp (sumL (vsF F G p) Cs 0 - nI (G 9 p / 4)) pl'
  by_cases c : F 5 % 7 = 0
  · rw [c, if_pos (by decide)]
    rw [if_pos c] at this
    exact this
  · rw [if_neg (show ¬ nI (F 5 % 7) = 0 from fun x => c ((u_ei (b := 0) (by omega) (by omega)).mp x))]
    rw [if_neg c] at this
    exact this

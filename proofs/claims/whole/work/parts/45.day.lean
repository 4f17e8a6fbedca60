def hz (x : Int32) : Int32 := if 0 < x then x else 0
theorem hzM (x : Int32) : (if 0 ≤ x then x else 0) = hz x := by
  unfold hz
  by_cases c : 0 < x
  · rw [if_pos c, if_pos (Int32.le_of_lt c)]
  · rw [if_neg c]
    by_cases d : 0 ≤ x
    · rw [if_pos d]; exact Int32.le_antisymm ((u_nlt _ _).mp c) d
    · rw [if_neg d]
def sndR (F : Nat → Nat) (G : Nat → Nat → Nat) (Cs : List (Nat × Nat × List Nat)) : Nat → Nat → Int32 → Int32
  | 0, _, a => a
  | r + 1, o, a => sndR F G Cs r (o + 1) (if (F 1).testBit o = true then a else a + hz (Nz F G Cs o))
def Snd (F : Nat → Nat) (G : Nat → Nat → Nat) (Cs : List (Nat × Nat × List Nat)) : Int32 := sndR F G Cs (F 0) 0 0
theorem sndC {B : Nat} {mf : Nat → Int32} {mg : Nat → Nat → Int32} {F : Nat → Nat} {G : Nat → Nat → Nat} {mc : Option Nat} {cn : Nat} {cf : Nat → Nat → Int32} {cg : Nat → Nat → Nat → Int32} {Cs : List (Nat × Nat × List Nat)} (h : agr mf mg F G) (ho : okF B F G) (hB : B ≤ 20000) (hc : hasC mc cn cf cg Cs) (hk : okCs Cs) : ∀ (r n o : Nat) (a : Int32) (mv : Nat → Int32), r < n → F 0 = o + r → ∃ mv', k_X1_sound_4 mf mg mc cn cf cg n a (nI o) mv = some (sndR F G Cs r o a, mv')
  | 0, 0, _, _, _, hn, _ => by omega
  | 0, n + 1, o, a, mv, hn, e => by
    have h6 := ho.1
    refine ⟨mv, ?_⟩
    show (if (mf 0) ≤ nI o then _ else _) = _
    rw [h.1 0 (by omega), e, if_pos (nI_le (by omega) (by omega))]
    rfl
  | r + 1, 0, _, _, _, hn, _ => by omega
  | r + 1, n + 1, o, a, mv, hn, e => by
    have h6 := ho.1
    have ih := fun a mv => sndC h ho hB hc hk r n (o + 1) a mv (by omega) (by omega)
    simp only [k_X1_sound_4, sndR]
    rw [h.1 0 (by omega), e, if_neg (nI_ge (by omega) (by omega)), upC (h.1 1 (by omega)) ho.2.1 (by omega), b1_s, nI_1]
    cases hb : (F 1).testBit o
    · rw [if_pos (by decide), if_neg (by decide)]
      obtain ⟨mv', hq⟩ := noiseC h ho hB hc hk o (by omega) mv
      rw [hq, b2_s, nm_e1]
      exact ih _ mv'
    · rw [if_neg (by decide), if_pos rfl]
      exact ih a mv
theorem soundC {B : Nat} {mf : Nat → Int32} {mg : Nat → Nat → Int32} {F : Nat → Nat} {G : Nat → Nat → Nat} {mc : Option Nat} {cn : Nat} {cf : Nat → Nat → Int32} {cg : Nat → Nat → Nat → Int32} {Cs : List (Nat × Nat × List Nat)} (h : agr mf mg F G) (ho : okF B F G) (hB : B ≤ 20000) (hc : hasC mc cn cf cg Cs) (hk : okCs Cs) (mv : Nat → Int32) : ∃ mv', k_X1_sound mf mg mc mv cn cf cg = some (Snd F G Cs, mv') :=
  sndC h ho hB hc hk (F 0) 100000 0 0 mv (by have := ho.1; omega) (by omega)
theorem heardM {B : Nat} {fi : Nat → Int32} {ga : Nat → Nat → Int32} {F : Nat → Nat} {G : Nat → Nat → Nat} {Cs : List (Nat × Nat × List Nat)} (h : agm fi ga F G) (ho : okF B F G) (hB : B ≤ 20000) (hc : hasM fi ga Cs) (hk : okCs Cs) (p : Nat) (hp : p < 6) (pl : Nat → Int32) : ∃ pl', k_X7_heardOf (nI p) fi ga pl = some (hz (Nz F G Cs p), pl') := by
  obtain ⟨pl', hq⟩ := noiseM h ho hB hc hk p hp pl
  refine ⟨pl', ?_⟩
  unfold k_X7_heardOf
  rw [hq, b2_s, ← hzM]
  split <;> rfl
theorem sndM {B : Nat} {fi : Nat → Int32} {ga : Nat → Nat → Int32} {F : Nat → Nat} {G : Nat → Nat → Nat} {Cs : List (Nat × Nat × List Nat)} (h : agm fi ga F G) (ho : okF B F G) (hB : B ≤ 20000) (hc : hasM fi ga Cs) (hk : okCs Cs) : ∀ (r n o : Nat) (a : Int32) (pl : Nat → Int32), r < n → F 0 = o + r → ∃ pl', k_X7_sound_4 fi ga n a (nI o) pl = some (sndR F G Cs r o a, pl')
  | 0, 0, _, _, _, hn, _ => by omega
  | 0, n + 1, o, a, mv, hn, e => by
    have h6 := ho.1
    refine ⟨mv, ?_⟩
    show (if (fi 0) ≤ nI o then _ else _) = _
    rw [h.1 0 (by omega), e, if_pos (nI_le (by omega) (by omega))]
    rfl
  | r + 1, 0, _, _, _, hn, _ => by omega
  | r + 1, n + 1, o, a, mv, hn, e => by
    have h6 := ho.1
    have h64 := ho.2.1
    have ih := fun a mv => sndM h ho hB hc hk r n (o + 1) a mv (by omega) (by omega)
    simp only [k_X7_sound_4, sndR]
    rw [h.1 0 (by omega), e, if_neg (nI_ge (by omega) (by omega)), h.1 1 (by omega), hasB (by omega) (by omega), b1_s, nI_1, Int32.add_zero]
    cases hb : (F 1).testBit o
    · rw [if_pos (by decide), if_neg (by decide)]
      obtain ⟨mv', hq⟩ := heardM h ho hB hc hk o (by omega) mv
      rw [hq, b2_s]
      exact ih _ mv'
    · rw [if_neg (by decide), if_pos rfl]
      exact ih a mv
theorem soundM {B : Nat} {fi : Nat → Int32} {ga : Nat → Nat → Int32} {F : Nat → Nat} {G : Nat → Nat → Nat} {Cs : List (Nat × Nat × List Nat)} (h : agm fi ga F G) (ho : okF B F G) (hB : B ≤ 20000) (hc : hasM fi ga Cs) (hk : okCs Cs) (pl : Nat → Int32) : ∃ pl', k_X7_sound fi ga pl = some (Snd F G Cs, pl') :=
  sndM h ho hB hc hk (F 0) 100000 0 0 pl (by have := ho.1; omega) (by omega)
theorem calmC {mc : Option Nat} {cn : Nat} {cf : Nat → Nat → Int32} {cg : Nat → Nat → Nat → Int32} {Cs : List (Nat × Nat × List Nat)} (hc : hasC mc cn cf cg Cs) : k_X1_calm mc cn cf = some (nI (calmL Cs 10)) := by
  rcases hc with ⟨e1, e2⟩ | ⟨i, e1, hi, hl, hcm, hkc⟩
  · subst e1 e2; rfl
  · subst e1
    show gp i cn (some (cf i 0)) = _
    rw [gp_i hi, hcm]
theorem calmR (fi : Nat → Int32) (ga : Nat → Nat → Int32) (E : Nat) (hE : E ≤ 60) (hbe : k_X7_behind fi ga = some (nI E)) : ∀ (Cs : List (Nat × Nat × List Nat)) (n i b x : Nat), Cs.length < n → E = i + Cs.length → (∀ c, c ∈ Cs → okC c) → kM ga Cs i b → k_X7_calm_8 fi ga n (nI x) (nI i) = some (nI (calmL Cs x))
  | [], 0, _, _, _, hn, _, _, _ => by simp at hn
  | [], n + 1, i, b, x, hn, h1, ho, hk => by
    show b1 (k_X7_behind fi ga) (fun r1 => if r1 ≤ nI i then _ else _) = _
    have h1' : E = i := by simpa using h1
    rw [hbe, b1_s, if_pos (nI_le (by omega) (by omega))]
    rfl
  | c :: Cs, 0, _, _, _, hn, _, _, _ => by simp at hn
  | c :: Cs, n + 1, i, b, x, hn, h1, ho, hk => by
    have hn' : Cs.length < n := by simp at hn; omega
    have h1' : E = i + 1 + Cs.length := by simp at h1; omega
    have ih := fun x => calmR fi ga E hE hbe Cs n (i + 1) (b + c.2.2.length) x hn' h1' (fun c h => ho c (List.mem_cons_of_mem _ h)) hk.2.2.2.2
    have hc := ho c (List.mem_cons_self ..)
    simp only [k_X7_calm_8, calmL]
    have g1 : ∀ {α : Type} (o : Option α), gd (nI i) 60 o = o := fun o => gd_n (by omega) (by omega)
    rw [hbe, b1_s, if_neg (nI_ge (by omega) (by omega))]
    simp only [g1]
    rw [u_cl (by omega), hk.1, nI_1, hk.2.1]
    by_cases c2 : c.1 = 2
    · rw [if_pos c2, c2, if_pos (by decide)]
      exact ih _
    · have := hc.1
      rw [if_neg (show ¬ nI c.1 = 2 from fun e => c2 ((u_ei (b := 2) (by omega) (by omega)).mp e)), if_neg c2]
      exact ih _
theorem calmM {fi : Nat → Int32} {ga : Nat → Nat → Int32} {Cs : List (Nat × Nat × List Nat)} (hc : hasM fi ga Cs) (hk : okCs Cs) : k_X7_calm fi ga = some (nI (calmL Cs 10)) := by
  have hl10 := hk.2.1
  unfold k_X7_calm
  rcases hc with ⟨e1, e2⟩ | ⟨f, hf, e1, hl, hkc⟩
  · subst e2
    have e3 : k_X7_begin fi = some 0 := by unfold k_X7_begin; rw [e1]; rfl
    have e4 : k_X7_behind fi ga = some (nI 0) := by unfold k_X7_behind; rw [e1]; rfl
    rw [e3, b1_s]
    exact calmR fi ga 0 (by omega) e4 [] 100000 0 0 10 (by simp) rfl (by intro c h; cases h) trivial
  · have e3 : k_X7_begin fi = some (nI (10 * f)) := by
      unfold k_X7_begin
      rw [e1, if_pos (nI_pos' (by omega))]
      exact congrArg some (u_ml 10 f)
    have e4 : k_X7_behind fi ga = some (nI (10 * f + Cs.length)) := by
      unfold k_X7_behind
      rw [e1, if_pos (nI_pos' (by omega)), gd_n hf (by omega), u_cl (by omega), hl, show 10 * nI f = nI (10 * f) from u_ml 10 f, u_ab]
    rw [e3, b1_s]
    exact calmR fi ga (10 * f + Cs.length) (by omega) e4 Cs 100000 (10 * f) (100 * f) 10 (by omega) rfl hk.1 hkc
theorem calmL_lt : ∀ (Cs : List (Nat × Nat × List Nat)) (x : Nat), (∀ c, c ∈ Cs → okC c) → x < 100 → calmL Cs x < 100
  | [], x, _, h => h
  | c :: Cs, x, ho, h => by
    refine calmL_lt Cs _ (fun c h => ho c (List.mem_cons_of_mem _ h)) ?_
    split
    · exact (ho c (List.mem_cons_self ..)).2.1
    · exact h
def cap (b : Bool) (x : Nat) : Nat := if b = true then (if 9999 < x then 9999 else x) else x
def mostC (b : Bool) : Int32 := if b = true then 9999 else 1000000
def mostM (b : Bool) : Int32 := if b = true then 9999 else 2000000000
theorem capC (b : Bool) {x : Nat} (hx : x ≤ 20001) : (if mostC b < nI x then mostC b else nI x) = nI (cap b x) := by
  cases b
  · exact if_neg (show ¬ (1000000 : Int32) < nI x from nI_nlt (a := 1000000) (by omega) (by omega))
  · show (if (9999 : Int32) < nI x then 9999 else nI x) = nI (if 9999 < x then 9999 else x)
    by_cases c : 9999 < x
    · rw [if_pos (show (9999 : Int32) < nI x from nI_lt (a := 9999) c (by omega)), if_pos c]; rfl
    · rw [if_neg (show ¬ (9999 : Int32) < nI x from nI_nlt (a := 9999) (by omega) (by omega)), if_neg c]
theorem capM (b : Bool) {x : Nat} (hx : x ≤ 20001) : k_X7_least (nI x) (mostM b) = some (nI (cap b x)) := by
  unfold k_X7_least
  cases b
  · exact if_neg (show ¬ (2000000000 : Int32) ≤ nI x from nI_ge (b := 2000000000) (by omega) (by omega))
  · show (if (9999 : Int32) ≤ nI x then some 9999 else some (nI x)) = some (nI (if 9999 < x then 9999 else x))
    by_cases c : 9999 ≤ x
    · rw [if_pos (show (9999 : Int32) ≤ nI x from nI_le (a := 9999) c (by omega)), show (if 9999 < x then 9999 else x) = 9999 by split <;> omega]; rfl
    · rw [if_neg (show ¬ (9999 : Int32) ≤ nI x from nI_ge (b := 9999) (by omega) (by omega)), if_neg (by omega)]
theorem cap_le (b : Bool) (x : Nat) : cap b x ≤ x := by unfold cap; split <;> (try split) <;> omega
theorem cap_t (x : Nat) : cap true x ≤ 9999 := by unfold cap; rw [if_pos rfl]; split <;> omega

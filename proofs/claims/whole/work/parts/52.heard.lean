
theorem dy_s (b : Bool) (Cs : List (Nat × Nat × List Nat)) : ∀ (n : Nat) (F : Nat → Nat) (G : Nat → Nat → Nat), dyF b Cs (n + 1) F G = dF b (dyF b Cs n F G) (dyG b Cs n F G) Cs ∧ dyG b Cs (n + 1) F G = dG b (dyF b Cs n F G) (dyG b Cs n F G)
  | 0, F, G => ⟨rfl, rfl⟩
  | n + 1, F, G => dy_s b Cs n (dF b F G Cs) (dG b F G)
/-- SOUND behind d days -/
def sAt (F : Nat → Nat) (G : Nat → Nat → Nat) (Cs : List (Nat × Nat × List Nat)) (d : Nat) : Int32 := Snd (dyF false Cs d F G) (dyG false Cs d F G) Cs
def okAll (hh : Nat → Int32) (h1 h2 : Nat → Nat) : Nat → Nat → Bool
  | 0, _ => true
  | r + 1, o => if hh (h1 o) = nI (h2 o) then okAll hh h1 h2 r (o + 1) else false
theorem okAll_iff (hh : Nat → Int32) (h1 h2 : Nat → Nat) : ∀ (r o : Nat), okAll hh h1 h2 r o = true ↔ ∀ i, o ≤ i → i < o + r → hh (h1 i) = nI (h2 i)
  | 0, o => ⟨fun _ i a b => by omega, fun _ => rfl⟩
  | r + 1, o => by
    have ih := okAll_iff hh h1 h2 r (o + 1)
    simp only [okAll]
    by_cases c : hh (h1 o) = nI (h2 o)
    · rw [if_pos c, ih]
      refine ⟨fun h i a b => ?_, fun h i a b => h i (by omega) (by omega)⟩
      by_cases d : i = o
      · rw [d]; exact c
      · exact h i (by omega) (by omega)
    · rw [if_neg c]
      exact ⟨fun h => by simp at h, fun h => absurd (h o (Nat.le_refl _) (by omega)) c⟩
def hrC (nhc : Int32) (nha nhb : Nat → Int32) (hn : Nat) (h1 h2 : Nat → Nat) : Prop := hn ≤ 5 ∧ nhc = nI hn ∧ ∀ i, i < hn → nha i = nI (h1 i) ∧ nhb i = nI (h2 i) ∧ h1 i ≤ 12 ∧ h2 i ≤ 999
def hrM (fi : Nat → Int32) (ga : Nat → Nat → Int32) (hn : Nat) (h1 h2 : Nat → Nat) : Prop := fi 36 = nI hn ∧ ∀ i, i < hn → ga 37 i = nI (h1 i) ∧ ga 38 i = nI (h2 i)
theorem grF {nhc : Int32} {nha nhb : Nat → Int32} {hn : Nat} {h1 h2 : Nat → Nat} (hc : hrC nhc nha nhb hn h1 h2) : ∀ (r n o g : Nat), r < n → hn = o + r → g ≤ 13 → (∀ i, i < o → h1 i < g) → ∃ g', g' ≤ 13 ∧ k_X3_greatestFirst_4 5 nhc nha n (nI g - 1) (nI o) = some (nI g' - 1) ∧ ∀ i, i < hn → h1 i < g'
  | 0, 0, _, _, hn, _, _, _ => by omega
  | 0, n + 1, o, g, hn, e, hg, h => by
    have h5 := hc.1
    refine ⟨g, hg, ?_, fun i hi => h i (by omega)⟩
    show (if nhc ≤ nI o then _ else _) = _
    rw [hc.2.1, if_pos (nI_le (by omega) (by omega))]
  | r + 1, 0, _, _, hn, _, _, _ => by omega
  | r + 1, n + 1, o, g, hn, e, hg, h => by
    have h5 := hc.1
    obtain ⟨q1, q2, q3, q4⟩ := hc.2.2 o (by omega)
    simp only [k_X3_greatestFirst_4, nm_e1]
    rw [hc.2.1, if_neg (nI_ge (by omega) (by omega)), gd_n (by omega) (by omega), u_cl (by omega), q1, nI_1]
    by_cases c : g ≤ h1 o
    · rw [if_pos ((u_m1 (by omega) (by omega)).mpr c), show nI (h1 o) = nI (h1 o + 1) - 1 from (nI_pred _).symm, ← hc.2.1]
      exact grF hc r n (o + 1) (h1 o + 1) (by omega) (by omega) (by omega) (fun i hi => by
        by_cases d : i = o
        · rw [d]; omega
        · have := h i (by omega); omega)
    · rw [if_neg (fun x => c ((u_m1 (by omega) (by omega)).mp x)), ← hc.2.1]
      exact grF hc r n (o + 1) g (by omega) (by omega) hg (fun i hi => by
        by_cases d : i = o
        · rw [d]; omega
        · exact h i (by omega))
def inB (sd : Int32) (x : Nat) (h1 h2 : Nat → Nat) : Nat → Nat → Bool
  | 0, _ => true
  | r + 1, o => if h1 o = x ∧ ¬ nI (h2 o) = sd then false else inB sd x h1 h2 r (o + 1)
theorem inB_iff (sd : Int32) (x : Nat) (h1 h2 : Nat → Nat) : ∀ (r o : Nat), inB sd x h1 h2 r o = true ↔ ∀ i, o ≤ i → i < o + r → h1 i = x → nI (h2 i) = sd
  | 0, o => ⟨fun _ i a b => by omega, fun _ => rfl⟩
  | r + 1, o => by
    have ih := inB_iff sd x h1 h2 r (o + 1)
    simp only [inB]
    by_cases c : h1 o = x ∧ ¬ nI (h2 o) = sd
    · rw [if_pos c]
      exact ⟨fun h => by simp at h, fun h => absurd (h o (Nat.le_refl _) (by omega) c.1) c.2⟩
    · rw [if_neg c, ih]
      refine ⟨fun h i a b e => ?_, fun h i a b => h i (by omega) (by omega)⟩
      by_cases d : i = o
      · subst d
        exact Classical.byContradiction (fun g => c ⟨e, g⟩)
      · exact h i (by omega) (by omega) e
theorem asIn {nhc : Int32} {nha nhb : Nat → Int32} {hn : Nat} {h1 h2 : Nat → Nat} (hc : hrC nhc nha nhb hn h1 h2) (tc : Option Nat) (cn : Nat) (cf : Nat → Nat → Int32) (kc : Int32 → Int32 → (Nat → Int32) → (Nat → Nat → Int32) → (Nat → Int32) → Option (Int32 × (Nat → Int32) × (Nat → Nat → Int32) × (Nat → Int32))) (x2 sd : Int32) (x : Nat) (hx : x ≤ 20) (tf : Nat → Int32) (tg : Nat → Nat → Int32) (tv : Nat → Int32) : ∀ (r n o : Nat), r < n → hn = o + r → k_X6_isAsHeard_27 nhc nha nhb tc cn cf kc n x2 (nI x) sd (nI o) tf tg tv = cond (inB sd x h1 h2 r o) (b2 (k_X1_passDay sd 1000000 tf tg tc cn cf) (fun tf_2 tg_3 => kc x2 (nI x + 1) tf_2 tg_3 tv)) (some (0, tf, tg, tv))
  | 0, 0, _, hn, _ => by omega
  | 0, n + 1, o, hn, e => by
    have h5 := hc.1
    show (if nhc ≤ nI o then _ else _) = _
    rw [hc.2.1, if_pos (nI_le (by omega) (by omega))]
    rfl
  | r + 1, 0, _, hn, _ => by omega
  | r + 1, n + 1, o, hn, e => by
    have h5 := hc.1
    obtain ⟨q1, q2, q3, q4⟩ := hc.2.2 o (by omega)
    have ih := asIn hc tc cn cf kc x2 sd x hx tf tg tv r n (o + 1) (by omega) (by omega)
    simp only [k_X6_isAsHeard_27, inB]
    rw [hc.2.1, if_neg (nI_ge (by omega) (by omega)), gd_n (by omega) (by omega), gd_n (by omega) (by omega), u_cl (by omega), q1, q2, nI_1 o, ← hc.2.1]
    by_cases c : h1 o = x
    · rw [if_pos (show nI (h1 o) = nI x by rw [c])]
      by_cases d : nI (h2 o) = sd
      · rw [if_pos d, if_neg (show ¬ (h1 o = x ∧ ¬ nI (h2 o) = sd) from fun g => g.2 d)]
        exact ih
      · rw [if_neg d, if_pos (show h1 o = x ∧ ¬ nI (h2 o) = sd from ⟨c, d⟩)]
        rfl
    · rw [if_neg (fun g => c ((u_ei (by omega) (by omega)).mp g)), if_neg (show ¬ (h1 o = x ∧ ¬ nI (h2 o) = sd) from fun g => c g.1)]
      exact ih
theorem asOut {nhc : Int32} {nha nhb : Nat → Int32} {hn : Nat} {h1 h2 : Nat → Nat} (hc : hrC nhc nha nhb hn h1 h2) {tc : Option Nat} {cn : Nat} {cf : Nat → Nat → Int32} {cg : Nat → Nat → Nat → Int32} {Cs : List (Nat × Nat × List Nat)} (hC : hasC tc cn cf cg Cs) (hk : okCs Cs) {F : Nat → Nat} {G : Nat → Nat → Nat} (ho : okF 9999 F G) (g : Nat) (hg : g ≤ 13) : ∀ (r n x : Nat) (tf : Nat → Int32) (tg : Nat → Nat → Int32) (tv : Nat → Int32), r < n → g - x = r → x ≤ 13 → agr tf tg (dyF false Cs x F G) (dyG false Cs x F G) → ∃ (b : Bool) (tf' : Nat → Int32) (tg' : Nat → Nat → Int32) (tv' : Nat → Int32), k_X6_isAsHeard_13 nhc nha nhb tc cn cf cg n (nI g - 1) (nI x) tf tg tv = some (bI b, tf', tg', tv') ∧ (b = true ↔ ∀ i, i < hn → x ≤ h1 i → h1 i < g → nI (h2 i) = sAt F G Cs (h1 i))
  | 0, 0, _, _, _, _, hlt, _, _, _ => by omega
  | 0, n + 1, x, tf, tg, tv, hlt, e, hx, h => by
    refine ⟨true, tf, tg, tv, ?_, fun _ i a b c => by omega, fun _ => rfl⟩
    show (if nI g - 1 < nI x then _ else _) = _
    rw [if_pos ((u_m1 (by omega) (by omega)).mpr (by omega))]
    rfl
  | r + 1, 0, _, _, _, _, hlt, _, _, _ => by omega
  | r + 1, n + 1, x, tf, tg, tv, hlt, e, hx, h => by
    have h5 := hc.1
    have hox := dy_ok false Cs x 9999 F G ho
    obtain ⟨tv1, hq⟩ := soundC h hox (by omega) hC hk tv
    obtain ⟨tf1, tg1, hq1, g1⟩ := dayC false h hox (by omega) hC
    have g1' : agr tf1 tg1 (dyF false Cs (x + 1) F G) (dyG false Cs (x + 1) F G) := by
      rw [(dy_s false Cs x F G).1, (dy_s false Cs x F G).2]; exact g1
    simp only [k_X6_isAsHeard_13]
    rw [if_neg (fun y => by have := (u_m1 (by omega) (by omega)).mp y; omega), hq, b2_s]
    have hin := asIn hc tc cn cf (k_X6_isAsHeard_13 nhc nha nhb tc cn cf cg n) (nI g - 1) (Snd (dyF false Cs x F G) (dyG false Cs x F G) Cs) x (by omega) tf tg tv1 hn 100000 0 (by omega) (by omega)
    rw [show (0 : Int32) = nI 0 from rfl, hin]
    clear hin
    have hib := inB_iff (Snd (dyF false Cs x F G) (dyG false Cs x F G) Cs) x h1 h2 hn 0
    by_cases c : inB (Snd (dyF false Cs x F G) (dyG false Cs x F G) Cs) x h1 h2 hn 0 = true
    · rw [c, cond_true, show (1000000 : Int32) = mostC false from rfl, hq1, b2_s, nI_1]
      obtain ⟨b, tf', tg', tv', e1, e2⟩ := asOut hc hC hk ho g hg r n (x + 1) tf1 tg1 tv1 (by omega) (by omega) (by omega) g1'
      refine ⟨b, tf', tg', tv', e1, e2.trans ⟨fun y i a1 a2 a3 => ?_, fun y i a1 a2 a3 => y i a1 (by omega) a3⟩⟩
      by_cases d : h1 i = x
      · have := hib.mp c i (Nat.zero_le _) (by omega) d
        rw [this, d]
        rfl
      · exact y i a1 (by omega) a3
    · rw [show inB (Snd (dyF false Cs x F G) (dyG false Cs x F G) Cs) x h1 h2 hn 0 = false by simpa using c, cond_false]
      refine ⟨false, _, _, _, rfl, fun y => by simp at y, fun y => absurd (hib.mpr (fun i _ a2 a3 => ?_)) c⟩
      have := y i (by omega) (by omega) (by omega)
      rw [this, a3]
      rfl
def okA (F : Nat → Nat) (G : Nat → Nat → Nat) (Cs : List (Nat × Nat × List Nat)) (hn : Nat) (h1 h2 : Nat → Nat) : Bool := okAll (sAt F G Cs) h1 h2 hn 0
theorem asC {nhc : Int32} {nha nhb : Nat → Int32} {hn : Nat} {h1 h2 : Nat → Nat} (hc : hrC nhc nha nhb hn h1 h2) {tc : Option Nat} {cn : Nat} {cf : Nat → Nat → Int32} {cg : Nat → Nat → Nat → Int32} {Cs : List (Nat × Nat × List Nat)} (hC : hasC tc cn cf cg Cs) (hk : okCs Cs) {F : Nat → Nat} {G : Nat → Nat → Nat} (ho : okF 9999 F G) (tf : Nat → Int32) (tg : Nat → Nat → Int32) (tv : Nat → Int32) (h : agr tf tg F G) : ∃ tf' tg' tv', k_X6_isAsHeard nhc nha nhb tf tg tc tv cn cf cg = some (bI (okA F G Cs hn h1 h2), tf', tg', tv') := by
  obtain ⟨g, hg, e1, e2⟩ := grF hc hn 100000 0 0 (by have := hc.1; omega) (by omega) (by omega) (fun i h => by omega)
  have e1' : k_X3_greatestFirst 5 nhc nha = some (nI g - 1) := e1
  obtain ⟨b, tf', tg', tv', e3, e4⟩ := asOut hc hC hk ho g hg g 100000 0 tf tg tv (by omega) (by omega) (by omega) h
  have eb : b = okA F G Cs hn h1 h2 := by
    have h3 : b = true ↔ okA F G Cs hn h1 h2 = true := by
      rw [e4]
      unfold okA
      rw [okAll_iff]
      exact ⟨fun y i _ a2 => (y i (by omega) (Nat.zero_le _) (e2 i (by omega))).symm, fun y i a1 _ _ => (y i (Nat.zero_le _) (by omega)).symm⟩
    cases b <;> cases hz : okA F G Cs hn h1 h2
    · rfl
    · rw [hz] at h3; exact absurd (h3.mpr rfl) (by decide)
    · rw [hz] at h3; exact absurd (h3.mp rfl) (by decide)
    · rfl
  refine ⟨tf', tg', tv', ?_⟩
  unfold k_X6_isAsHeard
  rw [e1', b1_s, ← eb]
  exact e3
theorem asMR {fi : Nat → Int32} {ga : Nat → Nat → Int32} {hn : Nat} {h1 h2 : Nat → Nat} (h5 : hn ≤ 5) (hb : ∀ i, i < hn → h1 i ≤ 12 ∧ h2 i ≤ 999) (hc : hrM fi ga hn h1 h2) {Cs : List (Nat × Nat × List Nat)} (hM : hasM fi ga Cs) (hk : okCs Cs) {F : Nat → Nat} {G : Nat → Nat → Nat} (ho : okF 9999 F G) (h : agm fi ga F G) : ∀ (r n o : Nat) (b : Bool) (fs : Nat → Int32) (gs : Nat → Nat → Int32) (pl : Nat → Int32), fs 29 = 9999 → r + 1 < n → hn = o + r → ∃ fs' gs' pl', k_X7_isHeard_4 n (bI b) (nI o) fi fs ga gs pl = some (bI (if b = true then okAll (sAt F G Cs) h1 h2 r o else false), fi, fs', ga, gs', pl') ∧ fs' 29 = 9999
  | r, 0, _, _, _, _, _, _, hlt, _ => by omega
  | r, n + 1, o, false, fs, gs, pl, hf, hlt, e => by
    refine ⟨fs, gs, pl, ?_, hf⟩
    simp only [k_X7_isHeard_4, gb_b]
    by_cases c : fi 36 ≤ nI o
    · rw [if_pos c]; rfl
    · rw [if_neg c, if_pos (show bI false = 0 from rfl)]; rfl
  | 0, n + 1, o, true, fs, gs, pl, hf, hlt, e => by
    refine ⟨fs, gs, pl, ?_, hf⟩
    simp only [k_X7_isHeard_4, gb_b]
    rw [hc.1, if_pos (nI_le (by omega) (by omega))]
    rfl
  | r + 1, n + 1, o, true, fs, gs, pl, hf, hlt, e => by
    obtain ⟨q1, q2⟩ := hc.2 o (by omega)
    obtain ⟨b1', b2'⟩ := hb o (by omega)
    simp only [k_X7_isHeard_4, k_X7_isHeard_48, gb_b]
    rw [hc.1, if_neg (nI_ge (by omega) (by omega)), if_neg (show ¬ bI true = 0 by decide)]
    obtain ⟨fs1, gs1, e1, g1⟩ := saveM fi fs ga gs
    obtain ⟨fi2, ga2, pl2, e2, h2', f2⟩ := runM false fs1 g1.1 hk (h1 o) (by omega) (h1 o) 100000 0 9999 fi ga pl F G (by omega) (by omega) h hM ho (by omega)
    have e2' : k_X7_goDays (nI (h1 o)) fi fs1 ga pl = some (fi2, ga2, pl2) := e2
    obtain ⟨pl3, e3⟩ := soundM h2' (dy_ok false Cs (h1 o) 9999 F G ho) (by omega) (hasM_c f2 hM) hk pl2
    rw [e1, b2_s, gd_n (by omega) (by omega), u_cl (by omega), q1, e2', b3_s, e3, b2_s, gd_n (by omega) (by omega), f2.2.1 38 (by omega), q2, backM g1 f2, b3_s, b3_s, nI_1]
    have ih := fun b => asMR h5 hb hc hM hk ho h r n (o + 1) b (upd fs1 29 9999) gs1 pl3 rfl (by omega) (by omega)
    show ∃ fs' gs' pl', (if sAt F G Cs (h1 o) = nI (h2 o) then _ else _) = some (bI (if true = true then (if sAt F G Cs (h1 o) = nI (h2 o) then okAll (sAt F G Cs) h1 h2 r (o + 1) else false) else false), fi, fs', ga, gs', pl') ∧ _
    rw [if_pos rfl]
    by_cases c : sAt F G Cs (h1 o) = nI (h2 o)
    · rw [if_pos c, if_pos c]
      exact ih true
    · rw [if_neg c, if_neg c]
      exact ih false
theorem asM {fi : Nat → Int32} {ga : Nat → Nat → Int32} {hn : Nat} {h1 h2 : Nat → Nat} (h5 : hn ≤ 5) (hb : ∀ i, i < hn → h1 i ≤ 12 ∧ h2 i ≤ 999) (hc : hrM fi ga hn h1 h2) {Cs : List (Nat × Nat × List Nat)} (hM : hasM fi ga Cs) (hk : okCs Cs) {F : Nat → Nat} {G : Nat → Nat → Nat} (ho : okF 9999 F G) (h : agm fi ga F G) (fs : Nat → Int32) (gs : Nat → Nat → Int32) (pl : Nat → Int32) (hf : fs 29 = 9999) : ∃ fs' gs' pl', k_X7_isHeard fi fs ga gs pl = some (bI (okA F G Cs hn h1 h2), fi, fs', ga, gs', pl') ∧ fs' 29 = 9999 :=
  asMR h5 hb hc hM hk ho h hn 100000 0 true fs gs pl hf (by omega) (by omega)


def tpR (tpf : Nat → Nat → Int32) (tpi : Nat → Nat → Int64) (ga : Nat → Nat → Int32) (it : Nat → Int64) (z : Nat → Nat) : Prop := ∀ t, t < 6 → tpf t 0 = ga 69 t ∧ tpf t 1 = nI (z t) ∧ ga 70 t = nI (z t) ∧ z t ≤ 60 ∧ ((tpf t 0 = -1 ∧ z t = 0) ∨ ∃ s, s ≤ 4 ∧ tpf t 0 = nI s) ∧ ∀ k, k < 60 → tpi t k = it (60 * t + k)
theorem tpQ (a : Int32) : (k_X6_isWithin a 5 = some 0 ∧ k_X7_isTape a = some 0) ∨ (k_X6_isWithin a 5 = some 1 ∧ k_X7_isTape a = some 1 ∧ ∃ t, t < 6 ∧ a = nI t) := by
  unfold k_X7_isTape
  rw [isW]
  rcases inN a 5 5 rfl with e | ⟨e, k, hk, ek⟩
  · rw [e]; exact Or.inl ⟨rfl, rfl⟩
  · rw [e]; exact Or.inr ⟨rfl, rfl, k, by omega, ek⟩
theorem inZ (a : Int32) {z : Nat} (hz : z ≤ 60) : k_X7_in a 0 (nI z - 1) = some 0 ∨ (k_X7_in a 0 (nI z - 1) = some 1 ∧ ∃ j, j < z ∧ a = nI j) := by
  unfold k_X7_in
  by_cases c : a < 0
  · rw [if_pos c]; exact Or.inl rfl
  rw [if_neg c]
  obtain ⟨k, hk, ek⟩ := nI_of c
  subst ek
  by_cases d : z ≤ k
  · rw [if_pos ((u_m1 (by omega) hk).mpr d)]; exact Or.inl rfl
  · rw [if_neg (fun y => d ((u_m1 (by omega) hk).mp y))]; exact Or.inr ⟨rfl, k, by omega, rfl⟩
theorem m1n (s : Nat) (hs : s ≤ 4) : ¬ nI s = -1 ∧ ¬ nI s < 0 ∧ 0 ≤ nI s := by
  refine ⟨fun h => ?_, nI_pos (by omega), nI_pos' (by omega)⟩
  have h9 : (0 : Int32) ≤ -1 := h ▸ nI_pos' (show s < 2 ^ 31 by omega)
  exact absurd h9 (by decide)
theorem op_read {tpf : Nat → Nat → Int32} {tpi : Nat → Nat → Int64} {ga : Nat → Nat → Int32} {it : Nat → Int64} {z : Nat → Nat} (h : tpR tpf tpi ga it z) (a b : Int32) (pf : Nat → Int32) : ∃ v, k_X6_read a b tpf tpi pf = some v ∧ k_X7_read a b ga it = some v := by
  unfold k_X6_read k_X7_read
  rcases tpQ a with ⟨e1, e2⟩ | ⟨e1, e2, t, ht, et⟩
  · rw [e1, e2]; exact ⟨_, rfl, rfl⟩
  subst et
  obtain ⟨h0, h1, h2, h3, h4, h5⟩ := h t ht
  have g1 : ∀ {α : Type} (o : Option α), gd (nI t) 6 o = o := fun o => gd_n ht (by omega)
  rw [e1, e2, b1_s, b1_s, if_neg (show ¬ (1 : Int32) = 0 by decide), if_neg (show ¬ (1 : Int32) = 0 by decide), u_cl (by omega)]
  simp only [g1]
  rw [isW, h1, h2, ← h0]
  rcases h4 with ⟨q1, q2⟩ | ⟨s, q1, q2⟩
  · rw [q1, q2, if_pos (by decide)]
    rcases inZ b (z := 0) (by omega) with e | ⟨e, j, hj, ej⟩
    · rw [e]; exact ⟨_, rfl, rfl⟩
    · omega
  · obtain ⟨m1, m2, m3⟩ := m1n s q1
    rw [q2, if_neg m2]
    rcases inZ b h3 with e | ⟨e, j, hj, ej⟩
    · rw [e]; exact ⟨_, rfl, rfl⟩
    · subst ej
      rw [e, b1_s, b1_s, if_neg (show ¬ (1 : Int32) = 0 by decide), if_neg (show ¬ (1 : Int32) = 0 by decide), gd_n (by omega) (by omega), show 60 * nI t = nI (60 * t) from u_ml 60 t, u_ab, gd_n (by omega) (by omega), u_cl (by omega), u_cl (by omega), h5 j (by omega)]
      exact ⟨_, rfl, rfl⟩
theorem fitE (s : Nat) (hs : s ≤ 4) (v : Int64) : ∃ w, k_X6_fitted (nI s) v = some w ∧ k_X7_narrow (nI s) v = some w := by
  rcases (show s = 0 ∨ s = 1 ∨ s = 2 ∨ s = 3 ∨ s = 4 by omega) with e | e | e | e | e <;> subst e
  · exact ⟨_, rfl, rfl⟩
  · exact ⟨_, rfl, rfl⟩
  · exact ⟨_, rfl, rfl⟩
  · exact ⟨_, rfl, rfl⟩
  · have e1 : k_X6_fitted (nI 4) v = if (lg_cmp v 0) = 0 then some 0 else some 1 := rfl
    have e2 : k_X7_narrow (nI 4) v = if (lg_cmp v 0) = 0 then some 0 else some 1 := rfl
    rw [e1, e2]
    split
    · exact ⟨_, rfl, rfl⟩
    · exact ⟨_, rfl, rfl⟩
theorem op_item {tpf : Nat → Nat → Int32} {tpi : Nat → Nat → Int64} {ga : Nat → Nat → Int32} {it : Nat → Int64} {z : Nat → Nat} (h : tpR tpf tpi ga it z) (a b : Int32) (x : Int64) (pf : Nat → Int32) : ∃ r tpi' it', k_X6_item a b x tpf tpi pf = some (r, tpi') ∧ k_X7_item a b x ga it = some (r, it') ∧ tpR tpf tpi' ga it' z := by
  unfold k_X6_item k_X7_item
  rcases tpQ a with ⟨e1, e2⟩ | ⟨e1, e2, t, ht, et⟩
  · rw [e1, e2]; exact ⟨_, _, _, rfl, rfl, h⟩
  subst et
  obtain ⟨h0, h1, h2, h3, h4, h5⟩ := h t ht
  have g1 : ∀ {α : Type} (o : Option α), gd (nI t) 6 o = o := fun o => gd_n ht (by omega)
  rw [e1, e2, b1_s, b1_s, if_neg (show ¬ (1 : Int32) = 0 by decide), if_neg (show ¬ (1 : Int32) = 0 by decide), u_cl (by omega)]
  simp only [g1]
  rw [isW, h1, h2, ← h0]
  rcases h4 with ⟨q1, q2⟩ | ⟨s, q1, q2⟩
  · rw [q1, if_pos rfl, if_neg (by decide)]; exact ⟨_, _, _, rfl, rfl, h⟩
  · obtain ⟨m1, m2, m3⟩ := m1n s q1
    rw [q2, if_neg m1, if_pos m3]
    rcases inZ b h3 with e | ⟨e, j, hj, ej⟩
    · rw [e]; exact ⟨_, _, _, rfl, rfl, h⟩
    · subst ej
      obtain ⟨w, w1, w2⟩ := fitE s q1 x
      rw [e, b1_s, b1_s, if_neg (show ¬ (1 : Int32) = 0 by decide), if_neg (show ¬ (1 : Int32) = 0 by decide), w1, w2, b1_s, b1_s, gd_n (by omega) (by omega), show 60 * nI t = nI (60 * t) from u_ml 60 t, u_ab, gd_n (by omega) (by omega), u_cl (by omega), u_cl (by omega)]
      refine ⟨_, _, _, rfl, rfl, fun t' ht' => ?_⟩
      obtain ⟨a0, a1, a2, a3, a4, a5⟩ := h t' ht'
      refine ⟨a0, a1, a2, a3, a4, fun k hk => ?_⟩
      by_cases c : t' = t
      · subst c
        rw [va_up_self]
        by_cases d : k = j
        · subst d; rw [pk_uLs, pk_uLs]
        · rw [pk_uLn d, pk_uLn (by omega)]; exact a5 k hk
      · rw [va_up_ne _ _ c, pk_uLn (by omega)]; exact a5 k hk
theorem becC : ∀ (r n o : Nat) (tif : Nat → Int32) (tii : Nat → Int64), r < n → 60 = o + r → ∃ tii', k_X4_become_12 n (nI o) tif tii = some (tif, tii') ∧ (∀ k, k < o → tii' k = tii k) ∧ (∀ k, o ≤ k → k < 60 → tii' k = 0)
  | 0, 0, _, _, _, hl, _ => by omega
  | 0, n + 1, o, tif, tii, hl, e => by
    refine ⟨tii, ?_, fun _ _ => rfl, fun k a b => by omega⟩
    show (if 60 ≤ nI o then _ else _) = _
    rw [if_pos (show (60 : Int32) ≤ nI o from nI_le (a := 60) (by omega) (by omega))]
  | r + 1, 0, _, _, _, hl, _ => by omega
  | r + 1, n + 1, o, tif, tii, hl, e => by
    obtain ⟨t', e1, e2, e3⟩ := becC r n (o + 1) tif (vp_updL tii o 0) (by omega) (by omega)
    refine ⟨t', ?_, fun k hk => by rw [e2 k (by omega), pk_uLn (by omega)], fun k a b => ?_⟩
    · simp only [k_X4_become_12]
      rw [if_neg (show ¬ (60 : Int32) ≤ nI o from nI_ge (b := 60) (by omega) (by omega)), gd_n (by omega) (by omega), u_cl (by omega), nI_1]
      exact e1
    · by_cases c : k = o
      · subst c; rw [e2 k (by omega), pk_uLs]
      · exact e3 k (by omega) b
theorem becM (t : Nat) (ht : t < 6) (ga : Nat → Nat → Int32) : ∀ (r n o : Nat) (it : Nat → Int64), r < n → 60 = o + r → ∃ it', k_X7_tape_69 (nI t) n (nI o) ga it = some (1, ga, it') ∧ (∀ k, (k < 60 * t + o ∨ 60 * t + 60 ≤ k) → it' k = it k) ∧ (∀ k, 60 * t + o ≤ k → k < 60 * t + 60 → it' k = 0)
  | 0, 0, _, _, hl, _ => by omega
  | 0, n + 1, o, it, hl, e => by
    refine ⟨it, ?_, fun _ _ => rfl, fun k a b => by omega⟩
    show (if 60 ≤ nI o then _ else _) = _
    rw [if_pos (show (60 : Int32) ≤ nI o from nI_le (a := 60) (by omega) (by omega))]
  | r + 1, 0, _, _, hl, _ => by omega
  | r + 1, n + 1, o, it, hl, e => by
    obtain ⟨t', e1, e2, e3⟩ := becM t ht ga r n (o + 1) (vp_updL it (60 * t + o) 0) (by omega) (by omega)
    refine ⟨t', ?_, fun k hk => by rw [e2 k (by omega), pk_uLn (by omega)], fun k a b => ?_⟩
    · simp only [k_X7_tape_69]
      rw [if_neg (show ¬ (60 : Int32) ≤ nI o from nI_ge (b := 60) (by omega) (by omega)), show 60 * nI t = nI (60 * t) from u_ml 60 t, u_ab, gd_n (by omega) (by omega), u_cl (by omega), nI_1]
      exact e1
    · by_cases c : k = 60 * t + o
      · subst c; rw [e2 _ (by omega), pk_uLs]
      · exact e3 k (by omega) b
theorem tp_fin {tpf : Nat → Nat → Int32} {tpi : Nat → Nat → Int64} {ga : Nat → Nat → Int32} {it : Nat → Int64} {z : Nat → Nat} (h : tpR tpf tpi ga it z) (t : Nat) (ht : t < 6) (s : Int32) (q : Nat) (hq : q ≤ 60) (hs : (s = -1 ∧ q = 0) ∨ ∃ j, j ≤ 4 ∧ s = nI j) : ∃ tpf' tpi' ga' it', k_X6_tape_63 (nI t) s (nI q) tpf tpi = some (1, tpf', tpi') ∧ k_X7_tape_65 (nI t) (nI t) (nI q) (va_up ga 69 (upd (ga 69) t s)) it = some (1, ga', it') ∧ tpR tpf' tpi' ga' it' (stF z t q) ∧ (∀ s, s ≠ 69 → s ≠ 70 → ga' s = ga s) := by
  obtain ⟨tii', e1, _, e3⟩ := becC 60 100000 0 (upd (upd (tpf t) 0 s) 1 (nI q)) (tpi t) (by omega) (by omega)
  obtain ⟨it', f1, f2, f3⟩ := becM t ht (va_up (va_up ga 69 (upd (ga 69) t s)) 70 (upd (va_up ga 69 (upd (ga 69) t s) 70) t (nI q))) 60 100000 0 it (by omega) (by omega)
  have e1' : k_X4_become s (nI q) (tpf t) (tpi t) = some (upd (upd (tpf t) 0 s) 1 (nI q), tii') := e1
  refine ⟨va_up tpf t (upd (upd (tpf t) 0 s) 1 (nI q)), va_up tpi t tii', va_up (va_up ga 69 (upd (ga 69) t s)) 70 (upd (va_up ga 69 (upd (ga 69) t s) 70) t (nI q)), it', ?_, ?_, fun t' ht' => ?_, fun s a b => by rw [va_up_ne _ _ b, va_up_ne _ _ a]⟩
  · unfold k_X6_tape_63
    rw [gd_n ht (by omega), u_cl (by omega), e1', b2_s]
  · unfold k_X7_tape_65
    rw [gd_n ht (by omega), u_cl (by omega)]
    exact f1
  · obtain ⟨a0, a1, a2, a3, a4, a5⟩ := h t' ht'
    by_cases c : t' = t
    · subst c
      rw [va_up_self, va_up_self, va_up_self, va_up_ne _ _ (show (69 : Nat) ≠ 70 by omega), va_up_self]
      have ez : stF z t' q t' = q := if_pos rfl
      rw [ez]
      refine ⟨by rw [u_up, if_neg (by omega), u_up, if_pos rfl, u_up, if_pos rfl], by rw [u_up, if_pos rfl], by rw [u_up, if_pos rfl], hq, ?_, fun k hk => ?_⟩
      · rw [u_up, if_neg (by omega), u_up, if_pos rfl]; exact hs
      · rw [e3 k (by omega) hk, f3 _ (by omega) (by omega)]
    · have ez : stF z t q t' = z t' := if_neg c
      rw [va_up_ne _ _ c, va_up_ne _ _ c, ez, va_up_self, va_up_ne _ _ (show (69 : Nat) ≠ 70 by omega), va_up_self, u_up, if_neg c, u_up, if_neg c, va_up_ne _ _ (show (70 : Nat) ≠ 69 by omega)]
      refine ⟨a0, a1, a2, a3, a4, fun k hk => ?_⟩
      rw [f2 _ (by omega)]; exact a5 k hk
theorem i_m1 {x : Int32} (h1 : ¬ x < -1) (h2 : x < 0) : x = -1 := by
  apply Int32.toInt_inj.mp
  rw [Int32.lt_iff_toInt_lt] at h1 h2
  have e1 : (-1 : Int32).toInt = -1 := rfl
  have e0 : (0 : Int32).toInt = 0 := rfl
  rw [e1] at h1 ⊢
  rw [e0] at h2
  omega
theorem op_tape {tpf : Nat → Nat → Int32} {tpi : Nat → Nat → Int64} {ga : Nat → Nat → Int32} {it : Nat → Int64} {z : Nat → Nat} (h : tpR tpf tpi ga it z) (a b c : Int32) (pf : Nat → Int32) : ∃ r tpf' tpi' ga' it' z', k_X6_tape a b c tpf tpi pf = some (r, tpf', tpi') ∧ k_X7_tape a b c ga it = some (r, ga', it') ∧ tpR tpf' tpi' ga' it' z' ∧ (∀ s, s ≠ 69 → s ≠ 70 → ga' s = ga s) := by
  unfold k_X6_tape k_X7_tape
  have no : ∀ r : Int32, ∃ r' tpf' tpi' ga' it' z', some (r, tpf, tpi) = some (r', tpf', tpi') ∧ some (r, ga, it) = some (r', ga', it') ∧ tpR tpf' tpi' ga' it' z' ∧ (∀ s, s ≠ 69 → s ≠ 70 → ga' s = ga s) := fun r => ⟨r, _, _, _, _, z, rfl, rfl, h, fun _ _ _ => rfl⟩
  rcases tpQ a with ⟨e1, e2⟩ | ⟨e1, e2, t, ht, et⟩
  · rw [e1, e2]; exact no _
  subst et
  rw [e1, e2, b1_s, b1_s, if_neg (show ¬ (1 : Int32) = 0 by decide), if_neg (show ¬ (1 : Int32) = 0 by decide)]
  unfold k_X7_in
  by_cases c1 : b < -1
  · rw [if_pos c1, if_pos c1]; exact no _
  rw [if_neg c1, if_neg c1]
  by_cases c2 : 4 < b
  · rw [if_pos c2, if_pos c2]; exact no _
  rw [if_neg c2, if_neg c2, b1_s, if_neg (show ¬ (1 : Int32) = 0 by decide)]
  by_cases c3 : b < 0
  · have e := i_m1 c1 c3
    subst e
    rw [if_pos rfl, if_pos (by decide)]
    unfold k_X6_tape_34 k_X7_tape_33 k_X6_tape_46 k_X7_tape_44
    rw [if_pos rfl, if_pos rfl, if_pos (by decide), if_neg (by decide), gd_n ht (by omega), gd_n ht (by omega), u_cl (by omega)]
    obtain ⟨tpf', tpi', ga', it', q1, q2, q3, q4⟩ := tp_fin h t ht (-1) 0 (by omega) (Or.inl ⟨rfl, rfl⟩)
    exact ⟨1, tpf', tpi', ga', it', _, q1, q2, q3, q4⟩
  · obtain ⟨s, hs, es⟩ := nI_of2 (M := 4) (n := 4) rfl c3 ((u_nlt _ _).mp c2)
    subst es
    obtain ⟨m1, m2, m3⟩ := m1n s hs
    rw [if_neg m1, if_neg m2]
    by_cases c4 : c ≤ 60
    · rw [if_pos c4, if_pos c4]
      unfold k_X6_tape_34 k_X7_tape_33 k_X6_tape_46 k_X7_tape_44
      rw [if_neg m1, if_neg m2, if_neg m1, if_pos m3, gd_n ht (by omega), gd_n ht (by omega), u_cl (by omega)]
      by_cases c5 : 0 ≤ c
      · rw [if_pos c5, if_pos c5]
        obtain ⟨q, hq, eq⟩ := nI_of2 (M := 60) (n := 60) rfl ((u_nlt _ _).mpr c5) c4
        subst eq
        obtain ⟨tpf', tpi', ga', it', q1, q2, q3, q4⟩ := tp_fin h t ht (nI s) q hq (Or.inr ⟨s, hs, rfl⟩)
        exact ⟨1, tpf', tpi', ga', it', _, q1, q2, q3, q4⟩
      · rw [if_neg c5, if_neg c5]; exact no _
    · rw [if_neg c4, if_neg c4]; exact no _
theorem u_sT {a b : Nat} (ha : a < 2 ^ 31) (hb : b < 2 ^ 31) : (nI a - nI b).toInt = (a : Int) - b := by
  rw [Int32.toInt_sub, nI_toInt ha, nI_toInt hb]
  apply Int.bmod_eq_of_le <;> omega
theorem u_sT1 {a b : Nat} (ha : a < 2 ^ 30) (hb : b < 2 ^ 30) : (nI a - nI b - 1).toInt = (a : Int) - b - 1 := by
  rw [Int32.toInt_sub, u_sT (by omega) (by omega), show (1 : Int32).toInt = 1 from rfl]
  apply Int.bmod_eq_of_le <;> omega
theorem juR {tpf : Nat → Nat → Int32} {tpi : Nat → Nat → Int64} {ga : Nat → Nat → Int32} {it : Nat → Int64} {z : Nat → Nat} (h : tpR tpf tpi ga it z) {nf : Nat → Int32} {ng : Nat → Nat → Int32} {fi : Nat → Int32} {F : Nat → Nat} {G : Nat → Nat → Nat} (ha : agr nf ng F G) (hm : agm fi ga F G) (ho : okF 9999 F G) (t : Nat) (ht : t < 6) (b : Int32) : ∀ (r n1 n2 x : Nat), r < n1 → r < n2 → F 0 = x + r → ∃ v, k_X6_judge_39 (nI t) b tpf tpi nf ng n1 (nI x) = some v ∧ k_X7_judge_34 (nI t) b fi ga it n2 (nI x) = some v
  | r, 0, _, _, hl, _, _ => by omega
  | r, _ + 1, 0, _, _, hl, _ => by omega
  | 0, n1 + 1, n2 + 1, x, hl1, hl2, e => by
    have h6 := ho.1
    refine ⟨-5, ?_, ?_⟩
    · show (if nf 0 ≤ nI x then _ else _) = _
      rw [ha.1 0 (by omega), if_pos (nI_le (by omega) (by omega))]
    · show (if fi 0 ≤ nI x then _ else _) = _
      rw [hm.1 0 (by omega), if_pos (nI_le (by omega) (by omega))]
  | r + 1, n1 + 1, n2 + 1, x, hl1, hl2, e => by
    have h6 := ho.1
    obtain ⟨h0, h1, h2, h3, h4, h5⟩ := h t ht
    have ih := juR h ha hm ho t ht b r n1 n2 (x + 1) (by omega) (by omega) (by omega)
    have g1 : ∀ {α : Type} (o : Option α), gd (nI t) 6 o = o := fun o => gd_n ht (by omega)
    simp only [k_X6_judge_39, k_X7_judge_34, g1]
    rw [ha.1 0 (by omega), hm.1 0 (by omega), if_neg (nI_ge (by omega) (by omega)), if_neg (nI_ge (by omega) (by omega)), u_cl (show t < 2 ^ 31 by omega), h1, h2, ← h0]
    by_cases c : b < 0
    · rw [if_pos c]
      by_cases d : tpf t 0 < 0
      · rw [if_pos d]; exact ⟨_, rfl, rfl⟩
      · rw [if_neg d, if_pos c]; exact ⟨_, rfl, rfl⟩
    rw [if_neg c]
    obtain ⟨i, hi, ei⟩ := nI_of c
    subst ei
    have k1 : (nI i < nI (z t) - nI x) ↔ i + x < z t := by
      rw [Int32.lt_iff_toInt_lt, u_sT (by omega) (by omega), nI_toInt hi]; omega
    have k2 : (nI i ≤ nI (z t) - nI x - 1) ↔ i + x < z t := by
      rw [Int32.le_iff_toInt_le, u_sT1 (by omega) (by omega), nI_toInt hi]; omega
    rcases h4 with ⟨q1, q2⟩ | ⟨s, q1, q2⟩
    · rw [q1, if_pos (show (-1 : Int32) < 0 by decide), if_neg (show ¬ (nI i < nI (z t) - nI x) from fun y => by have := k1.mp y; omega)]
      exact ⟨_, rfl, rfl⟩
    · obtain ⟨m1, m2, m3⟩ := m1n s q1
      rw [q2, if_neg m2]
      by_cases d : i + x < z t
      · rw [if_pos (k1.mpr d), if_neg c, if_pos (k2.mpr d), gd_n (show x < 6 by omega) (by omega), gd_n (show x < 6 by omega) (by omega), show 60 * nI t = nI (60 * t) from u_ml 60 t, u_ab, u_ab, u_ab, gd_n (by omega) (by omega), gd_n (by omega) (by omega), u_cl (by omega), u_cl (by omega), u_cl (by omega), h5 _ (by omega), ha.2.1 10 x (by omega) (by omega) (by omega), show ga 9 x = nI (G 10 x) from hm.2.1 10 x (by omega) (by omega) (by omega), show 60 * t + (i + x) = 60 * t + i + x by omega, nI_1]
        split
        · exact ih
        · exact ⟨_, rfl, rfl⟩
      · rw [if_neg (fun y => d (k1.mp y)), if_neg c, if_neg (fun y => d (k2.mp y))]
        exact ⟨_, rfl, rfl⟩
theorem op_judge {tpf : Nat → Nat → Int32} {tpi : Nat → Nat → Int64} {ga : Nat → Nat → Int32} {it : Nat → Int64} {z : Nat → Nat} (h : tpR tpf tpi ga it z) {nf : Nat → Int32} {ng : Nat → Nat → Int32} {fi : Nat → Int32} {F : Nat → Nat} {G : Nat → Nat → Nat} (ha : agr nf ng F G) (hm : agm fi ga F G) (ho : okF 9999 F G) (a b : Int32) (pf : Nat → Int32) : ∃ v, k_X6_judge a b tpf tpi pf nf ng = some v ∧ k_X7_judge a b fi ga it = some v := by
  have h6 := ho.1
  unfold k_X6_judge k_X7_judge
  rcases tpQ a with ⟨e1, e2⟩ | ⟨e1, e2, t, ht, et⟩
  · rw [e1, e2]; exact ⟨_, rfl, rfl⟩
  subst et
  obtain ⟨h0, h1, h2, h3, h4, h5⟩ := h t ht
  have g1 : ∀ {α : Type} (o : Option α), gd (nI t) 6 o = o := fun o => gd_n ht (by omega)
  obtain ⟨v, q1, q2⟩ := juR h ha hm ho t ht b (F 0) 100000 100000 0 (by omega) (by omega) (by omega)
  have q1' : k_X6_judge_39 (nI t) b tpf tpi nf ng 100000 0 = some v := q1
  have q2' : k_X7_judge_34 (nI t) b fi ga it 100000 0 = some v := q2
  rw [e1, e2, b1_s, b1_s, if_neg (show ¬ (1 : Int32) = 0 by decide), if_neg (show ¬ (1 : Int32) = 0 by decide), u_cl (by omega)]
  simp only [g1]
  rw [← h0, q1', q2']
  rcases h4 with ⟨p1, p2⟩ | ⟨s, p1, p2⟩
  · rw [p1, if_pos rfl, if_pos (by decide)]; exact ⟨_, rfl, rfl⟩
  · obtain ⟨m1, m2, m3⟩ := m1n s p1
    rw [p2, if_neg m1, if_neg m2]
    split
    · exact ⟨_, rfl, rfl⟩
    · exact ⟨_, rfl, rfl⟩

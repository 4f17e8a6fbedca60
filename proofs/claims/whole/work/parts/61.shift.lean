
theorem shA (t i n : Nat) (hi : 60 * t + i + n ≤ 360) (hn : n ≤ 60) (a3 a4 : Int32) : ∀ (r f o : Nat) (it asd : Nat → Int64), r < f → n = o + r → ∃ asd', k_X7_shift_104 (nI t) (nI i) a3 a4 (nI n) f (nI o) it asd = k_X7_shift_141 a3 a4 (nI n) 100000 0 it asd' ∧ (∀ k, k < o → asd' k = asd k) ∧ (∀ k, o ≤ k → k < n → asd' k = it (60 * t + i + k))
  | 0, 0, _, _, _, hl, _ => by omega
  | 0, f + 1, o, it, asd, hl, e => by
    refine ⟨asd, ?_, fun _ _ => rfl, fun k a b => by omega⟩
    show (if nI n ≤ nI o then _ else _) = _
    rw [if_pos (nI_le (by omega) (by omega))]
  | r + 1, 0, _, _, _, hl, _ => by omega
  | r + 1, f + 1, o, it, asd, hl, e => by
    obtain ⟨a', e1, e2, e3⟩ := shA t i n hi hn a3 a4 r f (o + 1) it (vp_updL asd o (it (60 * t + i + o))) (by omega) (by omega)
    refine ⟨a', ?_, fun k hk => by rw [e2 k (by omega), pk_uLn (by omega)], fun k a b => ?_⟩
    · simp only [k_X7_shift_104]
      rw [if_neg (nI_ge (by omega) (by omega)), show 60 * nI t = nI (60 * t) from u_ml 60 t, u_ab, u_ab, gd_n (by omega) (by omega), gd_n (by omega) (by omega), u_cl (by omega), u_cl (by omega), nI_1]
      exact e1
    · by_cases c : k = o
      · subst c; rw [e2 _ (by omega), pk_uLs]
      · exact e3 k (by omega) b
theorem shB (t j n : Nat) (hj : 60 * t + j + n ≤ 360) (hn : n ≤ 60) (asd : Nat → Int64) : ∀ (r f o : Nat) (it : Nat → Int64), r < f → n = o + r → ∃ it', k_X7_shift_141 (nI t) (nI j) (nI n) f (nI o) it asd = some (nI n, it', asd) ∧ (∀ k, (k < 60 * t + j + o ∨ 60 * t + j + n ≤ k) → it' k = it k) ∧ (∀ k, o ≤ k → k < n → it' (60 * t + j + k) = asd k)
  | 0, 0, _, _, hl, _ => by omega
  | 0, f + 1, o, it, hl, e => by
    refine ⟨it, ?_, fun _ _ => rfl, fun k a b => by omega⟩
    show (if nI n ≤ nI o then _ else _) = _
    rw [if_pos (nI_le (by omega) (by omega))]
  | r + 1, 0, _, _, hl, _ => by omega
  | r + 1, f + 1, o, it, hl, e => by
    obtain ⟨a', e1, e2, e3⟩ := shB t j n hj hn asd r f (o + 1) (vp_updL it (60 * t + j + o) (asd o)) (by omega) (by omega)
    refine ⟨a', ?_, fun k hk => by rw [e2 k (by omega), pk_uLn (by omega)], fun k a b => ?_⟩
    · simp only [k_X7_shift_141]
      rw [if_neg (nI_ge (by omega) (by omega)), show 60 * nI t = nI (60 * t) from u_ml 60 t, u_ab, u_ab, gd_n (by omega) (by omega), gd_n (by omega) (by omega), u_cl (by omega), u_cl (by omega), nI_1]
      exact e1
    · by_cases c : k = o
      · subst c; rw [e2 _ (by omega), pk_uLs]
      · exact e3 k (by omega) b
theorem op_shift {tpf : Nat → Nat → Int32} {tpi : Nat → Nat → Int64} {ga : Nat → Nat → Int32} {it : Nat → Int64} {z : Nat → Nat} (h : tpR tpf tpi ga it z) (a b c d e : Int32) (pf : Nat → Int32) (asd : Nat → Int64) : ∃ r tpi' it' asd', k_X6_shift a b c d e tpf tpi pf = some (r, tpi') ∧ k_X7_shift a b c d e ga it asd = some (r, it', asd') ∧ tpR tpf tpi' ga it' z := by
  unfold k_X6_shift k_X7_shift
  have no : ∀ r : Int32, ∃ r' tpi' it' asd', some (r, tpi) = some (r', tpi') ∧ some (r, it, asd) = some (r', it', asd') ∧ tpR tpf tpi' ga it' z := fun r => ⟨r, _, _, _, rfl, rfl, h⟩
  rcases tpQ a with ⟨e1, e2⟩ | ⟨e1, e2, t, ht, et⟩
  · rw [e1, e2]; exact no _
  subst et
  rw [e1, e2, b1_s, b1_s, if_neg (show ¬ (1 : Int32) = 0 by decide), if_neg (show ¬ (1 : Int32) = 0 by decide)]
  rcases tpQ c with ⟨e3, e4⟩ | ⟨e3, e4, u, hu, eu⟩
  · rw [e3, e4]; exact no _
  subst eu
  rw [e3, e4, b1_s, b1_s, if_neg (show ¬ (1 : Int32) = 0 by decide), if_neg (show ¬ (1 : Int32) = 0 by decide)]
  obtain ⟨h0, h1, h2, h3, h4, h5⟩ := h t ht
  obtain ⟨u0, u1, u2, u3, u4, u5⟩ := h u hu
  have g1 : ∀ {α : Type} (o : Option α), gd (nI t) 6 o = o := fun o => gd_n ht (by omega)
  have g2 : ∀ {α : Type} (o : Option α), gd (nI u) 6 o = o := fun o => gd_n hu (by omega)
  simp only [g1, g2]
  rw [u_cl (show t < 2 ^ 31 by omega), u_cl (show u < 2 ^ 31 by omega), ← h0, ← u0]
  rcases h4 with ⟨q1, q2⟩ | ⟨s, q1, q2⟩
  · rw [q1, if_pos rfl, if_pos (show (-1 : Int32) < 0 by decide)]; exact no _
  obtain ⟨m1, m2, m3⟩ := m1n s q1
  rw [q2, if_neg m1, if_neg m2]
  rcases u4 with ⟨p1, p2⟩ | ⟨s', p1, p2⟩
  · rw [p1, if_pos rfl, if_neg (show ¬ (0 : Int32) ≤ -1 by decide)]; exact no _
  obtain ⟨m4, m5, m6⟩ := m1n s' p1
  rw [p2, if_neg m4, if_pos m6]
  by_cases c0 : ¬ nI s = nI s'
  · rw [if_neg c0, if_neg c0]; exact no _
  have c1 : nI s = nI s' := Classical.byContradiction c0
  rw [if_pos c1, if_pos c1]
  unfold k_X4_hasRun
  rw [h1, h2, u1, u2]
  by_cases ce : e < 0
  · simp only [if_pos ce]
    by_cases cb : b < 0
    · simp only [if_pos cb]; exact no _
    · simp only [if_neg cb]; exact no _
  simp only [if_neg ce]
  by_cases cb : b < 0
  · simp only [if_pos cb]; exact no _
  simp only [if_neg cb]
  obtain ⟨n, hn, en⟩ := nI_of ce
  obtain ⟨i, hi, ei⟩ := nI_of cb
  subst en ei
  have k1 : ∀ {y : Nat} {m : Nat}, y ≤ 60 → m < 2 ^ 31 → ((nI y - nI n < nI m) ↔ y < n + m) := fun hy hm => by
    rw [Int32.lt_iff_toInt_lt, u_sT (by omega) (by omega), nI_toInt hm]; omega
  have cls1 : (if nI (z t) < nI n then some (0 : Int32) else if nI (z t) - nI n < nI i then some 0 else some 1) = if z t < n + i then some 0 else some 1 := by
    by_cases c2 : z t < n
    · rw [if_pos (nI_lt c2 hn), if_pos (by omega)]
    · rw [if_neg (nI_nlt (by omega) (by omega))]
      by_cases c3 : z t < n + i
      · rw [if_pos ((k1 h3 hi).mpr c3), if_pos c3]
      · rw [if_neg (fun y => c3 ((k1 h3 hi).mp y)), if_neg c3]
  rw [cls1]
  by_cases c3 : z t < n + i
  · rw [if_pos c3]
    by_cases cd : d < 0
    · simp only [if_pos cd]; exact no _
    · simp only [if_neg cd, if_pos ((k1 h3 hi).mpr c3)]; exact no _
  rw [if_neg c3, b1_s, if_neg (show ¬ (1 : Int32) = 0 by decide)]
  by_cases cd : d < 0
  · simp only [if_pos cd]; exact no _
  simp only [if_neg cd, if_neg (show ¬ (nI (z t) - nI n < nI i) from fun y => c3 ((k1 h3 hi).mp y))]
  obtain ⟨j, hj, ej⟩ := nI_of cd
  subst ej
  have cls2 : (if nI (z u) < nI n then some (0 : Int32) else if nI (z u) - nI n < nI j then some 0 else some 1) = if z u < n + j then some 0 else some 1 := by
    by_cases c2 : z u < n
    · rw [if_pos (nI_lt c2 hn), if_pos (by omega)]
    · rw [if_neg (nI_nlt (by omega) (by omega))]
      by_cases c3 : z u < n + j
      · rw [if_pos ((k1 u3 hj).mpr c3), if_pos c3]
      · rw [if_neg (fun y => c3 ((k1 u3 hj).mp y)), if_neg c3]
  rw [cls2]
  by_cases c4 : z u < n + j
  · rw [if_pos c4, if_neg (fun y => absurd ((k1 u3 hj).mpr c4) ((u_nlt _ _).mpr y))]; exact no _
  rw [if_neg c4, b1_s, if_neg (show ¬ (1 : Int32) = 0 by decide), if_pos ((u_nlt _ _).mp (fun y => c4 ((k1 u3 hj).mp y)))]
  have hg : gcp (nI i) (nI j) (nI n) 60 60 (some (nI n, va_up tpi u (va_cpy (tpi t) (tpi u) (nI i).toNatClampNeg (nI j).toNatClampNeg (nI n).toNatClampNeg))) = some (nI n, va_up tpi u (va_cpy (tpi t) (tpi u) (nI i).toNatClampNeg (nI j).toNatClampNeg (nI n).toNatClampNeg)) := by
    unfold gcp
    rw [u_cl (show i < 2 ^ 31 by omega), u_cl (show j < 2 ^ 31 by omega), u_cl (show n < 2 ^ 31 by omega)]
    rw [if_neg]
    rintro (y | y | y | y | y)
    · exact nI_pos hi y
    · exact nI_pos hj y
    · exact nI_pos hn y
    · omega
    · omega
  rw [hg, u_cl (show i < 2 ^ 31 by omega), u_cl (show j < 2 ^ 31 by omega), u_cl (show n < 2 ^ 31 by omega)]
  obtain ⟨asd1, w1, _, w3⟩ := shA t i n (by omega) (by omega) (nI u) (nI j) n 100000 0 it asd (by omega) (by omega)
  obtain ⟨it1, v1, v2, v3⟩ := shB u j n (by omega) (by omega) asd1 n 100000 0 it (by omega) (by omega)
  have w1' : k_X7_shift_104 (nI t) (nI i) (nI u) (nI j) (nI n) 100000 0 it asd = k_X7_shift_141 (nI u) (nI j) (nI n) 100000 0 it asd1 := w1
  have v1' : k_X7_shift_141 (nI u) (nI j) (nI n) 100000 0 it asd1 = some (nI n, it1, asd1) := v1
  rw [w1', v1']
  refine ⟨_, _, _, _, rfl, rfl, fun t' ht' => ?_⟩
  obtain ⟨a0, a1, a2, a3, a4, a5⟩ := h t' ht'
  refine ⟨a0, a1, a2, a3, a4, fun k hk => ?_⟩
  by_cases ct : t' = u
  · subst ct
    rw [va_up_self]
    show (if j ≤ k ∧ k < j + n then tpi t (i + (k - j)) else tpi t' k) = _
    by_cases cj : j ≤ k ∧ k < j + n
    · rw [if_pos cj, h5 _ (by omega)]
      have := v3 (k - j) (by omega) (by omega)
      rw [show 60 * t' + j + (k - j) = 60 * t' + k by omega] at this
      rw [this, w3 _ (by omega) (by omega), show 60 * t + (i + (k - j)) = 60 * t + i + (k - j) by omega]
    · rw [if_neg cj, v2 _ (by omega)]; exact a5 k hk
  · rw [va_up_ne _ _ ct, v2 _ (by omega)]; exact a5 k hk


def pcR (k : Nat) : Nat → Nat → Nat → Nat
  | 0, _, a => a
  | r + 1, o, a => pcR k r (o + 1) (if k.testBit o = true then a + 1 else a)
def pc (k : Nat) : Nat := pcR k 6 0 0
theorem pc_le : ∀ k, k < 64 → pc k ≤ 6 := by decide +kernel
theorem bcC : ∀ k, k < 64 → k_J6_bitCount_0f7a4 (nI k) = some (nI (pc k)) := by decide +kernel
theorem bcMR (k : Nat) (hk : k < 64) : ∀ (r n o a : Nat), r < n → 6 = o + r → k_X7_bits_4 (nI k) n (nI a) (nI o) = some (nI (pcR k r o a))
  | 0, 0, _, _, hn, _ => by omega
  | 0, n + 1, o, a, hn, e => by
    show (if 6 ≤ nI o then _ else _) = _
    rw [if_pos (show (6 : Int32) ≤ nI o from nI_le (a := 6) (by omega) (by omega))]
    rfl
  | r + 1, 0, _, _, hn, _ => by omega
  | r + 1, n + 1, o, a, hn, e => by
    simp only [k_X7_bits_4, pcR]
    rw [if_neg (show ¬ (6 : Int32) ≤ nI o from nI_ge (b := 6) (by omega) (by omega)), hasB (by omega) (by omega), b1_s, nI_1, nI_1, Int32.add_zero]
    cases hb : k.testBit o
    · rw [if_pos (by decide), if_neg (by decide)]
      exact bcMR k hk r n (o + 1) a (by omega) (by omega)
    · rw [if_neg (by decide), if_pos rfl]
      exact bcMR k hk r n (o + 1) (a + 1) (by omega) (by omega)
theorem bcM (k : Nat) (hk : k < 64) : k_X7_bits (nI k) = some (nI (pc k)) := bcMR k hk 6 100000 0 0 (by omega) (by omega)
theorem u_mask : ∀ m, m < 7 → ∀ x, x < 64 → nI (2 ^ m - 1) &&& (nI x ^^^ (-1)) = nI ((2 ^ m - 1) &&& (63 - x)) ∧ (2 ^ m - 1) &&& (63 - x) < 64 := by decide +kernel
/-- CHANGE -/
def beR (F : Nat → Nat) (G : Nat → Nat → Nat) (Cs : List (Nat × Nat × List Nat)) (n : Nat) : Nat → Nat → Nat → Nat
  | 0, _, b => b
  | r + 1, x, b => beR F G Cs n r (x + 1) (if trB F G Cs n b < trB F G Cs n x ∨ (trB F G Cs n b = trB F G Cs n x ∧ pc x < pc b) then x else b)
theorem beC {nf : Nat → Int32} {ng : Nat → Nat → Int32} {nc : Option Nat} {cn : Nat} {cf : Nat → Nat → Int32} {cg : Nat → Nat → Nat → Int32} {fi : Nat → Int32} {ga : Nat → Nat → Int32} {F : Nat → Nat} {G : Nat → Nat → Nat} {Cs : List (Nat × Nat × List Nat)} (hs : sit nf ng nc cn cf cg fi ga F G Cs) (k : Nat) (hk12 : k ≤ 60) : ∀ (r n x b : Nat) (tf : Nat → Int32) (tg : Nat → Nat → Int32) (tc : Option Nat) (tv : Nat → Int32), r < n → 2 ^ F 0 = x + r → b < 64 → ∃ tf' tg' tc' tv', k_X6_bestUp_12 (nI k) nf ng nc cn cf cg n (nI b) (nI (trB F G Cs k b)) (nI x) tf tg tc tv = some (nI (beR F G Cs k r x b), tf', tg', tc', tv')
  | 0, 0, _, _, _, _, _, _, hn, _, _ => by omega
  | 0, n + 1, x, b, tf, tg, tc, tv, hn, e, hb => by
    have h6 := hs.2.2.1.1
    obtain ⟨u1, u2, u3, u4⟩ := u_all (F 0) (by omega)
    refine ⟨tf, tg, tc, tv, ?_⟩
    simp only [k_X6_bestUp_12, k_X1_all]
    rw [hs.1.1 0 (by omega), u1, b1_s, if_pos (nI_lt (by omega) (by omega))]
    rfl
  | r + 1, 0, _, _, _, _, _, _, hn, _, _ => by omega
  | r + 1, n + 1, x, b, tf, tg, tc, tv, hn, e, hb => by
    have h6 := hs.2.2.1.1
    obtain ⟨u1, u2, u3, u4⟩ := u_all (F 0) (by omega)
    have ih := fun b tf tg tc tv h => beC hs k hk12 r n (x + 1) b tf tg tc tv (by omega) (by omega) h
    have l1 := trB_le (Cs := Cs) hs.2.2.1 k b hk12 hb
    have l2 := trB_le (Cs := Cs) hs.2.2.1 k x hk12 (by omega)
    simp only [k_X6_bestUp_12, k_X1_all, beR]
    rw [hs.1.1 0 (by omega), u1, b1_s, if_neg (nI_nlt (by omega) (by omega)), nI_1]
    obtain ⟨tf1, tg1, tc1, tv1, q⟩ := trC hs k x hk12 (by omega) tf tg tc tv
    rw [q]
    show ∃ tf' tg' tc' tv', (if nI (trB F G Cs k b) < nI (trB F G Cs k x) then _ else if nI (trB F G Cs k x) = nI (trB F G Cs k b) then _ else _) = _
    by_cases c : trB F G Cs k b < trB F G Cs k x
    · rw [if_pos (nI_lt c (by omega)), if_pos (Or.inl c)]
      exact ih x _ _ _ _ (by omega)
    rw [if_neg (nI_nlt (by omega) (by omega))]
    by_cases d : trB F G Cs k b = trB F G Cs k x
    · rw [if_pos (by rw [d]), bcC x (by omega), bcC b hb, b1_s, b1_s]
      have p1 := pc_le x (by omega)
      have p2 := pc_le b hb
      by_cases c2 : pc x < pc b
      · rw [if_neg (nI_ge c2 (by omega)), if_pos (Or.inr ⟨d, c2⟩)]
        exact ih x _ _ _ _ (by omega)
      · rw [if_pos (nI_le (by omega) (by omega)), if_neg (show ¬ (trB F G Cs k b < trB F G Cs k x ∨ (trB F G Cs k b = trB F G Cs k x ∧ pc x < pc b)) from fun h => h.elim c (fun g => c2 g.2))]
        exact ih b _ _ _ _ hb
    · rw [if_neg (fun h => d ((u_ei (by omega) (by omega)).mp h).symm), if_neg (show ¬ (trB F G Cs k b < trB F G Cs k x ∨ (trB F G Cs k b = trB F G Cs k x ∧ pc x < pc b)) from fun h => h.elim c (fun g => d g.1))]
      exact ih b _ _ _ _ hb
theorem beM {nf : Nat → Int32} {ng : Nat → Nat → Int32} {nc : Option Nat} {cn : Nat} {cf : Nat → Nat → Int32} {cg : Nat → Nat → Nat → Int32} {fi : Nat → Int32} {ga : Nat → Nat → Int32} {F : Nat → Nat} {G : Nat → Nat → Nat} {Cs : List (Nat × Nat × List Nat)} (hs : sit nf ng nc cn cf cg fi ga F G Cs) (k : Nat) (hk12 : k ≤ 60) (w : Bool) : ∀ (r n x b : Nat) (fs : Nat → Int32) (gs : Nat → Nat → Int32) (pl : Nat → Int32), fs 29 = 9999 → r < n → 2 ^ F 0 = x + r → b < 64 → ∃ fs' gs' pl', k_X7_changed_13 (nI k) (bI w) n (nI b) (nI (trB F G Cs k b)) (nI x) fi fs ga gs pl = some (if w = true then nI (beR F G Cs k r x b) else nI (trB F G Cs k (beR F G Cs k r x b)), fi, fs', ga, gs', pl') ∧ fs' 29 = 9999
  | 0, 0, _, _, _, _, _, _, hn, _, _ => by omega
  | 0, n + 1, x, b, fs, gs, pl, hfs, hn, e, hb => by
    have h6 := hs.2.2.1.1
    obtain ⟨u1, u2, u3, u4⟩ := u_all (F 0) (by omega)
    refine ⟨fs, gs, pl, ?_, hfs⟩
    simp only [k_X7_changed_13]
    rw [hs.2.1.1 0 (by omega), u2, if_pos (nI_le (by omega) (by omega))]
    cases w <;> rfl
  | r + 1, 0, _, _, _, _, _, _, hn, _, _ => by omega
  | r + 1, n + 1, x, b, fs, gs, pl, hfs, hn, e, hb => by
    have h6 := hs.2.2.1.1
    obtain ⟨u1, u2, u3, u4⟩ := u_all (F 0) (by omega)
    have ih := fun b fs gs pl g h => beM hs k hk12 w r n (x + 1) b fs gs pl g (by omega) (by omega) h
    have l1 := trB_le (Cs := Cs) hs.2.2.1 k b hk12 hb
    have l2 := trB_le (Cs := Cs) hs.2.2.1 k x hk12 (by omega)
    simp only [k_X7_changed_13, beR]
    rw [hs.2.1.1 0 (by omega), u2, if_neg (nI_ge (by omega) (by omega)), nI_1]
    obtain ⟨fs1, gs1, pl1, q, hf1⟩ := trM hs k x hk12 (by omega) fs gs pl
    rw [q]
    show ∃ fs' gs' pl', (if nI (trB F G Cs k x) < nI (trB F G Cs k b) then _ else if nI (trB F G Cs k x) = nI (trB F G Cs k b) then _ else _) = _ ∧ _
    by_cases c : trB F G Cs k b < trB F G Cs k x
    · rw [if_neg (nI_nlt (by omega) (by omega)), if_neg (fun h => by have := (u_ei (by omega) (by omega)).mp h; omega), if_pos (Or.inl c)]
      exact ih x _ _ _ hf1 (by omega)
    by_cases d : trB F G Cs k b = trB F G Cs k x
    · rw [if_neg (nI_nlt (by omega) (by omega)), if_pos (by rw [d]), bcM x (by omega), bcM b hb, b1_s, b1_s]
      have p1 := pc_le x (by omega)
      have p2 := pc_le b hb
      by_cases c2 : pc x < pc b
      · rw [if_pos (nI_lt c2 (by omega)), if_pos (Or.inr ⟨d, c2⟩)]
        exact ih x _ _ _ hf1 (by omega)
      · rw [if_neg (nI_nlt (by omega) (by omega)), if_neg (show ¬ (trB F G Cs k b < trB F G Cs k x ∨ (trB F G Cs k b = trB F G Cs k x ∧ pc x < pc b)) from fun h => h.elim c (fun g => c2 g.2))]
        exact ih b _ _ _ hf1 hb
    · rw [if_pos (nI_lt (by omega) (by omega)), if_neg (show ¬ (trB F G Cs k b < trB F G Cs k x ∨ (trB F G Cs k b = trB F G Cs k x ∧ pc x < pc b)) from fun h => h.elim c (fun g => d g.1))]
      exact ih b _ _ _ hf1 hb
theorem beR_lt (F : Nat → Nat) (G : Nat → Nat → Nat) (Cs : List (Nat × Nat × List Nat)) (n : Nat) : ∀ (r x b : Nat), x + r ≤ 64 → b < 64 → beR F G Cs n r x b < 64
  | 0, _, _, _, h => h
  | r + 1, x, b, h, hb => by
    refine beR_lt F G Cs n r (x + 1) _ (by omega) ?_
    split <;> omega
/-- FRIGHT -/
def oI : Option Nat → Int32
  | none => -5
  | some k => nI k
def frR (F : Nat → Nat) (G : Nat → Nat → Nat) (Cs : List (Nat × Nat × List Nat)) (n : Nat) : Nat → Nat → Option Nat → Option Nat
  | 0, _, b => b
  | r + 1, x, b => frR F G Cs n r (x + 1) (if (match b with | none => true | some k => decide (pc x < pc k)) = true then (if F 3 < trB F G Cs n ((2 ^ F 0 - 1) &&& (63 - x)) then some x else b) else b)
theorem frC {nf : Nat → Int32} {ng : Nat → Nat → Int32} {nc : Option Nat} {cn : Nat} {cf : Nat → Nat → Int32} {cg : Nat → Nat → Nat → Int32} {fi : Nat → Int32} {ga : Nat → Nat → Int32} {F : Nat → Nat} {G : Nat → Nat → Nat} {Cs : List (Nat × Nat × List Nat)} (hs : sit nf ng nc cn cf cg fi ga F G Cs) (k : Nat) (hk12 : k ≤ 60) : ∀ (r n x : Nat) (b : Option Nat) (tf : Nat → Int32) (tg : Nat → Nat → Int32) (tc : Option Nat) (tv : Nat → Int32), r < n → 2 ^ F 0 = x + r → (∀ z, b = some z → z < 64) → ∃ tf' tg' tc' tv', k_X6_fright_5 (nI k) nf ng nc cn cf cg n (oI b) (nI x) tf tg tc tv = some (oI (frR F G Cs k r x b), tf', tg', tc', tv')
  | 0, 0, _, _, _, _, _, _, hn, _, _ => by omega
  | 0, n + 1, x, b, tf, tg, tc, tv, hn, e, hb => by
    have h6 := hs.2.2.1.1
    obtain ⟨u1, u2, u3, u4⟩ := u_all (F 0) (by omega)
    refine ⟨tf, tg, tc, tv, ?_⟩
    simp only [k_X6_fright_5, k_X1_all]
    rw [hs.1.1 0 (by omega), u1, b1_s, if_pos (nI_lt (by omega) (by omega))]
    rfl
  | r + 1, 0, _, _, _, _, _, _, hn, _, _ => by omega
  | r + 1, n + 1, x, b, tf, tg, tc, tv, hn, e, hb => by
    have h6 := hs.2.2.1.1
    have h3 := hs.2.2.1.2.2.2.1
    obtain ⟨u1, u2, u3, u4⟩ := u_all (F 0) (by omega)
    obtain ⟨w1, w2⟩ := u_mask (F 0) (by omega) x (by omega)
    have ih := fun b tf tg tc tv h => frC hs k hk12 r n (x + 1) b tf tg tc tv (by omega) (by omega) h
    have l2 := trB_le (Cs := Cs) hs.2.2.1 k _ hk12 w2
    have tk : ∃ tf' tg' tc' tv', k_X6_fright_33 (nI k) nf ng nc cn cf cg (k_X6_fright_5 (nI k) nf ng nc cn cf cg n) (oI b) (nI x) tf tg tc tv = some (oI (frR F G Cs k r (x + 1) (if F 3 < trB F G Cs k ((2 ^ F 0 - 1) &&& (63 - x)) then some x else b)), tf', tg', tc', tv') := by
      simp only [k_X6_fright_33, k_X6_fright_38, k_X1_all]
      rw [if_neg (show ¬ (1 : Int32) = 0 by decide), hs.1.1 0 (by omega), u1, b1_s, w1, nI_1, hs.1.1 3 (by omega)]
      obtain ⟨tf1, tg1, tc1, tv1, q⟩ := trC hs k _ hk12 w2 tf tg tc tv
      rw [q]
      show ∃ tf' tg' tc' tv', (if nI (trB F G Cs k ((2 ^ F 0 - 1) &&& (63 - x))) ≤ nI (F 3) then _ else _) = _
      by_cases c : F 3 < trB F G Cs k ((2 ^ F 0 - 1) &&& (63 - x))
      · rw [if_neg (nI_ge c (by omega)), if_pos c]
        exact ih (some x) _ _ _ _ (fun z hz => by cases hz; omega)
      · rw [if_pos (nI_le (by omega) (by omega)), if_neg c]
        exact ih b _ _ _ _ hb
    simp only [k_X6_fright_5, k_X1_all, frR]
    rw [hs.1.1 0 (by omega), u1, b1_s, if_neg (nI_nlt (by omega) (by omega))]
    cases b with
    | none =>
      rw [if_pos (show oI none = -5 from rfl)]
      exact tk
    | some z =>
      have hz := hb z rfl
      rw [if_neg (show ¬ oI (some z) = -5 from fun h => by have h9 : (0 : Int32) ≤ -5 := h ▸ nI_pos' (show z < 2 ^ 31 by omega); exact absurd h9 (by decide)), bcC x (by omega), show oI (some z) = nI z from rfl, bcC z hz, b1_s, b1_s]
      have p1 := pc_le x (by omega)
      have p2 := pc_le z hz
      by_cases c2 : pc x < pc z
      · rw [if_neg (nI_ge c2 (by omega))]
        simp only [c2, decide_true, if_true]
        exact tk
      · rw [if_pos (nI_le (by omega) (by omega))]
        simp only [c2, decide_false]
        simp only [k_X6_fright_38, nI_1]
        rw [if_pos trivial]
        exact ih (some z) _ _ _ _ hb
theorem frMm {nf : Nat → Int32} {ng : Nat → Nat → Int32} {nc : Option Nat} {cn : Nat} {cf : Nat → Nat → Int32} {cg : Nat → Nat → Nat → Int32} {fi : Nat → Int32} {ga : Nat → Nat → Int32} {F : Nat → Nat} {G : Nat → Nat → Nat} {Cs : List (Nat × Nat × List Nat)} (hs : sit nf ng nc cn cf cg fi ga F G Cs) (k : Nat) (hk12 : k ≤ 60) : ∀ (r n x : Nat) (b : Option Nat) (fs : Nat → Int32) (gs : Nat → Nat → Int32) (pl : Nat → Int32), fs 29 = 9999 → r < n → 2 ^ F 0 = x + r → (∀ z, b = some z → z < 64) → ∃ fs' gs' pl', k_X7_fright_15 (nI k) n (oI b) (nI (2 ^ F 0 - 1)) (nI x) fi fs ga gs pl = some (oI (frR F G Cs k r x b), fi, fs', ga, gs', pl') ∧ fs' 29 = 9999
  | 0, 0, _, _, _, _, _, _, hn, _, _ => by omega
  | 0, n + 1, x, b, fs, gs, pl, hfs, hn, e, hb => by
    have h6 := hs.2.2.1.1
    obtain ⟨u1, u2, u3, u4⟩ := u_all (F 0) (by omega)
    refine ⟨fs, gs, pl, ?_, hfs⟩
    simp only [k_X7_fright_15]
    rw [if_pos (nI_lt (by omega) (by omega))]
    rfl
  | r + 1, 0, _, _, _, _, _, _, hn, _, _ => by omega
  | r + 1, n + 1, x, b, fs, gs, pl, hfs, hn, e, hb => by
    have h6 := hs.2.2.1.1
    have h3 := hs.2.2.1.2.2.2.1
    obtain ⟨u1, u2, u3, u4⟩ := u_all (F 0) (by omega)
    obtain ⟨w1, w2⟩ := u_mask (F 0) (by omega) x (by omega)
    have ih := fun b fs gs pl g h => frMm hs k hk12 r n (x + 1) b fs gs pl g (by omega) (by omega) h
    have l2 := trB_le (Cs := Cs) hs.2.2.1 k _ hk12 w2
    have tk : ∃ fs' gs' pl', k_X7_fright_42 (nI k) (k_X7_fright_15 (nI k) n) (oI b) (nI (2 ^ F 0 - 1)) (nI x) fi fs ga gs pl = some (oI (frR F G Cs k r (x + 1) (if F 3 < trB F G Cs k ((2 ^ F 0 - 1) &&& (63 - x)) then some x else b)), fi, fs', ga, gs', pl') ∧ fs' 29 = 9999 := by
      simp only [k_X7_fright_42]
      rw [w1, nI_1]
      obtain ⟨fs1, gs1, pl1, q, hf1⟩ := trM hs k _ hk12 w2 fs gs pl
      rw [q]
      show ∃ fs' gs' pl', (if nI (trB F G Cs k ((2 ^ F 0 - 1) &&& (63 - x))) ≤ fi 3 then _ else _) = _ ∧ _
      rw [hs.2.1.1 3 (by omega)]
      by_cases c : F 3 < trB F G Cs k ((2 ^ F 0 - 1) &&& (63 - x))
      · rw [if_neg (nI_ge c (by omega)), if_pos c]
        exact ih (some x) _ _ _ hf1 (fun z hz => by cases hz; omega)
      · rw [if_pos (nI_le (by omega) (by omega)), if_neg c]
        exact ih b _ _ _ hf1 hb
    simp only [k_X7_fright_15, frR]
    rw [if_neg (nI_nlt (by omega) (by omega))]
    cases b with
    | none =>
      rw [if_pos (show oI none < 0 by decide)]
      exact tk
    | some z =>
      have hz := hb z rfl
      rw [if_neg (show ¬ oI (some z) < 0 from nI_pos (by omega)), bcM x (by omega), show oI (some z) = nI z from rfl, bcM z hz, b1_s, b1_s]
      have p1 := pc_le x (by omega)
      have p2 := pc_le z hz
      by_cases c2 : pc x < pc z
      · rw [if_pos (nI_lt c2 (by omega))]
        simp only [c2, decide_true, if_true]
        exact tk
      · rw [if_neg (nI_nlt (by omega) (by omega))]
        simp only [c2, decide_false]
        rw [nI_1]
        exact ih (some z) _ _ _ hfs hb
theorem op_best {nf : Nat → Int32} {ng : Nat → Nat → Int32} {nc : Option Nat} {cn : Nat} {cf : Nat → Nat → Int32} {cg : Nat → Nat → Nat → Int32} {fi : Nat → Int32} {ga : Nat → Nat → Int32} {F : Nat → Nat} {G : Nat → Nat → Nat} {Cs : List (Nat × Nat × List Nat)} (hs : sit nf ng nc cn cf cg fi ga F G Cs) (a b : Int32) (fs : Nat → Int32) (hfs : fs 29 = 9999) (gs : Nat → Nat → Int32) (pl tf : Nat → Int32) (tg : Nat → Nat → Int32) (tc : Option Nat) (tv : Nat → Int32) : ∃ r tf' tg' tc' tv' fs' gs' pl', k_X6_best a b nf ng nc tf tg tc tv cn cf cg = some (r, tf', tg', tc', tv') ∧ k_X7_best a b fi fs ga gs pl = some (r, fi, fs', ga, gs', pl') ∧ fs' 29 = 9999 := by
  have h6 := hs.2.2.1.1
  obtain ⟨u1, u2, u3, u4⟩ := u_all (F 0) (by omega)
  unfold k_X6_best k_X7_best
  rw [isW]
  rcases inN b 2 2 rfl with e | ⟨e, k2, hk2, ek2⟩
  · rw [e]
    exact ⟨_, _, _, _, _, _, _, _, rfl, rfl, hfs⟩
  rw [e, b1_s, b1_s, if_neg (show ¬ (1 : Int32) = 0 by decide), if_neg (show ¬ (1 : Int32) = 0 by decide)]
  unfold k_X7_in
  by_cases c : a < 1
  · rw [if_pos c, if_pos c]
    exact ⟨_, _, _, _, _, _, _, _, rfl, rfl, hfs⟩
  rw [if_neg c, if_neg c]
  by_cases d : 12 < a
  · rw [if_neg (fun h => Int32.not_le.mpr d h), if_pos d]
    exact ⟨_, _, _, _, _, _, _, _, rfl, rfl, hfs⟩
  rw [if_pos ((u_nlt _ _).mp d), if_neg d, b1_s, if_neg (show ¬ (1 : Int32) = 0 by decide)]
  obtain ⟨k, hk12, ek⟩ := nI_of2 (M := 12) (n := 12) rfl (fun h => c (Int32.lt_trans h (by decide))) ((u_nlt _ _).mp d)
  subst ek
  have bC := fun tf tg tc tv => beC hs k (by omega) (2 ^ F 0 - 1) 100000 1 0 tf tg tc tv (by omega) (by omega) (by omega)
  have bM := fun w fs gs pl h => beM hs k (by omega) w (2 ^ F 0 - 1) 100000 1 0 fs gs pl h (by omega) (by omega) (by omega)
  have blt := beR_lt F G Cs k (2 ^ F 0 - 1) 1 0 (by omega) (by omega)
  have hbC : ∀ tf tg tc tv, ∃ tf' tg' tc' tv', k_X6_bestUp (nI k) nf ng nc tf tg tc tv cn cf cg = some (nI (beR F G Cs k (2 ^ F 0 - 1) 1 0), tf', tg', tc', tv') := by
    intro tf tg tc tv
    obtain ⟨tf1, tg1, tc1, tv1, q⟩ := trC hs k 0 (by omega) (by omega) tf tg tc tv
    unfold k_X6_bestUp
    rw [show (0 : Int32) = nI 0 from rfl, q, b5_s]
    exact bC tf1 tg1 tc1 tv1
  have hbM : ∀ w fs gs pl, fs 29 = 9999 → ∃ fs' gs' pl', k_X7_changed (nI k) (bI w) fi fs ga gs pl = some (if w = true then nI (beR F G Cs k (2 ^ F 0 - 1) 1 0) else nI (trB F G Cs k (beR F G Cs k (2 ^ F 0 - 1) 1 0)), fi, fs', ga, gs', pl') ∧ fs' 29 = 9999 := by
    intro w fs gs pl h
    obtain ⟨fs1, gs1, pl1, q, h1⟩ := trM hs k 0 (by omega) (by omega) fs gs pl
    unfold k_X7_changed
    rw [show (0 : Int32) = nI 0 from rfl, q, b6_s]
    exact bM w fs1 gs1 pl1 h1
  rcases (show k2 = 0 ∨ k2 = 1 ∨ k2 = 2 by omega) with e8 | e8 | e8
  · subst ek2; subst e8
    rw [if_pos (show nI 0 = 0 from rfl), if_neg (show ¬ nI 0 = 2 by decide), if_pos (show nI 0 = 0 from rfl)]
    obtain ⟨tf1, tg1, tc1, tv1, q⟩ := hbC tf tg tc tv
    obtain ⟨fs1, gs1, pl1, q2, h2⟩ := hbM true fs gs pl hfs
    unfold k_X7_best_50
    rw [q, show (1 : Int32) = bI true from rfl, q2]
    exact ⟨_, _, _, _, _, _, _, _, rfl, rfl, h2⟩
  · subst ek2; subst e8
    rw [if_neg (show ¬ nI 1 = 0 by decide), if_pos (show nI 1 = 1 from rfl), if_neg (show ¬ nI 1 = 2 by decide), if_neg (show ¬ nI 1 = 0 by decide)]
    obtain ⟨tf1, tg1, tc1, tv1, q⟩ := hbC tf tg tc tv
    obtain ⟨fs1, gs1, pl1, q2, h2⟩ := hbM false fs gs pl hfs
    obtain ⟨tf2, tg2, tc2, tv2, q3⟩ := trC hs k _ (by omega) blt tf1 tg1 tc1 tv1
    unfold k_X7_best_50
    rw [q, show (0 : Int32) = bI false from rfl, q2]
    refine ⟨_, tf2, tg2, tc2, tv2, fs1, gs1, pl1, ?_, rfl, h2⟩
    show b5 (k_X6_truthsBehind (nI k) (nI (beR F G Cs k (2 ^ F 0 - 1) 1 0)) nf ng nc tf1 tg1 tc1 tv1 cn cf cg) _ = _
    rw [q3]
    rfl
  · subst ek2; subst e8
    rw [if_neg (show ¬ nI 2 = 0 by decide), if_neg (show ¬ nI 2 = 1 by decide), if_pos (show nI 2 = 2 from rfl)]
    obtain ⟨tf1, tg1, tc1, tv1, q⟩ := frC hs k (by omega) (2 ^ F 0) 100000 0 none tf tg tc tv (by omega) (by omega) (by intro z h; cases h)
    obtain ⟨fs1, gs1, pl1, q2, h2⟩ := frMm hs k (by omega) (2 ^ F 0) 100000 0 none fs gs pl hfs (by omega) (by omega) (by intro z h; cases h)
    have q' : k_X6_fright (nI k) nf ng nc tf tg tc tv cn cf cg = some (oI (frR F G Cs k (2 ^ F 0) 0 none), tf1, tg1, tc1, tv1) := q
    have q2' : k_X7_fright (nI k) fi fs ga gs pl = some (oI (frR F G Cs k (2 ^ F 0) 0 none), fi, fs1, ga, gs1, pl1) := by
      unfold k_X7_fright
      rw [hs.2.1.1 0 (by omega), u1]
      exact q2
    rw [q', q2']
    exact ⟨_, _, _, _, _, _, _, _, rfl, rfl, h2⟩

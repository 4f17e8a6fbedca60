/-- FEAR ahead of its half -/
def frD (x : Nat) (sd cal : Int32) : Nat := if sd = 0 then (if 9999 < x + 50 then 9999 else x + 50) else if nI x + sd - cal < 0 then 0 else if 9999 < nI x + sd - cal then 9999 else (nI x + sd - cal).toNatClampNeg
theorem frD_le (x : Nat) (sd cal : Int32) : frD x sd cal ≤ 9999 := by
  unfold frD
  split
  · split <;> omega
  · split
    · omega
    · split
      · omega
      · rename_i h1 h2
        obtain ⟨e, hl⟩ := u_of ((u_nlt _ _).mp h1)
        generalize (nI x + sd - cal).toNatClampNeg = z at e hl ⊢
        rw [e] at h2
        have : ¬ 9999 < z := fun hh => h2 (nI_lt (a := 9999) hh hl)
        omega
def dF (b : Bool) (F : Nat → Nat) (G : Nat → Nat → Nat) (Cs : List (Nat × Nat × List Nat)) : Nat → Nat := fun k => if k = 2 then (if 100 ≤ frD (F 2) (Snd F G Cs) (nI (calmL Cs 10)) then frD (F 2) (Snd F G Cs) (nI (calmL Cs 10)) / 2 else frD (F 2) (Snd F G Cs) (nI (calmL Cs 10))) else if k = 3 then (if 100 ≤ frD (F 2) (Snd F G Cs) (nI (calmL Cs 10)) then cap b (F 3 + 1) else F 3) else if k = 4 then (if Snd F G Cs = 0 then cap b (F 4 + 1) else F 4) else if k = 5 then F 5 + 1 else F k
def dG (b : Bool) (F : Nat → Nat) (G : Nat → Nat → Nat) : Nat → Nat → Nat := fun s p => if s = 10 ∧ p < F 0 then (if (F 1).testBit p = true then 0 else cap b (G 10 p + 1)) else G s p
theorem d_ok {B : Nat} {b : Bool} {F : Nat → Nat} {G : Nat → Nat → Nat} {Cs : List (Nat × Nat × List Nat)} (ho : okF B F G) : okF (B + 1) (dF b F G Cs) (dG b F G) := by
  obtain ⟨h0, h1, h2, h3, h4, h5, h7, h11⟩ := ho
  have hc3 := cap_le b (F 3 + 1)
  have hc4 := cap_le b (F 4 + 1)
  have hf := frD_le (F 2) (Snd F G Cs) (nI (calmL Cs 10))
  refine ⟨h0, h1, ?_, ?_, ?_, ?_, ?_, ?_⟩
  · show (if 100 ≤ frD (F 2) (Snd F G Cs) (nI (calmL Cs 10)) then frD (F 2) (Snd F G Cs) (nI (calmL Cs 10)) / 2 else frD (F 2) (Snd F G Cs) (nI (calmL Cs 10))) ≤ 9999
    split <;> omega
  · show (if 100 ≤ frD (F 2) (Snd F G Cs) (nI (calmL Cs 10)) then cap b (F 3 + 1) else F 3) ≤ B + 1
    split <;> omega
  · show (if Snd F G Cs = 0 then cap b (F 4 + 1) else F 4) ≤ B + 1
    split <;> omega
  · show F 5 + 1 ≤ B + 1
    omega
  · intro p hp
    have hq := h7 p hp
    refine ⟨?_, ?_, ?_, ?_⟩
    · show (if 7 = 10 ∧ p < F 0 then _ else G 7 p) ≤ 6
      rw [if_neg (by omega)]; omega
    · show (if 8 = 10 ∧ p < F 0 then _ else G 8 p) ≤ 9
      rw [if_neg (by omega)]; omega
    · show (if 9 = 10 ∧ p < F 0 then _ else G 9 p) ≤ 20
      rw [if_neg (by omega)]; omega
    · show (if 10 = 10 ∧ p < F 0 then (if (F 1).testBit p = true then 0 else cap b (G 10 p + 1)) else G 10 p) ≤ B + 1
      have := cap_le b (G 10 p + 1)
      split
      · split <;> omega
      · omega
  · intro k hk
    show (if 11 = 10 ∧ k < F 0 then _ else G 11 k) ≤ 9
    rw [if_neg (by omega)]
    exact h11 k hk
theorem clipI {y : Int32} : ∃ z, z ≤ 9999 ∧ (if y < 0 then 0 else if 9999 < y then 9999 else y.toNatClampNeg) = z ∧ (if y < 0 then (0 : Int32) else if 9999 < y then 9999 else y) = nI z := by
  by_cases c : y < 0
  · exact ⟨0, by omega, if_pos c, if_pos c⟩
  rw [if_neg c, if_neg c]
  by_cases d : 9999 < y
  · exact ⟨9999, by omega, if_pos d, if_pos d⟩
  rw [if_neg d, if_neg d]
  obtain ⟨e, hl⟩ := u_of ((u_nlt _ _).mp c)
  refine ⟨_, ?_, rfl, e⟩
  generalize y.toNatClampNeg = z at e hl ⊢
  rw [e] at d
  have : ¬ 9999 < z := fun hh => d (nI_lt (a := 9999) hh hl)
  omega
/-- the spells of all, by the class -/
theorem splC (b : Bool) (u m : Nat) (hu : u < 64) (hm : m ≤ 6) (S : Nat → Nat) (hS : ∀ p, p < 6 → S p + 1 ≤ 20001) : ∀ (r n o : Nat) (mf : Nat → Int32) (mg : Nat → Nat → Int32), r < n → m = o + r → mf 0 = nI m → mf 1 = nI u → (∀ p, o ≤ p → p < 6 → mg 10 p = nI (S p)) → ∃ mg', k_X1_passDay_100 (mostC b) n (nI o) mf mg = some (upd mf 5 (mf 5 + 1), mg') ∧ (∀ s, s ≠ 10 → mg' s = mg s) ∧ (∀ p, p < o ∨ m ≤ p → mg' 10 p = mg 10 p) ∧ (∀ p, o ≤ p → p < m → mg' 10 p = nI (if u.testBit p = true then 0 else cap b (S p + 1)))
  | 0, 0, _, _, _, hn, _, _, _, _ => by omega
  | 0, n + 1, o, mf, mg, hn, e, h0, h1, hs => by
    refine ⟨mg, ?_, fun _ _ => rfl, fun _ _ => rfl, fun p h1 h2 => by omega⟩
    show (if (mf 0) ≤ nI o then _ else _) = _
    rw [h0, if_pos (nI_le (by omega) (by omega))]
  | r + 1, 0, _, _, _, hn, _, _, _, _ => by omega
  | r + 1, n + 1, o, mf, mg, hn, e, h0, h1, hs => by
    have hSo := hS o (by omega)
    have key : ∀ v : Nat, v = (if u.testBit o = true then 0 else cap b (S o + 1)) → ∃ mg', k_X1_passDay_137 (k_X1_passDay_100 (mostC b) n) (nI o) (nI o) (nI v) mf mg = some (upd mf 5 (mf 5 + 1), mg') ∧ (∀ s, s ≠ 10 → mg' s = mg s) ∧ (∀ p, p < o ∨ m ≤ p → mg' 10 p = mg 10 p) ∧ (∀ p, o ≤ p → p < m → mg' 10 p = nI (if u.testBit p = true then 0 else cap b (S p + 1))) := by
      intro v hv
      obtain ⟨mg', hq, hf1, hf2, hf3⟩ := splC b u m hu hm S hS r n (o + 1) mf (va_up mg 10 (upd (mg 10) o (nI v))) (by omega) (by omega) h0 h1 (fun p h1 h2 => by rw [va_up_self, u_up, if_neg (by omega)]; exact hs p (by omega) h2)
      refine ⟨mg', ?_, fun s hs => by rw [hf1 s hs, va_up_ne _ _ hs], fun p hp => ?_, fun p h1 h2 => ?_⟩
      · unfold k_X1_passDay_137
        rw [gd_n (by omega) (by omega), u_cl (by omega), nI_1]
        exact hq
      · rw [hf2 p (by omega), va_up_self, u_up, if_neg (by omega)]
      · by_cases c : p = o
        · subst c
          rw [hf2 p (by omega), va_up_self, u_up, if_pos rfl, hv]
        · exact hf3 p (by omega) h2
    simp only [k_X1_passDay_100, nm_e1]
    rw [h0, if_neg (nI_ge (by omega) (by omega)), upC h1 hu (by omega), b1_s, gd_n (by omega) (by omega), u_cl (by omega), hs o (by omega) (by omega), nI_1, capC b hSo]
    cases hb : u.testBit o
    · rw [if_pos (by decide)]
      exact key _ (by rw [hb]; rfl)
    · rw [if_neg (by decide)]
      exact key 0 (by rw [hb]; rfl)
theorem splM (b : Bool) (u m : Nat) (hu : u < 64) (hm : m ≤ 6) (S : Nat → Nat) (hS : ∀ p, p < 6 → S p + 1 ≤ 20001) (fs : Nat → Int32) (hfs : fs 29 = mostM b) (pl : Nat → Int32) : ∀ (r n o : Nat) (mf : Nat → Int32) (mg : Nat → Nat → Int32), r < n → m = o + r → mf 0 = nI m → mf 1 = nI u → (∀ p, o ≤ p → p < 6 → mg 9 p = nI (S p)) → ∃ mg', k_X7_goDay_112 fs n (nI o) mf mg pl = some (upd mf 5 (mf 5 + 1), mg', pl) ∧ (∀ s, s ≠ 9 → mg' s = mg s) ∧ (∀ p, p < o ∨ m ≤ p → mg' 9 p = mg 9 p) ∧ (∀ p, o ≤ p → p < m → mg' 9 p = nI (if u.testBit p = true then 0 else cap b (S p + 1)))
  | 0, 0, _, _, _, hn, _, _, _, _ => by omega
  | 0, n + 1, o, mf, mg, hn, e, h0, h1, hs => by
    refine ⟨mg, ?_, fun _ _ => rfl, fun _ _ => rfl, fun p h1 h2 => by omega⟩
    show (if (mf 0) ≤ nI o then _ else _) = _
    rw [h0, if_pos (nI_le (by omega) (by omega))]
  | r + 1, 0, _, _, _, hn, _, _, _, _ => by omega
  | r + 1, n + 1, o, mf, mg, hn, e, h0, h1, hs => by
    have hSo := hS o (by omega)
    have key : ∀ v : Nat, v = (if u.testBit o = true then 0 else cap b (S o + 1)) → ∃ mg', k_X7_goDay_157 (k_X7_goDay_112 fs n) (nI o) (nI o) (nI v) mf mg pl = some (upd mf 5 (mf 5 + 1), mg', pl) ∧ (∀ s, s ≠ 9 → mg' s = mg s) ∧ (∀ p, p < o ∨ m ≤ p → mg' 9 p = mg 9 p) ∧ (∀ p, o ≤ p → p < m → mg' 9 p = nI (if u.testBit p = true then 0 else cap b (S p + 1))) := by
      intro v hv
      obtain ⟨mg', hq, hf1, hf2, hf3⟩ := splM b u m hu hm S hS fs hfs pl r n (o + 1) mf (va_up mg 9 (upd (mg 9) o (nI v))) (by omega) (by omega) h0 h1 (fun p h1 h2 => by rw [va_up_self, u_up, if_neg (by omega)]; exact hs p (by omega) h2)
      refine ⟨mg', ?_, fun s hs => by rw [hf1 s hs, va_up_ne _ _ hs], fun p hp => ?_, fun p h1 h2 => ?_⟩
      · unfold k_X7_goDay_157
        rw [gd_n (by omega) (by omega), u_cl (by omega), nI_1]
        exact hq
      · rw [hf2 p (by omega), va_up_self, u_up, if_neg (by omega)]
      · by_cases c : p = o
        · subst c
          rw [hf2 p (by omega), va_up_self, u_up, if_pos rfl, hv]
        · exact hf3 p (by omega) h2
    simp only [k_X7_goDay_112]
    rw [h0, if_neg (nI_ge (by omega) (by omega)), h1, hasB (by omega) (by omega), b1_s, gd_n (by omega) (by omega), u_cl (by omega), hs o (by omega) (by omega), nI_1, hfs, capM b hSo, b1_s]
    cases hb : u.testBit o
    · rw [if_pos (by decide)]
      exact key _ (by rw [hb]; rfl)
    · rw [if_neg (by decide)]
      exact key 0 (by rw [hb]; rfl)
/-- the state behind: FEAR, TRUTHS, SILENCES put, then spells and DAY -/
theorem agr_day {B : Nat} {b : Bool} {F : Nat → Nat} {G : Nat → Nat → Nat} {Cs : List (Nat × Nat × List Nat)} {mf mf' : Nat → Int32} {mg mg' : Nat → Nat → Int32} (h : agr mf mg F G) (ho : okF B F G) (hf : ∀ k, k < 6 → k ≠ 5 → mf' k = nI (dF b F G Cs k)) (h5 : mf' 5 = nI (F 5) + 1) (h10 : ∀ p, p < F 0 → mg' 10 p = nI (if (F 1).testBit p = true then 0 else cap b (G 10 p + 1))) (h10' : ∀ p, F 0 ≤ p → mg' 10 p = mg 10 p) (hs : ∀ s, s ≠ 10 → mg' s = mg s) : agr mf' mg' (dF b F G Cs) (dG b F G) := by
  refine ⟨fun k hk => ?_, fun s p h7 hh hp => ?_, fun k hk => ?_⟩
  · by_cases c : k = 5
    · subst c; rw [h5, nI_1]; rfl
    · exact hf k hk c
  · by_cases c : s = 10
    · subst c
      by_cases d : p < F 0
      · rw [h10 p d]
        exact congrArg nI (show _ = dG b F G 10 p from (if_pos ⟨rfl, d⟩).symm)
      · rw [h10' p (by omega), h.2.1 10 p h7 hh hp]
        show _ = nI (if 10 = 10 ∧ p < F 0 then _ else _)
        rw [if_neg (by omega)]
    · rw [hs s c, h.2.1 s p h7 hh hp]
      show _ = nI (if s = 10 ∧ p < F 0 then _ else _)
      rw [if_neg (by omega)]
  · rw [hs 11 (by omega), h.2.2 k hk]
    show _ = nI (if 11 = 10 ∧ k < F 0 then _ else _)
    rw [if_neg (by omega)]

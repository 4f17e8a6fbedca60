
theorem bi_t {b : Bool} (h : b = true) : ¬ bI b = 0 := by subst h; decide
theorem bi_f {b : Bool} (h : b = false) : bI b = 0 := by subst h; rfl
theorem nt_f {b : Bool} (h : b = false) : ¬ b = true := by subst h; decide
def absI (y : Int32) : Int32 := if 0 ≤ y then y else -y
def apR (F : Nat → Nat) (G : Nat → Nat → Nat) (Cs : List (Nat × Nat × List Nat)) (x : Nat) : Nat → Nat → Int32 → Int32
  | 0, _, a => a
  | r + 1, o, a => apR F G Cs x r (o + 1) (if (F 1).testBit o = true then a else if x.testBit o = true then a + hz (Nz F G Cs o) else a + (-hz (Nz F G Cs o)))
def apA (F : Nat → Nat) (G : Nat → Nat → Nat) (Cs : List (Nat × Nat × List Nat)) (x : Nat) : Int32 := absI (apR F G Cs x (F 0) 0 0)
def wtI (F : Nat → Nat) (G : Nat → Nat → Nat) (Cs : List (Nat × Nat × List Nat)) (o : Nat) : Int32 := if (F 1).testBit o = true then 0 else hz (Nz F G Cs o)
theorem apC {nf : Nat → Int32} {ng : Nat → Nat → Int32} {nc : Option Nat} {cn : Nat} {cf : Nat → Nat → Int32} {cg : Nat → Nat → Nat → Int32} {fi : Nat → Int32} {ga : Nat → Nat → Int32} {F : Nat → Nat} {G : Nat → Nat → Nat} {Cs : List (Nat × Nat × List Nat)} (hs : sit nf ng nc cn cf cg fi ga F G Cs) (wt : Nat → Int32) (hw : ∀ o, o < F 0 → wt o = wtI F G Cs o) (x : Nat) (hx : x < 64) : ∀ (r n o : Nat) (a : Int32), r < n → F 0 = o + r → k_X6_apart_4 (nI x) nf wt n a (nI o) = some (absI (apR F G Cs x r o a))
  | 0, 0, _, _, hn, _ => by omega
  | 0, n + 1, o, a, hn, e => by
    have h6 := hs.2.2.1.1
    show (if (nf 0) ≤ nI o then _ else _) = _
    rw [hs.1.1 0 (by omega), e, if_pos (nI_le (by omega) (by omega)), nm_e1, Int32.zero_sub]
    rfl
  | r + 1, 0, _, _, hn, _ => by omega
  | r + 1, n + 1, o, a, hn, e => by
    have h6 := hs.2.2.1.1
    have ih := fun a => apC hs wt hw x hx r n (o + 1) a (by omega) (by omega)
    simp only [k_X6_apart_4, apR]
    rw [hs.1.1 0 (by omega), e, if_neg (nI_ge (by omega) (by omega)), u_bit (by omega) (by omega), gd_n (by omega) (by omega), gd_n (by omega) (by omega), u_cl (by omega), nI_1, hw o (by omega)]
    have e4 : wtI F G Cs o = (if (F 1).testBit o = true then 0 else hz (Nz F G Cs o)) := rfl
    rw [e4]
    rcases Bool.eq_false_or_eq_true ((F 1).testBit o) with hu | hu <;> rcases Bool.eq_false_or_eq_true (x.testBit o) with hb | hb
    · rw [if_neg (bi_t hb), if_pos hu, if_pos hu, Int32.add_zero]
      exact ih _
    · rw [if_pos (bi_f hb), if_pos hu, if_pos hu, Int32.neg_zero, Int32.add_zero]
      exact ih _
    · rw [if_neg (bi_t hb), if_neg (nt_f hu), if_neg (nt_f hu), if_pos hb]
      exact ih _
    · rw [if_pos (bi_f hb), if_neg (nt_f hu), if_neg (nt_f hu), if_neg (nt_f hb)]
      exact ih _
theorem apM {nf : Nat → Int32} {ng : Nat → Nat → Int32} {nc : Option Nat} {cn : Nat} {cf : Nat → Nat → Int32} {cg : Nat → Nat → Nat → Int32} {fi : Nat → Int32} {ga : Nat → Nat → Int32} {F : Nat → Nat} {G : Nat → Nat → Nat} {Cs : List (Nat × Nat × List Nat)} (hs : sit nf ng nc cn cf cg fi ga F G Cs) (x : Nat) (hx : x < 64) : ∀ (r n o : Nat) (a : Int32) (pl : Nat → Int32), r < n → F 0 = o + r → ∃ pl', k_X7_watchApart_4 (nI x) fi ga n a (nI o) pl = some (absI (apR F G Cs x r o a), pl')
  | 0, 0, _, _, _, hn, _ => by omega
  | 0, n + 1, o, a, pl, hn, e => by
    have h6 := hs.2.2.1.1
    refine ⟨pl, ?_⟩
    show (if (fi 0) ≤ nI o then _ else _) = _
    rw [hs.2.1.1 0 (by omega), e, if_pos (nI_le (by omega) (by omega))]
    show _ = some (if 0 ≤ a then a else -a, pl)
    split <;> rfl
  | r + 1, 0, _, _, _, hn, _ => by omega
  | r + 1, n + 1, o, a, pl, hn, e => by
    have h6 := hs.2.2.1.1
    have hu6 := hs.2.2.1.2.1
    have ih := fun a pl => apM hs x hx r n (o + 1) a pl (by omega) (by omega)
    simp only [k_X7_watchApart_4, apR]
    obtain ⟨pl1, hq⟩ := heardM hs.2.1 hs.2.2.1 (by omega) hs.2.2.2.2.1 hs.2.2.2.2.2 o (by omega) pl
    rw [hs.2.1.1 0 (by omega), e, if_neg (nI_ge (by omega) (by omega)), hs.2.1.1 1 (by omega), hasB (by omega) (by omega), hasB (by omega) (by omega), b1_s, b1_s, nI_1, hq, b2_s, b2_s]
    rcases Bool.eq_false_or_eq_true ((F 1).testBit o) with hu | hu <;> rcases Bool.eq_false_or_eq_true (x.testBit o) with hb | hb
    · rw [if_neg (bi_t hu), if_pos hu]
      exact ih _ _
    · rw [if_neg (bi_t hu), if_pos hu]
      exact ih _ _
    · rw [if_pos (bi_f hu), if_neg (bi_t hb), if_neg (nt_f hu), if_pos hb]
      exact ih _ _
    · rw [if_pos (bi_f hu), if_pos (bi_f hb), if_neg (nt_f hu), if_neg (nt_f hb)]
      exact ih _ _
def lwB (h : Nat) : Nat := h &&& (64 - h)
theorem lw_1 : ∀ h, h < 64 → nI h &&& (-nI h) = nI (lwB h) ∧ lwB h ≤ h := by decide +kernel
theorem lw_2 : ∀ h, h < 64 → ∀ x, x < 64 → x < lwB h → ¬ (x &&& (63 - h) = 0 ∧ ¬ x &&& lwB h = 0) := by decide +kernel
theorem lw_3 : ∀ h, h < 64 → ∀ x, x < 64 → nI x &&& (nI h ^^^ (-1)) = nI (x &&& (63 - h)) ∧ x &&& (63 - h) < 64 ∧ x &&& lwB h < 64 := by decide +kernel
def waR (F : Nat → Nat) (G : Nat → Nat → Nat) (Cs : List (Nat × Nat × List Nat)) (h : Nat) : Nat → Nat → Nat → Nat
  | 0, _, b => b
  | r + 1, x, b => waR F G Cs h r (x + 1) (if x &&& (63 - h) = 0 ∧ ¬ x &&& lwB h = 0 then (if b = 0 then x else if apA F G Cs b ≤ apA F G Cs x then b else x) else b)
theorem waR_lt (F : Nat → Nat) (G : Nat → Nat → Nat) (Cs : List (Nat × Nat × List Nat)) (h : Nat) : ∀ (r x b : Nat), x + r ≤ 64 → b < 64 → waR F G Cs h r x b < 64
  | 0, _, _, _, h => h
  | r + 1, x, b, hx, hb => by
    refine waR_lt F G Cs h r (x + 1) _ (by omega) ?_
    split
    · split
      · omega
      · split <;> omega
    · exact hb
theorem waR_0 (F : Nat → Nat) (G : Nat → Nat → Nat) (Cs : List (Nat × Nat × List Nat)) (h : Nat) (hh : h < 64) (r : Nat) : ∀ (k x b : Nat), x + k ≤ lwB h → waR F G Cs h (r + k) x b = waR F G Cs h r (x + k) b
  | 0, x, b, _ => rfl
  | k + 1, x, b, hx => by
    have := (lw_1 h hh).2
    show waR F G Cs h (r + k) (x + 1) (if x &&& (63 - h) = 0 ∧ ¬ x &&& lwB h = 0 then _ else b) = _
    rw [if_neg (lw_2 h hh x (by omega) (by omega)), waR_0 F G Cs h hh r k (x + 1) b (by omega), show x + 1 + k = x + (k + 1) by omega]
theorem waC {nf : Nat → Int32} {ng : Nat → Nat → Int32} {nc : Option Nat} {cn : Nat} {cf : Nat → Nat → Int32} {cg : Nat → Nat → Nat → Int32} {fi : Nat → Int32} {ga : Nat → Nat → Int32} {F : Nat → Nat} {G : Nat → Nat → Nat} {Cs : List (Nat × Nat × List Nat)} (hs : sit nf ng nc cn cf cg fi ga F G Cs) (wt nv : Nat → Int32) (hw : ∀ o, o < F 0 → wt o = wtI F G Cs o) (h : Nat) (hh : h < 64) : ∀ (r n x b : Nat), r < n → h + 1 = x + r → b < 64 → k_X6_watch_80 nf n (nI h) (nI (lwB h)) (nI b) (nI x) nv wt = some (nI (waR F G Cs h r x b), nv, wt)
  | 0, 0, _, _, hn, _, _ => by omega
  | 0, n + 1, x, b, hn, e, hb => by
    show (if nI h < nI x then _ else _) = _
    rw [if_pos (nI_lt (by omega) (by omega))]
    rfl
  | r + 1, 0, _, _, hn, _, _ => by omega
  | r + 1, n + 1, x, b, hn, e, hb => by
    have h6 := hs.2.2.1.1
    have ih := fun b h => waC hs wt nv hw _ hh r n (x + 1) b (by omega) (by omega) h
    obtain ⟨w1, w2, w3⟩ := lw_3 h hh x (by omega)
    simp only [k_X6_watch_80, k_X6_watch_106, k_X6_watch_107, waR]
    rw [if_neg (nI_nlt (by omega) (by omega)), w1, nx_and, nI_1, if_pos trivial, if_neg (show ¬ (1 : Int32) = 0 by decide)]
    by_cases c1 : x &&& (63 - h) = 0
    · rw [if_pos (show nI (x &&& (63 - h)) = 0 by rw [c1]; rfl)]
      by_cases c2 : x &&& lwB h = 0
      · rw [if_pos (show nI (x &&& lwB h) = 0 by rw [c2]; rfl), if_neg (fun g => g.2 c2)]
        exact ih b hb
      · rw [if_neg (show ¬ nI (x &&& lwB h) = 0 from fun g => c2 ((u_ei (b := 0) (by omega) (by omega)).mp g)), if_pos (show _ ∧ _ from ⟨c1, c2⟩)]
        by_cases c3 : b = 0
        · rw [if_pos (show nI b = 0 by rw [c3]; rfl), if_pos c3]
          exact ih x (by omega)
        · rw [if_neg (show ¬ nI b = 0 from fun g => c3 ((u_ei (b := 0) (by omega) (by omega)).mp g)), if_neg c3]
          have a1 := apC hs wt hw x (by omega) (F 0) 100000 0 0 (by omega) (by omega)
          have a2 := apC hs wt hw b hb (F 0) 100000 0 0 (by omega) (by omega)
          have a1' : k_X6_apart (nI x) nf wt = some (apA F G Cs x) := a1
          have a2' : k_X6_apart (nI b) nf wt = some (apA F G Cs b) := a2
          rw [a1', a2', b1_s, b1_s]
          by_cases c4 : apA F G Cs b ≤ apA F G Cs x
          · rw [if_pos c4, if_pos c4]
            exact ih b hb
          · rw [if_neg c4, if_neg c4]
            exact ih x (by omega)
    · rw [if_neg (show ¬ nI (x &&& (63 - h)) = 0 from fun g => c1 ((u_ei (b := 0) (by omega) (by omega)).mp g)), if_neg (fun g => c1 g.1)]
      exact ih b hb
theorem waM {nf : Nat → Int32} {ng : Nat → Nat → Int32} {nc : Option Nat} {cn : Nat} {cf : Nat → Nat → Int32} {cg : Nat → Nat → Nat → Int32} {fi : Nat → Int32} {ga : Nat → Nat → Int32} {F : Nat → Nat} {G : Nat → Nat → Nat} {Cs : List (Nat × Nat × List Nat)} (hs : sit nf ng nc cn cf cg fi ga F G Cs) (h : Nat) (hh : h < 64) : ∀ (r n x b : Nat) (pl : Nat → Int32), r < n → h + 1 = x + r → b < 64 → ∃ pl', k_X7_watch_15 fi ga n (nI h) (nI (lwB h)) (nI b) (nI x) pl = some (nI (waR F G Cs h r x b), pl')
  | 0, 0, _, _, _, hn, _, _ => by omega
  | 0, n + 1, x, b, pl, hn, e, hb => by
    refine ⟨pl, ?_⟩
    show (if nI h < nI x then _ else _) = _
    rw [if_pos (nI_lt (by omega) (by omega))]
    rfl
  | r + 1, 0, _, _, _, hn, _, _ => by omega
  | r + 1, n + 1, x, b, pl, hn, e, hb => by
    have h6 := hs.2.2.1.1
    have ih := fun b pl h => waM hs _ hh r n (x + 1) b pl (by omega) (by omega) h
    obtain ⟨w1, w2, w3⟩ := lw_3 h hh x (by omega)
    simp only [k_X7_watch_15, waR]
    rw [if_neg (nI_nlt (by omega) (by omega)), w1, nx_and, nI_1]
    by_cases c1 : x &&& (63 - h) = 0
    · rw [if_pos (show nI (x &&& (63 - h)) = 0 by rw [c1]; rfl)]
      by_cases c2 : x &&& lwB h = 0
      · rw [if_pos (show nI (x &&& lwB h) = 0 by rw [c2]; rfl), if_neg (show ¬ (x &&& (63 - h) = 0 ∧ ¬ x &&& lwB h = 0) from fun g => g.2 c2)]
        exact ih b pl hb
      · rw [if_neg (show ¬ nI (x &&& lwB h) = 0 from fun g => c2 ((u_ei (b := 0) (by omega) (by omega)).mp g)), if_pos (show (x &&& (63 - h) = 0 ∧ ¬ x &&& lwB h = 0) from ⟨c1, c2⟩)]
        by_cases c3 : b = 0
        · rw [if_pos (show nI b = 0 by rw [c3]; rfl), if_pos c3]
          exact ih x pl (by omega)
        · rw [if_neg (show ¬ nI b = 0 from fun g => c3 ((u_ei (b := 0) (by omega) (by omega)).mp g)), if_neg c3]
          obtain ⟨pl1, a1⟩ := apM hs x (by omega) (F 0) 100000 0 0 pl (by omega) (by omega)
          have a1' : k_X7_watchApart (nI x) fi ga pl = some (apA F G Cs x, pl1) := a1
          obtain ⟨pl2, a2⟩ := apM hs b hb (F 0) 100000 0 0 pl1 (by omega) (by omega)
          have a2' : k_X7_watchApart (nI b) fi ga pl1 = some (apA F G Cs b, pl2) := a2
          rw [a1', b2_s, a2', b2_s]
          by_cases c4 : apA F G Cs b ≤ apA F G Cs x
          · rw [if_pos c4, if_pos c4]
            exact ih b _ hb
          · rw [if_neg c4, if_neg c4]
            exact ih x _ (by omega)
    · rw [if_neg (show ¬ nI (x &&& (63 - h)) = 0 from fun g => c1 ((u_ei (b := 0) (by omega) (by omega)).mp g)), if_neg (show ¬ (x &&& (63 - h) = 0 ∧ ¬ x &&& lwB h = 0) from fun g => c1 g.1)]
      exact ih b pl hb
def waB (F : Nat → Nat) (G : Nat → Nat → Nat) (Cs : List (Nat × Nat × List Nat)) : Nat := waR F G Cs ((2 ^ F 0 - 1) &&& (63 - F 1)) (((2 ^ F 0 - 1) &&& (63 - F 1)) + 1) 0 0
theorem wa_fill {nf : Nat → Int32} {ng : Nat → Nat → Int32} {nc : Option Nat} {cn : Nat} {cf : Nat → Nat → Int32} {cg : Nat → Nat → Nat → Int32} {fi : Nat → Int32} {ga : Nat → Nat → Int32} {F : Nat → Nat} {G : Nat → Nat → Nat} {Cs : List (Nat × Nat × List Nat)} (hs : sit nf ng nc cn cf cg fi ga F G Cs) : ∀ (r n o : Nat) (nv wt : Nat → Int32), r < n → F 0 = o + r → (∀ q, q < o → wt q = wtI F G Cs q) → ∃ nv' wt', k_X6_watch_2 nf ng nc cn cf cg n (nI o) nv wt = some (nI (waB F G Cs), nv', wt') ∧ ∀ q, q < F 0 → wt' q = wtI F G Cs q
  | 0, 0, _, _, _, hn, _, _ => by omega
  | 0, n + 1, o, nv, wt, hn, e, hw => by
    have h6 := hs.2.2.1.1
    have hu6 := hs.2.2.1.2.1
    obtain ⟨u1, u2, u3, u4⟩ := u_all (F 0) (by omega)
    obtain ⟨w1, w2⟩ := u_mask (F 0) (by omega) (F 1) hu6
    simp only [k_X6_watch_2, k_X1_all]
    rw [hs.1.1 0 (by omega), if_pos (nI_le (by omega) (by omega)), u1, b1_s, hs.1.1 1 (by omega), w1]
    unfold waB
    generalize (2 ^ F 0 - 1) &&& (63 - F 1) = h at w2 ⊢
    obtain ⟨l1, l2⟩ := lw_1 h w2
    rw [l1]
    have hw' : ∀ q, q < F 0 → wt q = wtI F G Cs q := fun q hq => hw q (by omega)
    refine ⟨nv, wt, ?_, hw'⟩
    have := waC hs wt nv hw' h w2 (h + 1 - lwB h) 100000 (lwB h) 0 (by omega) (by omega) (by omega)
    rw [show waR F G Cs h (h + 1) 0 0 = waR F G Cs h (h + 1 - lwB h) (lwB h) 0 from by
      have := waR_0 F G Cs h w2 (h + 1 - lwB h) (lwB h) 0 0 (by omega)
      rw [show h + 1 - lwB h + lwB h = h + 1 by omega, Nat.zero_add] at this
      exact this]
    exact this
  | r + 1, 0, _, _, _, hn, _, _ => by omega
  | r + 1, n + 1, o, nv, wt, hn, e, hw => by
    have h6 := hs.2.2.1.1
    have hu6 := hs.2.2.1.2.1
    have ih := fun nv v (hv : v = wtI F G Cs o) => wa_fill hs r n (o + 1) nv (upd wt o v) (by omega) (by omega) (fun q hq => by
      rw [u_up]
      by_cases c : q = o
      · rw [if_pos c, hv, c]
      · rw [if_neg c]; exact hw q (by omega))
    simp only [k_X6_watch_2, k_X6_watch_45, nm_e1]
    rw [hs.1.1 0 (by omega), if_neg (nI_ge (by omega) (by omega)), upC (hs.1.1 1 (by omega)) hu6 (by omega), b1_s, gd_n (by omega) (by omega), u_cl (by omega), nI_1]
    cases hb : (F 1).testBit o
    · rw [if_pos (by decide)]
      obtain ⟨nv1, hq⟩ := noiseC hs.1 hs.2.2.1 (by omega) hs.2.2.2.1 hs.2.2.2.2.2 o (by omega) nv
      rw [hq, b2_s, gd_n (by omega) (by omega)]
      exact ih nv1 _ (by unfold wtI; rw [hb]; exact (if_neg Bool.false_ne_true).symm)
    · rw [if_neg (by decide)]
      exact ih nv 0 (by unfold wtI; rw [hb, if_pos rfl])
theorem wa_M {nf : Nat → Int32} {ng : Nat → Nat → Int32} {nc : Option Nat} {cn : Nat} {cf : Nat → Nat → Int32} {cg : Nat → Nat → Nat → Int32} {fi : Nat → Int32} {ga : Nat → Nat → Int32} {F : Nat → Nat} {G : Nat → Nat → Nat} {Cs : List (Nat × Nat × List Nat)} (hs : sit nf ng nc cn cf cg fi ga F G Cs) (pl : Nat → Int32) : ∃ pl', k_X7_watch fi ga pl = some (nI (waB F G Cs), pl') := by
  have h6 := hs.2.2.1.1
  have hu6 := hs.2.2.1.2.1
  obtain ⟨u1, u2, u3, u4⟩ := u_all (F 0) (by omega)
  obtain ⟨w1, w2⟩ := u_mask (F 0) (by omega) (F 1) hu6
  unfold k_X7_watch k_X7_below
  rw [hs.2.1.1 0 (by omega), u1, hs.2.1.1 1 (by omega), w1, b1_s]
  unfold waB
  generalize (2 ^ F 0 - 1) &&& (63 - F 1) = h at w2 ⊢
  rw [(lw_1 h w2).1]
  exact waM hs h w2 (h + 1) 100000 0 0 pl (by omega) (by omega) (by omega)
theorem waB_lt {F : Nat → Nat} {G : Nat → Nat → Nat} {Cs : List (Nat × Nat × List Nat)} (h6 : F 0 ≤ 6) (hu6 : F 1 < 64) : waB F G Cs < 64 := by
  obtain ⟨w1, w2⟩ := u_mask (F 0) (by omega) (F 1) hu6
  exact waR_lt F G Cs _ _ 0 0 (by omega) (by omega)
theorem op_told {nf : Nat → Int32} {ng : Nat → Nat → Int32} {nc : Option Nat} {cn : Nat} {cf : Nat → Nat → Int32} {cg : Nat → Nat → Nat → Int32} {fi : Nat → Int32} {ga : Nat → Nat → Int32} {F : Nat → Nat} {G : Nat → Nat → Nat} {Cs : List (Nat × Nat × List Nat)} (hs : sit nf ng nc cn cf cg fi ga F G Cs) (a : Int32) (fs : Nat → Int32) (hfs : fs 29 = 9999) (gs : Nat → Nat → Int32) (pl nv tf : Nat → Int32) (tg : Nat → Nat → Int32) (tc : Option Nat) (tv wt : Nat → Int32) : ∃ r nv' tf' tg' tc' tv' wt' fs' gs' pl', k_X6_told a nf ng nc nv tf tg tc tv wt cn cf cg = some (r, nv', tf', tg', tc', tv', wt') ∧ k_X7_told a fi fs ga gs pl = some (r, fi, fs', ga, gs', pl') ∧ fs' 29 = 9999 := by
  obtain ⟨ha, hm, ho, hc, hM, hk⟩ := id hs
  have h6 := ho.1
  have hu6 := ho.2.1
  unfold k_X6_told k_X7_told
  rw [ha.1 5 (by omega), ha.1 2 (by omega), ha.1 3 (by omega), ha.1 4 (by omega), ha.1 1 (by omega), hm.1 5 (by omega), hm.1 2 (by omega), hm.1 3 (by omega), hm.1 4 (by omega), hm.1 1 (by omega)]
  by_cases c : a = 0
  · rw [if_pos c, if_pos c]; exact ⟨_, _, _, _, _, _, _, _, _, _, rfl, rfl, hfs⟩
  rw [if_neg c, if_neg c]; clear c
  by_cases c : a = 1
  · rw [if_pos c, if_pos c, calmC hc, calmM hM hk]; exact ⟨_, _, _, _, _, _, _, _, _, _, rfl, rfl, hfs⟩
  rw [if_neg c, if_neg c]; clear c
  by_cases c : a = 2
  · rw [if_pos c, if_pos c]; exact ⟨_, _, _, _, _, _, _, _, _, _, rfl, rfl, hfs⟩
  rw [if_neg c, if_neg c]; clear c
  by_cases c : a = 3
  · rw [if_pos c, if_pos c]; exact ⟨_, _, _, _, _, _, _, _, _, _, rfl, rfl, hfs⟩
  rw [if_neg c, if_neg c]; clear c
  by_cases c : a = 4
  · rw [if_pos c, if_pos c]; exact ⟨_, _, _, _, _, _, _, _, _, _, rfl, rfl, hfs⟩
  rw [if_neg c, if_neg c]; clear c
  by_cases c : a = 5
  · obtain ⟨nv1, q1⟩ := soundC ha ho (by omega) hc hk nv
    obtain ⟨pl1, q2⟩ := soundM hm ho (by omega) hM hk pl
    rw [if_pos c, if_pos c, q1, q2]
    exact ⟨_, _, _, _, _, _, _, _, _, _, rfl, rfl, hfs⟩
  rw [if_neg c, if_neg c]; clear c
  by_cases c : a = 6
  · rw [if_pos c, if_pos c]; exact ⟨_, _, _, _, _, _, _, _, _, _, rfl, rfl, hfs⟩
  rw [if_neg c, if_neg c]; clear c
  by_cases c : a = 7
  · obtain ⟨r, tf1, tg1, tc1, tv1, fs1, gs1, pl1, q1, q2, h1⟩ := hu_eq hs fs gs pl tf tg tc tv
    rw [if_pos c, if_pos c, q1, q2]
    exact ⟨_, _, _, _, _, _, _, _, _, _, rfl, rfl, h1⟩
  rw [if_neg c, if_neg c]; clear c
  obtain ⟨nv1, wt1, q1, hw1⟩ := wa_fill hs (F 0) 100000 0 nv wt (by omega) (by omega) (fun q h => by omega)
  have q1' : k_X6_watch nf ng nc nv wt cn cf cg = some (nI (waB F G Cs), nv1, wt1) := q1
  obtain ⟨pl1, q2⟩ := wa_M hs pl
  have blt := waB_lt (G := G) (Cs := Cs) h6 hu6
  by_cases c : a = 8
  · have a1 := apC hs wt1 hw1 _ blt (F 0) 100000 0 0 (by omega) (by omega)
    have a1' : k_X6_apart (nI (waB F G Cs)) nf wt1 = some (apA F G Cs (waB F G Cs)) := a1
    obtain ⟨pl2, a2⟩ := apM hs _ blt (F 0) 100000 0 0 pl1 (by omega) (by omega)
    have a2' : k_X7_watchApart (nI (waB F G Cs)) fi ga pl1 = some (apA F G Cs (waB F G Cs), pl2) := a2
    rw [if_pos c, if_pos c, q1', b3_s, a1', q2, b2_s, a2']
    exact ⟨_, _, _, _, _, _, _, _, _, _, rfl, rfl, hfs⟩
  rw [if_neg c, if_neg c]; clear c
  by_cases c : a = 9
  · rw [if_pos c, if_pos c, q1', q2]
    exact ⟨_, _, _, _, _, _, _, _, _, _, rfl, rfl, hfs⟩
  rw [if_neg c, if_neg c]
  exact ⟨_, _, _, _, _, _, _, _, _, _, rfl, rfl, hfs⟩

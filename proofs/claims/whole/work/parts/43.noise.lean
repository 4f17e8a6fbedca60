def tlC : List (Nat × Nat × List Nat) → Nat
  | [] => 0
  | c :: Cs => c.2.2.length + tlC Cs
def okC (c : Nat × Nat × List Nat) : Prop := c.1 ≤ 2 ∧ c.2.1 < 100 ∧ (c.1 < 2 → dep c.2.2 0 = some 1) ∧ ∀ t, t ∈ c.2.2 → t < 10003
def okCs (Cs : List (Nat × Nat × List Nat)) : Prop := (∀ c, c ∈ Cs → okC c) ∧ Cs.length ≤ 10 ∧ tlC Cs ≤ 100
def kC (cig : Nat → Nat → Int32) : List (Nat × Nat × List Nat) → Nat → Nat → Prop
  | [], _, _ => True
  | c :: Cs, j, s => cig 3 j = nI c.1 ∧ cig 4 j = nI c.2.1 ∧ cig 5 j = nI (s + c.2.2.length) ∧ cRl cig s c.2.2 ∧ kC cig Cs (j + 1) (s + c.2.2.length)
def kM (ga : Nat → Nat → Int32) : List (Nat × Nat × List Nat) → Nat → Nat → Prop
  | [], _, _ => True
  | c :: Cs, i, b => ga 18 i = nI c.1 ∧ ga 19 i = nI c.2.1 ∧ (c.1 < 2 → ga 20 i = nI b ∧ ga 21 i = nI (b + c.2.2.length)) ∧ mRl ga b c.2.2 ∧ kM ga Cs (i + 1) (b + c.2.2.length)
def sumL (vs : Nat → Nat) : List (Nat × Nat × List Nat) → Int32 → Int32
  | [], a => a
  | c :: Cs, a => sumL vs Cs (if c.1 = 2 then a else if hold vs c.2.2 = true then (if c.1 = 0 then a + nI c.2.1 else a + (-nI c.2.1)) else a)
def calmL : List (Nat × Nat × List Nat) → Nat → Nat
  | [], n => n
  | c :: Cs, n => calmL Cs (if c.1 = 2 then c.2.1 else n)
theorem u_rc (a b y : Int32) : a + y + b = a + b + y := by rw [Int32.add_assoc, Int32.add_comm y, ← Int32.add_assoc]
theorem sumL_add (vs : Nat → Nat) (y : Int32) : ∀ (Cs : List (Nat × Nat × List Nat)) (a : Int32), sumL vs Cs (a + y) = sumL vs Cs a + y
  | [], a => rfl
  | c :: Cs, a => by
    simp only [sumL]
    rw [← sumL_add vs y Cs]
    congr 1
    split
    · rfl
    · split
      · split
        · exact u_rc _ _ _
        · exact u_rc _ _ _
      · rfl
theorem sumL_0 (vs : Nat → Nat) (y : Int32) (Cs : List (Nat × Nat × List Nat)) : sumL vs Cs (-y) = sumL vs Cs 0 - y := by
  have := sumL_add vs (-y) Cs 0
  rw [Int32.zero_add] at this
  rw [this, Int32.sub_eq_add_neg]
theorem sumC (vs : Nat → Nat) (hv : ∀ f, vs f ≤ 9999) (cif : Nat → Int32) (cig : Nat → Nat → Int32) (mv : Nat → Int32) (hm : ∀ f, f < 6 → mv f = nI (vs f)) : ∀ (Cs : List (Nat × Nat × List Nat)) (n j s : Nat) (a : Int32), Cs.length < n → cif 1 = nI (j + Cs.length) → j + Cs.length ≤ 10 → s + tlC Cs ≤ 100 → (∀ c, c ∈ Cs → okC c) → kC cig Cs j s → k_X2_sumBy_7 cif cig mv n a (nI s) (nI j) = some (sumL vs Cs a)
  | [], 0, _, _, _, hn, _, _, _, _, _ => by simp at hn
  | [], n + 1, j, s, a, hn, h1, hj, hs, ho, hk => by
    show (if (cif 1) ≤ nI j then _ else _) = _
    rw [h1, if_pos (show nI (j + ([] : List (Nat × Nat × List Nat)).length) ≤ nI j from nI_le (Nat.le_refl _) (by simp at hj; omega))]
    rfl
  | c :: Cs, 0, _, _, _, hn, _, _, _, _, _ => by simp at hn
  | c :: Cs, n + 1, j, s, a, hn, h1, hj, hs, ho, hk => by
    have hn' : Cs.length < n := by simp at hn; omega
    have el : j + (c :: Cs).length = j + 1 + Cs.length := by simp; omega
    rw [el] at h1 hj
    have hs2 : s + c.2.2.length + tlC Cs ≤ 100 := by simp only [tlC] at hs; omega
    have ih := fun a => sumC vs hv cif cig mv hm Cs n (j + 1) (s + c.2.2.length) a hn' h1 hj hs2 (fun c h => ho c (List.mem_cons_of_mem _ h)) hk.2.2.2.2
    have hc := ho c (List.mem_cons_self ..)
    simp only [k_X2_sumBy_7, k_X2_sumBy_72, sumL]
    have g1 : ∀ {α : Type} (o : Option α), gd (nI j) 10 o = o := fun o => gd_n (by omega) (by omega)
    rw [h1, if_neg (nI_ge (by omega) (by omega))]
    simp only [g1]
    rw [u_cl (by omega), hk.1, hk.2.2.1, nI_1, hk.2.1]
    by_cases c2 : c.1 = 2
    · rw [if_pos c2, c2, if_pos (by decide)]
      exact ih a
    · have hlt : c.1 < 2 := by have := hc.1; omega
      rw [if_neg (show ¬ nI c.1 = 2 from fun e => c2 ((u_ei (b := 2) (by omega) (by omega)).mp e)), if_neg c2]
      have hh := holdsC vs hv cig mv hm c.2.2 100000 s 0 [] 0 (by omega) (by omega) hk.2.2.2.1 (hc.2.2.1 hlt) (by simp) (by intro k b h; simp at h)
      have hh' : k_X2_holds (nI s) (nI (s + c.2.2.length)) cig mv = some (bI (hold vs c.2.2)) := hh
      rw [hh', b1_s]
      by_cases hb : hold vs c.2.2 = true
      · rw [hb, if_neg (by decide), if_pos rfl]
        by_cases c0 : c.1 = 0
        · rw [c0, if_pos (by decide), if_pos rfl]
          exact ih _
        · rw [if_neg (show ¬ nI c.1 = 0 from fun e => c0 ((u_ei (b := 0) (by omega) (by omega)).mp e)), if_neg c0]
          exact ih _
      · have hb' : hold vs c.2.2 = false := by simpa using hb
        rw [hb', if_pos (by decide), if_neg (by decide)]
        exact ih _
theorem sumM (vs : Nat → Nat) (hv : ∀ f, vs f ≤ 9999) (fi : Nat → Int32) (ga : Nat → Nat → Int32) (p : Int32) (hf : ∀ f, f < 6 → k_X7_factOf (nI f) p fi ga = some (nI (vs f))) (E : Nat) (hE : E ≤ 60) (hbe : k_X7_behind fi ga = some (nI E)) : ∀ (Cs : List (Nat × Nat × List Nat)) (n i b : Nat) (a : Int32) (pl : Nat → Int32), Cs.length < n → E = i + Cs.length → b + tlC Cs ≤ 600 → (∀ c, c ∈ Cs → okC c) → kM ga Cs i b → ∃ pl', k_X7_sum_15 p fi ga n a (nI i) pl = some (sumL vs Cs a, pl')
  | [], 0, _, _, _, _, hn, _, _, _, _ => by simp at hn
  | [], n + 1, i, b, a, pl, hn, h1, hs, ho, hk => by
    refine ⟨pl, ?_⟩
    show b1 (k_X7_behind fi ga) (fun r1 => if r1 ≤ nI i then _ else _) = _
    have h1' : E = i := by simpa using h1
    rw [hbe, b1_s, if_pos (nI_le (by omega) (by omega))]
    rfl
  | c :: Cs, 0, _, _, _, _, hn, _, _, _, _ => by simp at hn
  | c :: Cs, n + 1, i, b, a, pl, hn, h1, hs, ho, hk => by
    have hn' : Cs.length < n := by simp at hn; omega
    have h1' : E = i + 1 + Cs.length := by simp at h1; omega
    have hs2 : b + c.2.2.length + tlC Cs ≤ 600 := by simp only [tlC] at hs; omega
    have ih := fun a pl => sumM vs hv fi ga p hf E hE hbe Cs n (i + 1) (b + c.2.2.length) a pl hn' h1' hs2 (fun c h => ho c (List.mem_cons_of_mem _ h)) hk.2.2.2.2
    have hc := ho c (List.mem_cons_self ..)
    simp only [k_X7_sum_15, sumL]
    have g1 : ∀ {α : Type} (o : Option α), gd (nI i) 60 o = o := fun o => gd_n (by omega) (by omega)
    rw [hbe, b1_s, if_neg (nI_ge (by omega) (by omega))]
    simp only [g1]
    rw [u_cl (by omega), hk.1, nI_1, hk.2.1]
    by_cases c2 : c.1 = 2
    · rw [if_pos c2, c2, if_pos (by decide)]
      exact ih a pl
    · have hlt : c.1 < 2 := by have := hc.1; omega
      rw [if_neg (show ¬ 1 < nI c.1 from nI_nlt (b := c.1) (a := 1) (by omega) (by omega)), if_neg c2]
      obtain ⟨h20, h21⟩ := hk.2.2.1 hlt
      obtain ⟨pl', hh⟩ := holdsM vs hv fi ga p hf i (by omega) c.2.2 100000 b pl [] (by have := hs; simp only [tlC] at this; omega) h21 (by omega) hc.2.2.2 hk.2.2.2.1 (hc.2.2.1 hlt) (by simp) trivial
      have hh' : k_X7_holds (nI i) p fi ga pl = some (bI (hold vs c.2.2), pl') := by
        unfold k_X7_holds
        rw [g1, u_cl (by omega), h20]
        exact hh
      rw [hh', b2_s]
      by_cases hb : hold vs c.2.2 = true
      · rw [hb, if_neg (by decide), if_pos rfl]
        by_cases c0 : c.1 = 0
        · rw [c0, if_pos (by decide), if_pos rfl]
          exact ih _ pl'
        · rw [if_neg (show ¬ nI c.1 = 0 from fun e => c0 ((u_ei (b := 0) (by omega) (by omega)).mp e)), if_neg c0]
          exact ih _ pl'
      · have hb' : hold vs c.2.2 = false := by simpa using hb
        rw [hb', if_pos (by decide), if_neg (by decide)]
        exact ih _ pl'

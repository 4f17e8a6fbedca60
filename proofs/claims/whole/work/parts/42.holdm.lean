theorem gb_b {α : Type} {b : Bool} {o : Option α} : gb (bI b) o = o := by
  cases b
  · exact if_pos (Or.inl rfl)
  · exact if_pos (Or.inr rfl)
theorem cms_3 {t : Nat} (h : ¬ t ≤ 2) : cmS t = nI (t - 3) := by
  unfold cmS
  rw [if_neg (by omega), if_neg (by omega), if_neg (by omega)]
theorem holdsM (vs : Nat → Nat) (hv : ∀ f, vs f ≤ 9999) (fi : Nat → Int32) (ga : Nat → Nat → Int32) (p : Int32) (hf : ∀ f, f < 6 → k_X7_factOf (nI f) p fi ga = some (nI (vs f))) (c : Nat) (hc : c < 60) : ∀ (L : List Nat) (n a : Nat) (pl : Nat → Int32) (s : List Bool), L.length < n → ga 21 c = nI (a + L.length) → a + L.length ≤ 600 → (∀ t, t ∈ L → t < 10003) → mRl ga a L → dep L s.length = some 1 → s.length ≤ 20 → pC pl s → ∃ pl', k_X7_holds_10 (nI c) p fi ga n (nI s.length) (nI a) pl = some (bI ((evs vs L s).headD false), pl')
  | [], 0, _, _, _, hn, _, _, _, _, _, _, _ => by simp at hn
  | [], n + 1, a, pl, s, hn, h21, ha, ht, hr, hd, hs, hb => by
    refine ⟨pl, ?_⟩
    show gd (nI c) 60 (if (ga 21 (Int32.toNatClampNeg (nI c))) ≤ nI a then _ else _) = _
    have hd' : s.length = 1 := Option.some.inj hd
    rw [gd_n hc (by omega), u_cl (by omega), h21, if_pos (show nI (a + ([] : List Nat).length) ≤ nI a from nI_le (Nat.le_refl _) (by simp at ha; omega))]
    match s, hd', hb with
    | [b], _, hb =>
      have h0 : pl 0 = bI b := hb.1
      show gd 0 100 (gb (pl 0) (some (pl 0, pl))) = _
      rw [h0, gb_b]
      rfl
  | t :: L, 0, _, _, _, hn, _, _, _, _, _, _, _ => by simp at hn
  | t :: L, n + 1, a, pl, s, hn, h21, ha, ht, hr, hd, hs, hb => by
    have hn' : L.length < n := by simp at hn; omega
    have ha' : a + 1 + L.length ≤ 600 := by simp at ha; omega
    have el : a + (t :: L).length = a + 1 + L.length := by simp; omega
    rw [el] at h21
    have ih := fun pl s h1 h2 h3 => holdsM vs hv fi ga p hf c hc L n (a + 1) pl s hn' h21 ha' (fun t h => ht t (List.mem_cons_of_mem _ h)) hr.2 h1 h2 h3
    have h1 := hr.1
    simp only [k_X7_holds_10]
    rw [gd_n hc (by omega), u_cl (show c < 2 ^ 31 by omega), h21, if_neg (nI_ge (by omega) (by omega)), gd_n (show a < 600 by omega) (by omega), u_cl (show a < 2 ^ 31 by omega), h1]
    show ∃ pl', _ = some (bI ((evs vs L (stp vs t s)).headD false), pl')
    simp only [dep] at hd
    by_cases c0 : t = 0
    · subst c0
      rw [if_pos (by decide)]
      cases s with
      | nil => simp at hd
      | cons b s =>
        simp at hs
        rw [show nI (b :: s).length - 1 = nI s.length from nI_pred _, gd_n (by omega) (by omega), u_cl (by omega), hb.1]
        simp only [k_X7_holds_60, nI_1]
        rw [gd_n (by omega) (by omega), gd_n (by omega) (by omega), u_cl (by omega), u_nar1, u_nar0]
        have := ih (upd pl s.length (bI (!b))) ((!b) :: s) (by simpa using hd) (by simp; omega) ⟨if_pos rfl, pC_up (Nat.le_refl _) hb.2⟩
        cases b
        · exact this
        · exact this
    by_cases c1 : t = 1
    · subst c1
      rw [if_neg (by decide), if_neg (by decide), if_pos (by decide)]
      cases s with
      | nil => simp at hd
      | cons b s =>
        cases s with
        | nil => simp at hd
        | cons d s =>
          simp at hs
          rw [show nI (b :: d :: s).length + (-1) = nI (s.length + 1) from pk_m1 _, nI_pred, gd_n (by omega) (by omega), u_cl (by omega), hb.2.1, gd_n (show s.length + 1 < 100 by omega) (by omega), u_cl (by omega), show pl (s.length + 1) = bI b from hb.1]
          simp only [k_X7_holds_110, k_X7_holds_139, nI_1]
          rw [gd_n (by omega) (by omega), gd_n (by omega) (by omega), u_cl (by omega), u_nar1, u_nar0]
          have := ih (upd pl s.length (bI (d && b))) ((d && b) :: s) (by simpa using hd) (by simp; omega) ⟨if_pos rfl, pC_up (Nat.le_refl _) hb.2.2⟩
          cases b <;> cases d <;> exact this
    by_cases c2 : t = 2
    · subst c2
      rw [if_neg (by decide), if_neg (by decide), if_neg (by decide)]
      cases s with
      | nil => simp at hd
      | cons b s =>
        cases s with
        | nil => simp at hd
        | cons d s =>
          simp at hs
          rw [show nI (b :: d :: s).length + (-1) = nI (s.length + 1) from pk_m1 _, nI_pred, gd_n (by omega) (by omega), u_cl (by omega), hb.2.1, gd_n (show s.length + 1 < 100 by omega) (by omega), u_cl (by omega), show pl (s.length + 1) = bI b from hb.1]
          simp only [k_X7_holds_134, k_X7_holds_139, nI_1]
          rw [gd_n (by omega) (by omega), gd_n (by omega) (by omega), u_cl (by omega), u_nar1, u_nar0]
          have := ih (upd pl s.length (bI (d || b))) ((d || b) :: s) (by simpa using hd) (by simp; omega) ⟨if_pos rfl, pC_up (Nat.le_refl _) hb.2.2⟩
          cases b <;> cases d <;> exact this
    rw [if_neg c0, if_neg (by omega)] at hd
    split at hd
    · rename_i hq
      have htl : t - 3 < 10000 := by have := ht t (List.mem_cons_self ..); omega
      have es : stp vs t s = tsV vs (t - 3) :: s := by cases s <;> simp [stp, c0, c1, c2, show ¬ t ≤ 2 by omega]
      rw [es, cms_3 (by omega)]
      have hi : ∀ b, tsV vs (t - 3) = b → ∃ pl', k_X7_holds_10 (nI c) p fi ga n (nI (s.length + 1)) (nI (a + 1)) (upd pl s.length (bI b)) = some (bI ((evs vs L (tsV vs (t - 3) :: s)).headD false), pl') := fun b e => by
        rw [e]
        exact ih _ (b :: s) (by simpa using hd) (by simp; omega) ⟨if_pos rfl, pC_up (Nat.le_refl _) hb⟩
      generalize t - 3 = u at hq htl hi ⊢
      have f6 : u / 1000 < 6 := hq.2.1
      have hw := hv (u / 1000)
      have hlt : u % 100 < 100 := Nat.mod_lt _ (by omega)
      rw [if_neg (fun e => by have h9 : (0 : Int32) ≤ -33 := e ▸ nI_pos' (show u < 2 ^ 31 by omega); exact absurd h9 (by decide)), if_pos (nI_pos' (by omega)), show nI u / 1000 = nI (u / 1000) from u_dv 1000 (by omega) (by omega) (by omega), hf _ f6, b1_s, show nI u / 100 = nI (u / 100) from u_dv 100 (by omega) (by omega) (by omega), show nI (u / 100) - nI (u / 100) / 10 * 10 = nI (u / 100 % 10) from u_rm 10 (by omega) (by omega) (by omega), nm_e1, show nI u - nI (u / 100) * 100 = nI (u % 100) from by have := u_rm (a := u) 100 (by omega) (by omega) (by omega); rw [u_dv 100 (by omega) (by omega) (by omega)] at this; exact this]
      simp only [k_X7_holds_233, nI_1]
      rw [gd_n (show s.length < 100 by omega) (by omega), gd_n (show s.length < 100 by omega) (by omega), u_cl (show s.length < 2 ^ 31 by omega), u_nar1, u_nar0]
      by_cases s0 : u / 100 % 10 = 0
      · rw [s0, if_pos (by decide)]
        by_cases h : vs (u / 1000) < u % 100
        · have et : tsV vs u = true := by simp [tsV, s0, h]
          rw [et] at hi ⊢
          rw [if_neg (nI_ge h (by omega))]
          exact hi true rfl
        · have et : tsV vs u = false := by simp [tsV, s0]; omega
          rw [et] at hi ⊢
          rw [if_pos (nI_le (by omega) (by omega))]
          exact hi false rfl
      rw [if_neg (show ¬ nI (u / 100 % 10) = 0 from fun e => s0 ((u_ei (b := 0) (by omega) (by omega)).mp e))]
      by_cases s1 : u / 100 % 10 = 1
      · rw [s1, if_pos (by decide)]
        by_cases h : vs (u / 1000) = u % 100
        · have et : tsV vs u = true := by simp [tsV, s1, h]
          rw [et] at hi ⊢
          rw [h, if_pos rfl]
          exact hi true rfl
        · have et : tsV vs u = false := by simp [tsV, s1, h]
          rw [et] at hi ⊢
          rw [if_neg (fun e => h ((u_ei (by omega) (by omega)).mp e))]
          exact hi false rfl
      · rw [if_neg (show ¬ nI (u / 100 % 10) = 1 from fun e => s1 ((u_ei (b := 1) (by omega) (by omega)).mp e))]
        by_cases h : u % 100 < vs (u / 1000)
        · have et : tsV vs u = true := by simp [tsV, s0, s1, h]
          rw [et] at hi ⊢
          rw [if_neg (nI_ge h (by omega))]
          exact hi true rfl
        · have et : tsV vs u = false := by simp [tsV, s0, s1]; omega
          rw [et] at hi ⊢
          rw [if_pos (nI_le (by omega) (by omega))]
          exact hi false rfl
    · cases hd

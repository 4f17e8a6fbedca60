
def tyY (fi : Nat → Int32) (L : Nat) (T : Nat → Nat) : Prop := L ≤ 100 ∧ fi 13 = nI L ∧ ∀ k, k < L → T k < 128
def tg (ga : Nat → Nat → Int32) (L : Nat) (T : Nat → Nat) : Prop := ∀ k, k < L → ga 16 k = nI (T k)
def stk (gs : Nat → Nat → Int32) : List Nat → Prop
  | [] => True
  | c :: S => gs 23 S.length = nI c ∧ stk gs S
def mS (fs : Nat → Int32) (gs : Nat → Nat → Int32) (f p s w : Nat) (W : List Nat) : Prop := fs 14 = nI p ∧ fs 24 = nI (100 * f + s) ∧ fs 25 = nI W.length ∧ fs 26 = nI w ∧ stk gs W
def mE (ga ga' : Nat → Nat → Int32) (c a : Nat) (Ls : List Nat) : Prop := mRl ga' a Ls ∧ (∀ k, k < a → ga' 22 k = ga 22 k) ∧ (∀ k, k ≠ c → ga' 21 k = ga 21 k) ∧ ∀ k, k ≠ 21 → k ≠ 22 → ga' k = ga k
def mF (fs fs' : Nat → Int32) : Prop := ∀ k, k ≠ 14 → k ≠ 15 → k ≠ 24 → k ≠ 25 → k ≠ 26 → fs' k = fs k
def opT (x : Nat) : Nat := if x = 38 then 1 else 2
theorem mF_r (fs : Nat → Int32) : mF fs fs := fun _ _ _ _ _ _ => rfl
theorem mF_t {x y z : Nat → Int32} (a : mF x y) (b : mF y z) : mF x z := fun k h1 h2 h3 h4 h5 => (b k h1 h2 h3 h4 h5).trans (a k h1 h2 h3 h4 h5)
theorem mF_u (fs : Nat → Int32) (j : Nat) (v : Int32) (hj : j = 14 ∨ j = 15 ∨ j = 24 ∨ j = 25 ∨ j = 26) : mF fs (upd fs j v) := fun k h1 h2 h3 h4 h5 => if_neg (by omega)
theorem mRl_app {ga : Nat → Nat → Int32} : ∀ (A : List Nat) {B : List Nat} {a : Nat}, mRl ga a A → mRl ga (a + A.length) B → mRl ga a (A ++ B)
  | [], B, a, _, h => h
  | t :: A, B, a, h, h2 => ⟨h.1, mRl_app A h.2 (by rw [show a + 1 + A.length = a + (t :: A).length by simp; omega]; exact h2)⟩
theorem mRl_cg {ga ga' : Nat → Nat → Int32} : ∀ {A : List Nat} {a : Nat}, (∀ k, k < a + A.length → ga' 22 k = ga 22 k) → mRl ga a A → mRl ga' a A
  | [], a, _, _ => trivial
  | t :: A, a, e, h => ⟨(e a (by simp)).trans h.1, mRl_cg (fun k hk => e k (by simp; omega)) h.2⟩
theorem mE_0 (ga : Nat → Nat → Int32) (c a : Nat) : mE ga ga c a [] := ⟨trivial, fun _ _ => rfl, fun _ _ => rfl, fun _ _ _ => rfl⟩
theorem mE_t {ga ga1 ga2 : Nat → Nat → Int32} {c a : Nat} {A B : List Nat} (h1 : mE ga ga1 c a A) (h2 : mE ga1 ga2 c (a + A.length) B) : mE ga ga2 c a (A ++ B) :=
  ⟨mRl_app A (mRl_cg h2.2.1 h1.1) h2.1, fun k hk => (h2.2.1 k (by omega)).trans (h1.2.1 k hk), fun k hk => (h2.2.2.1 k hk).trans (h1.2.2.1 k hk), fun k k1 k2 => (h2.2.2.2 k k1 k2).trans (h1.2.2.2 k k1 k2)⟩
theorem mE_w {ga ga1 : Nat → Nat → Int32} {c a : Nat} {A : List Nat} (h1 : mE ga ga1 c a A) : mE ga ga1 c a [] := ⟨trivial, h1.2⟩
theorem mE_f {ga ga1 ga2 : Nat → Nat → Int32} {c a : Nat} {A B : List Nat} (h1 : mE ga ga1 c a A) (h2 : mE ga1 ga2 c (a + A.length) B) : mE ga ga2 c a [] := mE_w (mE_t h1 h2)
theorem mE_g {ga ga1 : Nat → Nat → Int32} {c a L : Nat} {T : Nat → Nat} {A : List Nat} (h1 : mE ga ga1 c a A) (h : tg ga L T) : tg ga1 L T := fun k hk => by rw [h1.2.2.2 16 (by omega) (by omega)]; exact h k hk
theorem mE_21 (ga : Nat → Nat → Int32) (c a : Nat) (v : Int32) : mE ga (va_up ga 21 (upd (ga 21) c v)) c a [] :=
  ⟨trivial, fun k hk => by rw [va_up_ne _ _ (by omega)], fun k hk => by rw [va_up_self]; exact if_neg hk, fun k k1 _ => va_up_ne _ _ k1⟩
theorem mE_e (ga : Nat → Nat → Int32) (c a t : Nat) (v : Int32) (hv : v = cmS t) : mE ga (va_up ga 22 (upd (ga 22) a v)) c a [t] :=
  ⟨⟨by rw [va_up_self, u_up, if_pos rfl]; exact hv, trivial⟩, fun k hk => by rw [va_up_self]; exact if_neg (by omega), fun k hk => by rw [va_up_ne _ _ (by omega)], fun k _ k2 => va_up_ne _ _ k2⟩
theorem mRl_1 {ga : Nat → Nat → Int32} {a t : Nat} : ∀ {A : List Nat}, mRl ga a A → mRl ga (a + A.length) [t] → mRl ga a (A ++ [t]) := fun h h2 => mRl_app _ h h2
theorem stk_u {gs : Nat → Nat → Int32} {k : Nat} {v : Int32} : ∀ {S : List Nat}, S.length ≤ k → stk gs S → stk (va_up gs 23 (upd (gs 23) k v)) S
  | [], _, _ => trivial
  | c :: S, h, hp => by
    refine ⟨?_, stk_u (Nat.le_of_succ_le h) hp.2⟩
    rw [va_up_self, u_up, if_neg (by simp at h; omega)]
    exact hp.1
theorem stk_p {gs : Nat → Nat → Int32} {S : List Nat} {c : Nat} {v : Int32} (hv : v = nI c) (h : stk gs S) : stk (va_up gs 23 (upd (gs 23) S.length v)) (c :: S) :=
  ⟨by rw [va_up_self, u_up, if_pos rfl]; exact hv, stk_u (Nat.le_refl _) h⟩
theorem stk_a {gs : Nat → Nat → Int32} : ∀ (P : List Nat) {S : List Nat}, stk gs (P ++ S) → stk gs S
  | [], _, h => h
  | c :: P, S, h => stk_a P h.2
theorem nextY {T : Nat → Nat} {L : Nat} {fi : Nat → Int32} (hy : tyY fi L T) {fs : Nat → Int32} {ga : Nat → Nat → Int32} {p : Nat} (hg : tg ga L T) (h : fs 14 = nI p) (hp : p ≤ 200) : k_X7_next fi fs ga = some (tpk T L p) := by
  unfold k_X7_next tpk
  have := hy.1
  rw [hy.2.1, h]
  by_cases c : L ≤ p
  · rw [if_pos (nI_le c (by omega)), if_pos c]
  · rw [if_neg (nI_ge (by omega) (by omega)), if_neg c, gd_n (by omega) (by omega), u_cl (by omega), hg p (by omega)]
theorem inD (x : Int32) : k_X7_in x 48 57 = some (bI (dg x)) := by
  unfold k_X7_in dg
  by_cases a : 48 ≤ x
  · rw [if_neg ((u_nlt _ _).mpr a), decide_eq_true a]
    by_cases b : x ≤ 57
    · rw [if_neg ((u_nlt _ _).mpr b), decide_eq_true b]; rfl
    · rw [if_pos ((u_nle _ _).mp b), decide_eq_false b]; rfl
  · rw [if_pos ((u_nle _ _).mp a), decide_eq_false a]; rfl
theorem digY {T : Nat → Nat} {L : Nat} {fi : Nat → Int32} (hy : tyY fi L T) {fs : Nat → Int32} {ga : Nat → Nat → Int32} {p : Nat} (hg : tg ga L T) (h : fs 14 = nI p) (hp : p ≤ 200) : k_X7_isDigit fi fs ga = some (bI (dg (tpk T L p))) := by
  unfold k_X7_isDigit
  rw [nextY hy hg h hp, b1_s, inD, b1_s]
theorem takeY {T : Nat → Nat} {L : Nat} {fi : Nat → Int32} (hy : tyY fi L T) {fs : Nat → Int32} {ga : Nat → Nat → Int32} {p : Nat} (hg : tg ga L T) (h : fs 14 = nI p) (hp : p ≤ 200) (c : Int32) : k_X7_takes c fi fs ga = if tpk T L p = c then some (1, upd fs 14 (nI (p + 1))) else some (0, fs) := by
  unfold k_X7_takes
  rw [nextY hy hg h hp, b1_s, h, nI_1]
theorem numY {T : Nat → Nat} {L : Nat} {fi : Nat → Int32} (hy : tyY fi L T) {fs : Nat → Int32} {ga : Nat → Nat → Int32} {p : Nat} (hg : tg ga L T) (h : fs 14 = nI p) (hp : p ≤ 150) : (spN T L p = none ∧ k_X7_takesNumber fi fs ga = some (0, fs)) ∨ ∃ n p' fs', spN T L p = some (n, p') ∧ k_X7_takesNumber fi fs ga = some (1, fs') ∧ fs' 15 = nI n ∧ fs' 14 = nI p' ∧ ∀ k, k ≠ 14 → k ≠ 15 → fs' k = fs k := by
  have ht := hy.2.2
  unfold k_X7_takesNumber spN
  rw [digY hy hg h (by omega), b1_s]
  rcases h1 : dg (tpk T L p) with _ | _
  · left
    exact ⟨if_neg (by decide), if_pos (by decide)⟩
  · right
    have a1 := dg_lt h1
    have a2 := dg_T h1 ht
    have a3 : tpk T L p = nI (T p) := if_neg (by omega)
    rw [if_pos rfl, if_neg (show ¬ bI true = 0 by decide)]
    have h' : (upd fs 15 0) 14 = nI p := h
    have e1 : k_X7_takesNumber_16 fi ga (99997 + 3) 0 (upd fs 15 0) = k_X7_takesNumber_16 fi ga (99997 + 2) 1 (upd (upd (upd fs 15 0) 15 (nI (T p - 48))) 14 (nI (p + 1))) := by
      show (if (2 : Int32) ≤ 0 then _ else b1 (k_X7_isDigit fi (upd fs 15 0) ga) _) = _
      rw [if_neg (by decide), digY hy hg h' (by omega), b1_s, h1, if_neg (show ¬ bI true = 0 by decide), nextY hy hg h' (by omega), b1_s, h', nI_1, a3]
      have : (10 : Int32) * (upd fs 15 0) 15 + nI (T p) - 48 = nI (T p - 48) := by
        rw [show (10 : Int32) * (upd fs 15 0) 15 = nI 0 from rfl, u_ab, show (48 : Int32) = nI 48 from rfl, u_sb (by omega), Nat.zero_add]
      rw [this]
      rfl
    have e1' : k_X7_takesNumber_16 fi ga 100000 0 (upd fs 15 0) = k_X7_takesNumber_16 fi ga (99997 + 2) 1 (upd (upd (upd fs 15 0) 15 (nI (T p - 48))) 14 (nI (p + 1))) := e1
    rw [e1']
    have h2' : (upd (upd (upd fs 15 0) 15 (nI (T p - 48))) 14 (nI (p + 1))) 14 = nI (p + 1) := if_pos rfl
    rcases h3 : dg (tpk T L (p + 1)) with _ | _
    · refine ⟨T p - 48, p + 1, _, if_neg (by decide), ?_, rfl, h2', fun k k1 k2 => (if_neg k1).trans ((if_neg k2).trans (if_neg k2))⟩
      show (if (2 : Int32) ≤ 1 then _ else b1 (k_X7_isDigit fi _ ga) _) = _
      rw [if_neg (by decide), digY hy hg h2' (by omega), b1_s, h3, if_pos (show bI false = 0 by decide)]
    · have b1' := dg_lt h3
      have b2' := dg_T h3 ht
      have b3' : tpk T L (p + 1) = nI (T (p + 1)) := if_neg (by omega)
      have : (10 : Int32) * (upd (upd (upd fs 15 0) 15 (nI (T p - 48))) 14 (nI (p + 1))) 15 + nI (T (p + 1)) - 48 = nI (10 * (T p - 48) + (T (p + 1) - 48)) := by
        rw [show (10 : Int32) * (upd (upd (upd fs 15 0) 15 (nI (T p - 48))) 14 (nI (p + 1))) 15 = nI 10 * nI (T p - 48) from rfl, u_ml, u_ab, show (48 : Int32) = nI 48 from rfl, u_sb (by omega)]
        congr 1; omega
      refine ⟨10 * (T p - 48) + (T (p + 1) - 48), p + 2, upd (upd (upd (upd (upd fs 15 0) 15 (nI (T p - 48))) 14 (nI (p + 1))) 15 (nI (10 * (T p - 48) + (T (p + 1) - 48)))) 14 (nI (p + 2)), if_pos rfl, ?_, rfl, if_pos rfl, fun k k1 k2 => by rw [u_up, if_neg k1, u_up, if_neg k2, u_up, if_neg k1, u_up, if_neg k2, u_up, if_neg k2]⟩
      show (if (2 : Int32) ≤ 1 then _ else b1 (k_X7_isDigit fi _ ga) _) = _
      rw [if_neg (by decide), digY hy hg h2' (by omega), b1_s, h3, if_neg (show ¬ bI true = 0 by decide), nextY hy hg h2' (by omega), b1_s, h2', nI_1, b3', this]
      show (if (2 : Int32) ≤ 1 + 1 then _ else _) = _
      rw [if_pos (by decide)]
theorem emitY {fs : Nat → Int32} {ga : Nat → Nat → Int32} {a : Nat} (v : Int32) (h : fs 24 = nI a) (ha : a < 600) : k_X7_emits v fs ga = some (upd fs 24 (nI (a + 1)), va_up ga 22 (upd (ga 22) a v)) := by
  unfold k_X7_emits
  rw [h, gd_n ha (by omega), u_cl (by omega), nI_1]
theorem settY {gs : Nat → Nat → Int32} {f c p w : Nat} {a : Int32} (hf : f < 6) (hp : p ≤ 100) {S : List Nat} (hS : ∀ x, S.head? = some x → x < 128 ∧ x ≠ 38 ∧ (x ≠ 124 ∨ a = 38)) : ∀ (P : List Nat) (m s : Nat) (fs : Nat → Int32) (ga : Nat → Nat → Int32), (∀ x, x ∈ P → x = 38 ∨ (x = 124 ∧ a ≠ 38)) → P.length < m → mS fs gs f p s w (P ++ S) → s + (P ++ S).length ≤ p → ∃ fs' ga', k_X7_settle_0 a gs m fs ga = some (fs', ga') ∧ mS fs' gs f p (s + P.length) w S ∧ mE ga ga' c (100 * f + s) (P.map opT) ∧ mF fs fs'
  | _, 0, _, _, _, _, hm, _, _ => by omega
  | [], m + 1, s, fs, ga, hP, hm, h, hs => by
    obtain ⟨h14, h24, h25, h26, hk⟩ := h
    refine ⟨fs, ga, ?_, ⟨h14, h24, h25, h26, hk⟩, mE_0 _ _ _, mF_r _⟩
    simp only [k_X7_settle_0]
    rcases S with _ | ⟨x, S⟩
    · rw [h25]
      exact if_pos (show nI 0 ≤ 0 by decide)
    · obtain ⟨x1, x2, x3⟩ := hS x rfl
      have hl : S.length < 101 := by simp at hs; omega
      rw [h25]
      show (if nI (S.length + 1) ≤ 0 then _ else _) = _
      rw [if_neg (show ¬ nI (S.length + 1) ≤ 0 from nI_ge (a := 0) (by omega) (by omega))]
      show gd (nI (S.length + 1) - 1) 101 (if gs 23 (nI (S.length + 1) - 1).toNatClampNeg = 38 then _ else gd (nI (S.length + 1) - 1) 101 (if gs 23 (nI (S.length + 1) - 1).toNatClampNeg = 124 then _ else _)) = _
      rw [u_ps, gd_n hl (by omega), gd_n hl (by omega), u_cl (by omega), hk.1, if_neg (show ¬ nI x = 38 from fun e => x2 ((u_ei (b := 38) (by omega) (by omega)).mp e))]
      by_cases c1 : x = 124
      · rw [if_pos (show nI x = 124 by rw [c1]; rfl), if_pos (by rcases x3 with h | h; exact absurd c1 h; exact h)]
      · rw [if_neg (show ¬ nI x = 124 from fun e => c1 ((u_ei (b := 124) (by omega) (by omega)).mp e))]
  | x :: P, m + 1, s, fs, ga, hP, hm, h, hs => by
    obtain ⟨h14, h24, h25, h26, hk⟩ := h
    have hl : (P ++ S).length < 101 := by simp at hs ⊢; omega
    have hx := hP x (List.mem_cons_self ..)
    have hlen : (x :: P ++ S).length = (P ++ S).length + 1 := rfl
    rw [hlen] at h25 hs
    obtain ⟨fs', ga', e1, e2, e3, e4⟩ := settY (c := c) hf hp hS P m (s + 1) (upd (upd fs 25 (nI (P ++ S).length)) 24 (nI (100 * f + s + 1))) (va_up ga 22 (upd (ga 22) (100 * f + s) (-(nI x)))) (fun y hy => hP y (List.mem_cons_of_mem _ hy)) (by simp at hm; omega) ⟨h14, rfl, rfl, h26, hk.2⟩ (by omega)
    refine ⟨fs', ga', ?_, ?_, mE_t (A := [opT x]) (mE_e ga c (100 * f + s) (opT x) (-(nI x)) ?_) e3, mF_t (mF_t (mF_u _ 25 _ (by omega)) (mF_u _ 24 _ (by omega))) e4⟩
    · simp only [k_X7_settle_0, k_X7_settle_45]
      rw [h25, if_neg (show ¬ nI ((P ++ S).length + 1) ≤ 0 from nI_ge (a := 0) (by omega) (by omega))]
      simp only [u_ps]
      have g1 : ∀ {α : Type} (o : Option α), gd (nI (P ++ S).length) 101 o = o := fun o => gd_n hl (by omega)
      simp only [g1]
      have hk1 : gs 23 (P ++ S).length = nI x := hk.1
      rw [u_cl (by omega), hk1, emitY (a := 100 * f + s) (fs := upd fs 25 (nI (P ++ S).length)) _ h24 (by omega), b2_s]
      rcases hx with hx | ⟨hx, ha⟩
      · rw [if_pos (show nI x = 38 by rw [hx]; rfl)]
        exact e1
      · rw [if_neg (show ¬ nI x = 38 by rw [hx]; decide), if_pos (show nI x = 124 by rw [hx]; rfl), if_neg ha]
        exact e1
    · rw [show s + (x :: P).length = s + 1 + P.length by simp; omega]
      exact e2
    · rcases hx with hx | ⟨hx, _⟩
      · rw [hx]; decide
      · rw [hx]; decide
theorem wholY {gs : Nat → Nat → Int32} {f p s w m : Nat} {fs : Nat → Int32} {ga : Nat → Nat → Int32} {S : List Nat} (hp : p ≤ 100) (h : mS fs gs f p s w S) (hs : S.length ≤ p) (hS : ∀ x, S.head? = some x → x < 128 ∧ x ≠ 33) : k_X7_whole_0 gs (m + 1) fs ga = some (fs, ga) := by
  obtain ⟨h14, h24, h25, h26, hk⟩ := h
  simp only [k_X7_whole_0]
  rcases S with _ | ⟨x, S⟩
  · rw [h25, if_pos (show nI ([] : List Nat).length ≤ 0 by decide)]
  · obtain ⟨x1, x2⟩ := hS x rfl
    have hl : S.length < 101 := by simp at hs; omega
    rw [h25]
    show (if nI (S.length + 1) ≤ 0 then _ else gd (nI (S.length + 1) - 1) 101 (if gs 23 (nI (S.length + 1) - 1).toNatClampNeg = 33 then _ else _)) = _
    rw [if_neg (show ¬ nI (S.length + 1) ≤ 0 from nI_ge (a := 0) (by omega) (by omega)), u_ps, gd_n hl (by omega), u_cl (by omega), hk.1, if_neg (show ¬ nI x = 33 from fun e => x2 ((u_ei (b := 33) (by omega) (by omega)).mp e))]
theorem wholN {gs : Nat → Nat → Int32} {f c p s w m : Nat} {fs : Nat → Int32} {ga : Nat → Nat → Int32} {S : List Nat} (hf : f < 6) (hp : p ≤ 100) (h : mS fs gs f p s (w + 1) (33 :: S)) (hs : s + S.length + 1 ≤ p) : ∃ fs' ga', k_X7_whole_0 gs (m + 1) fs ga = k_X7_whole_0 gs m fs' ga' ∧ mS fs' gs f p (s + 1) w S ∧ mE ga ga' c (100 * f + s) [0] ∧ mF fs fs' := by
  obtain ⟨h14, h24, h25, h26, hk⟩ := h
  refine ⟨upd (upd (upd fs 24 (nI (100 * f + s + 1))) 25 (nI S.length)) 26 (nI w), va_up ga 22 (upd (ga 22) (100 * f + s) (-33)), ?_, ⟨h14, rfl, rfl, rfl, hk.2⟩, mE_e _ _ _ 0 _ rfl, mF_t (mF_t (mF_u _ 24 _ (by omega)) (mF_u _ 25 _ (by omega))) (mF_u _ 26 _ (by omega))⟩
  simp only [k_X7_whole_0]
  have h25' : fs 25 = nI (S.length + 1) := h25
  rw [h25', if_neg (show ¬ nI (S.length + 1) ≤ 0 from nI_ge (a := 0) (by omega) (by omega)), u_ps, gd_n (by omega) (by omega), u_cl (by omega), hk.1, if_pos (show nI 33 = 33 from rfl), emitY (a := 100 * f + s) _ h24 (by omega), b2_s]
  have e1 : (upd fs 24 (nI (100 * f + s + 1))) 25 - 1 = nI S.length := by show fs 25 - 1 = _; rw [h25', u_ps]
  have e2 : (upd fs 24 (nI (100 * f + s + 1))) 26 - 1 = nI w := by show fs 26 - 1 = _; rw [h26, u_ps]
  rw [e1, e2]
def rdM (T : Nat → Nat) (L : Nat) (fi : Nat → Int32) (f c : Nat) (kF : Nat → Bool × Nat × List Nat) (w n : Nat) : Prop := ∀ (N p s : Nat) (fs : Nat → Int32) (ga : Nat → Nat → Int32) (gs : Nat → Nat → Int32) (S : List Nat), tg ga L T → mS fs gs f p s w S → p ≤ L → s + S.length ≤ p → L + 3 ≤ N + p → ((kF p).1 = true → ∃ N' m fs' ga' gs', k_X7_takesE_22 (nI c) fi N 1 fs ga gs = b2 (k_X7_whole_0 gs' m fs' ga') (fun fs2 ga2 => k_X7_takesE_22 (nI c) fi N' 0 fs2 ga2 gs') ∧ L + 3 ≤ N' + (kF p).2.1 ∧ 99990 ≤ m + n ∧ mS fs' gs' f (kF p).2.1 (s + (kF p).2.2.length) w S ∧ mE ga ga' c (100 * f + s) (kF p).2.2 ∧ mF fs fs') ∧ ((kF p).1 = false → ∃ fs' ga' gs', k_X7_takesE_22 (nI c) fi N 1 fs ga gs = some (0, fs', ga', gs') ∧ fs' 14 = nI (kF p).2.1 ∧ mE ga ga' c (100 * f + s) [] ∧ mF fs fs')
theorem E22_op {T : Nat → Nat} {L : Nat} {fi : Nat → Int32} (hy : tyY fi L T) {c : Nat} {N p : Nat} {fs : Nat → Int32} {ga gs : Nat → Nat → Int32} (hg : tg ga L T) (h : fs 14 = nI p) (hp : p ≤ 200) {x : Int32} (hx : tpk T L p = x) (h2 : x = 38 ∨ x = 124) : k_X7_takesE_22 (nI c) fi (N + 1) 0 fs ga gs = k_X7_takesE_122 (k_X7_takesE_22 (nI c) fi N) x fs ga gs := by
  simp only [k_X7_takesE_22]
  rw [nextY hy hg h hp, b1_s, hx, if_pos trivial]
  rcases h2 with h2 | h2
  · rw [if_pos h2]
  · rw [if_neg (show ¬ x = 38 by rw [h2]; decide), if_pos h2]
theorem bLoop {T : Nat → Nat} {L : Nat} {fi : Nat → Int32} (hy : tyY fi L T) {f c w n m : Nat} (hf : f < 6) {kS : Nat → Bool × Nat × List Nat} (hK : spK L m kS) (hF : rdM T L fi f c kS w n) (hn : n ≤ 10) {Q : List Nat} (hQ : ∀ x, Q.head? = some x → x < 128 ∧ x ≠ 38 ∧ x ≠ 33) : ∀ (r k N p s : Nat) (fs : Nat → Int32) (ga : Nat → Nat → Int32) (gs : Nat → Nat → Int32), tg ga L T → mS fs gs f p s w (if k = 0 then Q else 38 :: Q) → p ≤ L → s + (if k = 0 then Q else 38 :: Q).length ≤ p → L + 3 ≤ N + p → L < r + p → ((spL T L kS 38 1 r k p).1 = true → ∃ N' fs' ga' gs' P Ls1, k_X7_takesE_22 (nI c) fi N 1 fs ga gs = k_X7_takesE_22 (nI c) fi N' 0 fs' ga' gs' ∧ (P = [] ∨ P = [38]) ∧ Ls1 ++ P.map opT = (spL T L kS 38 1 r k p).2.2 ∧ L + 3 ≤ N' + (spL T L kS 38 1 r k p).2.1 ∧ mS fs' gs' f (spL T L kS 38 1 r k p).2.1 (s + Ls1.length) w (P ++ Q) ∧ mE ga ga' c (100 * f + s) Ls1 ∧ mF fs fs' ∧ tpk T L (spL T L kS 38 1 r k p).2.1 ≠ 38 ∧ s + Ls1.length + (P ++ Q).length ≤ (spL T L kS 38 1 r k p).2.1) ∧ ((spL T L kS 38 1 r k p).1 = false → ∃ fs' ga' gs', k_X7_takesE_22 (nI c) fi N 1 fs ga gs = some (0, fs', ga', gs') ∧ fs' 14 = nI (spL T L kS 38 1 r k p).2.1 ∧ mE ga ga' c (100 * f + s) [] ∧ mF fs fs')
  | 0, k, N, p, s, fs, ga, gs, hg, h, hp, hs, hN, hr => by omega
  | r + 1, k, N, p, s, fs, ga, gs, hg, h, hp, hs, hN, hr => by
    have hL := hy.1
    obtain ⟨g1, g2⟩ := hF N p s fs ga gs _ hg h hp hs hN
    by_cases ho : (kS p).1 = true
    rotate_left
    · have ho' : (kS p).1 = false := by simpa using ho
      have ex : spL T L kS 38 1 (r + 1) k p = (false, (kS p).2.1, []) := by rw [spL, if_neg ho]
      rw [ex]
      exact ⟨fun h => (by cases h), fun _ => g2 ho'⟩
    obtain ⟨q1, q2, q3, _, _⟩ := hK p ho
    obtain ⟨N1, m1, fs1, ga1, gs1, e1, e2, e3, e4, e5, e6⟩ := g1 ho
    obtain ⟨m2, rfl⟩ : ∃ m2, m1 = m2 + 1 := ⟨m1 - 1, by omega⟩
    rw [wholY (by omega) e4 (by omega) (by
      intro x hx
      by_cases k0 : k = 0
      · rw [if_pos k0] at hx; exact ⟨(hQ x hx).1, (hQ x hx).2.2⟩
      · rw [if_neg k0] at hx
        have : 38 = x := Option.some.inj hx
        omega), b2_s] at e1
    have hg1 := mE_g e5 hg
    generalize hC : kS p = C at *
    obtain ⟨ok, p1, F⟩ := C
    dsimp only at *
    by_cases hq : tpk T L p1 = 38
    rotate_left
    · have ex : spL T L kS 38 1 (r + 1) k p = (true, p1, if k = 0 then F else F ++ [1]) := by rw [spL, hC, if_pos ho, if_neg hq]
      rw [ex]
      refine ⟨fun _ => ⟨N1, fs1, ga1, gs1, if k = 0 then [] else [38], F, e1, ?_, ?_, e2, ?_, e5, e6, hq, ?_⟩, fun h => (by cases h)⟩
      · by_cases k0 : k = 0
        · rw [if_pos k0]; exact Or.inl rfl
        · rw [if_neg k0]; exact Or.inr rfl
      · by_cases k0 : k = 0
        · simp [k0]
        · simp [k0, opT]
      · by_cases k0 : k = 0
        · simp only [k0, if_true] at e4 ⊢; exact e4
        · simp only [if_neg k0] at e4 ⊢; exact e4
      · by_cases k0 : k = 0
        · simp only [k0, if_true] at hs ⊢; simp; omega
        · simp only [if_neg k0] at hs ⊢; simp at hs ⊢; omega
    have hlt := tpk_lt (c := 38) (by omega) hq
    have ex : spL T L kS 38 1 (r + 1) k p = ((spL T L kS 38 1 r (k + 1) (p1 + 1)).1, (spL T L kS 38 1 r (k + 1) (p1 + 1)).2.1, (if k = 0 then F else F ++ [1]) ++ (spL T L kS 38 1 r (k + 1) (p1 + 1)).2.2) := by rw [spL, hC, if_pos ho, if_pos hq]
    rw [ex]
    obtain ⟨N2, rfl⟩ : ∃ N2, N1 = N2 + 1 := ⟨N1 - 1, by omega⟩
    rw [E22_op hy hg1 e4.1 (by omega) hq (Or.inl rfl)] at e1
    have hsw : ∃ fs2 ga2, k_X7_settle 38 fs1 ga1 gs1 = some (fs2, ga2) ∧ mS fs2 gs1 f p1 (s + (if k = 0 then F else F ++ [1]).length) w Q ∧ mE ga ga2 c (100 * f + s) (if k = 0 then F else F ++ [1]) ∧ mF fs fs2 := by
      by_cases k0 : k = 0
      · rw [if_pos k0] at e4 hs
        obtain ⟨fs2, ga2, w1, w2, w3, w4⟩ := settY (c := c) (a := 38) hf (show p1 ≤ 100 by omega) (S := Q) (fun x hx => ⟨(hQ x hx).1, (hQ x hx).2.1, Or.inr rfl⟩) [] 100000 (s + F.length) fs1 ga1 (fun x hx => by cases hx) (by simp) e4 (by simp; omega)
        refine ⟨fs2, ga2, w1, ?_, ?_, mF_t e6 w4⟩
        · rw [if_pos k0]; exact w2
        · rw [if_pos k0]
          have := mE_t e5 (by rw [Nat.add_assoc]; exact w3)
          rw [show F ++ List.map opT [] = F by simp] at this
          exact this
      · rw [if_neg k0] at e4 hs
        obtain ⟨fs2, ga2, w1, w2, w3, w4⟩ := settY (c := c) (a := 38) hf (show p1 ≤ 100 by omega) (S := Q) (fun x hx => ⟨(hQ x hx).1, (hQ x hx).2.1, Or.inr rfl⟩) [38] 100000 (s + F.length) fs1 ga1 (fun x hx => Or.inl (by simpa using hx)) (by simp) e4 (by simp at hs ⊢; omega)
        refine ⟨fs2, ga2, w1, ?_, ?_, mF_t e6 w4⟩
        · rw [if_neg k0, List.length_append, ← Nat.add_assoc]; exact w2
        · rw [if_neg k0]
          exact mE_t e5 (by rw [Nat.add_assoc]; exact w3)
    obtain ⟨fs2, ga2, w1, w2, w3, w4⟩ := hsw
    unfold k_X7_takesE_122 at e1
    obtain ⟨v14, v24, v25, v26, vk⟩ := w2
    have hQl : Q.length < 101 := by
      by_cases k0 : k = 0
      · rw [if_pos k0] at hs; omega
      · rw [if_neg k0] at hs; simp at hs; omega
    have hsl : s + (if k = 0 then F else F ++ [1]).length + Q.length ≤ p1 := by
      by_cases k0 : k = 0
      · rw [if_pos k0] at hs ⊢; omega
      · rw [if_neg k0] at hs ⊢; simp at hs ⊢; omega
    rw [w1, b2_s, v25, gd_n hQl (by omega), u_cl (by omega), nI_1, v14, nI_1] at e1
    obtain ⟨i1, i2⟩ := bLoop hy hf hK hF hn hQ r (k + 1) N2 (p1 + 1) (s + (if k = 0 then F else F ++ [1]).length) (upd (upd fs2 25 (nI (Q.length + 1))) 14 (nI (p1 + 1))) ga2 (va_up gs1 23 (upd (gs1 23) Q.length 38)) (mE_g w3 hg) (by rw [if_neg (show ¬ k + 1 = 0 by omega)]; exact ⟨rfl, v24, rfl, v26, stk_p rfl vk⟩) (by omega) (by rw [if_neg (show ¬ k + 1 = 0 by omega), List.length_cons]; omega) (by omega) (by omega)
    have hF2 : mF fs (upd (upd fs2 25 (nI (Q.length + 1))) 14 (nI (p1 + 1))) := mF_t w4 (mF_t (mF_u _ 25 _ (by omega)) (mF_u _ 14 _ (by omega)))
    refine ⟨fun hh => ?_, fun hh => ?_⟩
    · obtain ⟨N', fs', ga', gs', P, Ls1, j1, j2, j3, j4, j5, j6, j7, j8, j9⟩ := i1 hh
      refine ⟨N', fs', ga', gs', P, (if k = 0 then F else F ++ [1]) ++ Ls1, e1.trans j1, j2, ?_, j4, ?_, mE_t w3 (by rw [Nat.add_assoc]; exact j6), mF_t hF2 j7, j8, ?_⟩
      · rw [List.append_assoc, j3]
      · rw [List.length_append, ← Nat.add_assoc]; exact j5
      · rw [List.length_append, ← Nat.add_assoc]; exact j9
    · obtain ⟨fs', ga', gs', j1, j2, j3, j4⟩ := i2 hh
      exact ⟨fs', ga', gs', e1.trans j1, j2, mE_f w3 (by rw [Nat.add_assoc]; exact j3), mF_t hF2 j4⟩
theorem eLoop {T : Nat → Nat} {L : Nat} {fi : Nat → Int32} (hy : tyY fi L T) {f c w n m : Nat} (hf : f < 6) {kS : Nat → Bool × Nat × List Nat} (hK : spK L m kS) (hF : rdM T L fi f c kS w n) (hn : n ≤ 10) {Q : List Nat} (hQ : ∀ x, Q.head? = some x → x < 128 ∧ x ≠ 38 ∧ x ≠ 124 ∧ x ≠ 33) : ∀ (r k N p s : Nat) (fs : Nat → Int32) (ga : Nat → Nat → Int32) (gs : Nat → Nat → Int32), tg ga L T → mS fs gs f p s w (if k = 0 then Q else 124 :: Q) → p ≤ L → s + (if k = 0 then Q else 124 :: Q).length ≤ p → L + 3 ≤ N + p → L < r + p → 0 < p → ((spL T L (spB T L kS) 124 2 r k p).1 = true → ∃ N' fs' ga' gs' P Ls1, k_X7_takesE_22 (nI c) fi N 1 fs ga gs = k_X7_takesE_22 (nI c) fi N' 0 fs' ga' gs' ∧ (∀ x, x ∈ P → x = 38 ∨ x = 124) ∧ P.length ≤ 2 ∧ Ls1 ++ P.map opT = (spL T L (spB T L kS) 124 2 r k p).2.2 ∧ L + 3 ≤ N' + (spL T L (spB T L kS) 124 2 r k p).2.1 ∧ mS fs' gs' f (spL T L (spB T L kS) 124 2 r k p).2.1 (s + Ls1.length) w (P ++ Q) ∧ mE ga ga' c (100 * f + s) Ls1 ∧ mF fs fs' ∧ tpk T L (spL T L (spB T L kS) 124 2 r k p).2.1 ≠ 38 ∧ tpk T L (spL T L (spB T L kS) 124 2 r k p).2.1 ≠ 124 ∧ s + Ls1.length + (P ++ Q).length ≤ (spL T L (spB T L kS) 124 2 r k p).2.1) ∧ ((spL T L (spB T L kS) 124 2 r k p).1 = false → ∃ fs' ga' gs', k_X7_takesE_22 (nI c) fi N 1 fs ga gs = some (0, fs', ga', gs') ∧ fs' 14 = nI (spL T L (spB T L kS) 124 2 r k p).2.1 ∧ mE ga ga' c (100 * f + s) [] ∧ mF fs fs')
  | 0, k, N, p, s, fs, ga, gs, hg, h, hp, hs, hN, hr, h0 => by omega
  | r + 1, k, N, p, s, fs, ga, gs, hg, h, hp, hs, hN, hr, h0 => by
    have hL := hy.1
    obtain ⟨g1, g2⟩ := bLoop hy hf hK hF hn (Q := if k = 0 then Q else 124 :: Q) (by
      intro x hx
      by_cases k0 : k = 0
      · rw [if_pos k0] at hx; exact ⟨(hQ x hx).1, (hQ x hx).2.1, (hQ x hx).2.2.2⟩
      · rw [if_neg k0] at hx
        have : 124 = x := Option.some.inj hx
        omega) 100 0 N p s fs ga gs hg h hp hs hN (by omega)
    have hB : spL T L kS 38 1 100 0 p = spB T L kS p := rfl
    rw [hB] at g1 g2
    by_cases ho : (spB T L kS p).1 = true
    rotate_left
    · have ho' : (spB T L kS p).1 = false := by simpa using ho
      have ex : spL T L (spB T L kS) 124 2 (r + 1) k p = (false, (spB T L kS p).2.1, []) := by rw [spL, if_neg ho]
      rw [ex]
      exact ⟨fun h => (by cases h), fun _ => g2 ho'⟩
    obtain ⟨q1, q2, q3, _, _⟩ := spB_ok (T := T) hK p ho
    obtain ⟨N1, fs1, ga1, gs1, P1, L1, e1, e2, e3, e4, e5, e6, e7, e8, e9⟩ := g1 ho
    have hg1 := mE_g e6 hg
    clear hB
    generalize hC : spB T L kS p = C at *
    obtain ⟨ok, p1, F⟩ := C
    dsimp only at *
    by_cases hq : tpk T L p1 = 124
    rotate_left
    · have ex : spL T L (spB T L kS) 124 2 (r + 1) k p = (true, p1, if k = 0 then F else F ++ [2]) := by rw [spL, hC, if_pos ho, if_neg hq]
      rw [ex]
      refine ⟨fun _ => ⟨N1, fs1, ga1, gs1, P1 ++ (if k = 0 then [] else [124]), L1, e1, ?_, ?_, ?_, e4, ?_, e6, e7, e8, hq, ?_⟩, fun h => (by cases h)⟩
      · intro x hx
        rcases List.mem_append.mp hx with h | h
        · rcases e2 with e2 | e2
          · rw [e2] at h; cases h
          · rw [e2] at h; left; simpa using h
        · by_cases k0 : k = 0
          · rw [if_pos k0] at h; cases h
          · rw [if_neg k0] at h; right; simpa using h
      · rcases e2 with e2 | e2
        · rw [e2]; split <;> simp
        · rw [e2]; split <;> simp
      · by_cases k0 : k = 0
        · simp [k0, e3]
        · simp [k0, opT, ← e3]
      · by_cases k0 : k = 0
        · simp only [k0, if_true, List.append_nil] at e5 ⊢; exact e5
        · simp only [if_neg k0] at e5 ⊢
          rw [List.append_assoc]; exact e5
      · by_cases k0 : k = 0
        · simp only [k0, if_true, List.append_nil] at e9 ⊢; exact e9
        · simp only [if_neg k0] at e9 ⊢
          rw [List.append_assoc]; exact e9
    have hlt := tpk_lt (c := 124) (by omega) hq
    have ex : spL T L (spB T L kS) 124 2 (r + 1) k p = ((spL T L (spB T L kS) 124 2 r (k + 1) (p1 + 1)).1, (spL T L (spB T L kS) 124 2 r (k + 1) (p1 + 1)).2.1, (if k = 0 then F else F ++ [2]) ++ (spL T L (spB T L kS) 124 2 r (k + 1) (p1 + 1)).2.2) := by rw [spL, hC, if_pos ho, if_pos hq]
    rw [ex]
    obtain ⟨N2, rfl⟩ : ∃ N2, N1 = N2 + 1 := ⟨N1 - 1, by omega⟩
    rw [E22_op hy hg1 e5.1 (by omega) hq (Or.inr rfl)] at e1
    have hsw : ∃ fs2 ga2, k_X7_settle 124 fs1 ga1 gs1 = some (fs2, ga2) ∧ mS fs2 gs1 f p1 (s + (if k = 0 then F else F ++ [2]).length) w Q ∧ mE ga ga2 c (100 * f + s) (if k = 0 then F else F ++ [2]) ∧ mF fs fs2 ∧ s + (if k = 0 then F else F ++ [2]).length + Q.length ≤ p1 := by
      have hP1 : ∀ x, x ∈ P1 → x = 38 ∨ (x = 124 ∧ (124 : Int32) ≠ 38) := by
        intro x hx
        rcases e2 with e2 | e2
        · rw [e2] at hx; cases hx
        · rw [e2] at hx; left; simpa using hx
      have hl1 : P1.length ≤ 1 := by rcases e2 with e2 | e2 <;> rw [e2] <;> simp
      have hFl : L1.length + P1.length = F.length := by rw [← e3, List.length_append, List.length_map]
      by_cases k0 : k = 0
      · rw [if_pos k0] at e5 hs e9
        obtain ⟨fs2, ga2, w1, w2, w3, w4⟩ := settY (c := c) (a := 124) hf (show p1 ≤ 100 by omega) (S := Q) (fun x hx => ⟨(hQ x hx).1, (hQ x hx).2.1, Or.inl (hQ x hx).2.2.1⟩) P1 100000 (s + L1.length) fs1 ga1 hP1 (by omega) e5 (by omega)
        refine ⟨fs2, ga2, w1, ?_, ?_, mF_t e7 w4, ?_⟩
        · rw [if_pos k0, ← hFl, ← Nat.add_assoc]; exact w2
        · rw [if_pos k0, ← e3]
          exact mE_t e6 (by rw [Nat.add_assoc]; exact w3)
        · rw [if_pos k0]; rw [List.length_append] at e9; omega
      · rw [if_neg k0] at e5 hs e9
        rw [show P1 ++ 124 :: Q = (P1 ++ [124]) ++ Q by simp] at e5 e9
        obtain ⟨fs2, ga2, w1, w2, w3, w4⟩ := settY (c := c) (a := 124) hf (show p1 ≤ 100 by omega) (S := Q) (fun x hx => ⟨(hQ x hx).1, (hQ x hx).2.1, Or.inl (hQ x hx).2.2.1⟩) (P1 ++ [124]) 100000 (s + L1.length) fs1 ga1 (fun x hx => by
          rcases List.mem_append.mp hx with h | h
          · exact hP1 x h
          · right; exact ⟨by simpa using h, by decide⟩) (by simp; omega) e5 (by omega)
        refine ⟨fs2, ga2, w1, ?_, ?_, mF_t e7 w4, ?_⟩
        · rw [if_neg k0]
          have e9' : s + (F ++ [2]).length = s + L1.length + (P1 ++ [124]).length := by
            rw [List.length_append, List.length_append, List.length_singleton, List.length_singleton]; omega
          rw [e9']
          exact w2
        · rw [if_neg k0]
          have := mE_t e6 (by rw [Nat.add_assoc]; exact w3)
          rw [show L1 ++ List.map opT (P1 ++ [124]) = F ++ [2] by rw [← e3]; simp [opT]] at this
          exact this
        · rw [if_neg k0]; simp at e9 ⊢; omega
    obtain ⟨fs2, ga2, w1, w2, w3, w4, hsl⟩ := hsw
    unfold k_X7_takesE_122 at e1
    obtain ⟨v14, v24, v25, v26, vk⟩ := w2
    have hQl : Q.length < 101 := by omega
    rw [w1, b2_s, v25, gd_n hQl (by omega), u_cl (by omega), nI_1, v14, nI_1] at e1
    obtain ⟨i1, i2⟩ := eLoop hy hf hK hF hn hQ r (k + 1) N2 (p1 + 1) (s + (if k = 0 then F else F ++ [2]).length) (upd (upd fs2 25 (nI (Q.length + 1))) 14 (nI (p1 + 1))) ga2 (va_up gs1 23 (upd (gs1 23) Q.length 124)) (mE_g w3 hg) (by rw [if_neg (show ¬ k + 1 = 0 by omega)]; exact ⟨rfl, v24, rfl, v26, stk_p rfl vk⟩) (by omega) (by rw [if_neg (show ¬ k + 1 = 0 by omega), List.length_cons]; omega) (by omega) (by omega) (by omega)
    have hF2 : mF fs (upd (upd fs2 25 (nI (Q.length + 1))) 14 (nI (p1 + 1))) := mF_t w4 (mF_t (mF_u _ 25 _ (by omega)) (mF_u _ 14 _ (by omega)))
    refine ⟨fun hh => ?_, fun hh => ?_⟩
    · obtain ⟨N', fs', ga', gs', P, Ls1, j1, j2, j2', j3, j4, j5, j6, j7, j8, j8', j9⟩ := i1 hh
      refine ⟨N', fs', ga', gs', P, (if k = 0 then F else F ++ [2]) ++ Ls1, e1.trans j1, j2, j2', ?_, j4, ?_, mE_t w3 (by rw [Nat.add_assoc]; exact j6), mF_t hF2 j7, j8, j8', ?_⟩
      · rw [List.append_assoc, j3]
      · rw [List.length_append, ← Nat.add_assoc]; exact j5
      · rw [List.length_append, ← Nat.add_assoc]; exact j9
    · obtain ⟨fs', ga', gs', j1, j2, j3, j4⟩ := i2 hh
      exact ⟨fs', ga', gs', e1.trans j1, j2, mE_f w3 (by rw [Nat.add_assoc]; exact j3), mF_t hF2 j4⟩

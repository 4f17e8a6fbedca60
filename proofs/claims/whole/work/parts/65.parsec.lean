
def txX (xs : Nat → Int32) (L : Nat) (T : Nat → Nat) : Prop := L ≤ 100 ∧ (∀ k, k < L → xs k = nI (T k)) ∧ ∀ k, k < L → T k < 128
def cSt (xf xf' : Nat → Int32) (p : Nat) : Prop := xf' 2 = nI p ∧ ∀ k, k ≠ 2 → xf' k = xf k
def cEm (cif cif' : Nat → Int32) (cig cig' : Nat → Nat → Int32) (s : Nat) (Ls : List Nat) : Prop := cif' 2 = nI (s + Ls.length) ∧ (∀ k, k ≠ 2 → cif' k = cif k) ∧ cRl cig' s Ls ∧ (∀ a, a < s → cig' 6 a = cig 6 a ∧ cig' 7 a = cig 7 a ∧ cig' 8 a = cig 8 a) ∧ ∀ k, k ≠ 6 → k ≠ 7 → k ≠ 8 → cig' k = cig k
theorem cSt_r {xf : Nat → Int32} {p : Nat} (h : xf 2 = nI p) : cSt xf xf p := ⟨h, fun _ _ => rfl⟩
theorem cSt_u {xf : Nat → Int32} (p : Nat) : cSt xf (upd xf 2 (nI p)) p := ⟨if_pos rfl, fun _ h => if_neg h⟩
theorem cSt_t {x y z : Nat → Int32} {p q : Nat} (a : cSt x y p) (b : cSt y z q) : cSt x z q := ⟨b.1, fun k h => (b.2 k h).trans (a.2 k h)⟩
theorem cRl_app {cig : Nat → Nat → Int32} : ∀ (A : List Nat) {B : List Nat} {a : Nat}, cRl cig a A → cRl cig (a + A.length) B → cRl cig a (A ++ B)
  | [], B, a, _, h => h
  | t :: A, B, a, h, h2 => ⟨h.1, cRl_app A h.2 (by rw [show a + 1 + A.length = a + (t :: A).length by simp; omega]; exact h2)⟩
theorem cRl_cg {cig cig' : Nat → Nat → Int32} : ∀ {A : List Nat} {a : Nat}, (∀ k, k < a + A.length → cig' 6 k = cig 6 k ∧ cig' 7 k = cig 7 k ∧ cig' 8 k = cig 8 k) → cRl cig a A → cRl cig' a A
  | [], a, _, _ => trivial
  | t :: A, a, e, h => by
    obtain ⟨e1, e2, e3⟩ := e a (by simp)
    refine ⟨by rw [e1, e2, e3]; exact h.1, cRl_cg (fun k hk => e k (by simp; omega)) h.2⟩
theorem cEm_t {c0 c1 c2 : Nat → Int32} {g0 g1 g2 : Nat → Nat → Int32} {s : Nat} {A B : List Nat} (h1 : cEm c0 c1 g0 g1 s A) (h2 : cEm c1 c2 g1 g2 (s + A.length) B) : cEm c0 c2 g0 g2 s (A ++ B) := by
  obtain ⟨a1, a2, a3, a4, a5⟩ := h1
  obtain ⟨b1, b2, b3, b4, b5⟩ := h2
  refine ⟨by rw [b1, List.length_append, Nat.add_assoc], fun k hk => (b2 k hk).trans (a2 k hk), cRl_app A (cRl_cg b4 a3) b3, fun a ha => ?_, fun k k6 k7 k8 => (b5 k k6 k7 k8).trans (a5 k k6 k7 k8)⟩
  obtain ⟨x1, x2, x3⟩ := a4 a ha
  obtain ⟨y1, y2, y3⟩ := b4 a (by omega)
  exact ⟨y1.trans x1, y2.trans x2, y3.trans x3⟩
theorem cEm_0 {c0 : Nat → Int32} {g0 : Nat → Nat → Int32} {s : Nat} (h : c0 2 = nI s) : cEm c0 c0 g0 g0 s [] := ⟨h, fun _ _ => rfl, trivial, fun _ _ => ⟨rfl, rfl, rfl⟩, fun _ _ _ _ => rfl⟩
theorem aheadX {T : Nat → Nat} {L : Nat} {xs : Nat → Int32} (hx : txX xs L T) {xf : Nat → Int32} {p : Nat} (h0 : xf 0 = nI L) (h2 : xf 2 = nI p) (hp : p ≤ 200) : k_X5_ahead xf xs = some (tpk T L p) := by
  unfold k_X5_ahead tpk
  have := hx.1
  rw [h0, h2]
  by_cases c : L ≤ p
  · rw [if_pos (nI_le c (by omega)), if_pos c]
  · rw [if_neg (nI_ge (by omega) (by omega)), if_neg c, gd_n (by omega) (by omega), u_cl (by omega), hx.2.1 p (by omega)]
theorem stepX {cif : Nat → Int32} {cig : Nat → Nat → Int32} {s : Nat} (tk : Nat) (d : Int32) (htk : cRt tk d 0 0 ∧ tk ≤ 2) (h : cif 2 = nI s) (hs : s < 100) : ∃ cif' cig', k_X2_addStep d cif cig = some (1, cif', cig') ∧ cEm cif cif' cig cig' s [tk] := by
  unfold k_X2_addStep
  rw [h, if_pos (show nI s < 100 from nI_lt (b := 100) hs (by omega)), gd_n hs (by omega), u_cl (by omega), nI_1]
  refine ⟨_, _, rfl, if_pos rfl, fun k hk => if_neg hk, ⟨?_, trivial⟩, fun a ha => ⟨?_, rfl, rfl⟩, fun k k6 _ _ => if_neg k6⟩
  · rw [va_up_self, u_up, if_pos rfl]
    have ht := htk.1
    unfold cRt at ht ⊢
    by_cases e0 : tk = 0
    · rw [if_pos e0] at ht ⊢; exact ht
    · rw [if_neg e0] at ht ⊢
      by_cases e1 : tk = 1
      · rw [if_pos e1] at ht ⊢; exact ht
      · rw [if_neg e1] at ht ⊢
        by_cases e2 : tk = 2
        · rw [if_pos e2] at ht ⊢; exact ht
        · omega
  · rw [va_up_self, u_up, if_neg (by omega)]
theorem takeX {T : Nat → Nat} {L : Nat} {xs : Nat → Int32} (hx : txX xs L T) {xf : Nat → Int32} {p : Nat} (h0 : xf 0 = nI L) (h2 : xf 2 = nI p) (hp : p ≤ 200) (c : Int32) : k_X5_take c xf xs = if tpk T L p = c then some (1, upd xf 2 (nI (p + 1))) else some (0, xf) := by
  unfold k_X5_take
  rw [aheadX hx h0 h2 hp, b1_s, h2, nI_1]
theorem numX {T : Nat → Nat} {L : Nat} {xs : Nat → Int32} (hx : txX xs L T) {xf : Nat → Int32} {p : Nat} (h0 : xf 0 = nI L) (h2 : xf 2 = nI p) (hp : p ≤ 150) : (spN T L p = none ∧ k_X5_readNumber xf xs = some (-1, xf)) ∨ ∃ n p' xf', spN T L p = some (n, p') ∧ k_X5_readNumber xf xs = some (nI n, xf') ∧ cSt xf xf' p' := by
  have ht := hx.2.2
  have key : ∀ {y : Int32}, dg y = false → y < 48 ∨ ¬ y ≤ 57 := fun {y} h => by
    unfold dg at h
    by_cases c : 48 ≤ y
    · rw [decide_eq_true c] at h
      right; simpa using h
    · left; exact (u_nle _ _).mp c
  have key2 : ∀ {y : Int32}, dg y = true → ¬ y < 48 ∧ y ≤ 57 := fun {y} h => by
    unfold dg at h
    simp only [Bool.and_eq_true, decide_eq_true_eq] at h
    exact ⟨(u_nlt _ _).mpr h.1, h.2⟩
  have ew : k_X5_readNumber xf xs = k_X5_readNumber_4 xs (99997 + 3) (-1) 0 xf := rfl
  rw [ew]
  unfold spN
  rcases h1 : dg (tpk T L p) with _ | _
  · left
    refine ⟨if_neg (by decide), ?_⟩
    show (if (2 : Int32) ≤ 0 then _ else b1 (k_X5_ahead xf xs) _) = _
    rw [if_neg (by decide), aheadX hx h0 h2 (by omega), b1_s]
    rcases key h1 with k | k
    · rw [if_pos k]
    · by_cases k2 : tpk T L p < 48
      · rw [if_pos k2]
      · rw [if_neg k2, if_neg k]
  · right
    obtain ⟨k1, k2⟩ := key2 h1
    have a1 := dg_lt h1
    have a2 := dg_T h1 ht
    have a3 : tpk T L p = nI (T p) := if_neg (by omega)
    have h2' : (upd xf 2 (nI (p + 1))) 2 = nI (p + 1) := if_pos rfl
    have h0' : (upd xf 2 (nI (p + 1))) 0 = nI L := h0
    have e1 : k_X5_readNumber_4 xs (99997 + 3) (-1) 0 xf = k_X5_readNumber_4 xs (99997 + 2) (nI (T p - 48)) 1 (upd xf 2 (nI (p + 1))) := by
      show (if (2 : Int32) ≤ 0 then _ else b1 (k_X5_ahead xf xs) _) = _
      rw [if_neg (by decide), aheadX hx h0 h2 (by omega), b1_s, if_neg k1, if_pos k2, nm_e1, if_pos (by decide), h2, nI_1, a3]
      have : (0 : Int32) * 10 + nI (T p) - 48 = nI (T p - 48) := by
        rw [show (0 : Int32) * 10 = nI 0 from rfl, u_ab, show (48 : Int32) = nI 48 from rfl, u_sb (by omega), Nat.zero_add]
      rw [this]
      rfl
    rw [e1]
    rcases h3 : dg (tpk T L (p + 1)) with _ | _
    · refine ⟨T p - 48, p + 1, upd xf 2 (nI (p + 1)), ?_, ?_, cSt_u _⟩
      · rw [if_pos rfl, if_neg (by decide)]
      · show (if (2 : Int32) ≤ 1 then _ else b1 (k_X5_ahead _ xs) _) = _
        rw [if_neg (by decide), aheadX hx h0' h2' (by omega), b1_s]
        rcases key h3 with k | k
        · rw [if_pos k]
        · by_cases k2 : tpk T L (p + 1) < 48
          · rw [if_pos k2]
          · rw [if_neg k2, if_neg k]
    · obtain ⟨k3, k4⟩ := key2 h3
      have b1' := dg_lt h3
      have b2' := dg_T h3 ht
      have b3' : tpk T L (p + 1) = nI (T (p + 1)) := if_neg (by omega)
      refine ⟨10 * (T p - 48) + (T (p + 1) - 48), p + 2, upd (upd xf 2 (nI (p + 1))) 2 (nI (p + 2)), ?_, ?_, cSt_t (cSt_u _) (cSt_u _)⟩
      · rw [if_pos rfl, if_pos rfl]
      · show (if (2 : Int32) ≤ 1 then _ else b1 (k_X5_ahead _ xs) _) = _
        rw [if_neg (by decide), aheadX hx h0' h2' (by omega), b1_s, if_neg k3, if_pos k4, nm_e1, if_neg (nI_pos (by omega)), h2', nI_1, b3']
        have : nI (T p - 48) * 10 + nI (T (p + 1)) - 48 = nI (10 * (T p - 48) + (T (p + 1) - 48)) := by
          rw [show (10 : Int32) = nI 10 from rfl, u_ml, u_ab, show (48 : Int32) = nI 48 from rfl, u_sb (by omega)]
          congr 1; omega
        rw [this]
        show (if (2 : Int32) ≤ 1 + 1 then _ else _) = _
        rw [if_pos (by decide)]
theorem lt_tab : ∀ t, t < 128 → k_J0_indexOf_0f7a4 3 (((nI t).toUInt32 % 65536).toInt32) = some (chI (ltT t)) := by decide +kernel
def rdC (T : Nat → Nat) (L : Nat) (kF : Nat → Bool × Nat × List Nat) (e : (Nat → Int32) → (Nat → Int32) → (Nat → Nat → Int32) → Option (Int32 × (Nat → Int32) × (Nat → Int32) × (Nat → Nat → Int32))) : Prop := ∀ (p s : Nat) (xf : Nat → Int32) (cif : Nat → Int32) (cig : Nat → Nat → Int32), xf 0 = nI L → xf 2 = nI p → p ≤ L → s ≤ p → cif 2 = nI s → ∃ xf' cif' cig', e xf cif cig = some (bI (kF p).1, xf', cif', cig') ∧ cSt xf xf' (kF p).2.1 ∧ ((kF p).1 = true → cEm cif cif' cig cig' s (kF p).2.2)
theorem testX {T : Nat → Nat} {L : Nat} {xs : Nat → Int32} (hx : txX xs L T) {cif : Nat → Int32} {cig : Nat → Nat → Int32} {s f g n : Nat} (hf : f < 6) (hg : g < 3) (hn : n < 100) (h : cif 2 = nI s) (hs : s < 100) : ∃ cif' cig', k_X2_addTest (nI f) (nI (60 + g)) (nI n) cif cig = some (1, cif', cig') ∧ cEm cif cif' cig cig' s [3 + (1000 * f + 100 * g + n)] := by
  unfold k_X2_addTest k_X2_addStep
  rw [h, if_pos (show nI s < 100 from nI_lt (b := 100) hs (by omega)), gd_n hs (by omega), u_cl (by omega), nI_1, b3_s, if_neg (by decide)]
  have e2 : upd cif 2 (nI (s + 1)) 2 - 1 = nI s := by rw [u_up, if_pos rfl, u_ps]
  rw [e2]
  have fin : ∀ (lo hi : Int32), (if g = 0 then lo = 0 ∧ hi = nI n - 1 else if g = 1 then lo = nI n ∧ hi = nI n else lo = nI n + 1 ∧ hi = 9999) → cEm cif (upd cif 2 (nI (s + 1))) cig (va_up (va_up (va_up cig 6 (upd (cig 6) s (nI f))) 7 (upd ((va_up cig 6 (upd (cig 6) s (nI f))) 7) s lo)) 8 (upd ((va_up (va_up cig 6 (upd (cig 6) s (nI f))) 7 (upd ((va_up cig 6 (upd (cig 6) s (nI f))) 7) s lo)) 8) s hi)) s [3 + (1000 * f + 100 * g + n)] := by
    intro lo hi hq
    refine ⟨if_pos rfl, fun k hk => if_neg hk, ⟨?_, trivial⟩, fun a ha => ?_, fun k k6 k7 k8 => ?_⟩
    · unfold cRt
      rw [if_neg (by omega), if_neg (by omega), if_neg (by omega)]
      have w1 : (3 + (1000 * f + 100 * g + n) - 3) / 1000 = f := by omega
      have w2 : (3 + (1000 * f + 100 * g + n) - 3) / 100 % 10 = g := by omega
      have w3 : (3 + (1000 * f + 100 * g + n) - 3) % 100 = n := by omega
      rw [w1, w2, w3]
      refine ⟨?_, ?_⟩
      · simp [va_up, upd]
      · simp [va_up, upd]; exact hq
    · simp [va_up, upd, show a ≠ s by omega]
    · simp [va_up, k6, k7, k8]
  unfold k_X2_addTest_43 k_X2_addTest_79
  have gs : ∀ {α : Type} (o : Option α), gd (nI s) 100 o = o := fun o => gd_n hs (by omega)
  simp only [e2, gs]
  rw [u_cl (show s < 2 ^ 31 by omega)]
  rcases (show g = 0 ∨ g = 1 ∨ g = 2 by omega) with rfl | rfl | rfl
  · exact ⟨_, _, rfl, fin _ _ ⟨rfl, rfl⟩⟩
  · exact ⟨_, _, rfl, fin _ _ ⟨rfl, rfl⟩⟩
  · exact ⟨_, _, rfl, fin _ _ ⟨rfl, rfl⟩⟩
theorem sg_no {T : Nat → Nat} {L p : Nat} (h : sgn (tpk T L p) = none) : ¬ tpk T L p = 60 ∧ ¬ tpk T L p = 61 ∧ ¬ tpk T L p = 62 := by
  unfold sgn at h
  split at h
  · cases h
  · split at h
    · cases h
    · split at h
      · cases h
      · exact ⟨by assumption, by assumption, by assumption⟩
theorem spTC {T : Nat → Nat} {L : Nat} {xs : Nat → Int32} (hx : txX xs L T) : rdC T L (spT T L) (fun xf cif cig => k_X5_readFact_93 xs (tpk T L (Int32.toNatClampNeg (xf 2))) xf cif cig) := by
  intro p s xf cif cig h0 h2 hp hsp hc
  have hL := hx.1
  have ht := hx.2.2
  dsimp only
  rw [h2, u_cl (by omega)]
  have e1 : k_X5_readFact_93 xs (tpk T L p) xf cif cig = k_X5_readFact_108 xs (chI (ltr T L p)) xf cif cig := by
    unfold k_X5_readFact_93 tpk ltr
    by_cases c : L ≤ p
    · simp only [if_pos c]
      rw [if_neg (by decide)]; rfl
    · simp only [if_neg c]
      rw [if_pos (nI_pos' (by have := ht p (by omega); omega)), lt_tab _ (ht p (by omega)), b1_s]
  rw [e1]
  unfold k_X5_readFact_108 spT
  rcases h1 : ltr T L p with _ | f
  · rw [if_neg (show ¬ (0 : Int32) ≤ chI none by decide)]
    exact ⟨_, _, _, rfl, cSt_r h2, fun h => by cases h⟩
  · obtain ⟨a1, a2⟩ := ltr_lt h1
    rw [if_pos (show (0 : Int32) ≤ chI (some f) from nI_pos' (by omega)), h2, nI_1]
    have h2' : (upd xf 2 (nI (p + 1))) 2 = nI (p + 1) := if_pos rfl
    have h0' : (upd xf 2 (nI (p + 1))) 0 = nI L := h0
    rw [aheadX hx h0' h2' (by omega), b1_s]
    dsimp only
    rcases h3 : sgn (tpk T L (p + 1)) with _ | g
    · obtain ⟨k1, k2, k3⟩ := sg_no h3
      rw [if_neg k1, if_neg k2, if_neg k3]
      exact ⟨_, _, _, rfl, cSt_u _, fun h => by cases h⟩
    · obtain ⟨b1', b2', b3'⟩ := sgn_lt h3
      have e2 : ∀ {α : Type} (x y : α), (if tpk T L (p + 1) = 60 then x else if tpk T L (p + 1) = 61 then x else if tpk T L (p + 1) = 62 then x else y) = x := fun x y => by
        rw [b3']
        rcases (show g = 0 ∨ g = 1 ∨ g = 2 by omega) with rfl | rfl | rfl <;> rfl
      rw [e2]
      unfold k_X5_readFact_154
      rw [h2', nI_1]
      have h2'' : (upd (upd xf 2 (nI (p + 1))) 2 (nI (p + 2))) 2 = nI (p + 2) := if_pos rfl
      have h0'' : (upd (upd xf 2 (nI (p + 1))) 2 (nI (p + 2))) 0 = nI L := h0
      rcases numX hx h0'' h2'' (by omega) with ⟨n1, n2⟩ | ⟨n, p', xf', n1, n2, n3⟩
      · have n2' : k_X5_readNumber (upd (upd xf 2 (nI (p + 1))) 2 (nI (p + 1 + 1))) xs = some (-1, upd (upd xf 2 (nI (p + 1))) 2 (nI (p + 2))) := n2
        rw [n2', b2_s, if_pos rfl, n1]
        exact ⟨_, _, _, rfl, cSt_t (cSt_u _) (cSt_u _), fun h => by cases h⟩
      · have n2' : k_X5_readNumber (upd (upd xf 2 (nI (p + 1))) 2 (nI (p + 1 + 1))) xs = some (nI n, xf') := n2
        obtain ⟨q1, _, _, _⟩ := spN_ok ht n1
        rw [n2', b2_s, if_neg (show ¬ nI n = -1 from fun e => nI_pos (n := n) (by omega) (by rw [e]; decide)), n1, b3']
        obtain ⟨cif', cig', t1, t2⟩ := testX hx a2 b2' q1 hc (by omega)
        rw [show chI (some f) = nI f from rfl, t1, b3_s, if_neg (by decide)]
        exact ⟨_, _, _, rfl, cSt_t (cSt_t (cSt_u _) (cSt_u _)) n3, fun _ => t2⟩

theorem spBL {T : Nat → Nat} {L : Nat} {xs : Nat → Int32} (hx : txX xs L T) {kS : Nat → Bool × Nat × List Nat} {m : Nat} {kF : Int32 → (Nat → Int32) → (Nat → Int32) → (Nat → Int32) → (Nat → Nat → Int32) → Option (Int32 × (Nat → Int32) × (Nat → Int32) × (Nat → Nat → Int32))} {a1 : Int32} (hS : spK L m kS) (hF : rdC T L kS (fun xf cif cig => kF a1 xf xs cif cig)) : ∀ (r n k p s : Nat) (xf : Nat → Int32) (cif : Nat → Int32) (cig : Nat → Nat → Int32), r < n → r + k = 100 → xf 0 = nI L → xf 2 = nI p → p ≤ L → s + (if k = 0 then 0 else 1) ≤ p → cif 2 = nI s → ∃ xf' cif' cig', k_X5_readBoth_2 kF a1 xs n (nI k) xf cif cig = some (bI (spL T L kS 38 1 r k p).1, xf', cif', cig') ∧ cSt xf xf' (spL T L kS 38 1 r k p).2.1 ∧ ((spL T L kS 38 1 r k p).1 = true → cEm cif cif' cig cig' s (spL T L kS 38 1 r k p).2.2)
  | _, 0, _, _, _, _, _, _, hn, _, _, _, _, _, _ => by omega
  | 0, n + 1, k, p, s, xf, cif, cig, hn, hk, h0, h2, hp, hs, hc => by
    simp only [k_X5_readBoth_2, spL]
    rw [if_pos (show (100 : Int32) ≤ nI k from nI_le (a := 100) (by omega) (by omega))]
    exact ⟨_, _, _, rfl, cSt_r h2, fun h => by cases h⟩
  | r + 1, n + 1, k, p, s, xf, cif, cig, hn, hk, h0, h2, hp, hs, hc => by
    have hL := hx.1
    simp only [k_X5_readBoth_2, spL]
    rw [if_neg (show ¬ (100 : Int32) ≤ nI k from nI_ge (b := 100) (by omega) (by omega))]
    obtain ⟨xf1, cif1, cig1, e1, e2, e3⟩ := hF p s xf cif cig h0 h2 hp (by omega) hc
    rw [show kF a1 xf xs cif cig = some (bI (kS p).1, xf1, cif1, cig1) from e1, b4_s]
    by_cases ho : (kS p).1 = true
    · obtain ⟨q1, q2, q3, _, _⟩ := hS p ho
      rw [ho, if_neg (show ¬ bI true = 0 by decide), if_pos rfl]
      have e3' := e3 ho
      have hh : ∃ cif2 cig2, (if nI k ≤ 0 then k_X5_readBoth_34 xs (k_X5_readBoth_2 kF a1 xs n) (nI k) xf1 cif1 cig1 else b3 (k_X2_addStep 7 cif1 cig1) (fun r10 cif_11 cig_12 => if r10 = 0 then some (0, xf1, cif_11, cig_12) else k_X5_readBoth_34 xs (k_X5_readBoth_2 kF a1 xs n) (nI k) xf1 cif_11 cig_12)) = k_X5_readBoth_34 xs (k_X5_readBoth_2 kF a1 xs n) (nI k) xf1 cif2 cig2 ∧ cEm cif cif2 cig cig2 s (if k = 0 then (kS p).2.2 else (kS p).2.2 ++ [1]) := by
        by_cases k0 : k = 0
        · subst k0
          exact ⟨cif1, cig1, if_pos (by decide), e3'⟩
        · rw [if_neg (show ¬ nI k ≤ 0 from nI_ge (a := 0) (by omega) (by omega)), if_neg k0]
          rw [if_neg k0] at hs
          obtain ⟨cif2, cig2, t1, t2⟩ := stepX (cif := cif1) (cig := cig1) 1 7 ⟨rfl, by omega⟩ e3'.1 (by omega)
          rw [t1, b3_s, if_neg (by decide)]
          exact ⟨cif2, cig2, rfl, cEm_t e3' t2⟩
      obtain ⟨cif2, cig2, w1, w2⟩ := hh
      rw [w1]
      unfold k_X5_readBoth_34
      have h0' : xf1 0 = nI L := by rw [e2.2 0 (by omega), h0]
      rw [takeX hx h0' e2.1 (by omega)]
      by_cases hq : tpk T L (kS p).2.1 = 38
      · rw [if_pos hq, b2_s, if_neg (by decide), if_pos hq, nI_1]
        have hlt := tpk_lt (c := 38) (by omega) hq
        have hlen := w2.1
        obtain ⟨xf', cif', cig', i1, i2, i3⟩ := spBL hx hS hF r n (k + 1) ((kS p).2.1 + 1) (s + (if k = 0 then (kS p).2.2 else (kS p).2.2 ++ [1]).length) (upd xf1 2 (nI ((kS p).2.1 + 1))) cif2 cig2 (by omega) (by omega) h0' (if_pos rfl) (by omega) (by
          by_cases k0 : k = 0
          · simp [k0] at hs ⊢; omega
          · simp [k0] at hs ⊢; omega) hlen
        exact ⟨xf', cif', cig', i1, cSt_t (cSt_t e2 (cSt_u _)) i2, fun h => cEm_t w2 (i3 h)⟩
      · rw [if_neg hq, b2_s, if_pos rfl, if_neg hq]
        exact ⟨_, _, _, rfl, e2, fun _ => w2⟩
    · have ho' : (kS p).1 = false := by simpa using ho
      rw [ho', if_pos (show bI false = 0 by decide), if_neg (by decide)]
      exact ⟨_, _, _, rfl, e2, fun h => by cases h⟩

theorem spEL {T : Nat → Nat} {L : Nat} {xs : Nat → Int32} (hx : txX xs L T) {kS : Nat → Bool × Nat × List Nat} {m : Nat} {kF : Int32 → (Nat → Int32) → (Nat → Int32) → (Nat → Int32) → (Nat → Nat → Int32) → Option (Int32 × (Nat → Int32) × (Nat → Int32) × (Nat → Nat → Int32))} {a1 : Int32} (hS : spK L m kS) (hF : rdC T L kS (fun xf cif cig => (k_X5_readBoth_g kF) a1 xf xs cif cig)) : ∀ (r n k p s : Nat) (xf : Nat → Int32) (cif : Nat → Int32) (cig : Nat → Nat → Int32), r < n → r + k = 100 → xf 0 = nI L → xf 2 = nI p → p ≤ L → s + (if k = 0 then 0 else 1) ≤ p → cif 2 = nI s → ∃ xf' cif' cig', k_X5_readEither_2 kF a1 xs n (nI k) xf cif cig = some (bI (spL T L kS 124 2 r k p).1, xf', cif', cig') ∧ cSt xf xf' (spL T L kS 124 2 r k p).2.1 ∧ ((spL T L kS 124 2 r k p).1 = true → cEm cif cif' cig cig' s (spL T L kS 124 2 r k p).2.2)
  | _, 0, _, _, _, _, _, _, hn, _, _, _, _, _, _ => by omega
  | 0, n + 1, k, p, s, xf, cif, cig, hn, hk, h0, h2, hp, hs, hc => by
    simp only [k_X5_readEither_2, spL]
    rw [if_pos (show (100 : Int32) ≤ nI k from nI_le (a := 100) (by omega) (by omega))]
    exact ⟨_, _, _, rfl, cSt_r h2, fun h => by cases h⟩
  | r + 1, n + 1, k, p, s, xf, cif, cig, hn, hk, h0, h2, hp, hs, hc => by
    have hL := hx.1
    simp only [k_X5_readEither_2, spL]
    rw [if_neg (show ¬ (100 : Int32) ≤ nI k from nI_ge (b := 100) (by omega) (by omega))]
    obtain ⟨xf1, cif1, cig1, e1, e2, e3⟩ := hF p s xf cif cig h0 h2 hp (by omega) hc
    rw [show (k_X5_readBoth_g kF) a1 xf xs cif cig = some (bI (kS p).1, xf1, cif1, cig1) from e1, b4_s]
    by_cases ho : (kS p).1 = true
    · obtain ⟨q1, q2, q3, _, _⟩ := hS p ho
      rw [ho, if_neg (show ¬ bI true = 0 by decide), if_pos rfl]
      have e3' := e3 ho
      have hh : ∃ cif2 cig2, (if nI k ≤ 0 then k_X5_readEither_34 xs (k_X5_readEither_2 kF a1 xs n) (nI k) xf1 cif1 cig1 else b3 (k_X2_addStep 8 cif1 cig1) (fun r10 cif_11 cig_12 => if r10 = 0 then some (0, xf1, cif_11, cig_12) else k_X5_readEither_34 xs (k_X5_readEither_2 kF a1 xs n) (nI k) xf1 cif_11 cig_12)) = k_X5_readEither_34 xs (k_X5_readEither_2 kF a1 xs n) (nI k) xf1 cif2 cig2 ∧ cEm cif cif2 cig cig2 s (if k = 0 then (kS p).2.2 else (kS p).2.2 ++ [2]) := by
        by_cases k0 : k = 0
        · subst k0
          exact ⟨cif1, cig1, if_pos (by decide), e3'⟩
        · rw [if_neg (show ¬ nI k ≤ 0 from nI_ge (a := 0) (by omega) (by omega)), if_neg k0]
          rw [if_neg k0] at hs
          obtain ⟨cif2, cig2, t1, t2⟩ := stepX (cif := cif1) (cig := cig1) 2 8 ⟨rfl, by omega⟩ e3'.1 (by omega)
          rw [t1, b3_s, if_neg (by decide)]
          exact ⟨cif2, cig2, rfl, cEm_t e3' t2⟩
      obtain ⟨cif2, cig2, w1, w2⟩ := hh
      rw [w1]
      unfold k_X5_readEither_34
      have h0' : xf1 0 = nI L := by rw [e2.2 0 (by omega), h0]
      rw [takeX hx h0' e2.1 (by omega)]
      by_cases hq : tpk T L (kS p).2.1 = 124
      · rw [if_pos hq, b2_s, if_neg (by decide), if_pos hq, nI_1]
        have hlt := tpk_lt (c := 124) (by omega) hq
        have hlen := w2.1
        obtain ⟨xf', cif', cig', i1, i2, i3⟩ := spEL hx hS hF r n (k + 1) ((kS p).2.1 + 1) (s + (if k = 0 then (kS p).2.2 else (kS p).2.2 ++ [2]).length) (upd xf1 2 (nI ((kS p).2.1 + 1))) cif2 cig2 (by omega) (by omega) h0' (if_pos rfl) (by omega) (by
          by_cases k0 : k = 0
          · simp [k0] at hs ⊢; omega
          · simp [k0] at hs ⊢; omega) hlen
        exact ⟨xf', cif', cig', i1, cSt_t (cSt_t e2 (cSt_u _)) i2, fun h => cEm_t w2 (i3 h)⟩
      · rw [if_neg hq, b2_s, if_pos rfl, if_neg hq]
        exact ⟨_, _, _, rfl, e2, fun _ => w2⟩
    · have ho' : (kS p).1 = false := by simpa using ho
      rw [ho', if_pos (show bI false = 0 by decide), if_neg (by decide)]
      exact ⟨_, _, _, rfl, e2, fun h => by cases h⟩

theorem spBC {T : Nat → Nat} {L : Nat} {xs : Nat → Int32} (hx : txX xs L T) {kS : Nat → Bool × Nat × List Nat} {m : Nat} {kF : Int32 → (Nat → Int32) → (Nat → Int32) → (Nat → Int32) → (Nat → Nat → Int32) → Option (Int32 × (Nat → Int32) × (Nat → Int32) × (Nat → Nat → Int32))} {a1 : Int32} (hS : spK L m kS) (hF : rdC T L kS (fun xf cif cig => kF a1 xf xs cif cig)) : rdC T L (spB T L kS) (fun xf cif cig => k_X5_readBoth_g kF a1 xf xs cif cig) :=
  fun p s xf cif cig h0 h2 hp hs hc => spBL hx hS hF 100 100000 0 p s xf cif cig (by omega) rfl h0 h2 hp hs hc
theorem spEC {T : Nat → Nat} {L : Nat} {xs : Nat → Int32} (hx : txX xs L T) {kS : Nat → Bool × Nat × List Nat} {m : Nat} {kF : Int32 → (Nat → Int32) → (Nat → Int32) → (Nat → Int32) → (Nat → Nat → Int32) → Option (Int32 × (Nat → Int32) × (Nat → Int32) × (Nat → Nat → Int32))} {a1 : Int32} (hS : spK L m kS) (hF : rdC T L kS (fun xf cif cig => kF a1 xf xs cif cig)) : rdC T L (spE T L kS) (fun xf cif cig => k_X5_readEither_g kF a1 xf xs cif cig) :=
  fun p s xf cif cig h0 h2 hp hs hc => spEL hx (spB_ok hS) (spBC hx hS hF) 100 100000 0 p s xf cif cig (by omega) rfl h0 h2 hp hs hc
theorem ltr_c {T : Nat → Nat} {L p c : Nat} (hc : c < 128) (ht : ∀ k, k < L → T k < 128) (h : tpk T L p = nI c) : ltr T L p = ltT c := by
  have hl := tpk_lt hc h
  unfold tpk at h
  rw [if_neg (by omega)] at h
  unfold ltr
  rw [if_neg (by omega), (u_ei (by have := ht p hl; omega) (by omega)).mp h]
theorem spT_no {T : Nat → Nat} {L p : Nat} (h : ltr T L p = none) : spT T L p = (false, p, []) := by
  unfold spT
  rw [h]
theorem spFC {T : Nat → Nat} {L : Nat} {xs : Nat → Int32} (hx : txX xs L T) : ∀ (n w : Nat), n + w = 4 → rdC T L (spF T L (n + 1) w) (fun xf cif cig => k_X5_readFact (n + 1) (nI w) xf xs cif cig)
  | n, w, hn => by
    intro p s xf cif cig h0 h2 hp hs hc
    have hL := hx.1
    have ht := hx.2.2
    have tst := spTC hx p s xf cif cig h0 h2 hp hs hc
    dsimp only at tst
    rw [h2, u_cl (by omega)] at tst
    have h2' : (upd xf 2 (nI (p + 1))) 2 = nI (p + 1) := if_pos rfl
    have h0' : (upd xf 2 (nI (p + 1))) 0 = nI L := h0
    show ∃ xf' cif' cig', k_X5_readFact_g (k_X5_readFact n) (nI w) xf xs cif cig = _ ∧ _
    unfold k_X5_readFact_g
    rw [aheadX hx h0 h2 (by omega), b1_s]
    by_cases c1 : tpk T L p = 33
    · have hlt := tpk_lt (c := 33) (by omega) c1
      rw [if_pos c1]
      unfold k_X5_readFact_17
      by_cases c2 : 4 ≤ w
      · rw [if_pos (show (4 : Int32) ≤ nI w from nI_le (a := 4) c2 (by omega))]
        have e : spF T L (n + 1) w p = spT T L p := by
          rw [spT_no (ltr_c (c := 33) (by omega) ht c1)]
          simp only [spF]
          rw [if_pos c1, if_pos c2]
        rw [e]
        exact tst
      · rw [if_neg (show ¬ (4 : Int32) ≤ nI w from nI_ge (b := 4) (by omega) (by omega)), if_pos c1]
        rcases n with _ | n
        · omega
        · obtain ⟨xf1, cif1, cig1, e1, e2, e3⟩ := spFC hx n (w + 1) (by omega) (p + 1) s (upd xf 2 (nI (p + 1))) cif cig h0' h2' (by omega) (by omega) hc
          simp only [h2, nI_1]
          rw [show k_X5_readFact (n + 1) (nI (w + 1)) (upd xf 2 (nI (p + 1))) xs cif cig = _ from e1, b4_s]
          have es : spF T L (n + 1 + 1) w p = if (spF T L (n + 1) (w + 1) (p + 1)).1 = true then (true, (spF T L (n + 1) (w + 1) (p + 1)).2.1, (spF T L (n + 1) (w + 1) (p + 1)).2.2 ++ [0]) else (false, (spF T L (n + 1) (w + 1) (p + 1)).2.1, []) := by
            rw [spF, if_pos c1, if_neg c2]
          rw [es]
          by_cases ho : (spF T L (n + 1) (w + 1) (p + 1)).1 = true
          · obtain ⟨q1, q2, q3, _, _⟩ := spF_ok ht (n + 1) (w + 1) _ ho
            rw [ho, if_neg (show ¬ bI true = 0 by decide), if_pos rfl]
            have e3' := e3 ho
            obtain ⟨cif2, cig2, t1, t2⟩ := stepX (cif := cif1) (cig := cig1) 0 6 ⟨by unfold cRt; decide, by omega⟩ e3'.1 (by omega)
            rw [t1, b3_s, if_neg (by decide)]
            exact ⟨_, _, _, rfl, cSt_t (cSt_u _) e2, fun _ => cEm_t e3' t2⟩
          · have ho' : (spF T L (n + 1) (w + 1) (p + 1)).1 = false := by simpa using ho
            rw [ho', if_pos (show bI false = 0 by decide), if_neg (by decide)]
            exact ⟨_, _, _, rfl, cSt_t (cSt_u _) e2, fun h => by cases h⟩
    · rw [if_neg c1]
      by_cases c3 : tpk T L p = 40
      · have hlt := tpk_lt (c := 40) (by omega) c3
        rw [if_pos c3]
        unfold k_X5_readFact_17
        by_cases c2 : 4 ≤ w
        · rw [if_pos (show (4 : Int32) ≤ nI w from nI_le (a := 4) c2 (by omega))]
          have e : spF T L (n + 1) w p = spT T L p := by
            rw [spT_no (ltr_c (c := 40) (by omega) ht c3)]
            simp only [spF]
            rw [if_neg c1, if_pos c3, if_pos c2]
          rw [e]
          exact tst
        · rw [if_neg (show ¬ (4 : Int32) ≤ nI w from nI_ge (b := 4) (by omega) (by omega)), if_neg c1]
          rcases n with _ | n
          · omega
          · obtain ⟨xf1, cif1, cig1, e1, e2, e3⟩ := spEC hx (spF_ok ht (n + 1) (w + 1)) (spFC hx n (w + 1) (by omega)) (p + 1) s (upd xf 2 (nI (p + 1))) cif cig h0' h2' (by omega) (by omega) hc
            simp only [h2, nI_1]
            rw [show k_X5_readEither_g (k_X5_readFact (n + 1)) (nI (w + 1)) (upd xf 2 (nI (p + 1))) xs cif cig = _ from e1, b4_s]
            have es : spF T L (n + 1 + 1) w p = if (spE T L (spF T L (n + 1) (w + 1)) (p + 1)).1 = true then (if tpk T L (spE T L (spF T L (n + 1) (w + 1)) (p + 1)).2.1 = 41 then (true, (spE T L (spF T L (n + 1) (w + 1)) (p + 1)).2.1 + 1, (spE T L (spF T L (n + 1) (w + 1)) (p + 1)).2.2) else (false, (spE T L (spF T L (n + 1) (w + 1)) (p + 1)).2.1, [])) else (false, (spE T L (spF T L (n + 1) (w + 1)) (p + 1)).2.1, []) := by
              rw [spF, if_neg c1, if_pos c3, if_neg c2]
            rw [es]
            by_cases ho : (spE T L (spF T L (n + 1) (w + 1)) (p + 1)).1 = true
            · obtain ⟨q1, q2, q3, _, _⟩ := spE_ok (T := T) (spF_ok ht (n + 1) (w + 1)) _ ho
              rw [ho, if_neg (show ¬ bI true = 0 by decide), if_pos rfl]
              have h0'' : xf1 0 = nI L := by rw [e2.2 0 (by omega)]; exact h0'
              rw [takeX hx h0'' e2.1 (by omega)]
              by_cases hq : tpk T L (spE T L (spF T L (n + 1) (w + 1)) (p + 1)).2.1 = 41
              · rw [if_pos hq, b2_s, if_neg (by decide), if_pos hq]
                exact ⟨_, _, _, rfl, cSt_t (cSt_t (cSt_u _) e2) (cSt_u _), fun _ => e3 ho⟩
              · rw [if_neg hq, b2_s, if_pos rfl, if_neg hq]
                exact ⟨_, _, _, rfl, cSt_t (cSt_u _) e2, fun h => by cases h⟩
            · have ho' : (spE T L (spF T L (n + 1) (w + 1)) (p + 1)).1 = false := by simpa using ho
              rw [ho', if_pos (show bI false = 0 by decide), if_neg (by decide)]
              exact ⟨_, _, _, rfl, cSt_t (cSt_u _) e2, fun h => by cases h⟩
      · rw [if_neg c3]
        have e : spF T L (n + 1) w p = spT T L p := by
          simp only [spF]
          rw [if_neg c1, if_neg c3]
        rw [e]
        exact tst
theorem wlen : ∀ i, i < 3 → k_J0_length_8abf5 i = some 4 := by decide +kernel
theorem wch : ∀ i, i < 3 → ∀ j, j < 4 → k_J0_charAt_5068e i (nI j) = some (nI ((wrd i).getD j 0)) := by decide +kernel
theorem wdr : ∀ i, i < 3 → ∀ j, j < 4 → (wrd i).drop j = (wrd i).getD j 0 :: (wrd i).drop (j + 1) := by decide +kernel
theorem wd4 : ∀ i, i < 3 → (wrd i).drop 4 = [] := by decide +kernel
theorem wdc : ∀ i, i < 3 → ∀ j, j < 4 → (wrd i).getD j 0 < 128 := by decide +kernel
theorem wordX {T : Nat → Nat} {L : Nat} {xs : Nat → Int32} (hx : txX xs L T) (i : Nat) (hi : i < 3) : ∀ (r n j p : Nat) (xf : Nat → Int32), r < n → r + j = 4 → xf 0 = nI L → xf 2 = nI p → p ≤ L → ∃ xf', k_X5_takeWord_24 xs n i (nI j) xf = some (bI (spW T L ((wrd i).drop j) p).1, xf') ∧ cSt xf xf' (spW T L ((wrd i).drop j) p).2
  | _, 0, _, _, _, hn, _, _, _, _ => by omega
  | 0, n + 1, j, p, xf, hn, hj, h0, h2, hp => by
    simp only [k_X5_takeWord_24]
    rw [gp_i (by omega), wlen i hi, b1_s, show j = 4 by omega, if_pos (by decide), wd4 i hi]
    exact ⟨_, rfl, cSt_r h2⟩
  | r + 1, n + 1, j, p, xf, hn, hj, h0, h2, hp => by
    have hL := hx.1
    simp only [k_X5_takeWord_24]
    rw [gp_i (by omega), wlen i hi, b1_s, if_neg (show ¬ (4 : Int32) ≤ nI j from nI_ge (b := 4) (by omega) (by omega)), gp_i (by omega), wch i hi j (by omega), b1_s, wdr i hi j (by omega)]
    simp only [spW]
    rw [takeX hx h0 h2 (by omega)]
    by_cases c : tpk T L p = nI ((wrd i).getD j 0)
    · rw [if_pos c, b2_s, if_neg (by decide), if_pos c, nI_1]
      have hlt := tpk_lt (wdc i hi j (by omega)) c
      obtain ⟨xf', e1, e2⟩ := wordX hx i hi r n (j + 1) (p + 1) (upd xf 2 (nI (p + 1))) (by omega) (by omega) h0 (if_pos rfl) (by omega)
      exact ⟨xf', e1, cSt_t (cSt_u _) e2⟩
    · rw [if_neg c, b2_s, if_pos rfl, if_neg c]
      exact ⟨_, rfl, cSt_r h2⟩
theorem spW_app {T : Nat → Nat} {L : Nat} : ∀ (A B : List Nat) (p : Nat), spW T L (A ++ B) p = if (spW T L A p).1 = true then spW T L B (spW T L A p).2 else (false, (spW T L A p).2)
  | [], B, p => rfl
  | c :: A, B, p => by
    by_cases h : tpk T L p = nI c
    · have e1 : spW T L (c :: A ++ B) p = spW T L (A ++ B) (p + 1) := if_pos h
      have e2 : spW T L (c :: A) p = spW T L A (p + 1) := if_pos h
      rw [e1, e2]; exact spW_app A B (p + 1)
    · have e1 : spW T L (c :: A ++ B) p = (false, p) := if_neg h
      have e2 : spW T L (c :: A) p = (false, p) := if_neg h
      rw [e1, e2]; rfl
def cCl (cif cif' : Nat → Int32) (cig cig' : Nat → Nat → Int32) (j s : Nat) (c : Nat × Nat × List Nat) : Prop := cif' 1 = nI (j + 1) ∧ cif' 2 = nI (s + c.2.2.length) ∧ cif' 0 = (if c.1 = 2 then nI c.2.1 else cif 0) ∧ cig' 3 j = nI c.1 ∧ cig' 4 j = nI c.2.1 ∧ cig' 5 j = nI (s + c.2.2.length) ∧ cRl cig' s c.2.2 ∧ (∀ a, a < j → cig' 3 a = cig 3 a ∧ cig' 4 a = cig 4 a ∧ cig' 5 a = cig 5 a) ∧ ∀ a, a < s → cig' 6 a = cig 6 a ∧ cig' 7 a = cig 7 a ∧ cig' 8 a = cig 8 a
theorem addCl {cif cif0 : Nat → Int32} {cig cig0 : Nat → Nat → Int32} {j s : Nat} {srt n : Nat} {Ls : List Nat} (hj : j < 10) (hs : srt ≤ 2) (h1 : cif0 1 = nI j) (he : cEm cif0 cif cig0 cig s Ls) (xf : Nat → Int32) : ∃ cif' cig', k_X5_readClause_65 (nI srt) (nI n) xf cif cig = some (1, xf, cif', cig') ∧ cCl cif0 cif' cig0 cig' j s (srt, n, Ls) := by
  obtain ⟨a1, a2, a3, a4, a5⟩ := he
  unfold k_X5_readClause_65 k_X2_addClause
  have h1' : cif 1 = nI j := by rw [a2 1 (by omega), h1]
  have g : ∀ {α : Type} (o : Option α), gd (nI j) 10 o = o := fun o => gd_n hj (by omega)
  rw [h1', if_pos (show nI j < 10 from nI_lt (b := 10) hj (by omega))]
  simp only [g, nm_e1]
  rw [u_cl (by omega), nI_1]
  have a50 : cif 0 = cif0 0 := a2 0 (by omega)
  have mem3 : cig 3 = cig0 3 := a5 3 (by omega) (by omega) (by omega)
  have mem4 : cig 4 = cig0 4 := a5 4 (by omega) (by omega) (by omega)
  have mem5 : cig 5 = cig0 5 := a5 5 (by omega) (by omega) (by omega)
  have key : ∀ cif' : Nat → Int32, cif' 1 = nI (j + 1) → cif' 2 = cif 2 → cif' 0 = (if srt = 2 then nI n else cif0 0) → cCl cif0 cif' cig0 (va_up (va_up (va_up cig 3 (upd (cig 3) j (nI srt))) 4 (upd (cig 4) j (nI n))) 5 (upd (cig 5) j (cif 2))) j s (srt, n, Ls) := by
    intro cif' k1 k2 k0
    refine ⟨k1, by rw [k2, a1], k0, by simp [va_up, upd], by simp [va_up, upd], ?_, ?_, fun a ha => ?_, fun a ha => ?_⟩
    · rw [va_up_self, u_up, if_pos rfl, a1]
    · exact cRl_cg (fun k _ => ⟨by simp [va_up], by simp [va_up], by simp [va_up]⟩) a3
    · rw [← mem3, ← mem4, ← mem5]
      simp [va_up, upd, show a ≠ j by omega]
    · have := a4 a ha
      simp [va_up, this]
  by_cases c2 : srt = 2
  · rw [if_pos (show nI srt = 2 by rw [c2]; rfl), b3_s]
    exact ⟨_, _, rfl, key _ rfl rfl (by rw [if_pos c2]; rfl)⟩
  · rw [if_neg (show ¬ nI srt = 2 from fun e => c2 ((u_ei (b := 2) (by omega) (by omega)).mp e)), b3_s]
    exact ⟨_, _, rfl, key _ rfl rfl (by rw [if_neg c2]; exact a50)⟩
theorem srt_no {T : Nat → Nat} {L p : Nat} (h1 : ¬ tpk T L p = 99) (h2 : ¬ tpk T L p = 104) (h3 : ¬ tpk T L p = 108) : spC T L p = (false, p, (0, 0, [])) := by
  have e : srt T L p = 2 := by unfold srt; rw [if_neg h3, if_neg h2]
  have e2 : spW T L (wrd 2 ++ [32]) p = (false, p) := if_neg h1
  unfold spC
  rw [e, e2]
  rfl
theorem clauseX {T : Nat → Nat} {L : Nat} {xs : Nat → Int32} (hx : txX xs L T) {xf cif : Nat → Int32} {cig : Nat → Nat → Int32} {p s j : Nat} (h0 : xf 0 = nI L) (h2 : xf 2 = nI p) (hp : p ≤ L) (hs : s ≤ p) (hj : j < 10) (hc1 : cif 1 = nI j) (hc : cif 2 = nI s) : ∃ xf' cif' cig', k_X5_readClause xf xs cif cig = some (bI (spC T L p).1, xf', cif', cig') ∧ cSt xf xf' (spC T L p).2.1 ∧ ((spC T L p).1 = true → cCl cif cif' cig cig' j s (spC T L p).2.2) := by
  have hL := hx.1
  have ht := hx.2.2
  unfold k_X5_readClause k_X5_sortAhead
  rw [aheadX hx h0 h2 (by omega), b1_s]
  by_cases c0 : ¬ tpk T L p = 99 ∧ ¬ tpk T L p = 104 ∧ ¬ tpk T L p = 108
  · obtain ⟨k1, k2, k3⟩ := c0
    rw [if_neg k1, if_neg k2, if_neg k3, b1_s, if_pos rfl, srt_no k1 k2 k3]
    exact ⟨_, _, _, rfl, cSt_r h2, fun h => by cases h⟩
  have es : (if tpk T L p = 99 then some (2 : Int32) else if tpk T L p = 104 then some 1 else if tpk T L p = 108 then some 0 else some (-1)) = some (nI (srt T L p)) := by
    unfold srt
    by_cases k1 : tpk T L p = 99
    · rw [k1]; rfl
    · by_cases k2 : tpk T L p = 104
      · rw [k2]; rfl
      · by_cases k3 : tpk T L p = 108
        · rw [k3]; rfl
        · exact absurd ⟨k1, k2, k3⟩ c0
  have hsr := srt_lt T L p
  rw [es, b1_s]
  unfold spC
  generalize srt T L p = so at hsr ⊢
  rw [if_neg (show ¬ nI so = -1 from fun e => nI_pos (n := so) (by omega) (by rw [e]; decide))]
  have ew : ∃ xf', k_X5_takeWord (nI so) xf xs = some (bI (spW T L (wrd so) p).1, xf') ∧ cSt xf xf' (spW T L (wrd so) p).2 := by
    have := wordX hx so (by omega) 4 100000 0 p xf (by omega) rfl h0 h2 hp
    unfold k_X5_takeWord
    rcases (show so = 0 ∨ so = 1 ∨ so = 2 by omega) with rfl | rfl | rfl
    · rw [if_pos (show nI 0 = 0 from rfl)]; exact this
    · rw [if_neg (show ¬ nI 1 = 0 by decide), if_pos (show nI 1 = 1 from rfl)]; exact this
    · rw [if_neg (show ¬ nI 2 = 0 by decide), if_neg (show ¬ nI 2 = 1 by decide)]; exact this
  obtain ⟨xf1, e1, e2⟩ := ew
  have hwl := spW_le (T := T) (L := L) (wrd so) p (fun c h => wrd_c so c (List.mem_append_left _ h)) hp
  rw [e1, b2_s, spW_app]
  by_cases ho : (spW T L (wrd so) p).1 = true
  rotate_left
  · have ho' : (spW T L (wrd so) p).1 = false := by simpa using ho
    rw [ho', if_pos (show bI false = 0 by decide)]
    exact ⟨_, _, _, rfl, e2, fun h => by cases h⟩
  rw [ho, if_neg (show ¬ bI true = 0 by decide), if_pos rfl]
  generalize (spW T L (wrd so) p).2 = p1 at e2 hwl ⊢
  have h01 : xf1 0 = nI L := by rw [e2.2 0 (by omega), h0]
  rw [takeX hx h01 e2.1 (by omega)]
  by_cases c1 : tpk T L p1 = 32
  rotate_left
  · rw [if_neg c1, b2_s, if_pos rfl, show spW T L [32] p1 = (false, p1) from if_neg c1]
    exact ⟨_, _, _, rfl, e2, fun h => by cases h⟩
  have hlt1 := tpk_lt (c := 32) (by omega) c1
  rw [if_pos c1, b2_s, if_neg (by decide), show spW T L [32] p1 = (true, p1 + 1) from if_pos c1]
  dsimp only
  rw [if_pos rfl]
  have h02 : (upd xf1 2 (nI (p1 + 1))) 0 = nI L := h01
  have h22 : (upd xf1 2 (nI (p1 + 1))) 2 = nI (p1 + 1) := if_pos rfl
  have e2' : cSt xf (upd xf1 2 (nI (p1 + 1))) (p1 + 1) := cSt_t e2 (cSt_u _)
  rcases numX hx h02 h22 (by omega) with ⟨n1, n2⟩ | ⟨n, p2, xf2, n1, n2, n3⟩
  · rw [n2, b2_s, if_pos rfl, n1]
    exact ⟨_, _, _, rfl, e2', fun h => by cases h⟩
  obtain ⟨q1, q2, q3, _⟩ := spN_ok ht n1
  rw [n2, b2_s, if_neg (show ¬ nI n = -1 from fun e => nI_pos (n := n) (by omega) (by rw [e]; decide)), n1]
  dsimp only
  have e3 := cSt_t e2' n3
  by_cases c2 : so = 2
  · rw [if_pos c2, if_pos (show nI so = 2 by rw [c2]; rfl)]
    obtain ⟨cif', cig', a1, a2⟩ := addCl (cif := cif) (cig := cig) (n := n) (Ls := []) hj hsr hc1 (cEm_0 hc) xf2
    rw [a1]
    rw [c2] at a2
    exact ⟨_, _, _, rfl, e3, fun _ => a2⟩
  rw [if_neg c2, if_neg (show ¬ nI so = 2 from fun e => c2 ((u_ei (b := 2) (by omega) (by omega)).mp e))]
  have h03 : xf2 0 = nI L := by rw [n3.2 0 (by omega)]; exact h02
  rw [takeX hx h03 n3.1 (by omega)]
  by_cases c3 : tpk T L p2 = 32
  rotate_left
  · rw [if_neg c3, b2_s, if_pos rfl, if_neg c3]
    exact ⟨_, _, _, rfl, e3, fun h => by cases h⟩
  have hlt2 := tpk_lt (c := 32) (by omega) c3
  rw [if_pos c3, b2_s, if_neg (by decide), if_pos c3]
  obtain ⟨xf3, cif3, cig3, w1, w2, w3⟩ := spEC hx (spF_ok ht 5 0) (spFC hx 4 0 rfl) (p2 + 1) s (upd xf2 2 (nI (p2 + 1))) cif cig h03 (if_pos rfl) (by omega) (by omega) hc
  rw [show k_X5_readEither_g (k_X5_readFact 5) 0 (upd xf2 2 (nI (p2 + 1))) xs cif cig = _ from w1, b4_s]
  have e4 := cSt_t (cSt_t e3 (cSt_u _)) w2
  by_cases ho2 : (spE T L (spF T L 5 0) (p2 + 1)).1 = true
  rotate_left
  · have ho' : (spE T L (spF T L 5 0) (p2 + 1)).1 = false := by simpa using ho2
    rw [ho', if_pos (show bI false = 0 by decide), if_neg (by decide)]
    exact ⟨_, _, _, rfl, e4, fun h => by cases h⟩
  rw [ho2, if_neg (show ¬ bI true = 0 by decide), if_pos rfl]
  obtain ⟨cif', cig', a1, a2⟩ := addCl (n := n) hj hsr hc1 (w3 ho2) xf3
  rw [a1]
  exact ⟨_, _, _, rfl, e4, fun _ => a2⟩
theorem kC_cg {cig cig' : Nat → Nat → Int32} : ∀ {Cs : List (Nat × Nat × List Nat)} {j s : Nat}, (∀ a, a < j + Cs.length → cig' 3 a = cig 3 a ∧ cig' 4 a = cig 4 a ∧ cig' 5 a = cig 5 a) → (∀ a, a < s + tlC Cs → cig' 6 a = cig 6 a ∧ cig' 7 a = cig 7 a ∧ cig' 8 a = cig 8 a) → kC cig Cs j s → kC cig' Cs j s
  | [], _, _, _, _, _ => trivial
  | c :: Cs, j, s, h3, h6, h => by
    obtain ⟨a1, a2, a3, a4, a5⟩ := h
    obtain ⟨b1, b2, b3⟩ := h3 j (by simp)
    refine ⟨b1.trans a1, b2.trans a2, b3.trans a3, cRl_cg (fun k hk => h6 k (by simp only [tlC]; omega)) a4, kC_cg (fun a ha => h3 a (by simp; omega)) (fun a ha => h6 a (by simp only [tlC]; omega)) a5⟩
def xAn (q : Bool × Nat × List (Nat × Nat × List Nat)) : Int32 := if q.1 = true then -1 else nI q.2.1
def xIn (cif' : Nat → Int32) (cig cig' : Nat → Nat → Int32) (j s x : Nat) (q : Bool × Nat × List (Nat × Nat × List Nat)) : Prop := q.1 = true → cif' 1 = nI (j + q.2.2.length) ∧ cif' 0 = nI (calmL q.2.2 x) ∧ kC cig' q.2.2 j s ∧ (∀ a, a < j → cig' 3 a = cig 3 a ∧ cig' 4 a = cig 4 a ∧ cig' 5 a = cig 5 a) ∧ ∀ a, a < s → cig' 6 a = cig 6 a ∧ cig' 7 a = cig 7 a ∧ cig' 8 a = cig 8 a
theorem intoX {T : Nat → Nat} {L : Nat} {xs : Nat → Int32} (hx : txX xs L T) : ∀ (r n j p s x : Nat) (xf cif : Nat → Int32) (cig : Nat → Nat → Int32), r < n → r + j = 10 → xf 0 = nI L → xf 2 = nI p → p ≤ L → s ≤ p → cif 1 = nI j → cif 2 = nI s → cif 0 = nI x → ∃ xf' cif' cig', k_X5_readInto_20 xs n (nI r) xf cif cig = some (xAn (spX T L r p), xf', cif', cig') ∧ (∀ k, k ≠ 2 → xf' k = xf k) ∧ xIn cif' cig cig' j s x (spX T L r p)
  | _, 0, _, _, _, _, _, _, _, hn, _, _, _, _, _, _, _, _ => by omega
  | 0, n + 1, j, p, s, x, xf, cif, cig, hn, hj, h0, h2, hp, hs, hc1, hc, hc0 => by
    simp only [k_X5_readInto_20]
    rw [if_pos (show nI 0 ≤ 0 by decide), h2, show spX T L 0 p = (false, p, []) from rfl]
    exact ⟨_, _, _, rfl, fun _ _ => rfl, fun h => by cases h⟩
  | r + 1, n + 1, j, p, s, x, xf, cif, cig, hn, hj, h0, h2, hp, hs, hc1, hc, hc0 => by
    have hL := hx.1
    have ht := hx.2.2
    simp only [k_X5_readInto_20]
    rw [if_neg (show ¬ nI (r + 1) ≤ 0 from nI_ge (a := 0) (by omega) (by omega))]
    obtain ⟨xf1, cif1, cig1, e1, e2, e3⟩ := clauseX hx h0 h2 hp hs (show j < 10 by omega) hc1 hc (cig := cig)
    rw [e1, b4_s]
    by_cases ho : (spC T L p).1 = true
    rotate_left
    · have ho' : (spC T L p).1 = false := by simpa using ho
      have ex : spX T L (r + 1) p = (false, (spC T L p).2.1, []) := by rw [spX, if_neg ho]
      rw [ho', if_pos (show bI false = 0 by decide), e2.1, ex]
      exact ⟨_, _, _, rfl, e2.2, fun h => by cases h⟩
    obtain ⟨q1, q2, q3, q4, q5⟩ := spC_ok ht hp ho
    obtain ⟨r1, r2, r3, r4, r5, r6, r7, r8, r9⟩ := e3 ho
    have ex : spX T L (r + 1) p = if L ≤ (spC T L p).2.1 then (true, (spC T L p).2.1, [(spC T L p).2.2]) else if r = 0 then (false, (spC T L p).2.1, []) else if tpk T L (spC T L p).2.1 = 59 then ((spX T L r ((spC T L p).2.1 + 1)).1, (spX T L r ((spC T L p).2.1 + 1)).2.1, (spC T L p).2.2 :: (spX T L r ((spC T L p).2.1 + 1)).2.2) else (false, (spC T L p).2.1, []) := by rw [spX, if_pos ho]
    rw [ho, if_neg (show ¬ bI true = 0 by decide)]
    have h01 : xf1 0 = nI L := by rw [e2.2 0 (by omega), h0]
    rw [e2.1, h01, ex]
    clear ex e3 ho e1
    generalize spC T L p = C at *
    obtain ⟨ok, p1, c⟩ := C
    dsimp only at *
    by_cases c1 : L ≤ p1
    · rw [if_neg (nI_nlt c1 (by omega)), if_pos c1]
      refine ⟨_, _, _, rfl, e2.2, fun _ => ⟨r1, ?_, ⟨r4, r5, r6, r7, trivial⟩, r8, r9⟩⟩
      show cif1 0 = nI (if c.1 = 2 then c.2.1 else x)
      rw [r3, hc0]
      split <;> rfl
    rw [if_pos (nI_lt (by omega) (by omega)), if_neg c1]
    by_cases c2 : r = 0
    · rw [if_pos (show nI (r + 1) = 1 by rw [c2]; rfl), if_pos c2]
      exact ⟨_, _, _, rfl, e2.2, fun h => by cases h⟩
    rw [if_neg (show ¬ nI (r + 1) = 1 from fun e => c2 (by have := (u_ei (b := 1) (by omega) (by omega)).mp e; omega)), if_neg c2, takeX hx h01 e2.1 (by omega)]
    by_cases c3 : tpk T L p1 = 59
    rotate_left
    · rw [if_neg c3, b2_s, if_pos rfl, if_neg c3, e2.1]
      exact ⟨_, _, _, rfl, e2.2, fun h => by cases h⟩
    have hlt := tpk_lt (c := 59) (by omega) c3
    rw [if_pos c3, b2_s, if_neg (by decide), if_pos c3]
    obtain ⟨xf2, cif2, cig2, w1, w2, w3⟩ := intoX hx r n (j + 1) (p1 + 1) (s + c.2.2.length) (if c.1 = 2 then c.2.1 else x) (upd xf1 2 (nI (p1 + 1))) cif1 cig1 (by omega) (by omega) h01 (if_pos rfl) (by omega) (by omega) r1 r2 (by rw [r3, hc0]; split <;> rfl)
    rw [show nI (r + 1) + -1 = nI r from (Int32.sub_eq_add_neg _ _).symm.trans u_ps]
    rw [w1]
    refine ⟨_, _, _, rfl, fun k hk => (w2 k hk).trans ((if_neg hk).trans (e2.2 k hk)), fun h => ?_⟩
    obtain ⟨v1, v2, v3, v4, v5⟩ := w3 h
    refine ⟨by rw [v1]; congr 1; simp; omega, v2, ⟨?_, ?_, ?_, cRl_cg (fun k hk => v5 k (by omega)) r7, v3⟩, fun a ha => ?_, fun a ha => ?_⟩
    · rw [(v4 j (by omega)).1]; exact r4
    · rw [(v4 j (by omega)).2.1]; exact r5
    · rw [(v4 j (by omega)).2.2]; exact r6
    · have x1 := v4 a (by omega)
      have x2 := r8 a ha
      exact ⟨x1.1.trans x2.1, x1.2.1.trans x2.2.1, x1.2.2.trans x2.2.2⟩
    · have x1 := v5 a (by omega)
      have x2 := r9 a ha
      exact ⟨x1.1.trans x2.1, x1.2.1.trans x2.2.1, x1.2.2.trans x2.2.2⟩
theorem readX {T : Nat → Nat} {L : Nat} {xs : Nat → Int32} (hx : txX xs L T) {xf cif : Nat → Int32} {cig : Nat → Nat → Int32} (h0 : xf 0 = nI L) : ∃ xf' cif' cig', k_X5_readInto xf xs cif cig = some (xAn (spX T L 10 0), xf', cif', cig') ∧ (∀ k, k ≠ 2 → xf' k = xf k) ∧ ((spX T L 10 0).1 = true → cif' 1 = nI (spX T L 10 0).2.2.length ∧ cif' 0 = nI (calmL (spX T L 10 0).2.2 10) ∧ kC cig' (spX T L 10 0).2.2 0 0) := by
  unfold k_X5_readInto k_X2_clear
  rw [nm_e1, b1_s]
  obtain ⟨xf2, cif2, cig2, w1, w2, w3⟩ := intoX hx 10 100000 0 0 0 10 (upd xf 2 0) (upd (upd (upd cif 0 10) 1 0) 2 0) cig (by omega) rfl h0 rfl (by omega) (by omega) rfl rfl rfl
  rw [show k_X5_readInto_20 xs 100000 10 (upd xf 2 0) (upd (upd (upd cif 0 10) 1 0) 2 0) cig = _ from w1]
  refine ⟨_, _, _, rfl, fun k hk => (w2 k hk).trans (if_neg hk), fun h => ?_⟩
  obtain ⟨v1, v2, v3, _⟩ := w3 h
  exact ⟨by rw [v1, Nat.zero_add], v2, v3⟩

/-- a step of a clause by a number: 0 not, 1 and, 2 or, else a test 3 + 1000 letter + 100 sign + number -/
def cmS (t : Nat) : Int32 := if t = 0 then -33 else if t = 1 then -38 else if t = 2 then -124 else nI (t - 3)
def cRt (t : Nat) (dz lo hi : Int32) : Prop :=
  if t = 0 then dz = 6 else if t = 1 then dz = 7 else if t = 2 then dz = 8 else
    dz = nI ((t - 3) / 1000) ∧ (if (t - 3) / 100 % 10 = 0 then lo = 0 ∧ hi = nI ((t - 3) % 100) - 1 else if (t - 3) / 100 % 10 = 1 then lo = nI ((t - 3) % 100) ∧ hi = nI ((t - 3) % 100) else lo = nI ((t - 3) % 100) + 1 ∧ hi = 9999)
def okS (t : Nat) : Prop := t ≤ 2 ∨ ((t - 3) / 1000 < 6 ∧ (t - 3) / 100 % 10 < 3)
def tsV (vs : Nat → Nat) (u : Nat) : Bool := if u / 100 % 10 = 0 then decide (vs (u / 1000) < u % 100) else if u / 100 % 10 = 1 then decide (vs (u / 1000) = u % 100) else decide (u % 100 < vs (u / 1000))
def dep : List Nat → Nat → Option Nat
  | [], d => some d
  | t :: L, d => if t = 0 then (if 1 ≤ d then dep L d else none) else if t ≤ 2 then (if 2 ≤ d then dep L (d - 1) else none) else if d < 20 ∧ (t - 3) / 1000 < 6 ∧ (t - 3) / 100 % 10 < 3 then dep L (d + 1) else none
def stp (vs : Nat → Nat) (t : Nat) : List Bool → List Bool
  | [] => if t ≤ 2 then [] else [tsV vs (t - 3)]
  | b :: s => if t = 0 then (!b) :: s else if t = 1 then (match s with | [] => [b] | a :: r => (a && b) :: r) else if t = 2 then (match s with | [] => [b] | a :: r => (a || b) :: r) else tsV vs (t - 3) :: b :: s
def evs (vs : Nat → Nat) : List Nat → List Bool → List Bool
  | [], s => s
  | t :: L, s => evs vs L (stp vs t s)
def hold (vs : Nat → Nat) (L : List Nat) : Bool := (evs vs L []).headD false
theorem dep_app : ∀ (A B : List Nat) (d : Nat), dep (A ++ B) d = (dep A d).bind (dep B)
  | [], B, d => rfl
  | t :: A, B, d => by
    show (if t = 0 then (if 1 ≤ d then dep (A ++ B) d else none) else if t ≤ 2 then (if 2 ≤ d then dep (A ++ B) (d - 1) else none) else if d < 20 ∧ (t - 3) / 1000 < 6 ∧ (t - 3) / 100 % 10 < 3 then dep (A ++ B) (d + 1) else none) = (if t = 0 then (if 1 ≤ d then dep A d else none) else if t ≤ 2 then (if 2 ≤ d then dep A (d - 1) else none) else if d < 20 ∧ (t - 3) / 1000 < 6 ∧ (t - 3) / 100 % 10 < 3 then dep A (d + 1) else none).bind (dep B)
    rw [dep_app A B, dep_app A B, dep_app A B]
    split
    · split <;> rfl
    · split
      · split <;> rfl
      · split <;> rfl
def cRl (cig : Nat → Nat → Int32) (a : Nat) : List Nat → Prop
  | [] => True
  | t :: L => cRt t (cig 6 a) (cig 7 a) (cig 8 a) ∧ cRl cig (a + 1) L
def mRl (ga : Nat → Nat → Int32) (a : Nat) : List Nat → Prop
  | [] => True
  | t :: L => ga 22 a = cmS t ∧ mRl ga (a + 1) L
/-- bits of the stack, the top lowest -/
def bC (x : Int32) (s : List Bool) : Prop := ∀ j b, s[j]? = some b → bt x j = b
/-- the pile, its bottom at 0 -/
def pC (pl : Nat → Int32) : List Bool → Prop
  | [] => True
  | b :: s => pl s.length = bI b ∧ pC pl s
theorem pC_up {pl : Nat → Int32} {k : Nat} {v : Int32} : ∀ {s : List Bool}, s.length ≤ k → pC pl s → pC (upd pl k v) s
  | [], _, _ => trivial
  | b :: s, h, hp => by
    refine ⟨?_, pC_up (Nat.le_of_succ_le h) hp.2⟩
    rw [u_up, if_neg (by simp at h; omega)]
    exact hp.1
theorem bt1 : ∀ i, i < 32 → bt 1 i = decide (i = 0) := by decide +kernel
theorem btm2 : ∀ i, i < 32 → bt (-2) i = decide (i ≠ 0) := by decide +kernel
theorem b_s1 (x : Int32) {i : Nat} (hi : i < 31) : bt (x >>> ((1 : Int32) &&& 31)) i = bt x (i + 1) := by
  have h := b_sshr 1 (by omega) x (i := i) (by omega)
  rw [if_pos (by omega), Nat.add_comm] at h
  exact h
theorem b_l1 (x : Int32) {i : Nat} (hi : i < 32) : bt (x <<< ((1 : Int32) &&& 31)) i = (decide (1 ≤ i) && bt x (i - 1)) := b_shl 1 (by omega) x hi
theorem bC_lt {s : List Bool} {j : Nat} {b : Bool} (h : s[j]? = some b) : j < s.length := by
  have := List.getElem?_eq_some_iff.mp h
  exact this.1
theorem bC_not {x : Int32} {b : Bool} {s : List Bool} (hl : s.length ≤ 20) (h : bC x (b :: s)) : bC (x ^^^ 1) ((!b) :: s) := by
  intro j c hc
  rw [b_xor, bt1 j (by have := bC_lt hc; simp at this; omega)]
  cases j with
  | zero => simp at hc; rw [h 0 b rfl, hc]; cases c <;> rfl
  | succ j => rw [h (j + 1) c hc]; cases c <;> rfl
theorem bC_and {x : Int32} {a b : Bool} {s : List Bool} (hl : s.length ≤ 20) (h : bC x (b :: a :: s)) : bC ((x >>> ((1 : Int32) &&& 31)) &&& (x ||| (-2))) ((a && b) :: s) := by
  intro j c hc
  have hj : j < 22 := by have := bC_lt hc; simp at this; omega
  rw [b_and, b_or, btm2 j (by omega), b_s1 x (by omega)]
  cases j with
  | zero => simp at hc; rw [h 0 b rfl, h 1 a rfl, ← hc]; cases a <;> cases b <;> rfl
  | succ j => rw [h (j + 2) c hc]; cases c <;> simp
theorem bC_or {x : Int32} {a b : Bool} {s : List Bool} (hl : s.length ≤ 20) (h : bC x (b :: a :: s)) : bC ((x >>> ((1 : Int32) &&& 31)) ||| (x &&& 1)) ((a || b) :: s) := by
  intro j c hc
  have hj : j < 22 := by have := bC_lt hc; simp at this; omega
  rw [b_or, b_and, bt1 j (by omega), b_s1 x (by omega)]
  cases j with
  | zero => simp at hc; rw [h 0 b rfl, h 1 a rfl, ← hc]; cases a <;> cases b <;> rfl
  | succ j => rw [h (j + 2) c hc]; cases c <;> simp
theorem bC_push {x : Int32} {b : Bool} {s : List Bool} (hl : s.length ≤ 20) (h : bC x s) : bC ((x <<< ((1 : Int32) &&& 31)) ||| bI b) (b :: s) := by
  intro j c hc
  have hj : j < 22 := by have := bC_lt hc; simp at this; omega
  rw [b_or, b_l1 x (by omega)]
  have e : bt (bI b) j = (decide (j = 0) && b) := by
    cases b
    · show bt 0 j = _; rw [b_0]; simp
    · show bt 1 j = _; rw [bt1 j (by omega)]; simp
  rw [e]
  cases j with
  | zero => simp at hc; rw [hc]; cases c <;> rfl
  | succ j => simp at hc; simp; exact h j c hc
theorem bC_top {x : Int32} {b : Bool} {s : List Bool} (h : bC x (b :: s)) : (if (x &&& 1) = 0 then some (0 : Int32) else some 1) = some (bI b) := by
  have h0 : bt x 0 = b := h 0 b rfl
  have hx : x &&& 1 = bI b := by
    apply b_ext
    intro i hi
    rw [b_and, bt1 i hi]
    cases b
    · show _ = bt 0 i
      rw [b_0]
      by_cases c : i = 0
      · subst c; rw [h0]; rfl
      · simp [c]
    · show _ = bt 1 i
      rw [bt1 i hi]
      by_cases c : i = 0
      · subst c; rw [h0]; rfl
      · simp [c]
  rw [hx]
  cases b
  · rfl
  · rfl
theorem u_m1 {z w : Nat} (hz : z < 2 ^ 31) (hw : w < 2 ^ 31) : nI z - 1 < nI w ↔ z ≤ w := by
  cases z with
  | zero =>
    refine ⟨fun _ => Nat.zero_le _, fun _ => ?_⟩
    rw [show nI 0 - 1 = (-1 : Int32) from rfl, Int32.lt_iff_toInt_lt, nI_toInt hw]
    show (-1 : Int) < w
    omega
  | succ z => rw [nI_pred, u_ti (by omega) hw]; omega
theorem evs_ne : ∀ (vs : Nat → Nat) (L : List Nat) (s : List Bool) (d : Nat), dep L s.length = some d → (evs vs L s).length = d
  | vs, [], s, d, h => Option.some.inj h
  | vs, t :: L, s, d, h => by
    show (evs vs L (stp vs t s)).length = d
    simp only [dep] at h
    apply evs_ne
    by_cases c0 : t = 0
    · rw [if_pos c0] at h
      cases s with
      | nil => simp at h
      | cons b s => rw [if_pos (by simp)] at h; simpa [stp, c0] using h
    rw [if_neg c0] at h
    by_cases c1 : t ≤ 2
    · rw [if_pos c1] at h
      have c3 : t = 1 ∨ t = 2 := by omega
      cases s with
      | nil => simp at h
      | cons b s =>
        cases s with
        | nil => simp at h
        | cons a s =>
          rw [if_pos (by simp)] at h
          rcases c3 with c3 | c3 <;> simpa [stp, c3] using h
    · rw [if_neg c1] at h
      split at h
      · cases s with
        | nil => simpa [stp, c1] using h
        | cons b s => simpa [stp, c1, c0, show t ≠ 1 by omega, show t ≠ 2 by omega] using h
      · cases h
theorem holdsC (vs : Nat → Nat) (hv : ∀ f, vs f ≤ 9999) (cig : Nat → Nat → Int32) (mv : Nat → Int32) (hm : ∀ f, f < 6 → mv f = nI (vs f)) : ∀ (L : List Nat) (n a : Nat) (x : Int32) (s : List Bool) (d : Nat), L.length < n → a + L.length ≤ 100 → cRl cig a L → dep L s.length = some (d + 1) → s.length ≤ 20 → bC x s → k_X2_holds_6 (nI (a + L.length)) cig mv n x (nI a) = some (bI ((evs vs L s).headD false))
  | [], 0, _, _, _, _, hn, _, _, _, _, _ => by simp at hn
  | [], n + 1, a, x, s, d, hn, ha, hr, hd, hs, hb => by
    show (if nI a ≤ nI a then _ else _) = _
    rw [if_pos (nI_le (Nat.le_refl _) (by simp at ha; omega))]
    cases s with
    | nil => simp [dep] at hd
    | cons b s => exact bC_top hb
  | t :: L, 0, _, _, _, _, hn, _, _, _, _, _ => by simp at hn
  | t :: L, n + 1, a, x, s, d, hn, ha, hr, hd, hs, hb => by
    have hn' : L.length < n := by simp at hn; omega
    have ha' : a + 1 + L.length ≤ 100 := by simp at ha; omega
    have el : a + (t :: L).length = a + 1 + L.length := by simp; omega
    rw [el]
    have ih := fun x s d h1 h2 h3 => holdsC vs hv cig mv hm L n (a + 1) x s d hn' ha' hr.2 h1 h2 h3
    have h1 := hr.1
    show (if nI (a + 1 + L.length) ≤ nI a then _ else _) = _
    rw [if_neg (nI_ge (by omega) (by omega)), gd_n (by omega) (by omega), u_cl (by omega), nI_1]
    show _ = some (bI ((evs vs L (stp vs t s)).headD false))
    simp only [dep] at hd
    by_cases c0 : t = 0
    · subst c0
      have e6 : cig 6 a = 6 := h1
      rw [e6, if_pos rfl]
      cases s with
      | nil => simp at hd
      | cons b s =>
        simp at hs
        exact ih _ ((!b) :: s) d (by simpa using hd) (by simp; omega) (bC_not (by omega) hb)
    by_cases c1 : t = 1
    · subst c1
      have e6 : cig 6 a = 7 := h1
      rw [e6, if_neg (by decide), if_pos rfl]
      cases s with
      | nil => simp at hd
      | cons b s =>
        cases s with
        | nil => simp at hd
        | cons c s =>
          simp at hs
          exact ih _ ((c && b) :: s) d (by simpa using hd) (by simp; omega) (bC_and (by omega) hb)
    by_cases c2 : t = 2
    · subst c2
      have e6 : cig 6 a = 8 := h1
      rw [e6, if_neg (by decide), if_neg (by decide), if_pos rfl]
      cases s with
      | nil => simp at hd
      | cons b s =>
        cases s with
        | nil => simp at hd
        | cons c s =>
          simp at hs
          exact ih _ ((c || b) :: s) d (by simpa using hd) (by simp; omega) (bC_or (by omega) hb)
    rw [if_neg c0, if_neg (by omega)] at hd
    split at hd
    · rename_i hq
      simp only [cRt, if_neg c0, if_neg c1, if_neg c2] at h1
      have es : stp vs t s = tsV vs (t - 3) :: s := by cases s <;> simp [stp, c0, c1, c2, show ¬ t ≤ 2 by omega]
      rw [es]
      have hi : ∀ b, tsV vs (t - 3) = b → k_X2_holds_6 (nI (a + 1 + L.length)) cig mv n ((x <<< ((1 : Int32) &&& 31)) ||| bI b) (nI (a + 1)) = some (bI ((evs vs L (tsV vs (t - 3) :: s)).headD false)) := fun b e => by
        rw [e]
        exact ih _ (b :: s) d (by simpa using hd) (by simp; omega) (bC_push hs hb)
      generalize hu : t - 3 = u at h1 hq hi ⊢
      have e6 := h1.1
      rw [e6]
      have f6 : u / 1000 < 6 := hq.2.1
      rw [if_neg (fun e => by have := (u_ei (a := u / 1000) (b := 6) (by omega) (by omega)).mp e; omega), if_neg (fun e => by have := (u_ei (a := u / 1000) (b := 7) (by omega) (by omega)).mp e; omega), if_neg (fun e => by have := (u_ei (a := u / 1000) (b := 8) (by omega) (by omega)).mp e; omega), gd_n (by omega) (by omega), gd_n f6 (by omega), gd_n (by omega) (by omega), gd_n (by omega) (by omega), u_cl (by omega), hm _ f6]
      have hw := hv (u / 1000)
      have h2 := h1.2
      have hlt : u % 100 < 100 := Nat.mod_lt _ (by omega)
      by_cases s0 : u / 100 % 10 = 0
      · rw [if_pos s0] at h2
        rw [h2.1, h2.2, if_neg (nI_pos (by omega))]
        by_cases hc : vs (u / 1000) < u % 100
        · have et : tsV vs u = true := by simp [tsV, s0, hc]
          rw [et] at hi ⊢
          rw [if_neg (fun e => by have := (u_m1 (by omega) (by omega)).mp e; omega)]
          exact hi true rfl
        · have et : tsV vs u = false := by simp [tsV, s0]; omega
          rw [et] at hi ⊢
          rw [if_pos ((u_m1 (by omega) (by omega)).mpr (by omega))]
          exact hi false rfl
      rw [if_neg s0] at h2
      by_cases s1 : u / 100 % 10 = 1
      · rw [if_pos s1] at h2
        rw [h2.1, h2.2]
        by_cases hc : vs (u / 1000) = u % 100
        · have et : tsV vs u = true := by simp [tsV, s1, hc]
          rw [et] at hi ⊢
          rw [hc, if_neg (nI_nlt (Nat.le_refl _) (by omega)), if_neg (nI_nlt (Nat.le_refl _) (by omega))]
          exact hi true rfl
        · have et : tsV vs u = false := by simp [tsV, s1, hc]
          rw [et] at hi ⊢
          by_cases hl : vs (u / 1000) < u % 100
          · rw [if_pos (nI_lt hl (by omega))]
            exact hi false rfl
          · rw [if_neg (nI_nlt (by omega) (by omega)), if_pos (nI_lt (by omega) (by omega))]
            exact hi false rfl
      · rw [if_neg s1] at h2
        rw [h2.1, h2.2, nI_1]
        by_cases hc : u % 100 < vs (u / 1000)
        · have et : tsV vs u = true := by simp [tsV, s0, s1, hc]
          rw [et] at hi ⊢
          rw [if_neg (nI_nlt (by omega) (by omega)), if_neg (show ¬ 9999 < nI (vs (u / 1000)) from nI_nlt (b := vs (u / 1000)) (a := 9999) hw (by omega))]
          exact hi true rfl
        · have et : tsV vs u = false := by simp [tsV, s0, s1]; omega
          rw [et] at hi ⊢
          rw [if_pos (nI_lt (by omega) (by omega))]
          exact hi false rfl
    · cases hd

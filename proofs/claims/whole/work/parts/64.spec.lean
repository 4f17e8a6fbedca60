
def tpk (T : Nat → Nat) (L p : Nat) : Int32 := if L ≤ p then -1 else nI (T p)
def ltT (t : Nat) : Option Nat := if t = 112 then some 0 else if t = 107 then some 1 else if t = 118 then some 2 else if t = 110 then some 3 else if t = 97 then some 4 else if t = 100 then some 5 else none
def ltr (T : Nat → Nat) (L p : Nat) : Option Nat := if L ≤ p then none else ltT (T p)
def sgn (x : Int32) : Option Nat := if x = 60 then some 0 else if x = 61 then some 1 else if x = 62 then some 2 else none
def dg (x : Int32) : Bool := decide (48 ≤ x) && decide (x ≤ 57)
def spN (T : Nat → Nat) (L p : Nat) : Option (Nat × Nat) := if dg (tpk T L p) = true then (if dg (tpk T L (p + 1)) = true then some (10 * (T p - 48) + (T (p + 1) - 48), p + 2) else some (T p - 48, p + 1)) else none
def spT (T : Nat → Nat) (L p : Nat) : Bool × Nat × List Nat :=
  match ltr T L p with
  | none => (false, p, [])
  | some f => match sgn (tpk T L (p + 1)) with
    | none => (false, p + 1, [])
    | some s => match spN T L (p + 2) with
      | none => (false, p + 2, [])
      | some (n, p') => (true, p', [3 + (1000 * f + 100 * s + n)])
def spL (T : Nat → Nat) (L : Nat) (kF : Nat → Bool × Nat × List Nat) (c : Int32) (tk : Nat) : Nat → Nat → Nat → Bool × Nat × List Nat
  | 0, _, p => (false, p, [])
  | r + 1, k, p => if (kF p).1 = true then (if tpk T L (kF p).2.1 = c then ((spL T L kF c tk r (k + 1) ((kF p).2.1 + 1)).1, (spL T L kF c tk r (k + 1) ((kF p).2.1 + 1)).2.1, (if k = 0 then (kF p).2.2 else (kF p).2.2 ++ [tk]) ++ (spL T L kF c tk r (k + 1) ((kF p).2.1 + 1)).2.2) else (true, (kF p).2.1, if k = 0 then (kF p).2.2 else (kF p).2.2 ++ [tk])) else (false, (kF p).2.1, [])
def spB (T : Nat → Nat) (L : Nat) (kF : Nat → Bool × Nat × List Nat) (p : Nat) : Bool × Nat × List Nat := spL T L kF 38 1 100 0 p
def spE (T : Nat → Nat) (L : Nat) (kF : Nat → Bool × Nat × List Nat) (p : Nat) : Bool × Nat × List Nat := spL T L (spB T L kF) 124 2 100 0 p
def spF (T : Nat → Nat) (L : Nat) : Nat → Nat → Nat → Bool × Nat × List Nat
  | 0, _, p => (false, p, [])
  | n + 1, w, p => if tpk T L p = 33 then (if 4 ≤ w then (false, p, []) else if (spF T L n (w + 1) (p + 1)).1 = true then (true, (spF T L n (w + 1) (p + 1)).2.1, (spF T L n (w + 1) (p + 1)).2.2 ++ [0]) else (false, (spF T L n (w + 1) (p + 1)).2.1, [])) else if tpk T L p = 40 then (if 4 ≤ w then (false, p, []) else if (spE T L (spF T L n (w + 1)) (p + 1)).1 = true then (if tpk T L (spE T L (spF T L n (w + 1)) (p + 1)).2.1 = 41 then (true, (spE T L (spF T L n (w + 1)) (p + 1)).2.1 + 1, (spE T L (spF T L n (w + 1)) (p + 1)).2.2) else (false, (spE T L (spF T L n (w + 1)) (p + 1)).2.1, [])) else (false, (spE T L (spF T L n (w + 1)) (p + 1)).2.1, [])) else spT T L p
def spW (T : Nat → Nat) (L : Nat) : List Nat → Nat → Bool × Nat
  | [], p => (true, p)
  | c :: cs, p => if tpk T L p = nI c then spW T L cs (p + 1) else (false, p)
def wrd (s : Nat) : List Nat := if s = 0 then [108, 111, 117, 100] else if s = 1 then [104, 117, 115, 104] else [99, 97, 108, 109]
def srt (T : Nat → Nat) (L p : Nat) : Nat := if tpk T L p = 108 then 0 else if tpk T L p = 104 then 1 else 2
def spC (T : Nat → Nat) (L p : Nat) : Bool × Nat × (Nat × Nat × List Nat) :=
  if (spW T L (wrd (srt T L p) ++ [32]) p).1 = true then
    match spN T L (spW T L (wrd (srt T L p) ++ [32]) p).2 with
    | none => (false, (spW T L (wrd (srt T L p) ++ [32]) p).2, (0, 0, []))
    | some (n, p2) => if srt T L p = 2 then (true, p2, (2, n, [])) else if tpk T L p2 = 32 then (if (spE T L (spF T L 5 0) (p2 + 1)).1 = true then (true, (spE T L (spF T L 5 0) (p2 + 1)).2.1, (srt T L p, n, (spE T L (spF T L 5 0) (p2 + 1)).2.2)) else (false, (spE T L (spF T L 5 0) (p2 + 1)).2.1, (0, 0, []))) else (false, p2, (0, 0, []))
  else (false, (spW T L (wrd (srt T L p) ++ [32]) p).2, (0, 0, []))
def spX (T : Nat → Nat) (L : Nat) : Nat → Nat → Bool × Nat × List (Nat × Nat × List Nat)
  | 0, p => (false, p, [])
  | r + 1, p => if (spC T L p).1 = true then (if L ≤ (spC T L p).2.1 then (true, (spC T L p).2.1, [(spC T L p).2.2]) else if r = 0 then (false, (spC T L p).2.1, []) else if tpk T L (spC T L p).2.1 = 59 then ((spX T L r ((spC T L p).2.1 + 1)).1, (spX T L r ((spC T L p).2.1 + 1)).2.1, (spC T L p).2.2 :: (spX T L r ((spC T L p).2.1 + 1)).2.2) else (false, (spC T L p).2.1, [])) else (false, (spC T L p).2.1, [])
theorem tpk_lt {T : Nat → Nat} {L p c : Nat} (hc : c < 128) (h : tpk T L p = nI c) : p < L := by
  unfold tpk at h
  split at h
  · exact absurd h ((by decide +kernel : ∀ c, c < 128 → ¬ (-1 : Int32) = nI c) c hc)
  · omega
theorem dg_lt {T : Nat → Nat} {L p : Nat} (h : dg (tpk T L p) = true) : p < L := by
  unfold tpk at h
  split at h
  · exact absurd h (by decide)
  · omega
theorem dg_T {T : Nat → Nat} {L p : Nat} (h : dg (tpk T L p) = true) (ht : ∀ k, k < L → T k < 128) : 48 ≤ T p ∧ T p ≤ 57 := by
  have hl := dg_lt h
  unfold tpk at h
  rw [if_neg (by omega)] at h
  exact (by decide +kernel : ∀ t, t < 128 → dg (nI t) = true → 48 ≤ t ∧ t ≤ 57) _ (ht p hl) h
theorem spN_ok {T : Nat → Nat} {L p n p' : Nat} (ht : ∀ k, k < L → T k < 128) (h : spN T L p = some (n, p')) : n < 100 ∧ p < p' ∧ p' ≤ L ∧ p' ≤ p + 2 := by
  unfold spN at h
  split at h
  · rename_i h1
    have a1 := dg_lt h1
    have a2 := dg_T h1 ht
    split at h
    · rename_i h2
      have b1 := dg_lt h2
      have b2 := dg_T h2 ht
      have e := Option.some.inj h
      have e1 := congrArg Prod.fst e
      have e2 := congrArg Prod.snd e
      dsimp only at e1 e2
      omega
    · have e := Option.some.inj h
      have e1 := congrArg Prod.fst e
      have e2 := congrArg Prod.snd e
      dsimp only at e1 e2
      omega
  · cases h
theorem ltr_lt {T : Nat → Nat} {L p f : Nat} (h : ltr T L p = some f) : p < L ∧ f < 6 := by
  unfold ltr at h
  split at h
  · cases h
  · refine ⟨by omega, ?_⟩
    unfold ltT at h
    repeat' split at h
    all_goals first | (have e := Option.some.inj h; omega) | (cases h)
theorem sgn_lt {T : Nat → Nat} {L p s : Nat} (h : sgn (tpk T L p) = some s) : p < L ∧ s < 3 ∧ tpk T L p = nI (60 + s) := by
  unfold sgn at h
  split at h
  · rename_i h1
    have e := Option.some.inj h
    subst e
    exact ⟨tpk_lt (c := 60) (by omega) h1, by omega, h1⟩
  · split at h
    · rename_i h1
      have e := Option.some.inj h
      subst e
      exact ⟨tpk_lt (c := 61) (by omega) h1, by omega, h1⟩
    · split at h
      · rename_i h1
        have e := Option.some.inj h
        subst e
        exact ⟨tpk_lt (c := 62) (by omega) h1, by omega, h1⟩
      · cases h
theorem dep_n {d : Nat} (h : 1 ≤ d) : dep [0] d = some d := by
  simp only [dep]
  rw [if_pos trivial, if_pos h]
theorem dep_o {tk d : Nat} (ht : tk = 1 ∨ tk = 2) (h : 1 ≤ d) : dep [tk] (d + 1) = some d := by
  simp only [dep]
  rw [if_neg (by omega), if_pos (by omega), if_pos (by omega)]
  rfl
def spK (L m : Nat) (kF : Nat → Bool × Nat × List Nat) : Prop := ∀ p, (kF p).1 = true → p < (kF p).2.1 ∧ (kF p).2.1 ≤ L ∧ (kF p).2.2.length + p ≤ (kF p).2.1 ∧ (∀ t, t ∈ (kF p).2.2 → t < 10003) ∧ ∀ d, d + m ≤ 20 → dep (kF p).2.2 d = some (d + 1)
theorem spT_ok {T : Nat → Nat} {L : Nat} (ht : ∀ k, k < L → T k < 128) : spK L 2 (spT T L) := by
  intro p h
  unfold spT at h ⊢
  rcases h1 : ltr T L p with _ | f
  · rw [h1] at h; cases h
  · rw [h1] at h
    have a1 := ltr_lt h1
    rcases h2 : sgn (tpk T L (p + 1)) with _ | s
    · rw [h2] at h; cases h
    · rw [h2] at h
      have a2 := sgn_lt h2
      rcases h3 : spN T L (p + 2) with _ | ⟨n, p'⟩
      · rw [h3] at h; cases h
      · have a3 := spN_ok ht h3
        dsimp only
        refine ⟨by omega, by omega, by simp; omega, fun t ht => ?_, fun d hd => ?_⟩
        · have e : t = 3 + (1000 * f + 100 * s + n) := by simpa using ht
          omega
        · simp only [dep]
          rw [if_neg (by omega), if_neg (by omega), if_pos ⟨by omega, by omega, by omega⟩]
theorem spL_gen {T : Nat → Nat} {L m c0 tk : Nat} {kF : Nat → Bool × Nat × List Nat} (hk : spK L m kF) (hc : c0 < 128) (ht : tk = 1 ∨ tk = 2) : ∀ (r k p : Nat), (spL T L kF (nI c0) tk r k p).1 = true → p < (spL T L kF (nI c0) tk r k p).2.1 ∧ (spL T L kF (nI c0) tk r k p).2.1 ≤ L ∧ (spL T L kF (nI c0) tk r k p).2.2.length + p ≤ (spL T L kF (nI c0) tk r k p).2.1 + (if k = 0 then 0 else 1) ∧ (∀ t, t ∈ (spL T L kF (nI c0) tk r k p).2.2 → t < 10003) ∧ ∀ d, d + (m + 1) ≤ 20 → dep (spL T L kF (nI c0) tk r k p).2.2 (if k = 0 then d else d + 1) = some (d + 1)
  | 0, _, _, h => by cases h
  | r + 1, k, p, h => by
    have ih := spL_gen (T := T) hk hc ht r (k + 1) ((kF p).2.1 + 1)
    simp only [spL] at h ⊢
    by_cases h1 : (kF p).1 = true
    · obtain ⟨a1, a2, a3, a4, a5⟩ := hk p h1
      rw [if_pos h1] at h ⊢
      have hA : ∀ d, d + (m + 1) ≤ 20 → dep (if k = 0 then (kF p).2.2 else (kF p).2.2 ++ [tk]) (if k = 0 then d else d + 1) = some (d + 1) := by
        intro d hd
        by_cases hk0 : k = 0
        · rw [if_pos hk0, if_pos hk0]; exact a5 d (by omega)
        · rw [if_neg hk0, if_neg hk0, dep_app, a5 (d + 1) (by omega)]
          exact dep_o ht (by omega)
      have hB : (if k = 0 then (kF p).2.2 else (kF p).2.2 ++ [tk]).length = (kF p).2.2.length + (if k = 0 then 0 else 1) := by
        split <;> simp
      have hC : ∀ t, t ∈ (if k = 0 then (kF p).2.2 else (kF p).2.2 ++ [tk]) → t < 10003 := by
        intro t htm
        split at htm
        · exact a4 t htm
        · rcases List.mem_append.mp htm with h | h
          · exact a4 t h
          · have e : t = tk := by simpa using h
            omega
      by_cases h2 : tpk T L (kF p).2.1 = nI c0
      · rw [if_pos h2] at h ⊢
        obtain ⟨b1, b2, b3, b4, b5⟩ := ih h
        rw [if_neg (by omega)] at b3
        refine ⟨by dsimp only; omega, b2, ?_, fun t htm => ?_, fun d hd => ?_⟩
        · dsimp only
          rw [List.length_append, hB]
          omega
        · rcases List.mem_append.mp htm with h | h
          · exact hC t h
          · exact b4 t h
        · dsimp only
          rw [dep_app, hA d hd]
          have := b5 d hd
          rw [if_neg (by omega)] at this
          exact this
      · rw [if_neg h2]
        refine ⟨a1, a2, ?_, hC, hA⟩
        dsimp only
        rw [hB]
        omega
    · rw [if_neg h1] at h
      cases h
theorem spL_ok {T : Nat → Nat} {L m c0 tk : Nat} {kF : Nat → Bool × Nat × List Nat} (hk : spK L m kF) (hc : c0 < 128) (ht : tk = 1 ∨ tk = 2) (r : Nat) : spK L (m + 1) (spL T L kF (nI c0) tk r 0) := by
  intro p h
  obtain ⟨b1, b2, b3, b4, b5⟩ := spL_gen hk hc ht r 0 p h
  exact ⟨b1, b2, b3, b4, b5⟩
theorem spE_ok {T : Nat → Nat} {L m : Nat} {kF : Nat → Bool × Nat × List Nat} (hk : spK L m kF) : spK L (m + 2) (spE T L kF) :=
  spL_ok (c0 := 124) (spL_ok (c0 := 38) hk (by omega) (Or.inl rfl) 100) (by omega) (Or.inr rfl) 100
theorem spB_ok {T : Nat → Nat} {L m : Nat} {kF : Nat → Bool × Nat × List Nat} (hk : spK L m kF) : spK L (m + 1) (spB T L kF) :=
  spL_ok (c0 := 38) hk (by omega) (Or.inl rfl) 100
theorem spF_ok {T : Nat → Nat} {L : Nat} (ht : ∀ k, k < L → T k < 128) : ∀ (n w : Nat), spK L (2 * n) (spF T L n w)
  | 0, w => fun p h => by cases h
  | n + 1, w => by
    intro p h
    have hF := spF_ok ht n (w + 1)
    have hE := spE_ok (T := T) hF
    simp only [spF] at h ⊢
    by_cases h1 : tpk T L p = 33
    · rw [if_pos h1] at h ⊢
      by_cases h2 : 4 ≤ w
      · rw [if_pos h2] at h; cases h
      · rw [if_neg h2] at h ⊢
        by_cases h3 : (spF T L n (w + 1) (p + 1)).1 = true
        · rw [if_pos h3]
          obtain ⟨a1, a2, a3, a4, a5⟩ := hF _ h3
          refine ⟨by dsimp only; omega, a2, by dsimp only; rw [List.length_append]; simp; omega, fun t htm => ?_, fun d hd => ?_⟩
          · rcases List.mem_append.mp htm with h | h
            · exact a4 t h
            · have e : t = 0 := by simpa using h
              omega
          · dsimp only
            rw [dep_app, a5 d (by omega)]
            exact dep_n (by omega)
        · rw [if_neg h3] at h; cases h
    · rw [if_neg h1] at h ⊢
      by_cases h4 : tpk T L p = 40
      · rw [if_pos h4] at h ⊢
        by_cases h2 : 4 ≤ w
        · rw [if_pos h2] at h; cases h
        · rw [if_neg h2] at h ⊢
          by_cases h3 : (spE T L (spF T L n (w + 1)) (p + 1)).1 = true
          · rw [if_pos h3] at h ⊢
            obtain ⟨a1, a2, a3, a4, a5⟩ := hE _ h3
            by_cases h5 : tpk T L (spE T L (spF T L n (w + 1)) (p + 1)).2.1 = 41
            · rw [if_pos h5]
              have := tpk_lt (c := 41) (by omega) h5
              exact ⟨by dsimp only; omega, by dsimp only; omega, by dsimp only; omega, a4, fun d hd => a5 d (by omega)⟩
            · rw [if_neg h5] at h; cases h
          · rw [if_neg h3] at h; cases h
      · rw [if_neg h4] at h ⊢
        obtain ⟨a1, a2, a3, a4, a5⟩ := spT_ok ht p h
        exact ⟨a1, a2, a3, a4, fun d hd => a5 d (by omega)⟩
theorem spW_le {T : Nat → Nat} {L : Nat} : ∀ (cs : List Nat) (p : Nat), (∀ c, c ∈ cs → c < 128) → p ≤ L → p ≤ (spW T L cs p).2 ∧ (spW T L cs p).2 ≤ L
  | [], p, _, hp => ⟨Nat.le_refl _, hp⟩
  | c :: cs, p, hc, hp => by
    simp only [spW]
    by_cases h : tpk T L p = nI c
    · rw [if_pos h]
      have h1 := tpk_lt (hc c (List.mem_cons_self ..)) h
      have ih := spW_le (T := T) cs (p + 1) (fun c h => hc c (List.mem_cons_of_mem _ h)) h1
      exact ⟨by omega, ih.2⟩
    · rw [if_neg h]; exact ⟨Nat.le_refl _, hp⟩
theorem wrd_c (s : Nat) : ∀ c, c ∈ wrd s ++ [32] → c < 128 := by
  have : ∀ s, s < 3 → ∀ c, c ∈ wrd s ++ [32] → c < 128 := by decide +kernel
  intro c
  by_cases h0 : s < 3
  · exact this s h0 c
  · have : wrd s = wrd 2 := by unfold wrd; rw [if_neg (by omega), if_neg (by omega)]; rfl
    rw [this]; exact (by decide +kernel : ∀ c, c ∈ wrd 2 ++ [32] → c < 128) c
theorem srt_lt (T : Nat → Nat) (L p : Nat) : srt T L p ≤ 2 := by unfold srt; split <;> (try split) <;> omega
theorem spC_ok {T : Nat → Nat} {L p : Nat} (ht : ∀ k, k < L → T k < 128) (hp : p ≤ L) (h : (spC T L p).1 = true) : p < (spC T L p).2.1 ∧ (spC T L p).2.1 ≤ L ∧ (spC T L p).2.2.2.2.length + p ≤ (spC T L p).2.1 ∧ okC (spC T L p).2.2 ∧ ((spC T L p).2.2.1 = 2 → (spC T L p).2.2.2.2 = []) := by
  unfold spC at h ⊢
  have hw := spW_le (T := T) (L := L) _ p (wrd_c (srt T L p)) hp
  by_cases h1 : (spW T L (wrd (srt T L p) ++ [32]) p).1 = true
  · rw [if_pos h1] at h ⊢
    rcases h3 : spN T L (spW T L (wrd (srt T L p) ++ [32]) p).2 with _ | ⟨n, p2⟩
    · rw [h3] at h; cases h
    · rw [h3] at h
      have a3 := spN_ok ht h3
      dsimp only at h ⊢
      by_cases h4 : srt T L p = 2
      · rw [if_pos h4]
        refine ⟨by dsimp only; omega, by dsimp only; omega, by simp; omega, ⟨by dsimp only; omega, by dsimp only; omega, fun h => absurd (show (2 : Nat) < 2 from h) (by decide), fun t h => by cases h⟩, fun _ => rfl⟩
      · rw [if_neg h4] at h ⊢
        by_cases h5 : tpk T L p2 = 32
        · rw [if_pos h5] at h ⊢
          by_cases h6 : (spE T L (spF T L 5 0) (p2 + 1)).1 = true
          · rw [if_pos h6]
            obtain ⟨a1, a2, a3', a4, a5⟩ := spE_ok (T := T) (spF_ok ht 5 0) _ h6
            refine ⟨by dsimp only; omega, a2, by dsimp only; omega, ⟨srt_lt T L p, by dsimp only; omega, fun _ => a5 0 (by omega), a4⟩, fun h => absurd h h4⟩
          · rw [if_neg h6] at h; cases h
        · rw [if_neg h5] at h; cases h
  · rw [if_neg h1] at h; cases h
theorem spX_ok {T : Nat → Nat} {L : Nat} (ht : ∀ k, k < L → T k < 128) : ∀ (r p : Nat), p ≤ L → (spX T L r p).1 = true → (∀ c, c ∈ (spX T L r p).2.2 → okC c) ∧ (spX T L r p).2.2.length ≤ r ∧ tlC (spX T L r p).2.2 + p ≤ L
  | 0, p, _, h => by cases h
  | r + 1, p, hp, h => by
    have ih := spX_ok ht r ((spC T L p).2.1 + 1)
    simp only [spX] at h ⊢
    by_cases h1 : (spC T L p).1 = true
    · rw [if_pos h1] at h ⊢
      obtain ⟨a1, a2, a3, a4, _⟩ := spC_ok ht hp h1
      by_cases h2 : L ≤ (spC T L p).2.1
      · rw [if_pos h2]
        refine ⟨fun c hc => ?_, by simp, by simp only [tlC]; omega⟩
        have e : c = (spC T L p).2.2 := by simpa using hc
        rw [e]; exact a4
      · rw [if_neg h2] at h ⊢
        by_cases h3 : r = 0
        · rw [if_pos h3] at h; cases h
        · rw [if_neg h3] at h ⊢
          by_cases h4 : tpk T L (spC T L p).2.1 = 59
          · rw [if_pos h4] at h ⊢
            obtain ⟨b1, b2, b3⟩ := ih (by omega) h
            refine ⟨fun c hc => ?_, by simp; omega, by simp only [tlC]; omega⟩
            rcases List.mem_cons.mp hc with e | e
            · rw [e]; exact a4
            · exact b1 c e
          · rw [if_neg h4] at h; cases h
    · rw [if_neg h1] at h; cases h

theorem im250 (fi : Nat → Int32) : ∀ (r n o : Nat) (ga : Nat → Nat → Int32), r < n → 8 = o + r → ∃ ga', k_X7_image_250 n (nI o) fi ga = some (fi 0, fi, ga') ∧ (∀ s, s ≠ 65 → s ≠ 66 → ga' s = ga s) ∧ (∀ p, p < o → ga' 65 p = ga 65 p) ∧ (∀ p, o ≤ p → p < 8 → ga' 65 p = ga 43 p) ∧ (∀ p, p < o → ga' 66 p = ga 66 p) ∧ (∀ p, o ≤ p → p < 8 → ga' 66 p = ga 44 p)
  | 0, 0, _, _, hl, _ => by omega
  | 0, n + 1, o, ga, hl, e => by
    refine ⟨ga, ?_, fun s _ _ => rfl, fun _ _ => rfl, fun p a b => by omega, fun _ _ => rfl, fun p a b => by omega⟩
    show (if 8 ≤ nI o then _ else _) = _
    rw [if_pos (show (8 : Int32) ≤ nI o from nI_le (a := 8) (by omega) (by omega))]
  | r + 1, 0, _, _, hl, _ => by omega
  | r + 1, n + 1, o, ga, hl, e => by
    have g1 : ∀ {α : Type} (x : Option α), gd (nI o) 8 x = x := fun x => gd_n (by omega) (by omega)
    simp only [k_X7_image_250, nm_e1, g1]
    rw [if_neg (show ¬ (8 : Int32) ≤ nI o from nI_ge (b := 8) (by omega) (by omega)), u_cl (by omega), nI_1]
    obtain ⟨ga', e1, e2, i0, j0 , i1, j1⟩ := im250 fi r n (o + 1) (va_up (va_up ga 65 (upd (ga 65) o (ga 43 o))) 66 (upd (ga 66) o (ga 44 o))) (by omega) (by omega)
    refine ⟨ga', e1, fun s n0 n1 => ?_, fun p hp => ?_, fun p a b => ?_, fun p hp => ?_, fun p a b => ?_⟩
    · rw [e2 s n0 n1]; simp only [va_up]; simp [n0, n1]
    · rw [i0 p (by omega)]; simp [va_up, upd, show p ≠ o by omega]
    · by_cases c : p = o
      · subst c; rw [i0 p (by omega)]; simp [va_up, upd]
      · rw [j0 p (by omega) b]; simp [va_up]
    · rw [i1 p (by omega)]; simp [va_up, upd, show p ≠ o by omega]
    · by_cases c : p = o
      · subst c; rw [i1 p (by omega)]; simp [va_up, upd]
      · rw [j1 p (by omega) b]; simp [va_up]
theorem im212 (fi : Nat → Int32) : ∀ (r n o : Nat) (ga : Nat → Nat → Int32), r < n → 10 = o + r → ∃ ga', k_X7_image_212 n (nI o) fi ga = k_X7_image_250 100000 0 fi ga' ∧ (∀ s, s ≠ 63 → s ≠ 64 → ga' s = ga s) ∧ (∀ p, p < o → ga' 63 p = ga 63 p) ∧ (∀ p, o ≤ p → p < 10 → ga' 63 p = ga 41 p) ∧ (∀ p, p < o → ga' 64 p = ga 64 p) ∧ (∀ p, o ≤ p → p < 10 → ga' 64 p = ga 42 p)
  | 0, 0, _, _, hl, _ => by omega
  | 0, n + 1, o, ga, hl, e => by
    refine ⟨ga, ?_, fun s _ _ => rfl, fun _ _ => rfl, fun p a b => by omega, fun _ _ => rfl, fun p a b => by omega⟩
    show (if 10 ≤ nI o then _ else _) = _
    rw [if_pos (show (10 : Int32) ≤ nI o from nI_le (a := 10) (by omega) (by omega))]
  | r + 1, 0, _, _, hl, _ => by omega
  | r + 1, n + 1, o, ga, hl, e => by
    have g1 : ∀ {α : Type} (x : Option α), gd (nI o) 10 x = x := fun x => gd_n (by omega) (by omega)
    simp only [k_X7_image_212, nm_e1, g1]
    rw [if_neg (show ¬ (10 : Int32) ≤ nI o from nI_ge (b := 10) (by omega) (by omega)), u_cl (by omega), nI_1]
    obtain ⟨ga', e1, e2, i0, j0 , i1, j1⟩ := im212 fi r n (o + 1) (va_up (va_up ga 63 (upd (ga 63) o (ga 41 o))) 64 (upd (ga 64) o (ga 42 o))) (by omega) (by omega)
    refine ⟨ga', e1, fun s n0 n1 => ?_, fun p hp => ?_, fun p a b => ?_, fun p hp => ?_, fun p a b => ?_⟩
    · rw [e2 s n0 n1]; simp only [va_up]; simp [n0, n1]
    · rw [i0 p (by omega)]; simp [va_up, upd, show p ≠ o by omega]
    · by_cases c : p = o
      · subst c; rw [i0 p (by omega)]; simp [va_up, upd]
      · rw [j0 p (by omega) b]; simp [va_up]
    · rw [i1 p (by omega)]; simp [va_up, upd, show p ≠ o by omega]
    · by_cases c : p = o
      · subst c; rw [i1 p (by omega)]; simp [va_up, upd]
      · rw [j1 p (by omega) b]; simp [va_up]
theorem im175 (fi : Nat → Int32) : ∀ (r n o : Nat) (ga : Nat → Nat → Int32), r < n → 5 = o + r → ∃ ga', k_X7_image_175 n (nI o) fi ga = k_X7_image_212 100000 0 fi ga' ∧ (∀ s, s ≠ 61 → s ≠ 62 → ga' s = ga s) ∧ (∀ p, p < o → ga' 61 p = ga 61 p) ∧ (∀ p, o ≤ p → p < 5 → ga' 61 p = ga 37 p) ∧ (∀ p, p < o → ga' 62 p = ga 62 p) ∧ (∀ p, o ≤ p → p < 5 → ga' 62 p = ga 38 p)
  | 0, 0, _, _, hl, _ => by omega
  | 0, n + 1, o, ga, hl, e => by
    refine ⟨ga, ?_, fun s _ _ => rfl, fun _ _ => rfl, fun p a b => by omega, fun _ _ => rfl, fun p a b => by omega⟩
    show (if 5 ≤ nI o then _ else _) = _
    rw [if_pos (show (5 : Int32) ≤ nI o from nI_le (a := 5) (by omega) (by omega))]
  | r + 1, 0, _, _, hl, _ => by omega
  | r + 1, n + 1, o, ga, hl, e => by
    have g1 : ∀ {α : Type} (x : Option α), gd (nI o) 5 x = x := fun x => gd_n (by omega) (by omega)
    simp only [k_X7_image_175, nm_e1, g1]
    rw [if_neg (show ¬ (5 : Int32) ≤ nI o from nI_ge (b := 5) (by omega) (by omega)), u_cl (by omega), nI_1]
    obtain ⟨ga', e1, e2, i0, j0 , i1, j1⟩ := im175 fi r n (o + 1) (va_up (va_up ga 61 (upd (ga 61) o (ga 37 o))) 62 (upd (ga 62) o (ga 38 o))) (by omega) (by omega)
    refine ⟨ga', e1, fun s n0 n1 => ?_, fun p hp => ?_, fun p a b => ?_, fun p hp => ?_, fun p a b => ?_⟩
    · rw [e2 s n0 n1]; simp only [va_up]; simp [n0, n1]
    · rw [i0 p (by omega)]; simp [va_up, upd, show p ≠ o by omega]
    · by_cases c : p = o
      · subst c; rw [i0 p (by omega)]; simp [va_up, upd]
      · rw [j0 p (by omega) b]; simp [va_up]
    · rw [i1 p (by omega)]; simp [va_up, upd, show p ≠ o by omega]
    · by_cases c : p = o
      · subst c; rw [i1 p (by omega)]; simp [va_up, upd]
      · rw [j1 p (by omega) b]; simp [va_up]
theorem im149 (fi : Nat → Int32) : ∀ (r n o : Nat) (ga : Nat → Nat → Int32), r < n → 24 = o + r → ∃ ga', k_X7_image_149 n (nI o) fi ga = k_X7_image_175 100000 0 fi ga' ∧ (∀ s, s ≠ 60 → ga' s = ga s) ∧ (∀ p, p < o → ga' 60 p = ga 60 p) ∧ (∀ p, o ≤ p → p < 24 → ga' 60 p = ga 10 p)
  | 0, 0, _, _, hl, _ => by omega
  | 0, n + 1, o, ga, hl, e => by
    refine ⟨ga, ?_, fun s _ => rfl, fun _ _ => rfl, fun p a b => by omega⟩
    show (if 24 ≤ nI o then _ else _) = _
    rw [if_pos (show (24 : Int32) ≤ nI o from nI_le (a := 24) (by omega) (by omega))]
  | r + 1, 0, _, _, hl, _ => by omega
  | r + 1, n + 1, o, ga, hl, e => by
    have g1 : ∀ {α : Type} (x : Option α), gd (nI o) 24 x = x := fun x => gd_n (by omega) (by omega)
    simp only [k_X7_image_149, nm_e1, g1]
    rw [if_neg (show ¬ (24 : Int32) ≤ nI o from nI_ge (b := 24) (by omega) (by omega)), u_cl (by omega), nI_1]
    obtain ⟨ga', e1, e2, i0, j0⟩ := im149 fi r n (o + 1) (va_up ga 60 (upd (ga 60) o (ga 10 o))) (by omega) (by omega)
    refine ⟨ga', e1, fun s n0 => ?_, fun p hp => ?_, fun p a b => ?_⟩
    · rw [e2 s n0]; simp only [va_up]; simp [n0]
    · rw [i0 p (by omega)]; simp [va_up, upd, show p ≠ o by omega]
    · by_cases c : p = o
      · subst c; rw [i0 p (by omega)]; simp [va_up, upd]
      · rw [j0 p (by omega) b]; simp [va_up]
theorem im87 (fi : Nat → Int32) : ∀ (r n o : Nat) (ga : Nat → Nat → Int32), r < n → 6 = o + r → ∃ ga', k_X7_image_87 n (nI o) fi ga = k_X7_image_149 100000 0 fi ga' ∧ (∀ s, s ≠ 56 → s ≠ 57 → s ≠ 58 → s ≠ 59 → ga' s = ga s) ∧ (∀ p, p < o → ga' 56 p = ga 56 p) ∧ (∀ p, o ≤ p → p < 6 → ga' 56 p = ga 6 p) ∧ (∀ p, p < o → ga' 57 p = ga 57 p) ∧ (∀ p, o ≤ p → p < 6 → ga' 57 p = ga 7 p) ∧ (∀ p, p < o → ga' 58 p = ga 58 p) ∧ (∀ p, o ≤ p → p < 6 → ga' 58 p = ga 8 p) ∧ (∀ p, p < o → ga' 59 p = ga 59 p) ∧ (∀ p, o ≤ p → p < 6 → ga' 59 p = ga 9 p)
  | 0, 0, _, _, hl, _ => by omega
  | 0, n + 1, o, ga, hl, e => by
    refine ⟨ga, ?_, fun s _ _ _ _ => rfl, fun _ _ => rfl, fun p a b => by omega, fun _ _ => rfl, fun p a b => by omega, fun _ _ => rfl, fun p a b => by omega, fun _ _ => rfl, fun p a b => by omega⟩
    show (if 6 ≤ nI o then _ else _) = _
    rw [if_pos (show (6 : Int32) ≤ nI o from nI_le (a := 6) (by omega) (by omega))]
  | r + 1, 0, _, _, hl, _ => by omega
  | r + 1, n + 1, o, ga, hl, e => by
    have g1 : ∀ {α : Type} (x : Option α), gd (nI o) 6 x = x := fun x => gd_n (by omega) (by omega)
    simp only [k_X7_image_87, nm_e1, g1]
    rw [if_neg (show ¬ (6 : Int32) ≤ nI o from nI_ge (b := 6) (by omega) (by omega)), u_cl (by omega), nI_1]
    obtain ⟨ga', e1, e2, i0, j0 , i1, j1 , i2, j2 , i3, j3⟩ := im87 fi r n (o + 1) (va_up (va_up (va_up (va_up ga 56 (upd (ga 56) o (ga 6 o))) 57 (upd (ga 57) o (ga 7 o))) 58 (upd ((va_up (va_up ga 56 (upd (ga 56) o (ga 6 o))) 57 (upd (ga 57) o (ga 7 o))) 58) o ((va_up (va_up ga 56 (upd (ga 56) o (ga 6 o))) 57 (upd (ga 57) o (ga 7 o))) 8 o))) 59 (upd ((va_up (va_up ga 56 (upd (ga 56) o (ga 6 o))) 57 (upd (ga 57) o (ga 7 o))) 59) o ((va_up (va_up ga 56 (upd (ga 56) o (ga 6 o))) 57 (upd (ga 57) o (ga 7 o))) 9 o))) (by omega) (by omega)
    refine ⟨ga', e1, fun s n0 n1 n2 n3 => ?_, fun p hp => ?_, fun p a b => ?_, fun p hp => ?_, fun p a b => ?_, fun p hp => ?_, fun p a b => ?_, fun p hp => ?_, fun p a b => ?_⟩
    · rw [e2 s n0 n1 n2 n3]; simp only [va_up]; simp [n0, n1, n2, n3]
    · rw [i0 p (by omega)]; simp [va_up, upd, show p ≠ o by omega]
    · by_cases c : p = o
      · subst c; rw [i0 p (by omega)]; simp [va_up, upd]
      · rw [j0 p (by omega) b]; simp [va_up]
    · rw [i1 p (by omega)]; simp [va_up, upd, show p ≠ o by omega]
    · by_cases c : p = o
      · subst c; rw [i1 p (by omega)]; simp [va_up, upd]
      · rw [j1 p (by omega) b]; simp [va_up]
    · rw [i2 p (by omega)]; simp [va_up, upd, show p ≠ o by omega]
    · by_cases c : p = o
      · subst c; rw [i2 p (by omega)]; simp [va_up, upd]
      · rw [j2 p (by omega) b]; simp [va_up]
    · rw [i3 p (by omega)]; simp [va_up, upd, show p ≠ o by omega]
    · by_cases c : p = o
      · subst c; rw [i3 p (by omega)]; simp [va_up, upd]
      · rw [j3 p (by omega) b]; simp [va_up]
theorem un255 (fi : Nat → Int32) : ∀ (r n o : Nat) (ga : Nat → Nat → Int32), r < n → 8 = o + r → ∃ ga', k_X7_undo_255 n (nI o) fi ga = some (fi 0, fi, ga') ∧ (∀ s, s ≠ 43 → s ≠ 44 → ga' s = ga s) ∧ (∀ p, p < o → ga' 43 p = ga 43 p) ∧ (∀ p, o ≤ p → p < 8 → ga' 43 p = ga 65 p) ∧ (∀ p, p < o → ga' 44 p = ga 44 p) ∧ (∀ p, o ≤ p → p < 8 → ga' 44 p = ga 66 p)
  | 0, 0, _, _, hl, _ => by omega
  | 0, n + 1, o, ga, hl, e => by
    refine ⟨ga, ?_, fun s _ _ => rfl, fun _ _ => rfl, fun p a b => by omega, fun _ _ => rfl, fun p a b => by omega⟩
    show (if 8 ≤ nI o then _ else _) = _
    rw [if_pos (show (8 : Int32) ≤ nI o from nI_le (a := 8) (by omega) (by omega))]
  | r + 1, 0, _, _, hl, _ => by omega
  | r + 1, n + 1, o, ga, hl, e => by
    have g1 : ∀ {α : Type} (x : Option α), gd (nI o) 8 x = x := fun x => gd_n (by omega) (by omega)
    simp only [k_X7_undo_255, nm_e1, g1]
    rw [if_neg (show ¬ (8 : Int32) ≤ nI o from nI_ge (b := 8) (by omega) (by omega)), u_cl (by omega), nI_1]
    obtain ⟨ga', e1, e2, i0, j0 , i1, j1⟩ := un255 fi r n (o + 1) (va_up (va_up ga 43 (upd (ga 43) o (ga 65 o))) 44 (upd (ga 44) o (ga 66 o))) (by omega) (by omega)
    refine ⟨ga', e1, fun s n0 n1 => ?_, fun p hp => ?_, fun p a b => ?_, fun p hp => ?_, fun p a b => ?_⟩
    · rw [e2 s n0 n1]; simp only [va_up]; simp [n0, n1]
    · rw [i0 p (by omega)]; simp [va_up, upd, show p ≠ o by omega]
    · by_cases c : p = o
      · subst c; rw [i0 p (by omega)]; simp [va_up, upd]
      · rw [j0 p (by omega) b]; simp [va_up]
    · rw [i1 p (by omega)]; simp [va_up, upd, show p ≠ o by omega]
    · by_cases c : p = o
      · subst c; rw [i1 p (by omega)]; simp [va_up, upd]
      · rw [j1 p (by omega) b]; simp [va_up]
theorem un217 (fi : Nat → Int32) : ∀ (r n o : Nat) (ga : Nat → Nat → Int32), r < n → 10 = o + r → ∃ ga', k_X7_undo_217 n (nI o) fi ga = k_X7_undo_255 100000 0 fi ga' ∧ (∀ s, s ≠ 41 → s ≠ 42 → ga' s = ga s) ∧ (∀ p, p < o → ga' 41 p = ga 41 p) ∧ (∀ p, o ≤ p → p < 10 → ga' 41 p = ga 63 p) ∧ (∀ p, p < o → ga' 42 p = ga 42 p) ∧ (∀ p, o ≤ p → p < 10 → ga' 42 p = ga 64 p)
  | 0, 0, _, _, hl, _ => by omega
  | 0, n + 1, o, ga, hl, e => by
    refine ⟨ga, ?_, fun s _ _ => rfl, fun _ _ => rfl, fun p a b => by omega, fun _ _ => rfl, fun p a b => by omega⟩
    show (if 10 ≤ nI o then _ else _) = _
    rw [if_pos (show (10 : Int32) ≤ nI o from nI_le (a := 10) (by omega) (by omega))]
  | r + 1, 0, _, _, hl, _ => by omega
  | r + 1, n + 1, o, ga, hl, e => by
    have g1 : ∀ {α : Type} (x : Option α), gd (nI o) 10 x = x := fun x => gd_n (by omega) (by omega)
    simp only [k_X7_undo_217, nm_e1, g1]
    rw [if_neg (show ¬ (10 : Int32) ≤ nI o from nI_ge (b := 10) (by omega) (by omega)), u_cl (by omega), nI_1]
    obtain ⟨ga', e1, e2, i0, j0 , i1, j1⟩ := un217 fi r n (o + 1) (va_up (va_up ga 41 (upd (ga 41) o (ga 63 o))) 42 (upd (ga 42) o (ga 64 o))) (by omega) (by omega)
    refine ⟨ga', e1, fun s n0 n1 => ?_, fun p hp => ?_, fun p a b => ?_, fun p hp => ?_, fun p a b => ?_⟩
    · rw [e2 s n0 n1]; simp only [va_up]; simp [n0, n1]
    · rw [i0 p (by omega)]; simp [va_up, upd, show p ≠ o by omega]
    · by_cases c : p = o
      · subst c; rw [i0 p (by omega)]; simp [va_up, upd]
      · rw [j0 p (by omega) b]; simp [va_up]
    · rw [i1 p (by omega)]; simp [va_up, upd, show p ≠ o by omega]
    · by_cases c : p = o
      · subst c; rw [i1 p (by omega)]; simp [va_up, upd]
      · rw [j1 p (by omega) b]; simp [va_up]
theorem un180 (fi : Nat → Int32) : ∀ (r n o : Nat) (ga : Nat → Nat → Int32), r < n → 5 = o + r → ∃ ga', k_X7_undo_180 n (nI o) fi ga = k_X7_undo_217 100000 0 fi ga' ∧ (∀ s, s ≠ 37 → s ≠ 38 → ga' s = ga s) ∧ (∀ p, p < o → ga' 37 p = ga 37 p) ∧ (∀ p, o ≤ p → p < 5 → ga' 37 p = ga 61 p) ∧ (∀ p, p < o → ga' 38 p = ga 38 p) ∧ (∀ p, o ≤ p → p < 5 → ga' 38 p = ga 62 p)
  | 0, 0, _, _, hl, _ => by omega
  | 0, n + 1, o, ga, hl, e => by
    refine ⟨ga, ?_, fun s _ _ => rfl, fun _ _ => rfl, fun p a b => by omega, fun _ _ => rfl, fun p a b => by omega⟩
    show (if 5 ≤ nI o then _ else _) = _
    rw [if_pos (show (5 : Int32) ≤ nI o from nI_le (a := 5) (by omega) (by omega))]
  | r + 1, 0, _, _, hl, _ => by omega
  | r + 1, n + 1, o, ga, hl, e => by
    have g1 : ∀ {α : Type} (x : Option α), gd (nI o) 5 x = x := fun x => gd_n (by omega) (by omega)
    simp only [k_X7_undo_180, nm_e1, g1]
    rw [if_neg (show ¬ (5 : Int32) ≤ nI o from nI_ge (b := 5) (by omega) (by omega)), u_cl (by omega), nI_1]
    obtain ⟨ga', e1, e2, i0, j0 , i1, j1⟩ := un180 fi r n (o + 1) (va_up (va_up ga 37 (upd (ga 37) o (ga 61 o))) 38 (upd (ga 38) o (ga 62 o))) (by omega) (by omega)
    refine ⟨ga', e1, fun s n0 n1 => ?_, fun p hp => ?_, fun p a b => ?_, fun p hp => ?_, fun p a b => ?_⟩
    · rw [e2 s n0 n1]; simp only [va_up]; simp [n0, n1]
    · rw [i0 p (by omega)]; simp [va_up, upd, show p ≠ o by omega]
    · by_cases c : p = o
      · subst c; rw [i0 p (by omega)]; simp [va_up, upd]
      · rw [j0 p (by omega) b]; simp [va_up]
    · rw [i1 p (by omega)]; simp [va_up, upd, show p ≠ o by omega]
    · by_cases c : p = o
      · subst c; rw [i1 p (by omega)]; simp [va_up, upd]
      · rw [j1 p (by omega) b]; simp [va_up]
theorem un154 (fi : Nat → Int32) : ∀ (r n o : Nat) (ga : Nat → Nat → Int32), r < n → 24 = o + r → ∃ ga', k_X7_undo_154 n (nI o) fi ga = k_X7_undo_180 100000 0 fi ga' ∧ (∀ s, s ≠ 10 → ga' s = ga s) ∧ (∀ p, p < o → ga' 10 p = ga 10 p) ∧ (∀ p, o ≤ p → p < 24 → ga' 10 p = ga 60 p)
  | 0, 0, _, _, hl, _ => by omega
  | 0, n + 1, o, ga, hl, e => by
    refine ⟨ga, ?_, fun s _ => rfl, fun _ _ => rfl, fun p a b => by omega⟩
    show (if 24 ≤ nI o then _ else _) = _
    rw [if_pos (show (24 : Int32) ≤ nI o from nI_le (a := 24) (by omega) (by omega))]
  | r + 1, 0, _, _, hl, _ => by omega
  | r + 1, n + 1, o, ga, hl, e => by
    have g1 : ∀ {α : Type} (x : Option α), gd (nI o) 24 x = x := fun x => gd_n (by omega) (by omega)
    simp only [k_X7_undo_154, nm_e1, g1]
    rw [if_neg (show ¬ (24 : Int32) ≤ nI o from nI_ge (b := 24) (by omega) (by omega)), u_cl (by omega), nI_1]
    obtain ⟨ga', e1, e2, i0, j0⟩ := un154 fi r n (o + 1) (va_up ga 10 (upd (ga 10) o (ga 60 o))) (by omega) (by omega)
    refine ⟨ga', e1, fun s n0 => ?_, fun p hp => ?_, fun p a b => ?_⟩
    · rw [e2 s n0]; simp only [va_up]; simp [n0]
    · rw [i0 p (by omega)]; simp [va_up, upd, show p ≠ o by omega]
    · by_cases c : p = o
      · subst c; rw [i0 p (by omega)]; simp [va_up, upd]
      · rw [j0 p (by omega) b]; simp [va_up]
theorem un92 (fi : Nat → Int32) : ∀ (r n o : Nat) (ga : Nat → Nat → Int32), r < n → 6 = o + r → ∃ ga', k_X7_undo_92 n (nI o) fi ga = k_X7_undo_154 100000 0 fi ga' ∧ (∀ s, s ≠ 6 → s ≠ 7 → s ≠ 8 → s ≠ 9 → ga' s = ga s) ∧ (∀ p, p < o → ga' 6 p = ga 6 p) ∧ (∀ p, o ≤ p → p < 6 → ga' 6 p = ga 56 p) ∧ (∀ p, p < o → ga' 7 p = ga 7 p) ∧ (∀ p, o ≤ p → p < 6 → ga' 7 p = ga 57 p) ∧ (∀ p, p < o → ga' 8 p = ga 8 p) ∧ (∀ p, o ≤ p → p < 6 → ga' 8 p = ga 58 p) ∧ (∀ p, p < o → ga' 9 p = ga 9 p) ∧ (∀ p, o ≤ p → p < 6 → ga' 9 p = ga 59 p)
  | 0, 0, _, _, hl, _ => by omega
  | 0, n + 1, o, ga, hl, e => by
    refine ⟨ga, ?_, fun s _ _ _ _ => rfl, fun _ _ => rfl, fun p a b => by omega, fun _ _ => rfl, fun p a b => by omega, fun _ _ => rfl, fun p a b => by omega, fun _ _ => rfl, fun p a b => by omega⟩
    show (if 6 ≤ nI o then _ else _) = _
    rw [if_pos (show (6 : Int32) ≤ nI o from nI_le (a := 6) (by omega) (by omega))]
  | r + 1, 0, _, _, hl, _ => by omega
  | r + 1, n + 1, o, ga, hl, e => by
    have g1 : ∀ {α : Type} (x : Option α), gd (nI o) 6 x = x := fun x => gd_n (by omega) (by omega)
    simp only [k_X7_undo_92, nm_e1, g1]
    rw [if_neg (show ¬ (6 : Int32) ≤ nI o from nI_ge (b := 6) (by omega) (by omega)), u_cl (by omega), nI_1]
    obtain ⟨ga', e1, e2, i0, j0 , i1, j1 , i2, j2 , i3, j3⟩ := un92 fi r n (o + 1) (va_up (va_up (va_up (va_up ga 6 (upd (ga 6) o (ga 56 o))) 7 (upd (ga 7) o (ga 57 o))) 8 (upd ((va_up (va_up ga 6 (upd (ga 6) o (ga 56 o))) 7 (upd (ga 7) o (ga 57 o))) 8) o ((va_up (va_up ga 6 (upd (ga 6) o (ga 56 o))) 7 (upd (ga 7) o (ga 57 o))) 58 o))) 9 (upd ((va_up (va_up ga 6 (upd (ga 6) o (ga 56 o))) 7 (upd (ga 7) o (ga 57 o))) 9) o ((va_up (va_up ga 6 (upd (ga 6) o (ga 56 o))) 7 (upd (ga 7) o (ga 57 o))) 59 o))) (by omega) (by omega)
    refine ⟨ga', e1, fun s n0 n1 n2 n3 => ?_, fun p hp => ?_, fun p a b => ?_, fun p hp => ?_, fun p a b => ?_, fun p hp => ?_, fun p a b => ?_, fun p hp => ?_, fun p a b => ?_⟩
    · rw [e2 s n0 n1 n2 n3]; simp only [va_up]; simp [n0, n1, n2, n3]
    · rw [i0 p (by omega)]; simp [va_up, upd, show p ≠ o by omega]
    · by_cases c : p = o
      · subst c; rw [i0 p (by omega)]; simp [va_up, upd]
      · rw [j0 p (by omega) b]; simp [va_up]
    · rw [i1 p (by omega)]; simp [va_up, upd, show p ≠ o by omega]
    · by_cases c : p = o
      · subst c; rw [i1 p (by omega)]; simp [va_up, upd]
      · rw [j1 p (by omega) b]; simp [va_up]
    · rw [i2 p (by omega)]; simp [va_up, upd, show p ≠ o by omega]
    · by_cases c : p = o
      · subst c; rw [i2 p (by omega)]; simp [va_up, upd]
      · rw [j2 p (by omega) b]; simp [va_up]
    · rw [i3 p (by omega)]; simp [va_up, upd, show p ≠ o by omega]
    · by_cases c : p = o
      · subst c; rw [i3 p (by omega)]; simp [va_up, upd]
      · rw [j3 p (by omega) b]; simp [va_up]

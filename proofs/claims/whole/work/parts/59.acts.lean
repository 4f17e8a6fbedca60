
def aR (p g v : Nat) (fi0 : Nat → Int32) (ga0 : Nat → Nat → Int32) (af ab fi : Nat → Int32) (ga : Nat → Nat → Int32) (n : Nat) : Prop := acR af ab fi ga n ∧ af 2 = nI p ∧ af 3 = nI g ∧ af 4 = nI v ∧ (∀ k, k ≠ 67 → fi k = fi0 k) ∧ (∀ s, s ≠ 68 → ga s = ga0 s) ∧ p < 6 ∧ ga0 6 p = nI g ∧ ga0 7 p = nI v ∧ g ≤ 6
theorem a_body {p g v : Nat} {fi0 : Nat → Int32} {ga0 : Nat → Nat → Int32} {af ab fi : Nat → Int32} {ga : Nat → Nat → Int32} {n : Nat} (h : aR p g v fi0 ga0 af ab fi ga n) (hn : n ≤ 90) (b : Int32) : ∃ af' ab' fi' ga', k_X0_began b af ab = some (af', ab') ∧ k_X7_body b fi ga = some (fi', ga') ∧ aR p g v fi0 ga0 af' ab' fi' ga' (n + 1) := by
  obtain ⟨⟨h0, h1, h2, h3⟩, h4, h5, h6, h7, h8, h9⟩ := h
  unfold k_X0_began k_X7_body
  rw [h1, h2]
  by_cases c : 20 ≤ n
  · rw [if_pos (show (20 : Int32) ≤ nI n from nI_le (a := 20) c (by omega)), if_pos (show (20 : Int32) ≤ nI n from nI_le (a := 20) c (by omega)), nI_1]
    exact ⟨_, _, _, _, rfl, rfl, ⟨by omega, rfl, rfl, h3⟩, h4, h5, h6, fun k hk => by rw [u_up, if_neg hk]; exact h7 k hk, h8, h9⟩
  · rw [if_neg (show ¬ (20 : Int32) ≤ nI n from nI_ge (b := 20) (by omega) (by omega)), if_neg (show ¬ (20 : Int32) ≤ nI n from nI_ge (b := 20) (by omega) (by omega)), gd_n (by omega) (by omega), gd_n (by omega) (by omega), u_cl (by omega), nI_1]
    refine ⟨_, _, _, _, rfl, rfl, ⟨by omega, rfl, rfl, fun k hk => ?_⟩, h4, h5, h6, fun k hk => by rw [u_up, if_neg hk]; exact h7 k hk, fun s hs => by rw [va_up_ne _ _ hs]; exact h8 s hs, h9⟩
    rw [va_up_self, u_up, u_up]
    split
    · rfl
    · exact h3 k hk
theorem a_rm {p g v : Nat} {fi0 : Nat → Int32} {ga0 : Nat → Nat → Int32} {af ab fi : Nat → Int32} {ga : Nat → Nat → Int32} {n : Nat} (h : aR p g v fi0 ga0 af ab fi ga n) (hn : n ≤ 80) (x : Int32) (m f : Nat) (hf : f = 0 ∨ f = 1 ∨ f = 3) : ∃ r af' ab' fi' ga' n', k_X0_rolls (m + 1) (nI f) x af ab = some (r, af', ab') ∧ k_X7_manRolls (nI p) x fi ga = some (r, fi', ga') ∧ aR p g v fi0 ga0 af' ab' fi' ga' n' ∧ n' ≤ n + 1 := by
  obtain ⟨af1, ab1, fi1, ga1, e1, e2, h1⟩ := a_body h (by omega) 10
  have e3 : k_X7_manRolls (nI p) x fi ga = some (x + nI p, fi1, ga1) := by
    unfold k_X7_manRolls
    rw [e2, b2_s]
  refine ⟨x + nI p, af1, ab1, fi1, ga1, n + 1, ?_, e3, h1, by omega⟩
  show k_X0_rolls_g (k_X0_rolls m) (nI f) x af ab = _
  unfold k_X0_rolls_g
  rw [e1, b2_s, h1.2.1]
  rcases hf with e | e | e <;> subst e <;> rfl
theorem a_ra {p g v : Nat} {fi0 : Nat → Int32} {ga0 : Nat → Nat → Int32} {af ab fi : Nat → Int32} {ga : Nat → Nat → Int32} {n : Nat} (h : aR p g v fi0 ga0 af ab fi ga n) (hn : n ≤ 70) (x : Int32) : ∃ r af' ab' fi' ga' n', k_X0_rolls 2 (nI g) x af ab = some (r, af', ab') ∧ k_X7_rollsAct (nI p) x fi ga = some (r, fi', ga') ∧ aR p g v fi0 ga0 af' ab' fi' ga' n' ∧ n' ≤ n + 2 := by
  have hp := h.2.2.2.2.2.2.1
  have hg := h.2.2.2.2.2.2.2.2.2
  have e6 : ga 6 p = nI g := by rw [h.2.2.2.2.2.1 6 (by omega)]; exact h.2.2.2.2.2.2.2.1
  show ∃ r af' ab' fi' ga' n', k_X0_rolls_g (k_X0_rolls 1) (nI g) x af ab = some (r, af', ab') ∧ k_X7_rollsAct (nI p) x fi ga = some (r, fi', ga') ∧ aR p g v fi0 ga0 af' ab' fi' ga' n' ∧ n' ≤ n + 2
  unfold k_X7_rollsAct
  rw [gd_n hp (by omega), u_cl (by omega), e6]
  have man := fun (f : Nat) (hf : f = 0 ∨ f = 1 ∨ f = 3) => a_rm h (by omega) x 1 f hf
  rcases (show g = 0 ∨ g = 1 ∨ g = 2 ∨ g = 3 ∨ g = 4 ∨ g = 5 ∨ g = 6 by omega) with e | e | e | e | e | e | e
  · obtain ⟨r, af', ab', fi', ga', n', q1, q2, q3, q4⟩ := man g (by omega)
    refine ⟨r, af', ab', fi', ga', n', q1, ?_, q3, by omega⟩
    rw [q2, e]; rfl
  · obtain ⟨r, af', ab', fi', ga', n', q1, q2, q3, q4⟩ := man g (by omega)
    refine ⟨r, af', ab', fi', ga', n', q1, ?_, q3, by omega⟩
    rw [q2, e]; rfl
  · obtain ⟨af1, ab1, fi1, ga1, e1, e2, h1⟩ := a_body h (by omega) 30
    obtain ⟨r, af', ab', fi', ga', n', q1, q2, q3, q4⟩ := a_rm h1 (by omega) (x * 3) 0 0 (by omega)
    refine ⟨r, af', ab', fi', ga', n', ?_, ?_, q3, by omega⟩
    · unfold k_X0_rolls_g
      rw [show nI g = 2 by rw [e]; rfl, if_pos rfl, e1, b2_s, show (0 : Int32) = nI 0 from rfl, q1]; rfl
    · rw [e2, b2_s, q2, e]; rfl
  · obtain ⟨r, af', ab', fi', ga', n', q1, q2, q3, q4⟩ := man g (by omega)
    refine ⟨r, af', ab', fi', ga', n', q1, ?_, q3, by omega⟩
    rw [q2, e]; rfl
  · obtain ⟨af1, ab1, fi1, ga1, e1, e2, h1⟩ := a_body h (by omega) 50
    obtain ⟨r, af', ab', fi', ga', n', q1, q2, q3, q4⟩ := a_rm h1 (by omega) x 0 1 (by omega)
    refine ⟨-r, af', ab', fi', ga', n', ?_, ?_, q3, by omega⟩
    · unfold k_X0_rolls_g
      rw [show nI g = 4 by rw [e]; rfl, if_neg (by decide), if_neg (by decide), if_pos rfl, e1, b2_s, show (1 : Int32) = nI 1 from rfl, q1]; rfl
    · rw [e2, b2_s, q2, e]; rfl
  · obtain ⟨af1, ab1, fi1, ga1, e1, e2, h1⟩ := a_body h (by omega) 30
    obtain ⟨r, af', ab', fi', ga', n', q1, q2, q3, q4⟩ := a_rm h1 (by omega) (x * 3) 0 0 (by omega)
    refine ⟨r, af', ab', fi', ga', n', ?_, ?_, q3, by omega⟩
    · unfold k_X0_rolls_g
      rw [show nI g = 5 by rw [e]; rfl, if_neg (by decide), if_neg (by decide), if_neg (by decide), if_pos rfl, e1, b2_s, show (0 : Int32) = nI 0 from rfl, q1]; rfl
    · rw [e2, b2_s, q2, e]; rfl
  · obtain ⟨af1, ab1, fi1, ga1, e1, e2, h1⟩ := a_body h (by omega) 71
    obtain ⟨r, af', ab', fi', ga', n', q1, q2, q3, q4⟩ := a_rm h1 (by omega) x 0 3 (by omega)
    refine ⟨r ^^^ nI v, af', ab', fi', ga', n', ?_, ?_, q3, by omega⟩
    · unfold k_X0_rolls_g
      rw [show nI g = 6 by rw [e]; rfl, if_neg (by decide), if_neg (by decide), if_neg (by decide), if_neg (by decide), if_pos rfl, e1, b2_s, show (3 : Int32) = nI 3 from rfl, q1, b3_s, q3.2.2.2.1]
    · rw [e2, b2_s, q2, e, b3_s, gd_n hp (by omega), show ga' 7 p = nI v by rw [q3.2.2.2.2.2.1 7 (by omega)]; exact q3.2.2.2.2.2.2.2.2.1]; rfl
theorem a_hm {p g v : Nat} {fi0 : Nat → Int32} {ga0 : Nat → Nat → Int32} {af ab fi : Nat → Int32} {ga : Nat → Nat → Int32} {n : Nat} (h : aR p g v fi0 ga0 af ab fi ga n) (hn : n ≤ 60) (x : Int32) (m f : Nat) (hf : f = 0 ∨ f = 2 ∨ f = 3 ∨ f = 5) : ∃ r af' ab' fi' ga' n', k_X0_hums (m + 1) (nI f) x af ab = some (r, af', ab') ∧ k_X7_manHums (nI p) x fi ga = some (r, fi', ga') ∧ aR p g v fi0 ga0 af' ab' fi' ga' n' ∧ n' ≤ n + 3 := by
  have hp := h.2.2.2.2.2.2.1
  obtain ⟨af1, ab1, fi1, ga1, e1, e2, h1⟩ := a_body h (by omega) 11
  obtain ⟨r, af', ab', fi', ga', n', q1, q2, q3, q4⟩ := a_ra h1 (by omega) x
  refine ⟨r - nI v, af', ab', fi', ga', n', ?_, ?_, q3, by omega⟩
  · show k_X0_hums_g (k_X0_hums m) (nI f) x af ab = _
    unfold k_X0_hums_g
    rw [e1, b2_s, h1.2.2.1, q1, b3_s, q3.2.2.2.1]
    rcases hf with e | e | e | e <;> subst e <;> rfl
  · unfold k_X7_manHums
    rw [e2, b2_s, q2, b3_s, gd_n hp (by omega), u_cl (by omega), show ga' 7 p = nI v by rw [q3.2.2.2.2.2.1 7 (by omega)]; exact q3.2.2.2.2.2.2.2.2.1]
theorem a_hc {p g v : Nat} {fi0 : Nat → Int32} {ga0 : Nat → Nat → Int32} {af ab fi : Nat → Int32} {ga : Nat → Nat → Int32} {n : Nat} (h : aR p g v fi0 ga0 af ab fi ga n) (hn : n ≤ 50) (x : Int32) (m : Nat) : ∃ r af' ab' fi' ga' n', k_X0_hums (m + 2) (nI 1) x af ab = some (r, af', ab') ∧ k_X7_cookHums (nI p) x fi ga = some (r, fi', ga') ∧ aR p g v fi0 ga0 af' ab' fi' ga' n' ∧ n' ≤ n + 4 := by
  obtain ⟨af1, ab1, fi1, ga1, e1, e2, h1⟩ := a_body h (by omega) 20
  obtain ⟨r, af', ab', fi', ga', n', q1, q2, q3, q4⟩ := a_hm h1 (by omega) x m 0 (by omega)
  refine ⟨r ^^^ 6, af', ab', fi', ga', n', ?_, ?_, q3, by omega⟩
  · show k_X0_hums_g (k_X0_hums (m + 1)) (nI 1) x af ab = _
    unfold k_X0_hums_g
    rw [if_pos (show nI 1 = 1 from rfl), e1, b2_s, show (0 : Int32) = nI 0 from rfl, q1]; rfl
  · unfold k_X7_cookHums
    rw [e2, b2_s, q2]; rfl
theorem a_ha {p g v : Nat} {fi0 : Nat → Int32} {ga0 : Nat → Nat → Int32} {af ab fi : Nat → Int32} {ga : Nat → Nat → Int32} {n : Nat} (h : aR p g v fi0 ga0 af ab fi ga n) (hn : n ≤ 40) (x : Int32) : ∃ r af' ab' fi' ga' n', k_X0_hums 3 (nI g) x af ab = some (r, af', ab') ∧ k_X7_humsAct (nI p) x fi ga = some (r, fi', ga') ∧ aR p g v fi0 ga0 af' ab' fi' ga' n' ∧ n' ≤ n + 6 := by
  have hp := h.2.2.2.2.2.2.1
  have hg := h.2.2.2.2.2.2.2.2.2
  have e6 : ga 6 p = nI g := by rw [h.2.2.2.2.2.1 6 (by omega)]; exact h.2.2.2.2.2.2.2.1
  unfold k_X7_humsAct
  rw [gd_n hp (by omega), u_cl (by omega), e6]
  have man := fun (f : Nat) (hf : f = 0 ∨ f = 2 ∨ f = 3 ∨ f = 5) => a_hm h (by omega) x 2 f hf
  rcases (show g = 1 ∨ g = 4 ∨ g = 6 ∨ (g = 0 ∨ g = 2 ∨ g = 3 ∨ g = 5) by omega) with e | e | e | e
  · obtain ⟨r, af', ab', fi', ga', n', q1, q2, q3, q4⟩ := a_hc h (by omega) x 1
    refine ⟨r, af', ab', fi', ga', n', ?_, ?_, q3, by omega⟩
    · rw [e]; exact q1
    · rw [q2, e]; rfl
  · obtain ⟨af1, ab1, fi1, ga1, e1, e2, h1⟩ := a_body h (by omega) 51
    obtain ⟨r, af', ab', fi', ga', n', q1, q2, q3, q4⟩ := a_hc h1 (by omega) (x + 1) 0
    refine ⟨r, af', ab', fi', ga', n', ?_, ?_, q3, by omega⟩
    · show k_X0_hums_g (k_X0_hums 2) (nI g) x af ab = _
      unfold k_X0_hums_g
      have q1' : k_X0_hums 2 1 (x + 1) af1 ab1 = some (r, af', ab') := q1
      rw [show nI g = 4 by rw [e]; rfl, if_neg (by decide), if_pos rfl, e1, b2_s, q1']; rfl
    · rw [e2, b2_s, q2, e]; rfl
  · obtain ⟨af1, ab1, fi1, ga1, e1, e2, h1⟩ := a_body h (by omega) 70
    obtain ⟨r, af', ab', fi', ga', n', q1, q2, q3, q4⟩ := a_hm h1 (by omega) x 1 3 (by omega)
    obtain ⟨r2, af2, ab2, fi2, ga2, n2, t1, t2, t3, t4⟩ := a_rm q3 (by omega) 2 1 3 (by omega)
    refine ⟨r + r2, af2, ab2, fi2, ga2, n2, ?_, ?_, t3, by omega⟩
    · show k_X0_hums_g (k_X0_hums 2) (nI g) x af ab = _
      unfold k_X0_hums_g
      rw [show nI g = 6 by rw [e]; rfl, if_neg (by decide), if_neg (by decide), if_pos rfl, e1, b2_s, show (3 : Int32) = nI 3 from rfl, q1, b3_s, t1]; rfl
    · rw [e2, b2_s, q2, b3_s, t2, e]; rfl
  · obtain ⟨r, af', ab', fi', ga', n', q1, q2, q3, q4⟩ := man g e
    refine ⟨r, af', ab', fi', ga', n', q1, ?_, q3, by omega⟩
    rw [q2]
    rcases e with e | e | e | e <;> rw [e] <;> rfl
theorem a_tm {p g v : Nat} {fi0 : Nat → Int32} {ga0 : Nat → Nat → Int32} {af ab fi : Nat → Int32} {ga : Nat → Nat → Int32} {n : Nat} (h : aR p g v fi0 ga0 af ab fi ga n) (hn : n ≤ 30) (x : Int32) (m f : Nat) (hf : f = 0 ∨ f = 1 ∨ f = 2 ∨ f = 4) : ∃ r af' ab' fi' ga' n', k_X0_tells (m + 1) (nI f) x af ab = some (r, af', ab') ∧ k_X7_manTells (nI p) x fi ga = some (r, fi', ga') ∧ aR p g v fi0 ga0 af' ab' fi' ga' n' ∧ n' ≤ n + 7 := by
  obtain ⟨af1, ab1, fi1, ga1, e1, e2, h1⟩ := a_body h (by omega) 12
  obtain ⟨r, af', ab', fi', ga', n', q1, q2, q3, q4⟩ := a_ha h1 (by omega) x
  refine ⟨r * 2, af', ab', fi', ga', n', ?_, ?_, q3, by omega⟩
  · show k_X0_tells_g (k_X0_tells m) (nI f) x af ab = _
    unfold k_X0_tells_g
    rw [e1, b2_s, h1.2.2.1, q1, b3_s]
    rcases hf with e | e | e | e <;> subst e <;> rfl
  · unfold k_X7_manTells
    rw [e2, b2_s, q2]; rfl
theorem a_ta {p g v : Nat} {fi0 : Nat → Int32} {ga0 : Nat → Nat → Int32} {af ab fi : Nat → Int32} {ga : Nat → Nat → Int32} {n : Nat} (h : aR p g v fi0 ga0 af ab fi ga n) (hn : n ≤ 10) (x : Int32) : ∃ r af' ab' fi' ga' n', k_X0_tells 2 (nI g) x af ab = some (r, af', ab') ∧ k_X7_tellsAct (nI p) x fi ga = some (r, fi', ga') ∧ aR p g v fi0 ga0 af' ab' fi' ga' n' ∧ n' ≤ n + 20 := by
  have hp := h.2.2.2.2.2.2.1
  have hg := h.2.2.2.2.2.2.2.2.2
  have e6 : ga 6 p = nI g := by rw [h.2.2.2.2.2.1 6 (by omega)]; exact h.2.2.2.2.2.2.2.1
  show ∃ r af' ab' fi' ga' n', k_X0_tells_g (k_X0_tells 1) (nI g) x af ab = some (r, af', ab') ∧ k_X7_tellsAct (nI p) x fi ga = some (r, fi', ga') ∧ aR p g v fi0 ga0 af' ab' fi' ga' n' ∧ n' ≤ n + 20
  unfold k_X7_tellsAct
  rw [gd_n hp (by omega), u_cl (by omega), e6]
  have man := fun (f : Nat) (hf : f = 0 ∨ f = 1 ∨ f = 2 ∨ f = 4) => a_tm h (by omega) x 1 f hf
  rcases (show g = 3 ∨ g = 5 ∨ g = 6 ∨ (g = 0 ∨ g = 1 ∨ g = 2 ∨ g = 4) by omega) with e | e | e | e
  · obtain ⟨af1, ab1, fi1, ga1, e1, e2, h1⟩ := a_body h (by omega) 40
    obtain ⟨r, af', ab', fi', ga', n', q1, q2, q3, q4⟩ := a_tm h1 (by omega) x 0 0 (by omega)
    obtain ⟨r2, af2, ab2, fi2, ga2, n2, t1, t2, t3, t4⟩ := a_ha q3 (by omega) 1
    refine ⟨r + r2, af2, ab2, fi2, ga2, n2, ?_, ?_, t3, by omega⟩
    · unfold k_X0_tells_g
      rw [show nI g = 3 by rw [e]; rfl, if_pos rfl, e1, b2_s, show (0 : Int32) = nI 0 from rfl, q1, b3_s, q3.2.2.1, t1]; rfl
    · rw [e2, b2_s, q2, b3_s, t2, e]; rfl
  · obtain ⟨af1, ab1, fi1, ga1, e1, e2, h1⟩ := a_body h (by omega) 60
    obtain ⟨r, af', ab', fi', ga', n', q1, q2, q3, q4⟩ := a_tm h1 (by omega) (x - nI p) 0 2 (by omega)
    refine ⟨r, af', ab', fi', ga', n', ?_, ?_, q3, by omega⟩
    · unfold k_X0_tells_g
      rw [show nI g = 5 by rw [e]; rfl, if_neg (by decide), if_neg (by decide), if_pos rfl, e1, b2_s, h1.2.1, show (2 : Int32) = nI 2 from rfl, q1]; rfl
    · rw [e2, b2_s, q2, e]; rfl
  · obtain ⟨af1, ab1, fi1, ga1, e1, e2, h1⟩ := a_body h (by omega) 40
    obtain ⟨r, af', ab', fi', ga', n', q1, q2, q3, q4⟩ := a_tm h1 (by omega) x 0 0 (by omega)
    obtain ⟨r2, af2, ab2, fi2, ga2, n2, t1, t2, t3, t4⟩ := a_ha q3 (by omega) 1
    refine ⟨r + r2, af2, ab2, fi2, ga2, n2, ?_, ?_, t3, by omega⟩
    · unfold k_X0_tells_g
      rw [show nI g = 6 by rw [e]; rfl, if_neg (by decide), if_neg (by decide), if_neg (by decide), if_pos rfl, e1, b2_s, show (0 : Int32) = nI 0 from rfl, q1, b3_s, q3.2.2.1, t1]; rfl
    · rw [e2, b2_s, q2, b3_s, t2, e]; rfl
  · obtain ⟨r, af', ab', fi', ga', n', q1, q2, q3, q4⟩ := man g e
    refine ⟨r, af', ab', fi', ga', n', q1, ?_, q3, by omega⟩
    rw [q2]
    rcases e with e | e | e | e <;> rw [e] <;> rfl
theorem op_act {nf af ab fi : Nat → Int32} {ng ga : Nat → Nat → Int32} {F : Nat → Nat} {G : Nat → Nat → Nat} {n : Nat} (ha : agr nf ng F G) (hm : agm fi ga F G) (ho : okF 9999 F G) (h : acR af ab fi ga n) (a b x : Int32) : ∃ r af' ab' fi' ga' n', k_X6_act a b x nf ng af ab = some (r, af', ab') ∧ k_X7_act a b x fi ga = some (r, fi', ga') ∧ acR af' ab' fi' ga' n' ∧ (∀ k, k ≠ 67 → fi' k = fi k) ∧ (∀ s, s ≠ 68 → ga' s = ga s) := by
  have h6 := ho.1
  unfold k_X6_act k_X7_act
  have e67 : (upd fi 67 0) 0 = nI (F 0) := hm.1 0 (by omega)
  have h0 : acR (upd af 0 0) ab (upd fi 67 0) ga 0 := ⟨by omega, rfl, rfl, h.2.2.2⟩
  rcases manQ h6 (ha.1 0 (by omega)) e67 a with ⟨e1, e2⟩ | ⟨e1, e2, p, hp, ep⟩
  · rw [e1, e2]; exact ⟨_, _, _, _, _, 0, rfl, rfl, h0, fun k hk => if_neg hk, fun _ _ => rfl⟩
  subst ep
  rw [e1, e2, b1_s, b1_s, if_neg (show ¬ (1 : Int32) = 0 by decide), if_neg (show ¬ (1 : Int32) = 0 by decide), isW]
  rcases inN b 2 2 rfl with e | ⟨e, k, hk, ek⟩
  · rw [e]; exact ⟨_, _, _, _, _, 0, rfl, rfl, h0, fun k hk => if_neg hk, fun _ _ => rfl⟩
  have hq := ho.2.2.2.2.2.2.1 p (by omega)
  rw [e, b1_s, b1_s, if_neg (show ¬ (1 : Int32) = 0 by decide), if_neg (show ¬ (1 : Int32) = 0 by decide), gd_n (by omega) (by omega), gd_n (by omega) (by omega), u_cl (by omega), ha.2.1 7 p (by omega) (by omega) (by omega), ha.2.1 8 p (by omega) (by omega) (by omega)]
  have hA : aR p (G 7 p) (G 8 p) (upd fi 67 0) ga (upd (upd (upd (upd af 0 0) 2 (nI p)) 3 (nI (G 7 p))) 4 (nI (G 8 p))) ab (upd fi 67 0) ga 0 := ⟨⟨by omega, rfl, rfl, h.2.2.2⟩, rfl, rfl, rfl, fun _ _ => rfl, fun _ _ => rfl, by omega, hm.2.1 7 p (by omega) (by omega) (by omega), hm.2.1 8 p (by omega) (by omega) (by omega), hq.1⟩
  unfold k_X0_run
  rw [nm_e1]
  subst ek
  have fin : ∀ {af' ab' fi' : Nat → Int32} {ga' : Nat → Nat → Int32} {n' : Nat}, aR p (G 7 p) (G 8 p) (upd fi 67 0) ga af' ab' fi' ga' n' → acR af' ab' fi' ga' n' ∧ (∀ k, k ≠ 67 → fi' k = fi k) ∧ (∀ s, s ≠ 68 → ga' s = ga s) := fun g => ⟨g.1, fun k hk => (g.2.2.2.2.1 k hk).trans (if_neg hk), g.2.2.2.2.2.1⟩
  rcases (show k = 0 ∨ k = 1 ∨ k = 2 by omega) with e9 | e9 | e9
  · obtain ⟨r, af', ab', fi', ga', n', q1, q2, q3, q4⟩ := a_ra hA (by omega) x
    obtain ⟨f1, f2, f3⟩ := fin q3
    refine ⟨r, af', ab', fi', ga', n', ?_, ?_, f1, f2, f3⟩
    · rw [e9, if_pos (show nI 0 = 0 from rfl), hA.2.2.1, q1]; rfl
    · rw [e9, if_pos (show nI 0 = 0 from rfl), q2]; rfl
  · obtain ⟨r, af', ab', fi', ga', n', q1, q2, q3, q4⟩ := a_ha hA (by omega) x
    obtain ⟨f1, f2, f3⟩ := fin q3
    refine ⟨r, af', ab', fi', ga', n', ?_, ?_, f1, f2, f3⟩
    · rw [e9, if_neg (show ¬ nI 1 = 0 by decide), if_pos (show nI 1 = 1 from rfl), hA.2.2.1, q1]; rfl
    · rw [e9, if_neg (show ¬ nI 1 = 0 by decide), if_pos (show nI 1 = 1 from rfl), q2]; rfl
  · obtain ⟨r, af', ab', fi', ga', n', q1, q2, q3, q4⟩ := a_ta hA (by omega) x
    obtain ⟨f1, f2, f3⟩ := fin q3
    refine ⟨r, af', ab', fi', ga', n', ?_, ?_, f1, f2, f3⟩
    · rw [e9, if_neg (show ¬ nI 2 = 0 by decide), if_neg (show ¬ nI 2 = 1 by decide), hA.2.2.1, q1]; rfl
    · rw [e9, if_neg (show ¬ nI 2 = 0 by decide), if_neg (show ¬ nI 2 = 1 by decide), q2]; rfl

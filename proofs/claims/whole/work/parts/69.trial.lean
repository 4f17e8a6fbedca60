
def A5 {X A B V : Type} (P : Option Nat → Prop) (o : Option (X × A × B × Option Nat × V)) : Prop := ∀ r a b c v, o = some (r, a, b, c, v) → P c
theorem A5_n {X A B V : Type} {P : Option Nat → Prop} : A5 (X := X) (A := A) (B := B) (V := V) P none := fun _ _ _ _ _ h => by cases h
theorem A5_s {X A B V : Type} {P : Option Nat → Prop} {r : X} {a : A} {b : B} {c : Option Nat} {v : V} (h : P c) : A5 P (some (r, a, b, c, v)) := fun _ _ _ _ _ e => by cases e; exact h
theorem A5_i {X A B V : Type} {P : Option Nat → Prop} {q : Prop} [Decidable q] {x y : Option (X × A × B × Option Nat × V)} (h : A5 P x) (k : A5 P y) : A5 P (if q then x else y) := by split; exact h; exact k
theorem A5_g {X A B V : Type} {P : Option Nat → Prop} {i : Int32} {n : Nat} {x : Option (X × A × B × Option Nat × V)} (h : A5 P x) : A5 P (gd i n x) := by unfold gd; split; exact A5_n; exact h
theorem A5_1 {X A B V E : Type} {P : Option Nat → Prop} {o : Option E} {k : E → Option (X × A × B × Option Nat × V)} (h : ∀ e, A5 P (k e)) : A5 P (b1 o k) := by
  rcases o with _ | e
  · exact A5_n
  · exact h e
theorem A5_2 {X A B V E F : Type} {P : Option Nat → Prop} {o : Option (E × F)} {k : E → F → Option (X × A × B × Option Nat × V)} (h : ∀ e f, A5 P (k e f)) : A5 P (b2 o k) := by
  rcases o with _ | ⟨e, f⟩
  · exact A5_n
  · exact h e f
theorem A5_3 {X A B V E F G : Type} {P : Option Nat → Prop} {o : Option (E × F × G)} {k : E → F → G → Option (X × A × B × Option Nat × V)} (h : ∀ e f g, A5 P (k e f g)) : A5 P (b3 o k) := by
  rcases o with _ | ⟨e, f, g⟩
  · exact A5_n
  · exact h e f g
theorem A5_4 {X A B V E F G H : Type} {P : Option Nat → Prop} {o : Option (E × F × G × H)} {k : E → F → G → H → Option (X × A × B × Option Nat × V)} (h : ∀ e f g i, A5 P (k e f g i)) : A5 P (b4 o k) := by
  rcases o with _ | ⟨e, f, g, i⟩
  · exact A5_n
  · exact h e f g i
theorem A5_5 {X A B V X2 A2 B2 V2 : Type} {P : Option Nat → Prop} {o : Option (X2 × A2 × B2 × Option Nat × V2)} {k : X2 → A2 → B2 → Option Nat → V2 → Option (X × A × B × Option Nat × V)} (h0 : A5 P o) (h : ∀ r a b c v, P c → A5 P (k r a b c v)) : A5 P (b5 o k) := by
  rcases o with _ | ⟨r, a, b, c, v⟩
  · exact A5_n
  · exact h r a b c v (h0 _ _ _ _ _ rfl)
theorem beg_c {nf : Nat → Int32} {ng : Nat → Nat → Int32} {nc : Option Nat} {tf : Nat → Int32} {tg : Nat → Nat → Int32} {tc : Option Nat} {a : Nat → Int32} {b : Nat → Nat → Int32} {c : Option Nat} (h : k_X6_begin nf ng nc tf tg tc = some (a, b, c)) : c = nc := by
  unfold k_X6_begin k_X1_copyDays at h
  simp only [nm_e1] at h
  unfold gcp at h
  repeat' split at h
  all_goals first | (cases h; rfl) | (cases h)
theorem A5_b {X A B V : Type} {P : Option Nat → Prop} {nf : Nat → Int32} {ng : Nat → Nat → Int32} {nc : Option Nat} {tf : Nat → Int32} {tg : Nat → Nat → Int32} {tc : Option Nat} {k : (Nat → Int32) → (Nat → Nat → Int32) → Option Nat → Option (X × A × B × Option Nat × V)} (hN : P nc) (h : ∀ a b, A5 P (k a b nc)) : A5 P (b3 (k_X6_begin nf ng nc tf tg tc) k) := by
  rcases e : k_X6_begin nf ng nc tf tg tc with _ | ⟨a, b, c⟩
  · exact A5_n
  · rw [beg_c e]; exact h a b
theorem a_tb13 {P : Option Nat → Prop} (a1 : Int32) (cn : Nat) (cf : Nat → Nat → Int32) (cg : Nat → Nat → Nat → Int32) : ∀ (n : Nat) (x4 : Int32) (tf : Nat → Int32) (tg : Nat → Nat → Int32) (tc : Option Nat) (tv : Nat → Int32), P tc → A5 P (k_X6_truthsBehind_13 a1 cn cf cg n x4 tf tg tc tv)
  | 0, _, _, _, _, _, _ => A5_n
  | n + 1, x4, tf, tg, tc, tv, hT => by
    have ih := fun x4 tf tg tc tv h => a_tb13 (P := P) a1 cn cf cg n x4 tf tg tc tv h
    simp only [k_X6_truthsBehind_13]
    repeat' (first | with_reducible assumption  | with_reducible exact ih _ _ _ _ _ (by assumption) | with_reducible exact A5_n | with_reducible exact A5_s (by assumption) | with_reducible refine A5_i ?_ ?_ | with_reducible refine A5_g ?_ | with_reducible refine A5_1 (fun _ => ?_) | with_reducible refine A5_2 (fun _ _ => ?_) | with_reducible refine A5_4 (fun _ _ _ _ => ?_) | with_reducible refine A5_b hN (fun _ _ => ?_) | with_reducible refine A5_3 (fun _ _ _ => ?_))
theorem a_tb {P : Option Nat → Prop} {nc : Option Nat} (hN : P nc) (a1 a2 : Int32) (nf : Nat → Int32) (ng : Nat → Nat → Int32) (tf : Nat → Int32) (tg : Nat → Nat → Int32) (tc : Option Nat) (tv : Nat → Int32) (cn : Nat) (cf : Nat → Nat → Int32) (cg : Nat → Nat → Nat → Int32) : A5 P (k_X6_truthsBehind a1 a2 nf ng nc tf tg tc tv cn cf cg) := by
  unfold k_X6_truthsBehind
  repeat' (first | with_reducible assumption  | with_reducible exact a_tb13 _ _ _ _ _ _ _ _ _ _ (by assumption) | with_reducible exact A5_n | with_reducible exact A5_s (by assumption) | with_reducible refine A5_i ?_ ?_ | with_reducible refine A5_g ?_ | with_reducible refine A5_1 (fun _ => ?_) | with_reducible refine A5_2 (fun _ _ => ?_) | with_reducible refine A5_4 (fun _ _ _ _ => ?_) | with_reducible refine A5_b hN (fun _ _ => ?_) | with_reducible refine A5_3 (fun _ _ _ => ?_))
theorem a_bu12 {P : Option Nat → Prop} {nc : Option Nat} (hN : P nc) (a1 : Int32) (nf : Nat → Int32) (ng : Nat → Nat → Int32) (cn : Nat) (cf : Nat → Nat → Int32) (cg : Nat → Nat → Nat → Int32) : ∀ (n : Nat) (x2 x3 x4 : Int32) (tf : Nat → Int32) (tg : Nat → Nat → Int32) (tc : Option Nat) (tv : Nat → Int32), P tc → A5 P (k_X6_bestUp_12 a1 nf ng nc cn cf cg n x2 x3 x4 tf tg tc tv)
  | 0, _, _, _, _, _, _, _, _ => A5_n
  | n + 1, x2, x3, x4, tf, tg, tc, tv, hT => by
    have ih := fun x2 x3 x4 tf tg tc tv h => a_bu12 (P := P) hN a1 nf ng cn cf cg n x2 x3 x4 tf tg tc tv h
    simp only [k_X6_bestUp_12]
    repeat' (first | with_reducible assumption  | with_reducible exact ih _ _ _ _ _ _ _ (by assumption) | with_reducible refine A5_5 (a_tb hN _ _ _ _ _ _ _ _ _ _ _) (fun _ _ _ _ _ _ => ?_) | with_reducible exact A5_n | with_reducible exact A5_s (by assumption) | with_reducible refine A5_i ?_ ?_ | with_reducible refine A5_g ?_ | with_reducible refine A5_1 (fun _ => ?_) | with_reducible refine A5_2 (fun _ _ => ?_) | with_reducible refine A5_4 (fun _ _ _ _ => ?_) | with_reducible refine A5_b hN (fun _ _ => ?_) | with_reducible refine A5_3 (fun _ _ _ => ?_))
theorem a_bu {P : Option Nat → Prop} {nc : Option Nat} (hN : P nc) (a1 : Int32) (nf : Nat → Int32) (ng : Nat → Nat → Int32) (tf : Nat → Int32) (tg : Nat → Nat → Int32) (tc : Option Nat) (tv : Nat → Int32) (cn : Nat) (cf : Nat → Nat → Int32) (cg : Nat → Nat → Nat → Int32) : A5 P (k_X6_bestUp a1 nf ng nc tf tg tc tv cn cf cg) := by
  unfold k_X6_bestUp
  repeat' (first | with_reducible assumption  | with_reducible refine A5_5 (a_tb hN _ _ _ _ _ _ _ _ _ _ _) (fun _ _ _ _ _ _ => ?_) | with_reducible exact a_bu12 hN _ _ _ _ _ _ _ _ _ _ _ _ _ _ (by assumption) | with_reducible exact A5_n | with_reducible exact A5_s (by assumption) | with_reducible refine A5_i ?_ ?_ | with_reducible refine A5_g ?_ | with_reducible refine A5_1 (fun _ => ?_) | with_reducible refine A5_2 (fun _ _ => ?_) | with_reducible refine A5_4 (fun _ _ _ _ => ?_) | with_reducible refine A5_b hN (fun _ _ => ?_) | with_reducible refine A5_3 (fun _ _ _ => ?_))
theorem a_f38 {P : Option Nat → Prop} {nc : Option Nat} (hN : P nc) (a1 : Int32) (nf : Nat → Int32) (ng : Nat → Nat → Int32) (cn : Nat) (cf : Nat → Nat → Int32) (cg : Nat → Nat → Nat → Int32) (kc5 : Int32 → Int32 → (Nat → Int32) → (Nat → Nat → Int32) → Option Nat → (Nat → Int32) → Option (Int32 × (Nat → Int32) × (Nat → Nat → Int32) × Option Nat × (Nat → Int32))) (hk : ∀ x y a b c d, P c → A5 P (kc5 x y a b c d)) (x2 x3 t0 : Int32) (tf : Nat → Int32) (tg : Nat → Nat → Int32) (tc : Option Nat) (tv : Nat → Int32) (hT : P tc) : A5 P (k_X6_fright_38 a1 nf ng nc cn cf cg kc5 x2 x3 t0 tf tg tc tv) := by
  unfold k_X6_fright_38
  repeat' (first | with_reducible assumption  | with_reducible refine A5_5 (a_tb hN _ _ _ _ _ _ _ _ _ _ _) (fun _ _ _ _ _ _ => ?_) | with_reducible exact hk _ _ _ _ _ _ (by assumption) | with_reducible exact A5_n | with_reducible exact A5_s (by assumption) | with_reducible refine A5_i ?_ ?_ | with_reducible refine A5_g ?_ | with_reducible refine A5_1 (fun _ => ?_) | with_reducible refine A5_2 (fun _ _ => ?_) | with_reducible refine A5_4 (fun _ _ _ _ => ?_) | with_reducible refine A5_b hN (fun _ _ => ?_) | with_reducible refine A5_3 (fun _ _ _ => ?_))
theorem a_f5 {P : Option Nat → Prop} {nc : Option Nat} (hN : P nc) (a1 : Int32) (nf : Nat → Int32) (ng : Nat → Nat → Int32) (cn : Nat) (cf : Nat → Nat → Int32) (cg : Nat → Nat → Nat → Int32) : ∀ (n : Nat) (x2 x3 : Int32) (tf : Nat → Int32) (tg : Nat → Nat → Int32) (tc : Option Nat) (tv : Nat → Int32), P tc → A5 P (k_X6_fright_5 a1 nf ng nc cn cf cg n x2 x3 tf tg tc tv)
  | 0, _, _, _, _, _, _, _ => A5_n
  | n + 1, x2, x3, tf, tg, tc, tv, hT => by
    have ih := fun x2 x3 tf tg tc tv h => a_f5 (P := P) hN a1 nf ng cn cf cg n x2 x3 tf tg tc tv h
    simp only [k_X6_fright_5, k_X6_fright_33]
    repeat' (first | with_reducible assumption  | with_reducible exact ih _ _ _ _ _ _ (by assumption) | with_reducible exact a_f38 hN _ _ _ _ _ _ _ ih _ _ _ _ _ _ _ hT | with_reducible exact A5_n | with_reducible exact A5_s (by assumption) | with_reducible refine A5_i ?_ ?_ | with_reducible refine A5_g ?_ | with_reducible refine A5_1 (fun _ => ?_) | with_reducible refine A5_2 (fun _ _ => ?_) | with_reducible refine A5_4 (fun _ _ _ _ => ?_) | with_reducible refine A5_b hN (fun _ _ => ?_) | with_reducible refine A5_3 (fun _ _ _ => ?_))
theorem a_fr {P : Option Nat → Prop} {nc : Option Nat} (hN : P nc) (a1 : Int32) (nf : Nat → Int32) (ng : Nat → Nat → Int32) (tf : Nat → Int32) (tg : Nat → Nat → Int32) (tc : Option Nat) (tv : Nat → Int32) (cn : Nat) (cf : Nat → Nat → Int32) (cg : Nat → Nat → Nat → Int32) (hT : P tc) : A5 P (k_X6_fright a1 nf ng nc tf tg tc tv cn cf cg) := by
  unfold k_X6_fright
  exact a_f5 hN _ _ _ _ _ _ _ _ _ _ _ _ _ hT
theorem a_best {P : Option Nat → Prop} {nc : Option Nat} (hN : P nc) (a1 a2 : Int32) (nf : Nat → Int32) (ng : Nat → Nat → Int32) (tf : Nat → Int32) (tg : Nat → Nat → Int32) (tc : Option Nat) (tv : Nat → Int32) (cn : Nat) (cf : Nat → Nat → Int32) (cg : Nat → Nat → Nat → Int32) (hT : P tc) : A5 P (k_X6_best a1 a2 nf ng nc tf tg tc tv cn cf cg) := by
  unfold k_X6_best
  repeat' (first | with_reducible assumption  | with_reducible refine A5_5 (a_bu hN _ _ _ _ _ _ _ _ _ _) (fun _ _ _ _ _ _ => ?_) | with_reducible refine A5_5 (a_tb hN _ _ _ _ _ _ _ _ _ _ _) (fun _ _ _ _ _ _ => ?_) | with_reducible refine A5_5 (a_fr hN _ _ _ _ _ _ _ _ _ _ hT) (fun _ _ _ _ _ _ => ?_) | with_reducible exact A5_n | with_reducible exact A5_s (by assumption) | with_reducible refine A5_i ?_ ?_ | with_reducible refine A5_g ?_ | with_reducible refine A5_1 (fun _ => ?_) | with_reducible refine A5_2 (fun _ _ => ?_) | with_reducible refine A5_4 (fun _ _ _ _ => ?_) | with_reducible refine A5_b hN (fun _ _ => ?_) | with_reducible refine A5_3 (fun _ _ _ => ?_))
theorem a_on {P : Option Nat → Prop} {nc : Option Nat} (hN : P nc) (a1 a2 : Int32) (nf : Nat → Int32) (ng : Nat → Nat → Int32) (tf : Nat → Int32) (tg : Nat → Nat → Int32) (tc : Option Nat) (tv : Nat → Int32) (cn : Nat) (cf : Nat → Nat → Int32) (cg : Nat → Nat → Nat → Int32) (hT : P tc) : A5 P (k_X6_on a1 a2 nf ng nc tf tg tc tv cn cf cg) := by
  unfold k_X6_on
  repeat' (first | with_reducible assumption  | with_reducible exact A5_n | with_reducible exact A5_s (by assumption) | with_reducible refine A5_i ?_ ?_ | with_reducible refine A5_g ?_ | with_reducible refine A5_1 (fun _ => ?_) | with_reducible refine A5_2 (fun _ _ => ?_) | with_reducible refine A5_4 (fun _ _ _ _ => ?_) | with_reducible refine A5_b hN (fun _ _ => ?_) | with_reducible refine A5_3 (fun _ _ _ => ?_))
theorem a_od36 {P : Option Nat → Prop} {nc : Option Nat} (hN : P nc) (a1 a2 : Int32) (nf : Nat → Int32) (ng : Nat → Nat → Int32) (cn : Nat) (cf : Nat → Nat → Int32) (cg : Nat → Nat → Nat → Int32) : ∀ (n : Nat) (x3 x4 : Int32) (tf : Nat → Int32) (tg : Nat → Nat → Int32) (tc : Option Nat) (tv : Nat → Int32), P tc → A5 P (k_X6_odds_36 a1 a2 nf ng nc cn cf cg n x3 x4 tf tg tc tv)
  | 0, _, _, _, _, _, _, _ => A5_n
  | n + 1, x3, x4, tf, tg, tc, tv, hT => by
    have ih := fun x3 x4 tf tg tc tv h => a_od36 (P := P) hN a1 a2 nf ng cn cf cg n x3 x4 tf tg tc tv h
    simp only [k_X6_odds_36]
    repeat' (first | with_reducible assumption  | with_reducible exact ih _ _ _ _ _ _ (by assumption) | with_reducible refine A5_5 (a_tb hN _ _ _ _ _ _ _ _ _ _ _) (fun _ _ _ _ _ _ => ?_) | with_reducible exact A5_n | with_reducible exact A5_s (by assumption) | with_reducible refine A5_i ?_ ?_ | with_reducible refine A5_g ?_ | with_reducible refine A5_1 (fun _ => ?_) | with_reducible refine A5_2 (fun _ _ => ?_) | with_reducible refine A5_4 (fun _ _ _ _ => ?_) | with_reducible refine A5_b hN (fun _ _ => ?_) | with_reducible refine A5_3 (fun _ _ _ => ?_))
theorem a_odds {P : Option Nat → Prop} {nc : Option Nat} (hN : P nc) (a1 a2 : Int32) (nf : Nat → Int32) (ng : Nat → Nat → Int32) (tf : Nat → Int32) (tg : Nat → Nat → Int32) (tc : Option Nat) (tv : Nat → Int32) (cn : Nat) (cf : Nat → Nat → Int32) (cg : Nat → Nat → Nat → Int32) (hT : P tc) : A5 P (k_X6_odds a1 a2 nf ng nc tf tg tc tv cn cf cg) := by
  unfold k_X6_odds
  repeat' (first | with_reducible assumption  | with_reducible exact a_od36 hN _ _ _ _ _ _ _ _ _ _ _ _ _ _ hT | with_reducible exact A5_n | with_reducible exact A5_s (by assumption) | with_reducible refine A5_i ?_ ?_ | with_reducible refine A5_g ?_ | with_reducible refine A5_1 (fun _ => ?_) | with_reducible refine A5_2 (fun _ _ => ?_) | with_reducible refine A5_4 (fun _ _ _ _ => ?_) | with_reducible refine A5_b hN (fun _ _ => ?_) | with_reducible refine A5_3 (fun _ _ _ => ?_))
theorem a_en17 {P : Option Nat → Prop} (a1 npc : Int32) (npa npb : Nat → Int32) (cn : Nat) (cf : Nat → Nat → Int32) (cg : Nat → Nat → Nat → Int32) : ∀ (n : Nat) (x3 : Int32) (tf : Nat → Int32) (tg : Nat → Nat → Int32) (tc : Option Nat) (tv : Nat → Int32), P tc → A5 P (k_X6_ends_17 a1 npc npa npb cn cf cg n x3 tf tg tc tv)
  | 0, _, _, _, _, _, _ => A5_n
  | n + 1, x3, tf, tg, tc, tv, hT => by
    have ih := fun x3 tf tg tc tv h => a_en17 (P := P) a1 npc npa npb cn cf cg n x3 tf tg tc tv h
    simp only [k_X6_ends_17]
    repeat' (first | with_reducible assumption  | with_reducible exact ih _ _ _ _ _ (by assumption) | with_reducible exact A5_n | with_reducible exact A5_s (by assumption) | with_reducible refine A5_i ?_ ?_ | with_reducible refine A5_g ?_ | with_reducible refine A5_1 (fun _ => ?_) | with_reducible refine A5_2 (fun _ _ => ?_) | with_reducible refine A5_4 (fun _ _ _ _ => ?_) | with_reducible refine A5_b hN (fun _ _ => ?_) | with_reducible refine A5_3 (fun _ _ _ => ?_))
theorem a_ends {P : Option Nat → Prop} {nc : Option Nat} (hN : P nc) (a1 npc : Int32) (npa npb : Nat → Int32) (nf : Nat → Int32) (ng : Nat → Nat → Int32) (tf : Nat → Int32) (tg : Nat → Nat → Int32) (tc : Option Nat) (tv : Nat → Int32) (cn : Nat) (cf : Nat → Nat → Int32) (cg : Nat → Nat → Nat → Int32) (hT : P tc) : A5 P (k_X6_ends a1 nf ng nc npc npa npb tf tg tc tv cn cf cg) := by
  unfold k_X6_ends
  repeat' (first | with_reducible assumption  | with_reducible exact a_en17 _ _ _ _ _ _ _ _ _ _ _ _ _ (by assumption) | with_reducible exact A5_n | with_reducible exact A5_s (by assumption) | with_reducible refine A5_i ?_ ?_ | with_reducible refine A5_g ?_ | with_reducible refine A5_1 (fun _ => ?_) | with_reducible refine A5_2 (fun _ _ => ?_) | with_reducible refine A5_4 (fun _ _ _ _ => ?_) | with_reducible refine A5_b hN (fun _ _ => ?_) | with_reducible refine A5_3 (fun _ _ _ => ?_))
theorem a_lk4 {P : Option Nat → Prop} {nc : Option Nat} (hN : P nc) (a1 : Int32) (nhc : Int32) (nha nhb : Nat → Int32) (nf : Nat → Int32) (ng : Nat → Nat → Int32) (cn : Nat) (cf : Nat → Nat → Int32) (cg : Nat → Nat → Nat → Int32) : ∀ (n : Nat) (x2 x3 : Int32) (tf : Nat → Int32) (tg : Nat → Nat → Int32) (tc : Option Nat) (tv : Nat → Int32), P tc → A5 P (k_X6_likelyNumbers_4 a1 nf ng nc nhc nha nhb cn cf cg n x2 x3 tf tg tc tv)
  | 0, _, _, _, _, _, _, _ => A5_n
  | n + 1, x2, x3, tf, tg, tc, tv, hT => by
    have ih := fun x2 x3 tf tg tc tv h => a_lk4 (P := P) hN a1 nhc nha nhb nf ng cn cf cg n x2 x3 tf tg tc tv h
    simp only [k_X6_likelyNumbers_4]
    repeat' (first | with_reducible assumption  | with_reducible exact ih _ _ _ _ _ _ (by assumption) | with_reducible exact A5_n | with_reducible exact A5_s (by assumption) | with_reducible refine A5_i ?_ ?_ | with_reducible refine A5_g ?_ | with_reducible refine A5_1 (fun _ => ?_) | with_reducible refine A5_2 (fun _ _ => ?_) | with_reducible refine A5_4 (fun _ _ _ _ => ?_) | with_reducible refine A5_b hN (fun _ _ => ?_) | with_reducible refine A5_3 (fun _ _ _ => ?_))
theorem a_ln4 {P : Option Nat → Prop} {nc : Option Nat} (hN : P nc) (a1 : Int32) (nhc : Int32) (nha nhb : Nat → Int32) (nf : Nat → Int32) (ng : Nat → Nat → Int32) (cn : Nat) (cf : Nat → Nat → Int32) (cg : Nat → Nat → Nat → Int32) : ∀ (n : Nat) (x2 x3 : Int32) (tf : Nat → Int32) (tg : Nat → Nat → Int32) (tc : Option Nat) (tv : Nat → Int32), P tc → A5 P (k_X6_likelyNerves_4 a1 nf ng nc nhc nha nhb cn cf cg n x2 x3 tf tg tc tv)
  | 0, _, _, _, _, _, _, _ => A5_n
  | n + 1, x2, x3, tf, tg, tc, tv, hT => by
    have ih := fun x2 x3 tf tg tc tv h => a_ln4 (P := P) hN a1 nhc nha nhb nf ng cn cf cg n x2 x3 tf tg tc tv h
    simp only [k_X6_likelyNerves_4]
    repeat' (first | with_reducible assumption  | with_reducible exact ih _ _ _ _ _ _ (by assumption) | with_reducible exact A5_n | with_reducible exact A5_s (by assumption) | with_reducible refine A5_i ?_ ?_ | with_reducible refine A5_g ?_ | with_reducible refine A5_1 (fun _ => ?_) | with_reducible refine A5_2 (fun _ _ => ?_) | with_reducible refine A5_4 (fun _ _ _ _ => ?_) | with_reducible refine A5_b hN (fun _ _ => ?_) | with_reducible refine A5_3 (fun _ _ _ => ?_))
theorem a_can {P : Option Nat → Prop} {nc : Option Nat} (hN : P nc) (a1 a2 : Int32) (nhc : Int32) (nha nhb : Nat → Int32) (nf : Nat → Int32) (ng : Nat → Nat → Int32) (tf : Nat → Int32) (tg : Nat → Nat → Int32) (tc : Option Nat) (tv : Nat → Int32) (cn : Nat) (cf : Nat → Nat → Int32) (cg : Nat → Nat → Nat → Int32) (hT : P tc) : A5 P (k_X6_can a1 a2 nf ng nc nhc nha nhb tf tg tc tv cn cf cg) := by
  unfold k_X6_can k_X6_likelyNumbers
  repeat' (first | with_reducible assumption  | with_reducible refine A5_5 (a_lk4 hN _ _ _ _ _ _ _ _ _ _ _ _ _ _ _ _ hT) (fun _ _ _ _ _ _ => ?_) | with_reducible exact A5_n | with_reducible exact A5_s (by assumption) | with_reducible refine A5_i ?_ ?_ | with_reducible refine A5_g ?_ | with_reducible refine A5_1 (fun _ => ?_) | with_reducible refine A5_2 (fun _ _ => ?_) | with_reducible refine A5_4 (fun _ _ _ _ => ?_) | with_reducible refine A5_b hN (fun _ _ => ?_) | with_reducible refine A5_3 (fun _ _ _ => ?_))
theorem a_hu7 {P : Option Nat → Prop} (cn : Nat) (cf : Nat → Nat → Int32) (cg : Nat → Nat → Nat → Int32) : ∀ (n : Nat) (x2 : Int32) (tf : Nat → Int32) (tg : Nat → Nat → Int32) (tc : Option Nat) (tv : Nat → Int32), P tc → A5 P (k_X6_hushed_7 cn cf cg n x2 tf tg tc tv)
  | 0, _, _, _, _, _, _ => A5_n
  | n + 1, x2, tf, tg, tc, tv, hT => by
    have ih := fun x2 tf tg tc tv h => a_hu7 (P := P) cn cf cg n x2 tf tg tc tv h
    simp only [k_X6_hushed_7]
    repeat' (first | with_reducible assumption  | with_reducible exact ih _ _ _ _ _ (by assumption) | with_reducible exact A5_n | with_reducible exact A5_s (by assumption) | with_reducible refine A5_i ?_ ?_ | with_reducible refine A5_g ?_ | with_reducible refine A5_1 (fun _ => ?_) | with_reducible refine A5_2 (fun _ _ => ?_) | with_reducible refine A5_4 (fun _ _ _ _ => ?_) | with_reducible refine A5_b hN (fun _ _ => ?_) | with_reducible refine A5_3 (fun _ _ _ => ?_))
theorem a_hu {P : Option Nat → Prop} {nc : Option Nat} (hN : P nc) (nf : Nat → Int32) (ng : Nat → Nat → Int32) (tf : Nat → Int32) (tg : Nat → Nat → Int32) (tc : Option Nat) (tv : Nat → Int32) (cn : Nat) (cf : Nat → Nat → Int32) (cg : Nat → Nat → Nat → Int32) : A5 P (k_X6_hushed nf ng nc tf tg tc tv cn cf cg) := by
  unfold k_X6_hushed
  repeat' (first | with_reducible assumption  | with_reducible exact a_hu7 _ _ _ _ _ _ _ _ _ (by assumption) | with_reducible exact A5_n | with_reducible exact A5_s (by assumption) | with_reducible refine A5_i ?_ ?_ | with_reducible refine A5_g ?_ | with_reducible refine A5_1 (fun _ => ?_) | with_reducible refine A5_2 (fun _ _ => ?_) | with_reducible refine A5_4 (fun _ _ _ _ => ?_) | with_reducible refine A5_b hN (fun _ _ => ?_) | with_reducible refine A5_3 (fun _ _ _ => ?_))

def A6 {X Y A B V : Type} (P : Option Nat → Prop) (o : Option (X × Y × A × B × Option Nat × V)) : Prop := ∀ r y a b c v, o = some (r, y, a, b, c, v) → P c
theorem A6_n {X Y A B V : Type} {P : Option Nat → Prop} : A6 (X := X) (Y := Y) (A := A) (B := B) (V := V) P none := fun _ _ _ _ _ _ h => by cases h
theorem A6_s {X Y A B V : Type} {P : Option Nat → Prop} {r : X} {y : Y} {a : A} {b : B} {c : Option Nat} {v : V} (h : P c) : A6 P (some (r, y, a, b, c, v)) := fun _ _ _ _ _ _ e => by cases e; exact h
theorem A6_i {X Y A B V : Type} {P : Option Nat → Prop} {q : Prop} [Decidable q] {x y : Option (X × Y × A × B × Option Nat × V)} (h : A6 P x) (k : A6 P y) : A6 P (if q then x else y) := by split; exact h; exact k
theorem A6_g {X Y A B V : Type} {P : Option Nat → Prop} {i : Int32} {n : Nat} {x : Option (X × Y × A × B × Option Nat × V)} (h : A6 P x) : A6 P (gd i n x) := by unfold gd; split; exact A6_n; exact h
theorem A6_1 {X Y A B V E : Type} {P : Option Nat → Prop} {o : Option E} {k : E → Option (X × Y × A × B × Option Nat × V)} (h : ∀ e, A6 P (k e)) : A6 P (b1 o k) := by
  rcases o with _ | e
  · exact A6_n
  · exact h e
theorem A6_2 {X Y A B V E F : Type} {P : Option Nat → Prop} {o : Option (E × F)} {k : E → F → Option (X × Y × A × B × Option Nat × V)} (h : ∀ e f, A6 P (k e f)) : A6 P (b2 o k) := by
  rcases o with _ | ⟨e, f⟩
  · exact A6_n
  · exact h e f
theorem A6_3 {X Y A B V E F G : Type} {P : Option Nat → Prop} {o : Option (E × F × G)} {k : E → F → G → Option (X × Y × A × B × Option Nat × V)} (h : ∀ e f g, A6 P (k e f g)) : A6 P (b3 o k) := by
  rcases o with _ | ⟨e, f, g⟩
  · exact A6_n
  · exact h e f g
theorem A6_5 {X Y A B V X2 A2 B2 V2 : Type} {P : Option Nat → Prop} {o : Option (X2 × A2 × B2 × Option Nat × V2)} {k : X2 → A2 → B2 → Option Nat → V2 → Option (X × Y × A × B × Option Nat × V)} (h0 : A5 P o) (h : ∀ r a b c v, P c → A6 P (k r a b c v)) : A6 P (b5 o k) := by
  rcases o with _ | ⟨r, a, b, c, v⟩
  · exact A6_n
  · exact h r a b c v (h0 _ _ _ _ _ rfl)

def A7 {X Y A B V U : Type} (P : Option Nat → Prop) (o : Option (X × Y × A × B × Option Nat × V × U)) : Prop := ∀ r y a b c v u, o = some (r, y, a, b, c, v, u) → P c
theorem A7_n {X Y A B V U : Type} {P : Option Nat → Prop} : A7 (X := X) (Y := Y) (A := A) (B := B) (V := V) (U := U) P none := fun _ _ _ _ _ _ _ h => by cases h
theorem A7_s {X Y A B V U : Type} {P : Option Nat → Prop} {r : X} {y : Y} {a : A} {b : B} {c : Option Nat} {v : V} {u : U} (h : P c) : A7 P (some (r, y, a, b, c, v, u)) := fun _ _ _ _ _ _ _ e => by cases e; exact h
theorem A7_i {X Y A B V U : Type} {P : Option Nat → Prop} {q : Prop} [Decidable q] {x y : Option (X × Y × A × B × Option Nat × V × U)} (h : A7 P x) (k : A7 P y) : A7 P (if q then x else y) := by split; exact h; exact k
theorem A7_g {X Y A B V U : Type} {P : Option Nat → Prop} {i : Int32} {n : Nat} {x : Option (X × Y × A × B × Option Nat × V × U)} (h : A7 P x) : A7 P (gd i n x) := by unfold gd; split; exact A7_n; exact h
theorem A7_1 {X Y A B V U E : Type} {P : Option Nat → Prop} {o : Option E} {k : E → Option (X × Y × A × B × Option Nat × V × U)} (h : ∀ e, A7 P (k e)) : A7 P (b1 o k) := by
  rcases o with _ | e
  · exact A7_n
  · exact h e
theorem A7_2 {X Y A B V U E F : Type} {P : Option Nat → Prop} {o : Option (E × F)} {k : E → F → Option (X × Y × A × B × Option Nat × V × U)} (h : ∀ e f, A7 P (k e f)) : A7 P (b2 o k) := by
  rcases o with _ | ⟨e, f⟩
  · exact A7_n
  · exact h e f
theorem A7_3 {X Y A B V U E F G : Type} {P : Option Nat → Prop} {o : Option (E × F × G)} {k : E → F → G → Option (X × Y × A × B × Option Nat × V × U)} (h : ∀ e f g, A7 P (k e f g)) : A7 P (b3 o k) := by
  rcases o with _ | ⟨e, f, g⟩
  · exact A7_n
  · exact h e f g
theorem A7_5 {X Y A B V U X2 A2 B2 V2 : Type} {P : Option Nat → Prop} {o : Option (X2 × A2 × B2 × Option Nat × V2)} {k : X2 → A2 → B2 → Option Nat → V2 → Option (X × Y × A × B × Option Nat × V × U)} (h0 : A5 P o) (h : ∀ r a b c v, P c → A7 P (k r a b c v)) : A7 P (b5 o k) := by
  rcases o with _ | ⟨r, a, b, c, v⟩
  · exact A7_n
  · exact h r a b c v (h0 _ _ _ _ _ rfl)
theorem a_of {P : Option Nat → Prop} {nc : Option Nat} (hN : P nc) (a1 a2 : Int32) (nv : Nat → Int32) (nhc : Int32) (nha nhb : Nat → Int32) (nf : Nat → Int32) (ng : Nat → Nat → Int32) (tf : Nat → Int32) (tg : Nat → Nat → Int32) (tc : Option Nat) (tv : Nat → Int32) (cn : Nat) (cf : Nat → Nat → Int32) (cg : Nat → Nat → Nat → Int32) (hT : P tc) : A6 P (k_X6_of a1 a2 nf ng nc nv nhc nha nhb tf tg tc tv cn cf cg) := by
  unfold k_X6_of k_X6_likelyNerves
  repeat' (first | with_reducible assumption  | with_reducible refine A6_5 (a_ln4 hN _ _ _ _ _ _ _ _ _ _ _ _ _ _ _ _ hT) (fun _ _ _ _ _ _ => ?_) | with_reducible exact A6_n | with_reducible exact A6_s (by assumption) | with_reducible refine A6_i ?_ ?_ | with_reducible refine A6_g ?_ | with_reducible refine A6_1 (fun _ => ?_) | with_reducible refine A6_2 (fun _ _ => ?_) | with_reducible refine A6_3 (fun _ _ _ => ?_))
theorem a_told {P : Option Nat → Prop} {nc : Option Nat} (hN : P nc) (a1 : Int32) (nv wt : Nat → Int32) (nf : Nat → Int32) (ng : Nat → Nat → Int32) (tf : Nat → Int32) (tg : Nat → Nat → Int32) (tc : Option Nat) (tv : Nat → Int32) (cn : Nat) (cf : Nat → Nat → Int32) (cg : Nat → Nat → Nat → Int32) (hT : P tc) : A7 P (k_X6_told a1 nf ng nc nv tf tg tc tv wt cn cf cg) := by
  unfold k_X6_told
  repeat' (first | with_reducible assumption  | with_reducible refine A7_5 (a_hu hN _ _ _ _ _ _ _ _ _) (fun _ _ _ _ _ _ => ?_) | with_reducible exact A7_n | with_reducible exact A7_s (by assumption) | with_reducible refine A7_i ?_ ?_ | with_reducible refine A7_g ?_ | with_reducible refine A7_1 (fun _ => ?_) | with_reducible refine A7_2 (fun _ _ => ?_) | with_reducible refine A7_3 (fun _ _ _ => ?_))

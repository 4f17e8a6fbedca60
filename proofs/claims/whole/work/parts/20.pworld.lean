def b12 {A0 A1 A2 A3 A4 A5 A6 A7 A8 A9 A10 A11 R : Type} (o : Option (A0 × A1 × A2 × A3 × A4 × A5 × A6 × A7 × A8 × A9 × A10 × A11)) (k : A0 → A1 → A2 → A3 → A4 → A5 → A6 → A7 → A8 → A9 → A10 → A11 → Option R) : Option R := match o with | none => none | some (a0, a1, a2, a3, a4, a5, a6, a7, a8, a9, a10, a11) => k a0 a1 a2 a3 a4 a5 a6 a7 a8 a9 a10 a11
theorem b12_of {A0 A1 A2 A3 A4 A5 A6 A7 A8 A9 A10 A11 R : Type} {o : Option (A0 × A1 × A2 × A3 × A4 × A5 × A6 × A7 × A8 × A9 × A10 × A11)} {k : A0 → A1 → A2 → A3 → A4 → A5 → A6 → A7 → A8 → A9 → A10 → A11 → Option R} {r : R} (h : b12 o k = some r) : ∃ a0 a1 a2 a3 a4 a5 a6 a7 a8 a9 a10 a11, o = some (a0, a1, a2, a3, a4, a5, a6, a7, a8, a9, a10, a11) ∧ k a0 a1 a2 a3 a4 a5 a6 a7 a8 a9 a10 a11 = some r := by
  cases o with
  | none => cases h
  | some q => exact ⟨q.1, q.2.1, q.2.2.1, q.2.2.2.1, q.2.2.2.2.1, q.2.2.2.2.2.1, q.2.2.2.2.2.2.1, q.2.2.2.2.2.2.2.1, q.2.2.2.2.2.2.2.2.1, q.2.2.2.2.2.2.2.2.2.1, q.2.2.2.2.2.2.2.2.2.2.1, q.2.2.2.2.2.2.2.2.2.2.2, rfl, h⟩
theorem b12_s {A0 A1 A2 A3 A4 A5 A6 A7 A8 A9 A10 A11 R : Type} {a0 : A0} {a1 : A1} {a2 : A2} {a3 : A3} {a4 : A4} {a5 : A5} {a6 : A6} {a7 : A7} {a8 : A8} {a9 : A9} {a10 : A10} {a11 : A11} {k : A0 → A1 → A2 → A3 → A4 → A5 → A6 → A7 → A8 → A9 → A10 → A11 → Option R} : b12 (some (a0, a1, a2, a3, a4, a5, a6, a7, a8, a9, a10, a11)) k = k a0 a1 a2 a3 a4 a5 a6 a7 a8 a9 a10 a11 := rfl
def chv (qc : Nat → Nat → Nat) (o : Option Nat) : Value := va_rf (o.map (fun i => qc i 0))
theorem chv_nar {qc : Nat → Nat → Nat} {o : Option Nat} {C : String} : narrow (.object C) (chv qc o) = chv qc o := by cases o <;> rfl
theorem chv_fit {qc : Nat → Nat → Nat} {o : Option Nat} {C : String} : fits (.object C) (chv qc o) = true := by cases o <;> rfl
def oc {α : Type} (o : Option Nat) (a : Option α) (b : Nat → Option α) : Option α := match o with | none => a | some i => b i
theorem oc_n {α : Type} {a : Option α} {b : Nat → Option α} {r : α} (h : oc none a b = some r) : a = some r := h
theorem oc_s {α : Type} {i : Nat} {a : Option α} {b : Nat → Option α} {r : α} (h : oc (some i) a b = some r) : b i = some r := h
def gp {α : Type} (i n : Nat) (o : Option α) : Option α := if i < n then o else none
theorem gp_of {α : Type} {i n : Nat} {o : Option α} {r : α} (h : gp i n o = some r) : i < n ∧ o = some r := by
  unfold gp at h
  by_cases c : i < n
  · rw [if_pos c] at h; exact ⟨c, h⟩
  · rw [if_neg c] at h; cases h
theorem vp_lt {i : Int32} {n : Nat} (h : vp_in i n) : Int32.toNatClampNeg i < n := Nat.not_le.mp fun q => h (Or.inr q)
/-- a cellar: its object, its rows of ints but values -/
def Cw (q : Nat → Nat) (cA : Nat → ClassId) (ch : Value) (f : Nat → Int32) (g : Nat → Nat → Int32) : va_W := [(q 0, .inr (1, [.int (f 0), .int (f 1), .int (f 2), .int (f 3), .int (f 4), .int (f 5), ch, .ref (q 7), .ref (q 8), .ref (q 9), .ref (q 10), .ref (q 11), .ref (q 12), .ref (q 13), .ref (q 14), .ref (q 15)])), (q 7, .inl (cA 0, 6, .inl (g 7))), (q 8, .inl (cA 0, 6, .inl (g 8))), (q 9, .inl (cA 0, 6, .inl (g 9))), (q 10, .inl (cA 0, 6, .inl (g 10))), (q 11, .inl (cA 0, 24, .inl (g 11)))]
def Vw (a : Nat) (cA : Nat → ClassId) (v : Nat → Int32) : va_W := [(a, .inl (cA 0, 6, .inl v))]
def Rw (o a b : Nat) (cA : Nat → ClassId) (n : Nat) (c : Int32) (x y : Nat → Int32) : va_W := [(o, .inr (3, [.int c, .ref a, .ref b])), (a, .inl (cA 0, n, .inl x)), (b, .inl (cA 0, n, .inl y))]
def Chw (q : Nat → Nat) (cA : Nat → ClassId) (f : Nat → Int32) (g : Nat → Nat → Int32) : va_W := [(q 0, .inr (2, [.int (f 0), .int (f 1), .int (f 2), .ref (q 3), .ref (q 4), .ref (q 5), .ref (q 6), .ref (q 7), .ref (q 8)])), (q 3, .inl (cA 0, 10, .inl (g 3))), (q 4, .inl (cA 0, 10, .inl (g 4))), (q 5, .inl (cA 0, 10, .inl (g 5))), (q 6, .inl (cA 0, 100, .inl (g 6))), (q 7, .inl (cA 0, 100, .inl (g 7))), (q 8, .inl (cA 0, 100, .inl (g 8)))]
def Tw (q : Nat → Nat) (cA : Nat → ClassId) (f s : Nat → Int32) (v : Value) : va_W := [(q 0, .inr (5, [.int (f 0), .ref (q 1), .int (f 2), v])), (q 1, .inl (cA 1, 100, .inl s))]
def Aw (q : Nat → Nat) (cA : Nat → ClassId) (f b : Nat → Int32) : va_W := [(q 0, .inr (0, [.int (f 0), .ref (q 1), .int (f 2), .int (f 3), .int (f 4)])), (q 1, .inl (cA 0, 20, .inl b))]
def Tp (q : Nat → Nat) (cA : Nat → ClassId) (f : Nat → Int32) (i : Nat → Int64) : va_W := [(q 0, .inr (4, [.int (f 0), .int (f 1), .ref (q 1)])), (q 1, .inl (cA 2, 60, .inr (.inl i)))]
def Po (o : Nat) (qn qk qt qx qa : Nat → Nat) (ts wa : Nat) (f : Nat → Int32) (v : Value) : va_W := [(o, .inr (6, [.ref (qn 0), .ref (qk 0), .ref (qt 0), .ref (qx 0), .ref (qa 0), .ref ts, .ref wa, .int (f 7), v, .int (f 9)]))]
def TAw (ts : Nat) (cA : Nat → ClassId) (qs : Nat → Nat → Nat) : va_W := [(ts, .inl (cA 4, 6, .inr (.inr (.inr (.inr (fun k => some (qs k 0)))))))]
/-! families: worlds of many alike -/
def fam (F : Nat → va_W) (n : Nat) : va_W := (List.range n).flatMap F
def famR (F : Nat → va_W) (n J : Nat) : va_W := ((List.range n).erase J).flatMap F
theorem fam_out {F : Nat → va_W} {n J : Nat} (h : J < n) : (fam F n).Perm (F J ++ famR F n J) := by
  have h1 := List.perm_cons_erase (List.mem_range.mpr h)
  have h2 := h1.flatMap_right F
  rw [List.flatMap_cons] at h2
  exact h2
theorem famR_eq {F G : Nat → va_W} {n J : Nat} (h : ∀ k, k ≠ J → F k = G k) : famR F n J = famR G n J := by
  unfold famR
  have hx : ∀ l : List Nat, J ∉ l → l.flatMap F = l.flatMap G := by
    intro l
    induction l with
    | nil => intro _; rfl
    | cons a l ih =>
      intro hn
      rw [List.flatMap_cons, List.flatMap_cons, h a (fun e => hn (by rw [e]; exact List.mem_cons_self)), ih (fun e => hn (List.mem_cons_of_mem _ e))]
  refine hx _ (fun hm => ?_)
  exact (List.nodup_range (n := n)).not_mem_erase hm
theorem seg_split (s1 : List va_W) (c a b : va_W) (s2 : List va_W) (h : c.Perm (a ++ b)) : (s1 ++ c :: s2).flatten.Perm ((s1 ++ a :: b :: s2).flatten) := by
  rw [List.flatten_append, List.flatten_append]
  refine List.Perm.append_left _ ?_
  rw [List.flatten_cons, List.flatten_cons, List.flatten_cons, ← List.append_assoc]
  exact h.append_right _
def Tps (qs : Nat → Nat → Nat) (cA : Nat → ClassId) (f : Nat → Nat → Int32) (i : Nat → Nat → Int64) : va_W := fam (fun k => Tp (qs k) cA (f k) (i k)) 6
def TpsR (qs : Nat → Nat → Nat) (cA : Nat → ClassId) (f : Nat → Nat → Int32) (i : Nat → Nat → Int64) (J : Nat) : va_W := famR (fun k => Tp (qs k) cA (f k) (i k)) 6 J
def chPool (n : Nat) (qc : Nat → Nat → Nat) (cA : Nat → ClassId) (f : Nat → Nat → Int32) (g : Nat → Nat → Nat → Int32) : va_W := fam (fun k => Chw (qc k) cA (f k) (g k)) n
def chPoolR (n : Nat) (qc : Nat → Nat → Nat) (cA : Nat → ClassId) (f : Nat → Nat → Int32) (g : Nat → Nat → Nat → Int32) (J : Nat) : va_W := famR (fun k => Chw (qc k) cA (f k) (g k)) n J
theorem tps_out {qs : Nat → Nat → Nat} {cA : Nat → ClassId} {f : Nat → Nat → Int32} {i : Nat → Nat → Int64} {J : Nat} (h : J < 6) : (Tps qs cA f i).Perm (Tp (qs J) cA (f J) (i J) ++ TpsR qs cA f i J) := fam_out h
theorem tps_in {qs : Nat → Nat → Nat} {cA : Nat → ClassId} {f : Nat → Nat → Int32} {i : Nat → Nat → Int64} {J : Nat} {f1 : Nat → Int32} {i1 : Nat → Int64} (h : J < 6) : (Tps qs cA (va_up f J f1) (va_up i J i1)).Perm (Tp (qs J) cA f1 i1 ++ TpsR qs cA f i J) := by
  have h1 := fam_out (F := fun k => Tp (qs k) cA (va_up f J f1 k) (va_up i J i1 k)) h
  have e1 : va_up f J f1 J = f1 := if_pos rfl
  have e2 : va_up i J i1 J = i1 := if_pos rfl
  rw [famR_eq (G := fun k => Tp (qs k) cA (f k) (i k)) (fun k hk => by show Tp (qs k) cA (va_up f J f1 k) (va_up i J i1 k) = _; rw [show va_up f J f1 k = f k from if_neg hk, show va_up i J i1 k = i k from if_neg hk]), e1, e2] at h1
  exact h1
theorem pool_out {n : Nat} {qc : Nat → Nat → Nat} {cA : Nat → ClassId} {f : Nat → Nat → Int32} {g : Nat → Nat → Nat → Int32} {J : Nat} (h : J < n) : (chPool n qc cA f g).Perm (Chw (qc J) cA (f J) (g J) ++ chPoolR n qc cA f g J) := fam_out h
theorem pool_in {n : Nat} {qc : Nat → Nat → Nat} {cA : Nat → ClassId} {f : Nat → Nat → Int32} {g : Nat → Nat → Nat → Int32} {J : Nat} {f1 : Nat → Int32} {g1 : Nat → Nat → Int32} (h : J < n) : (chPool n qc cA (va_up f J f1) (va_up g J g1)).Perm (Chw (qc J) cA f1 g1 ++ chPoolR n qc cA f g J) := by
  have h1 := fam_out (F := fun k => Chw (qc k) cA (va_up f J f1 k) (va_up g J g1 k)) h
  have e1 : va_up f J f1 J = f1 := if_pos rfl
  have e2 : va_up g J g1 J = g1 := if_pos rfl
  rw [famR_eq (G := fun k => Chw (qc k) cA (f k) (g k)) (fun k hk => by show Chw (qc k) cA (va_up f J f1 k) (va_up g J g1 k) = _; rw [show va_up f J f1 k = f k from if_neg hk, show va_up g J g1 k = g k from if_neg hk]), e1, e2] at h1
  exact h1
/-- a place in a family of worlds of w cells each -/
theorem fam_at {F : Nat → va_W} {w : Nat} (hw : ∀ k, (F k).length = w) {j : Nat} (hj : j < w) : ∀ {n J : Nat}, J < n → ∀ (X : va_W), (fam F n ++ X)[w * J + j]? = (F J)[j]? := by
  intro n
  induction n with
  | zero => intro J h; omega
  | succ n ih =>
    intro J h X
    have e : fam F (n + 1) = fam F n ++ F n := by
      unfold fam
      rw [List.range_succ, List.flatMap_append]
      simp
    have hlen : (fam F n).length = w * n := by
      clear ih h e
      induction n with
      | zero => simp [fam]
      | succ n ih =>
        have e : fam F (n + 1) = fam F n ++ F n := by
          unfold fam
          rw [List.range_succ, List.flatMap_append]
          simp
        rw [e, List.length_append, ih, hw, Nat.mul_succ]
    rw [e, List.append_assoc]
    rcases Nat.lt_or_ge J n with q | q
    · exact ih q _
    · have hJ : J = n := by omega
      subst hJ
      rw [List.getElem?_append_right (by omega), hlen, Nat.add_sub_cancel_left, List.getElem?_append_left (by rw [hw]; exact hj)]
theorem fam_len {F : Nat → va_W} {w : Nat} (hw : ∀ k, (F k).length = w) (n : Nat) : (fam F n).length = w * n := by
  induction n with
  | zero => simp [fam]
  | succ n ih =>
    have e : fam F (n + 1) = fam F n ++ F n := by
      unfold fam
      rw [List.range_succ, List.flatMap_append]
      simp
    rw [e, List.length_append, ih, hw, Nat.mul_succ]
theorem tps_at {qs : Nat → Nat → Nat} {cA : Nat → ClassId} {f : Nat → Nat → Int32} {i : Nat → Nat → Int64} {J : Nat} (h : J < 6) {j : Nat} (hj : j < 2) (X : va_W) : (Tps qs cA f i ++ X)[2 * J + j]? = (Tp (qs J) cA (f J) (i J))[j]? := fam_at (F := fun k => Tp (qs k) cA (f k) (i k)) (w := 2) (fun _ => rfl) hj h X
theorem tps_set {qs : Nat → Nat → Nat} {cA : Nat → ClassId} {f : Nat → Nat → Int32} {i : Nat → Nat → Int64} {J : Nat} (h : J < 6) {z : Nat → Int64} (X : va_W) : (Tps qs cA f i ++ X).set (2 * J + 1) (qs J 1, .inl (cA 2, 60, .inr (.inl z))) = Tps qs cA f (va_up i J z) ++ X := by
  rcases (show J = 0 ∨ J = 1 ∨ J = 2 ∨ J = 3 ∨ J = 4 ∨ J = 5 by omega) with rfl | rfl | rfl | rfl | rfl | rfl <;> rfl
theorem pool_at {n : Nat} {qc : Nat → Nat → Nat} {cA : Nat → ClassId} {f : Nat → Nat → Int32} {g : Nat → Nat → Nat → Int32} {J : Nat} (h : J < n) (P : va_W) (X : va_W) {k : Nat} (hk : k = P.length) : (P ++ (chPool n qc cA f g ++ X))[k + 7 * J]? = some (qc J 0, .inr (2, [.int (f J 0), .int (f J 1), .int (f J 2), .ref (qc J 3), .ref (qc J 4), .ref (qc J 5), .ref (qc J 6), .ref (qc J 7), .ref (qc J 8)])) := by
  subst hk
  rw [List.getElem?_append_right (by omega), Nat.add_sub_cancel_left]
  exact fam_at (F := fun k => Chw (qc k) cA (f k) (g k)) (w := 7) (fun _ => rfl) (j := 0) (by omega) h X
theorem m_fieldLink_P_Rows_16_P_Rows_count_I : (Cond.fieldLink RX3 16 "CellarPlot$Rows" "count" "I") ∈ BW := bw_in (tw_1 _ (List.mem_of_getElem? (i := 37) (by decide +kernel))) rfl
theorem m_fieldLink_P_Rows_7_P_Rows_first_aI : (Cond.fieldLink RX3 7 "CellarPlot$Rows" "first" "[I") ∈ BW := bw_in (tw_1 _ (List.mem_of_getElem? (i := 39) (by decide +kernel))) rfl
theorem m_fieldLink_P_Rows_13_P_Rows_second_aI : (Cond.fieldLink RX3 13 "CellarPlot$Rows" "second" "[I") ∈ BW := bw_in (tw_1 _ (List.mem_of_getElem? (i := 41) (by decide +kernel))) rfl
theorem m_methodLink_P_Rows_20_java_lang_Math_max_II_I : (Cond.methodLink RX3 20 Lib.Math.max.name) ∈ BW := bw_in (tw_2 _ (List.mem_of_getElem? (i := 47) (by decide +kernel))) rfl
theorem m_static_java_lang_Math_max_II_I : (Cond.static Lib.Math.max.name) ∈ BW := bw_in (tw_2 _ (List.mem_of_getElem? (i := 48) (by decide +kernel))) rfl
theorem m_initialized_java_lang_Math : (Cond.initialized "java/lang/Math") ∈ BW := bw_in (tw_1 _ (List.mem_of_getElem? (i := 8) (by decide +kernel))) rfl
theorem m_code_java_lang_Math_max_II_I : (Cond.code Lib.Math.max.name Lib.Math.max.code 2 (some .int)) ∈ BW := bw_in (tw_2 _ (List.mem_of_getElem? (i := 49) (by decide +kernel))) rfl
theorem m_methodLink_P_Rows_26_java_lang_System_arraycopy_Ljava_lang_ObjectILjava_lang_ObjectII_V : (Cond.methodLink RX3 26 arraycopyName) ∈ BW := bw_in (tw_3 _ (List.mem_of_getElem? (i := 189) (by decide +kernel))) rfl
theorem m_native_java_lang_System_arraycopy_Ljava_lang_ObjectILjava_lang_ObjectII_V : (Cond.native arraycopyName) ∈ BW := bw_in (tw_2 _ (List.mem_of_getElem? (i := 38) (by decide +kernel))) rfl
theorem m_static_java_lang_System_arraycopy_Ljava_lang_ObjectILjava_lang_ObjectII_V : (Cond.static arraycopyName) ∈ BW := bw_in (tw_2 _ (List.mem_of_getElem? (i := 37) (by decide +kernel))) rfl
theorem m_initialized_java_lang_System : (Cond.initialized "java/lang/System") ∈ BW := bw_in (tw_1 _ (List.mem_of_getElem? (i := 9) (by decide +kernel))) rfl
theorem m_fieldLink_P_Charter_30_P_Charter_calm_I : (Cond.fieldLink RX2 30 "CellarPlot$Charter" "calm" "I") ∈ BW := bw_in (tw_2 _ (List.mem_of_getElem? (i := 99) (by decide +kernel))) rfl
theorem m_fieldLink_P_Charter_34_P_Charter_clauses_I : (Cond.fieldLink RX2 34 "CellarPlot$Charter" "clauses" "I") ∈ BW := bw_in (tw_2 _ (List.mem_of_getElem? (i := 101) (by decide +kernel))) rfl
theorem m_fieldLink_P_Charter_37_P_Charter_steps_I : (Cond.fieldLink RX2 37 "CellarPlot$Charter" "steps" "I") ∈ BW := bw_in (tw_2 _ (List.mem_of_getElem? (i := 102) (by decide +kernel))) rfl
theorem m_fieldLink_P_Charter_21_P_Charter_does_aI : (Cond.fieldLink RX2 21 "CellarPlot$Charter" "does" "[I") ∈ BW := bw_in (tw_2 _ (List.mem_of_getElem? (i := 106) (by decide +kernel))) rfl
theorem m_methodLink_P_Charter_40_P_Charter_addStep_I_Z : (Cond.methodLink RX2 40 yX2_addStep) ∈ BW := bw_in (tw_3 _ (List.mem_of_getElem? (i := 48) (by decide +kernel))) rfl
theorem m_instanceMethod_P_Charter_addStep_I_Z : (Cond.instanceMethod yX2_addStep) ∈ BW := bw_in (tw_2 _ (List.mem_of_getElem? (i := 225) (by decide +kernel))) rfl
theorem m_selects_P_Charter_P_Charter_addStep_I_Z_P_Charter_addStep_I_Z : (Cond.selects RX2 yX2_addStep yX2_addStep) ∈ BW := bw_in (tw_2 _ (List.mem_of_getElem? (i := 226) (by decide +kernel))) rfl
theorem m_initialized_P_Charter : (Cond.initialized RX2) ∈ BW := bw_in (tw_1 _ (List.mem_of_getElem? (i := 10) (by decide +kernel))) rfl
theorem m_code_P_Charter_addStep_I_Z : (Cond.code yX2_addStep cX2_addStep 2 (some .boolean)) ∈ BW := bw_in (tw_2 _ (List.mem_of_getElem? (i := 227) (by decide +kernel))) rfl
theorem m_fieldLink_P_Charter_24_P_Charter_low_aI : (Cond.fieldLink RX2 24 "CellarPlot$Charter" "low" "[I") ∈ BW := bw_in (tw_2 _ (List.mem_of_getElem? (i := 107) (by decide +kernel))) rfl
theorem m_fieldLink_P_Charter_27_P_Charter_high_aI : (Cond.fieldLink RX2 27 "CellarPlot$Charter" "high" "[I") ∈ BW := bw_in (tw_2 _ (List.mem_of_getElem? (i := 108) (by decide +kernel))) rfl
theorem m_fieldLink_P_Charter_9_P_Charter_sort_aI : (Cond.fieldLink RX2 9 "CellarPlot$Charter" "sort" "[I") ∈ BW := bw_in (tw_2 _ (List.mem_of_getElem? (i := 103) (by decide +kernel))) rfl
theorem m_fieldLink_P_Charter_15_P_Charter_number_aI : (Cond.fieldLink RX2 15 "CellarPlot$Charter" "number" "[I") ∈ BW := bw_in (tw_2 _ (List.mem_of_getElem? (i := 104) (by decide +kernel))) rfl
theorem m_fieldLink_P_Charter_18_P_Charter_end_aI : (Cond.fieldLink RX2 18 "CellarPlot$Charter" "end" "[I") ∈ BW := bw_in (tw_2 _ (List.mem_of_getElem? (i := 105) (by decide +kernel))) rfl
theorem m_methodLink_P_Charter_44_P_Charter_holds_IIaI_Z : (Cond.methodLink RX2 44 yX2_holds) ∈ BW := bw_in (tw_2 _ (List.mem_of_getElem? (i := 11) (by decide +kernel))) rfl
theorem m_instanceMethod_P_Charter_holds_IIaI_Z : (Cond.instanceMethod yX2_holds) ∈ BW := bw_in (tw_2 _ (List.mem_of_getElem? (i := 13) (by decide +kernel))) rfl
theorem m_selects_P_Charter_P_Charter_holds_IIaI_Z_P_Charter_holds_IIaI_Z : (Cond.selects RX2 yX2_holds yX2_holds) ∈ BW := bw_in (List.mem_append_left _ (pw_1 _ (List.mem_of_getElem? (i := 1) (by decide +kernel)))) rfl
theorem m_code_P_Charter_holds_IIaI_Z : (Cond.code yX2_holds cX2_holds 7 (some .boolean)) ∈ BW := bw_in (tw_2 _ (List.mem_of_getElem? (i := 15) (by decide +kernel))) rfl
theorem m_fieldLink_P_Cellar_45_P_Cellar_men_I : (Cond.fieldLink RX1 45 "CellarPlot$Cellar" "men" "I") ∈ BW := bw_in (tw_1 _ (List.mem_of_getElem? (i := 51) (by decide +kernel))) rfl
theorem m_fieldLink_P_Cellar_49_P_Cellar_up_I : (Cond.fieldLink RX1 49 "CellarPlot$Cellar" "up" "I") ∈ BW := bw_in (tw_1 _ (List.mem_of_getElem? (i := 53) (by decide +kernel))) rfl
theorem m_fieldLink_P_Cellar_9_P_Cellar_kind_aI : (Cond.fieldLink RX1 9 "CellarPlot$Cellar" "kind" "[I") ∈ BW := bw_in (tw_1 _ (List.mem_of_getElem? (i := 65) (by decide +kernel))) rfl
theorem m_fieldLink_P_Cellar_15_P_Cellar_v_aI : (Cond.fieldLink RX1 15 "CellarPlot$Cellar" "v" "[I") ∈ BW := bw_in (tw_1 _ (List.mem_of_getElem? (i := 67) (by decide +kernel))) rfl
theorem m_fieldLink_P_Cellar_18_P_Cellar_nerve_aI : (Cond.fieldLink RX1 18 "CellarPlot$Cellar" "nerve" "[I") ∈ BW := bw_in (tw_1 _ (List.mem_of_getElem? (i := 69) (by decide +kernel))) rfl
theorem m_fieldLink_P_Cellar_21_P_Cellar_spell_aI : (Cond.fieldLink RX1 21 "CellarPlot$Cellar" "spell" "[I") ∈ BW := bw_in (tw_1 _ (List.mem_of_getElem? (i := 71) (by decide +kernel))) rfl
theorem m_methodLink_P_Cellar_52_P_Cellar_put_IZ_V : (Cond.methodLink RX1 52 yX1_put) ∈ BW := bw_in (tw_1 _ (List.mem_of_getElem? (i := 223) (by decide +kernel))) rfl
theorem m_instanceMethod_P_Cellar_put_IZ_V : (Cond.instanceMethod yX1_put) ∈ BW := bw_in (tw_1 _ (List.mem_of_getElem? (i := 224) (by decide +kernel))) rfl
theorem m_selects_P_Cellar_P_Cellar_put_IZ_V_P_Cellar_put_IZ_V : (Cond.selects RX1 yX1_put yX1_put) ∈ BW := bw_in (tw_1 _ (List.mem_of_getElem? (i := 225) (by decide +kernel))) rfl
theorem m_initialized_P_Cellar : (Cond.initialized RX1) ∈ BW := bw_in (tw_1 _ (List.mem_of_getElem? (i := 2) (by decide +kernel))) rfl
theorem m_code_P_Cellar_put_IZ_V : (Cond.code yX1_put cX1_put 3 none) ∈ BW := bw_in (tw_1 _ (List.mem_of_getElem? (i := 226) (by decide +kernel))) rfl
theorem m_fieldLink_P_Cellar_24_P_Cellar_rows_aI : (Cond.fieldLink RX1 24 "CellarPlot$Cellar" "rows" "[I") ∈ BW := bw_in (tw_1 _ (List.mem_of_getElem? (i := 73) (by decide +kernel))) rfl
theorem m_fieldLink_P_Cellar_56_P_Cellar_charter_LP_Charter : (Cond.fieldLink RX1 56 "CellarPlot$Cellar" "charter" "LCellarPlot$Charter;") ∈ BW := bw_in (tw_1 _ (List.mem_of_getElem? (i := 63) (by decide +kernel))) rfl
theorem m_fieldLink_P_Cellar_60_P_Charter_calm_I : (Cond.fieldLink RX1 60 "CellarPlot$Charter" "calm" "I") ∈ BW := bw_in (tw_2 _ (List.mem_of_getElem? (i := 100) (by decide +kernel))) rfl
theorem m_fieldLink_P_Cellar_42_P_Cellar_values_aI : (Cond.fieldLink RX1 42 "CellarPlot$Cellar" "values" "[I") ∈ BW := bw_in (tw_1 _ (List.mem_of_getElem? (i := 81) (by decide +kernel))) rfl
theorem m_fieldLink_P_Cellar_73_P_Cellar_day_I : (Cond.fieldLink RX1 73 "CellarPlot$Cellar" "day" "I") ∈ BW := bw_in (tw_1 _ (List.mem_of_getElem? (i := 61) (by decide +kernel))) rfl
theorem m_methodLink_P_Cellar_86_P_Cellar_isUp_I_Z : (Cond.methodLink RX1 86 yX1_isUp) ∈ BW := bw_in (tw_2 _ (List.mem_of_getElem? (i := 23) (by decide +kernel))) rfl
theorem m_instanceMethod_P_Cellar_isUp_I_Z : (Cond.instanceMethod yX1_isUp) ∈ BW := bw_in (tw_1 _ (List.mem_of_getElem? (i := 236) (by decide +kernel))) rfl
theorem m_selects_P_Cellar_P_Cellar_isUp_I_Z_P_Cellar_isUp_I_Z : (Cond.selects RX1 yX1_isUp yX1_isUp) ∈ BW := bw_in (tw_1 _ (List.mem_of_getElem? (i := 237) (by decide +kernel))) rfl
theorem m_code_P_Cellar_isUp_I_Z : (Cond.code yX1_isUp cX1_isUp 2 (some .boolean)) ∈ BW := bw_in (tw_1 _ (List.mem_of_getElem? (i := 238) (by decide +kernel))) rfl
theorem m_methodLink_P_Cellar_65_P_Cellar_valuesOf_I_aI : (Cond.methodLink RX1 65 yX1_valuesOf) ∈ BW := bw_in (tw_2 _ (List.mem_of_getElem? (i := 3) (by decide +kernel))) rfl
theorem m_instanceMethod_P_Cellar_valuesOf_I_aI : (Cond.instanceMethod yX1_valuesOf) ∈ BW := bw_in (tw_2 _ (List.mem_of_getElem? (i := 5) (by decide +kernel))) rfl
theorem m_selects_P_Cellar_P_Cellar_valuesOf_I_aI_P_Cellar_valuesOf_I_aI : (Cond.selects RX1 yX1_valuesOf yX1_valuesOf) ∈ BW := bw_in (List.mem_append_left _ (pw_1 _ (List.mem_of_getElem? (i := 0) (by decide +kernel)))) rfl
theorem m_code_P_Cellar_valuesOf_I_aI : (Cond.code yX1_valuesOf cX1_valuesOf 2 (some (.array .int))) ∈ BW := bw_in (tw_2 _ (List.mem_of_getElem? (i := 6) (by decide +kernel))) rfl
theorem m_methodLink_P_Cellar_69_P_Charter_sumBy_aI_I : (Cond.methodLink RX1 69 yX2_sumBy) ∈ BW := bw_in (tw_2 _ (List.mem_of_getElem? (i := 7) (by decide +kernel))) rfl
theorem m_instanceMethod_P_Charter_sumBy_aI_I : (Cond.instanceMethod yX2_sumBy) ∈ BW := bw_in (tw_2 _ (List.mem_of_getElem? (i := 8) (by decide +kernel))) rfl
theorem m_selects_P_Charter_P_Charter_sumBy_aI_I_P_Charter_sumBy_aI_I : (Cond.selects RX2 yX2_sumBy yX2_sumBy) ∈ BW := bw_in (tw_2 _ (List.mem_of_getElem? (i := 9) (by decide +kernel))) rfl
theorem m_code_P_Charter_sumBy_aI_I : (Cond.code yX2_sumBy cX2_sumBy 5 (some .int)) ∈ BW := bw_in (tw_2 _ (List.mem_of_getElem? (i := 10) (by decide +kernel))) rfl
theorem m_methodLink_P_Cellar_76_java_lang_Math_min_II_I : (Cond.methodLink RX1 76 Lib.Math.min.name) ∈ BW := bw_in (tw_2 _ (List.mem_of_getElem? (i := 16) (by decide +kernel))) rfl
theorem m_static_java_lang_Math_min_II_I : (Cond.static Lib.Math.min.name) ∈ BW := bw_in (tw_2 _ (List.mem_of_getElem? (i := 17) (by decide +kernel))) rfl
theorem m_code_java_lang_Math_min_II_I : (Cond.code Lib.Math.min.name Lib.Math.min.code 2 (some .int)) ∈ BW := bw_in (tw_2 _ (List.mem_of_getElem? (i := 18) (by decide +kernel))) rfl
theorem m_methodLink_P_Cellar_82_P_Cellar_isDancingWith_I_Z : (Cond.methodLink RX1 82 yX1_isDancingWith) ∈ BW := bw_in (tw_2 _ (List.mem_of_getElem? (i := 19) (by decide +kernel))) rfl
theorem m_instanceMethod_P_Cellar_isDancingWith_I_Z : (Cond.instanceMethod yX1_isDancingWith) ∈ BW := bw_in (tw_2 _ (List.mem_of_getElem? (i := 21) (by decide +kernel))) rfl
theorem m_selects_P_Cellar_P_Cellar_isDancingWith_I_Z_P_Cellar_isDancingWith_I_Z : (Cond.selects RX1 yX1_isDancingWith yX1_isDancingWith) ∈ BW := bw_in (List.mem_append_left _ (pw_1 _ (List.mem_of_getElem? (i := 2) (by decide +kernel)))) rfl
theorem m_code_P_Cellar_isDancingWith_I_Z : (Cond.code yX1_isDancingWith cX1_isDancingWith 3 (some .boolean)) ∈ BW := bw_in (tw_2 _ (List.mem_of_getElem? (i := 22) (by decide +kernel))) rfl
theorem m_methodLink_P_Cellar_89_P_Cellar_noise_I_I : (Cond.methodLink RX1 89 yX1_noise) ∈ BW := bw_in (tw_2 _ (List.mem_of_getElem? (i := 54) (by decide +kernel))) rfl
theorem m_instanceMethod_P_Cellar_noise_I_I : (Cond.instanceMethod yX1_noise) ∈ BW := bw_in (tw_2 _ (List.mem_of_getElem? (i := 0) (by decide +kernel))) rfl
theorem m_selects_P_Cellar_P_Cellar_noise_I_I_P_Cellar_noise_I_I : (Cond.selects RX1 yX1_noise yX1_noise) ∈ BW := bw_in (tw_2 _ (List.mem_of_getElem? (i := 1) (by decide +kernel))) rfl
theorem m_code_P_Cellar_noise_I_I : (Cond.code yX1_noise cX1_noise 5 (some .int)) ∈ BW := bw_in (tw_2 _ (List.mem_of_getElem? (i := 2) (by decide +kernel))) rfl
theorem m_methodLink_P_Cellar_93_java_lang_Math_max_II_I : (Cond.methodLink RX1 93 Lib.Math.max.name) ∈ BW := bw_in (tw_2 _ (List.mem_of_getElem? (i := 55) (by decide +kernel))) rfl
theorem m_fieldLink_P_Cellar_107_P_Cellar_fear_I : (Cond.fieldLink RX1 107 "CellarPlot$Cellar" "fear" "I") ∈ BW := bw_in (tw_1 _ (List.mem_of_getElem? (i := 56) (by decide +kernel))) rfl
theorem m_methodLink_P_Cellar_110_P_Cellar_calm__I : (Cond.methodLink RX1 110 yX1_calm) ∈ BW := bw_in (tw_2 _ (List.mem_of_getElem? (i := 61) (by decide +kernel))) rfl
theorem m_instanceMethod_P_Cellar_calm__I : (Cond.instanceMethod yX1_calm) ∈ BW := bw_in (tw_2 _ (List.mem_of_getElem? (i := 62) (by decide +kernel))) rfl
theorem m_selects_P_Cellar_P_Cellar_calm__I_P_Cellar_calm__I : (Cond.selects RX1 yX1_calm yX1_calm) ∈ BW := bw_in (tw_2 _ (List.mem_of_getElem? (i := 63) (by decide +kernel))) rfl
theorem m_code_P_Cellar_calm__I : (Cond.code yX1_calm cX1_calm 1 (some .int)) ∈ BW := bw_in (tw_2 _ (List.mem_of_getElem? (i := 64) (by decide +kernel))) rfl
theorem m_fieldLink_P_Cellar_104_P_Cellar_silences_I : (Cond.fieldLink RX1 104 "CellarPlot$Cellar" "silences" "I") ∈ BW := bw_in (tw_1 _ (List.mem_of_getElem? (i := 60) (by decide +kernel))) rfl
theorem m_fieldLink_P_Cellar_112_P_Cellar_truths_I : (Cond.fieldLink RX1 112 "CellarPlot$Cellar" "truths" "I") ∈ BW := bw_in (tw_1 _ (List.mem_of_getElem? (i := 58) (by decide +kernel))) rfl
theorem m_methodLink_P_Cellar_96_P_Cellar_sound__I : (Cond.methodLink RX1 96 yX1_sound) ∈ BW := bw_in (tw_3 _ (List.mem_of_getElem? (i := 86) (by decide +kernel))) rfl
theorem m_instanceMethod_P_Cellar_sound__I : (Cond.instanceMethod yX1_sound) ∈ BW := bw_in (tw_2 _ (List.mem_of_getElem? (i := 51) (by decide +kernel))) rfl
theorem m_selects_P_Cellar_P_Cellar_sound__I_P_Cellar_sound__I : (Cond.selects RX1 yX1_sound yX1_sound) ∈ BW := bw_in (tw_2 _ (List.mem_of_getElem? (i := 52) (by decide +kernel))) rfl
theorem m_code_P_Cellar_sound__I : (Cond.code yX1_sound cX1_sound 3 (some .int)) ∈ BW := bw_in (tw_2 _ (List.mem_of_getElem? (i := 53) (by decide +kernel))) rfl
theorem m_methodLink_P_Cellar_100_P_Cellar_passDay_II_V : (Cond.methodLink RX1 100 yX1_passDay) ∈ BW := bw_in (tw_3 _ (List.mem_of_getElem? (i := 87) (by decide +kernel))) rfl
theorem m_instanceMethod_P_Cellar_passDay_II_V : (Cond.instanceMethod yX1_passDay) ∈ BW := bw_in (tw_2 _ (List.mem_of_getElem? (i := 58) (by decide +kernel))) rfl
theorem m_selects_P_Cellar_P_Cellar_passDay_II_V_P_Cellar_passDay_II_V : (Cond.selects RX1 yX1_passDay yX1_passDay) ∈ BW := bw_in (tw_2 _ (List.mem_of_getElem? (i := 59) (by decide +kernel))) rfl
theorem m_code_P_Cellar_passDay_II_V : (Cond.code yX1_passDay cX1_passDay 4 none) ∈ BW := bw_in (tw_2 _ (List.mem_of_getElem? (i := 60) (by decide +kernel))) rfl
theorem m_methodLink_P_Cellar_115_java_lang_System_arraycopy_Ljava_lang_ObjectILjava_lang_ObjectII_V : (Cond.methodLink RX1 115 arraycopyName) ∈ BW := bw_in (tw_2 _ (List.mem_of_getElem? (i := 36) (by decide +kernel))) rfl
theorem m_methodLink_P_Cellar_121_P_Cellar_copyDays_LP_Cellar_V : (Cond.methodLink RX1 121 yX1_copyDays) ∈ BW := bw_in (tw_3 _ (List.mem_of_getElem? (i := 184) (by decide +kernel))) rfl
theorem m_instanceMethod_P_Cellar_copyDays_LP_Cellar_V : (Cond.instanceMethod yX1_copyDays) ∈ BW := bw_in (tw_2 _ (List.mem_of_getElem? (i := 33) (by decide +kernel))) rfl
theorem m_selects_P_Cellar_P_Cellar_copyDays_LP_Cellar_V_P_Cellar_copyDays_LP_Cellar_V : (Cond.selects RX1 yX1_copyDays yX1_copyDays) ∈ BW := bw_in (tw_2 _ (List.mem_of_getElem? (i := 34) (by decide +kernel))) rfl
theorem m_code_P_Cellar_copyDays_LP_Cellar_V : (Cond.code yX1_copyDays cX1_copyDays 2 none) ∈ BW := bw_in (tw_2 _ (List.mem_of_getElem? (i := 35) (by decide +kernel))) rfl
theorem m_fieldLink_P_Cellar_32_P_Cellar_heard_LP_Rows : (Cond.fieldLink RX1 32 "CellarPlot$Cellar" "heard" "LCellarPlot$Rows;") ∈ BW := bw_in (tw_1 _ (List.mem_of_getElem? (i := 75) (by decide +kernel))) rfl
theorem m_methodLink_P_Cellar_125_P_Rows_copy_LP_Rows_V : (Cond.methodLink RX1 125 yX3_copy) ∈ BW := bw_in (tw_3 _ (List.mem_of_getElem? (i := 185) (by decide +kernel))) rfl
theorem m_instanceMethod_P_Rows_copy_LP_Rows_V : (Cond.instanceMethod yX3_copy) ∈ BW := bw_in (tw_3 _ (List.mem_of_getElem? (i := 186) (by decide +kernel))) rfl
theorem m_selects_P_Rows_P_Rows_copy_LP_Rows_V_P_Rows_copy_LP_Rows_V : (Cond.selects RX3 yX3_copy yX3_copy) ∈ BW := bw_in (tw_3 _ (List.mem_of_getElem? (i := 187) (by decide +kernel))) rfl
theorem m_initialized_P_Rows : (Cond.initialized RX3) ∈ BW := bw_in (tw_1 _ (List.mem_of_getElem? (i := 3) (by decide +kernel))) rfl
theorem m_code_P_Rows_copy_LP_Rows_V : (Cond.code yX3_copy cX3_copy 2 none) ∈ BW := bw_in (tw_3 _ (List.mem_of_getElem? (i := 188) (by decide +kernel))) rfl
theorem m_fieldLink_P_Cellar_36_P_Cellar_plan_LP_Rows : (Cond.fieldLink RX1 36 "CellarPlot$Cellar" "plan" "LCellarPlot$Rows;") ∈ BW := bw_in (tw_1 _ (List.mem_of_getElem? (i := 77) (by decide +kernel))) rfl
theorem m_fieldLink_P_Cellar_39_P_Cellar_book_LP_Rows : (Cond.fieldLink RX1 39 "CellarPlot$Cellar" "book" "LCellarPlot$Rows;") ∈ BW := bw_in (tw_1 _ (List.mem_of_getElem? (i := 79) (by decide +kernel))) rfl
theorem m_fieldLink_P_Acts_35_P_Acts_ran_I : (Cond.fieldLink RX0 35 "CellarPlot$Acts" "ran" "I") ∈ BW := bw_in (tw_1 _ (List.mem_of_getElem? (i := 142) (by decide +kernel))) rfl
theorem m_fieldLink_P_Acts_9_P_Acts_bodies_aI : (Cond.fieldLink RX0 9 "CellarPlot$Acts" "bodies" "[I") ∈ BW := bw_in (tw_1 _ (List.mem_of_getElem? (i := 144) (by decide +kernel))) rfl
theorem m_fieldLink_P_Tape_9_P_Tape_sort_I : (Cond.fieldLink RX4 9 "CellarPlot$Tape" "sort" "I") ∈ BW := bw_in (tw_1 _ (List.mem_of_getElem? (i := 167) (by decide +kernel))) rfl
theorem m_fieldLink_P_Tape_19_P_Tape_size_I : (Cond.fieldLink RX4 19 "CellarPlot$Tape" "size" "I") ∈ BW := bw_in (tw_1 _ (List.mem_of_getElem? (i := 169) (by decide +kernel))) rfl
theorem m_fieldLink_P_Tape_15_P_Tape_items_aJ : (Cond.fieldLink RX4 15 "CellarPlot$Tape" "items" "[J") ∈ BW := bw_in (tw_1 _ (List.mem_of_getElem? (i := 171) (by decide +kernel))) rfl
theorem m_fieldLink_P_Text_9_P_Text_signs_aB : (Cond.fieldLink RX5 9 "CellarPlot$Text" "signs" "[B") ∈ BW := bw_in (tw_1 _ (List.mem_of_getElem? (i := 123) (by decide +kernel))) rfl
theorem m_fieldLink_P_Text_15_P_Text_length_I : (Cond.fieldLink RX5 15 "CellarPlot$Text" "length" "I") ∈ BW := bw_in (tw_1 _ (List.mem_of_getElem? (i := 121) (by decide +kernel))) rfl
theorem m_fieldLink_P_Text_28_P_Text_at_I : (Cond.fieldLink RX5 28 "CellarPlot$Text" "at" "I") ∈ BW := bw_in (tw_1 _ (List.mem_of_getElem? (i := 124) (by decide +kernel))) rfl
theorem m_methodLink_P_Text_57_P_Text_ahead__I : (Cond.methodLink RX5 57 yX5_ahead) ∈ BW := bw_in (tw_2 _ (List.mem_of_getElem? (i := 144) (by decide +kernel))) rfl
theorem m_instanceMethod_P_Text_ahead__I : (Cond.instanceMethod yX5_ahead) ∈ BW := bw_in (tw_2 _ (List.mem_of_getElem? (i := 146) (by decide +kernel))) rfl
theorem m_selects_P_Text_P_Text_ahead__I_P_Text_ahead__I : (Cond.selects RX5 yX5_ahead yX5_ahead) ∈ BW := bw_in (List.mem_append_left _ (pw_1 _ (List.mem_of_getElem? (i := 8) (by decide +kernel)))) rfl
theorem m_initialized_P_Text : (Cond.initialized RX5) ∈ BW := bw_in (tw_1 _ (List.mem_of_getElem? (i := 4) (by decide +kernel))) rfl
theorem m_code_P_Text_ahead__I : (Cond.code yX5_ahead cX5_ahead 1 (some .int)) ∈ BW := bw_in (tw_2 _ (List.mem_of_getElem? (i := 147) (by decide +kernel))) rfl
theorem m_methodLink_P_Text_93_java_lang_Math_max_II_I : (Cond.methodLink RX5 93 Lib.Math.max.name) ∈ BW := bw_in (tw_2 _ (List.mem_of_getElem? (i := 211) (by decide +kernel))) rfl
theorem m_methodLink_P_49_P_isWithin_II_Z : (Cond.methodLink RX6 49 yX6_isWithin) ∈ BW := bw_in (tw_1 _ (List.mem_of_getElem? (i := 216) (by decide +kernel))) rfl
theorem m_static_P_isWithin_II_Z : (Cond.static yX6_isWithin) ∈ BW := bw_in (tw_1 _ (List.mem_of_getElem? (i := 217) (by decide +kernel))) rfl
theorem m_initialized_P : (Cond.initialized RX6) ∈ BW := bw_in (tw_1 _ (List.mem_of_getElem? (i := 1) (by decide +kernel))) rfl
theorem m_code_P_isWithin_II_Z : (Cond.code yX6_isWithin cX6_isWithin 2 (some .boolean)) ∈ BW := bw_in (tw_1 _ (List.mem_of_getElem? (i := 218) (by decide +kernel))) rfl
theorem m_fieldLink_P_12_P_now_LP_Cellar : (Cond.fieldLink RX6 12 "CellarPlot" "now" "LCellarPlot$Cellar;") ∈ BW := bw_in (tw_1 _ (List.mem_of_getElem? (i := 181) (by decide +kernel))) rfl
theorem m_fieldLink_P_53_P_Cellar_men_I : (Cond.fieldLink RX6 53 "CellarPlot$Cellar" "men" "I") ∈ BW := bw_in (tw_1 _ (List.mem_of_getElem? (i := 52) (by decide +kernel))) rfl
theorem m_methodLink_P_57_P_Cellar_add_III_I : (Cond.methodLink RX6 57 yX1_add) ∈ BW := bw_in (tw_1 _ (List.mem_of_getElem? (i := 219) (by decide +kernel))) rfl
theorem m_instanceMethod_P_Cellar_add_III_I : (Cond.instanceMethod yX1_add) ∈ BW := bw_in (tw_1 _ (List.mem_of_getElem? (i := 220) (by decide +kernel))) rfl
theorem m_selects_P_Cellar_P_Cellar_add_III_I_P_Cellar_add_III_I : (Cond.selects RX1 yX1_add yX1_add) ∈ BW := bw_in (tw_1 _ (List.mem_of_getElem? (i := 221) (by decide +kernel))) rfl
theorem m_code_P_Cellar_add_III_I : (Cond.code yX1_add cX1_add 6 (some .int)) ∈ BW := bw_in (tw_1 _ (List.mem_of_getElem? (i := 222) (by decide +kernel))) rfl
theorem m_fieldLink_P_21_P_trial_LP_Cellar : (Cond.fieldLink RX6 21 "CellarPlot" "trial" "LCellarPlot$Cellar;") ∈ BW := bw_in (tw_1 _ (List.mem_of_getElem? (i := 183) (by decide +kernel))) rfl
theorem m_methodLink_P_269_P_Cellar_copyDays_LP_Cellar_V : (Cond.methodLink RX6 269 yX1_copyDays) ∈ BW := bw_in (tw_2 _ (List.mem_of_getElem? (i := 32) (by decide +kernel))) rfl
theorem m_fieldLink_P_166_P_Cellar_heard_LP_Rows : (Cond.fieldLink RX6 166 "CellarPlot$Cellar" "heard" "LCellarPlot$Rows;") ∈ BW := bw_in (tw_1 _ (List.mem_of_getElem? (i := 76) (by decide +kernel))) rfl
theorem m_methodLink_P_288_P_Rows_greatestFirst__I : (Cond.methodLink RX6 288 yX3_greatestFirst) ∈ BW := bw_in (tw_2 _ (List.mem_of_getElem? (i := 43) (by decide +kernel))) rfl
theorem m_instanceMethod_P_Rows_greatestFirst__I : (Cond.instanceMethod yX3_greatestFirst) ∈ BW := bw_in (tw_2 _ (List.mem_of_getElem? (i := 44) (by decide +kernel))) rfl
theorem m_selects_P_Rows_P_Rows_greatestFirst__I_P_Rows_greatestFirst__I : (Cond.selects RX3 yX3_greatestFirst yX3_greatestFirst) ∈ BW := bw_in (tw_2 _ (List.mem_of_getElem? (i := 45) (by decide +kernel))) rfl
theorem m_code_P_Rows_greatestFirst__I : (Cond.code yX3_greatestFirst cX3_greatestFirst 3 (some .int)) ∈ BW := bw_in (tw_2 _ (List.mem_of_getElem? (i := 46) (by decide +kernel))) rfl
theorem m_methodLink_P_132_P_Cellar_sound__I : (Cond.methodLink RX6 132 yX1_sound) ∈ BW := bw_in (tw_2 _ (List.mem_of_getElem? (i := 50) (by decide +kernel))) rfl
theorem m_fieldLink_P_201_P_Rows_count_I : (Cond.fieldLink RX6 201 "CellarPlot$Rows" "count" "I") ∈ BW := bw_in (tw_1 _ (List.mem_of_getElem? (i := 38) (by decide +kernel))) rfl
theorem m_constant_P_155_1000000 : (Cond.constant RX6 155 (1000000)) ∈ BW := bw_in (tw_2 _ (List.mem_of_getElem? (i := 56) (by decide +kernel))) rfl
theorem m_methodLink_P_272_P_Cellar_passDay_II_V : (Cond.methodLink RX6 272 yX1_passDay) ∈ BW := bw_in (tw_2 _ (List.mem_of_getElem? (i := 57) (by decide +kernel))) rfl
theorem m_fieldLink_P_204_P_Rows_first_aI : (Cond.fieldLink RX6 204 "CellarPlot$Rows" "first" "[I") ∈ BW := bw_in (tw_1 _ (List.mem_of_getElem? (i := 40) (by decide +kernel))) rfl
theorem m_fieldLink_P_207_P_Rows_second_aI : (Cond.fieldLink RX6 207 "CellarPlot$Rows" "second" "[I") ∈ BW := bw_in (tw_1 _ (List.mem_of_getElem? (i := 42) (by decide +kernel))) rfl
theorem m_methodLink_P_151_P_begin__LP_Cellar : (Cond.methodLink RX6 151 yX6_begin) ∈ BW := bw_in (tw_2 _ (List.mem_of_getElem? (i := 28) (by decide +kernel))) rfl
theorem m_instanceMethod_P_begin__LP_Cellar : (Cond.instanceMethod yX6_begin) ∈ BW := bw_in (tw_2 _ (List.mem_of_getElem? (i := 30) (by decide +kernel))) rfl
theorem m_selects_P_P_begin__LP_Cellar_P_begin__LP_Cellar : (Cond.selects RX6 yX6_begin yX6_begin) ∈ BW := bw_in (List.mem_append_left _ (pw_1 _ (List.mem_of_getElem? (i := 4) (by decide +kernel)))) rfl
theorem m_code_P_begin__LP_Cellar : (Cond.code yX6_begin cX6_begin 1 (some (.object "CellarPlot$Cellar"))) ∈ BW := bw_in (tw_2 _ (List.mem_of_getElem? (i := 31) (by decide +kernel))) rfl
theorem m_fieldLink_P_71_P_Cellar_nerve_aI : (Cond.fieldLink RX6 71 "CellarPlot$Cellar" "nerve" "[I") ∈ BW := bw_in (tw_1 _ (List.mem_of_getElem? (i := 70) (by decide +kernel))) rfl
theorem m_methodLink_P_284_P_isAsHeard_LP_Cellar_Z : (Cond.methodLink RX6 284 yX6_isAsHeard) ∈ BW := bw_in (tw_2 _ (List.mem_of_getElem? (i := 39) (by decide +kernel))) rfl
theorem m_instanceMethod_P_isAsHeard_LP_Cellar_Z : (Cond.instanceMethod yX6_isAsHeard) ∈ BW := bw_in (tw_2 _ (List.mem_of_getElem? (i := 41) (by decide +kernel))) rfl
theorem m_selects_P_P_isAsHeard_LP_Cellar_Z_P_isAsHeard_LP_Cellar_Z : (Cond.selects RX6 yX6_isAsHeard yX6_isAsHeard) ∈ BW := bw_in (List.mem_append_left _ (pw_1 _ (List.mem_of_getElem? (i := 5) (by decide +kernel)))) rfl
theorem m_code_P_isAsHeard_LP_Cellar_Z : (Cond.code yX6_isAsHeard cX6_isAsHeard 6 (some .boolean)) ∈ BW := bw_in (tw_2 _ (List.mem_of_getElem? (i := 42) (by decide +kernel))) rfl
theorem m_methodLink_P_61_P_Cellar_has_I_Z : (Cond.methodLink RX6 61 yX1_has) ∈ BW := bw_in (tw_1 _ (List.mem_of_getElem? (i := 231) (by decide +kernel))) rfl
theorem m_instanceMethod_P_Cellar_has_I_Z : (Cond.instanceMethod yX1_has) ∈ BW := bw_in (tw_1 _ (List.mem_of_getElem? (i := 232) (by decide +kernel))) rfl
theorem m_selects_P_Cellar_P_Cellar_has_I_Z_P_Cellar_has_I_Z : (Cond.selects RX1 yX1_has yX1_has) ∈ BW := bw_in (tw_1 _ (List.mem_of_getElem? (i := 233) (by decide +kernel))) rfl
theorem m_code_P_Cellar_has_I_Z : (Cond.code yX1_has cX1_has 2 (some .boolean)) ∈ BW := bw_in (tw_1 _ (List.mem_of_getElem? (i := 234) (by decide +kernel))) rfl
theorem m_fieldLink_P_65_P_Cellar_kind_aI : (Cond.fieldLink RX6 65 "CellarPlot$Cellar" "kind" "[I") ∈ BW := bw_in (tw_1 _ (List.mem_of_getElem? (i := 66) (by decide +kernel))) rfl
theorem m_fieldLink_P_68_P_Cellar_v_aI : (Cond.fieldLink RX6 68 "CellarPlot$Cellar" "v" "[I") ∈ BW := bw_in (tw_1 _ (List.mem_of_getElem? (i := 68) (by decide +kernel))) rfl
theorem m_methodLink_P_74_P_Cellar_isUp_I_Z : (Cond.methodLink RX6 74 yX1_isUp) ∈ BW := bw_in (tw_1 _ (List.mem_of_getElem? (i := 235) (by decide +kernel))) rfl
theorem m_fieldLink_P_77_P_Cellar_spell_aI : (Cond.fieldLink RX6 77 "CellarPlot$Cellar" "spell" "[I") ∈ BW := bw_in (tw_1 _ (List.mem_of_getElem? (i := 72) (by decide +kernel))) rfl
theorem m_methodLink_P_80_P_Cellar_noise_I_I : (Cond.methodLink RX6 80 yX1_noise) ∈ BW := bw_in (tw_1 _ (List.mem_of_getElem? (i := 239) (by decide +kernel))) rfl
theorem m_methodLink_P_84_P_likelyNerves_I_I : (Cond.methodLink RX6 84 yX6_likelyNerves) ∈ BW := bw_in (tw_2 _ (List.mem_of_getElem? (i := 24) (by decide +kernel))) rfl
theorem m_instanceMethod_P_likelyNerves_I_I : (Cond.instanceMethod yX6_likelyNerves) ∈ BW := bw_in (tw_2 _ (List.mem_of_getElem? (i := 26) (by decide +kernel))) rfl
theorem m_selects_P_P_likelyNerves_I_I_P_likelyNerves_I_I : (Cond.selects RX6 yX6_likelyNerves yX6_likelyNerves) ∈ BW := bw_in (List.mem_append_left _ (pw_1 _ (List.mem_of_getElem? (i := 3) (by decide +kernel)))) rfl
theorem m_code_P_likelyNerves_I_I : (Cond.code yX6_likelyNerves cX6_likelyNerves 5 (some .int)) ∈ BW := bw_in (tw_2 _ (List.mem_of_getElem? (i := 27) (by decide +kernel))) rfl
theorem m_methodLink_P_87_P_Cellar_put_IZ_V : (Cond.methodLink RX6 87 yX1_put) ∈ BW := bw_in (tw_2 _ (List.mem_of_getElem? (i := 73) (by decide +kernel))) rfl
theorem m_fieldLink_P_91_P_Cellar_fear_I : (Cond.fieldLink RX6 91 "CellarPlot$Cellar" "fear" "I") ∈ BW := bw_in (tw_1 _ (List.mem_of_getElem? (i := 55) (by decide +kernel))) rfl
theorem m_fieldLink_P_94_P_Cellar_rows_aI : (Cond.fieldLink RX6 94 "CellarPlot$Cellar" "rows" "[I") ∈ BW := bw_in (tw_1 _ (List.mem_of_getElem? (i := 74) (by decide +kernel))) rfl
theorem m_fieldLink_P_27_P_text_LP_Text : (Cond.fieldLink RX6 27 "CellarPlot" "text" "LCellarPlot$Text;") ∈ BW := bw_in (tw_1 _ (List.mem_of_getElem? (i := 184) (by decide +kernel))) rfl
theorem m_fieldLink_P_97_P_Text_length_I : (Cond.fieldLink RX6 97 "CellarPlot$Text" "length" "I") ∈ BW := bw_in (tw_1 _ (List.mem_of_getElem? (i := 122) (by decide +kernel))) rfl
theorem m_methodLink_P_100_P_Text_add_I_I : (Cond.methodLink RX6 100 yX5_add) ∈ BW := bw_in (tw_2 _ (List.mem_of_getElem? (i := 86) (by decide +kernel))) rfl
theorem m_instanceMethod_P_Text_add_I_I : (Cond.instanceMethod yX5_add) ∈ BW := bw_in (tw_2 _ (List.mem_of_getElem? (i := 87) (by decide +kernel))) rfl
theorem m_selects_P_Text_P_Text_add_I_I_P_Text_add_I_I : (Cond.selects RX5 yX5_add yX5_add) ∈ BW := bw_in (tw_2 _ (List.mem_of_getElem? (i := 88) (by decide +kernel))) rfl
theorem m_code_P_Text_add_I_I : (Cond.code yX5_add cX5_add 2 (some .int)) ∈ BW := bw_in (tw_2 _ (List.mem_of_getElem? (i := 89) (by decide +kernel))) rfl
theorem m_methodLink_P_281_java_lang_Math_abs_I_I : (Cond.methodLink RX6 281 Lib.Math.abs.name) ∈ BW := bw_in (tw_3 _ (List.mem_of_getElem? (i := 75) (by decide +kernel))) rfl
theorem m_static_java_lang_Math_abs_I_I : (Cond.static Lib.Math.abs.name) ∈ BW := bw_in (tw_3 _ (List.mem_of_getElem? (i := 76) (by decide +kernel))) rfl
theorem m_code_java_lang_Math_abs_I_I : (Cond.code Lib.Math.abs.name Lib.Math.abs.code 1 (some .int)) ∈ BW := bw_in (tw_3 _ (List.mem_of_getElem? (i := 77) (by decide +kernel))) rfl
theorem m_fieldLink_P_44_P_watched_aI : (Cond.fieldLink RX6 44 "CellarPlot" "watched" "[I") ∈ BW := bw_in (tw_1 _ (List.mem_of_getElem? (i := 187) (by decide +kernel))) rfl
theorem m_methodLink_P_275_P_Cellar_all__I : (Cond.methodLink RX6 275 yX1_all) ∈ BW := bw_in (tw_3 _ (List.mem_of_getElem? (i := 67) (by decide +kernel))) rfl
theorem m_instanceMethod_P_Cellar_all__I : (Cond.instanceMethod yX1_all) ∈ BW := bw_in (tw_3 _ (List.mem_of_getElem? (i := 68) (by decide +kernel))) rfl
theorem m_selects_P_Cellar_P_Cellar_all__I_P_Cellar_all__I : (Cond.selects RX1 yX1_all yX1_all) ∈ BW := bw_in (tw_3 _ (List.mem_of_getElem? (i := 69) (by decide +kernel))) rfl
theorem m_code_P_Cellar_all__I : (Cond.code yX1_all cX1_all 1 (some .int)) ∈ BW := bw_in (tw_3 _ (List.mem_of_getElem? (i := 70) (by decide +kernel))) rfl
theorem m_fieldLink_P_135_P_Cellar_up_I : (Cond.fieldLink RX6 135 "CellarPlot$Cellar" "up" "I") ∈ BW := bw_in (tw_1 _ (List.mem_of_getElem? (i := 54) (by decide +kernel))) rfl
theorem m_methodLink_P_278_java_lang_Math_max_II_I : (Cond.methodLink RX6 278 Lib.Math.max.name) ∈ BW := bw_in (tw_3 _ (List.mem_of_getElem? (i := 66) (by decide +kernel))) rfl
theorem m_methodLink_P_144_P_apart_I_I : (Cond.methodLink RX6 144 yX6_apart) ∈ BW := bw_in (tw_3 _ (List.mem_of_getElem? (i := 71) (by decide +kernel))) rfl
theorem m_instanceMethod_P_apart_I_I : (Cond.instanceMethod yX6_apart) ∈ BW := bw_in (tw_3 _ (List.mem_of_getElem? (i := 73) (by decide +kernel))) rfl
theorem m_selects_P_P_apart_I_I_P_apart_I_I : (Cond.selects RX6 yX6_apart yX6_apart) ∈ BW := bw_in (List.mem_append_left _ (pw_2 _ (List.mem_of_getElem? (i := 1) (by decide +kernel)))) rfl
theorem m_code_P_apart_I_I : (Cond.code yX6_apart cX6_apart 4 (some .int)) ∈ BW := bw_in (tw_3 _ (List.mem_of_getElem? (i := 74) (by decide +kernel))) rfl
theorem m_fieldLink_P_119_P_Cellar_day_I : (Cond.fieldLink RX6 119 "CellarPlot$Cellar" "day" "I") ∈ BW := bw_in (tw_1 _ (List.mem_of_getElem? (i := 62) (by decide +kernel))) rfl
theorem m_methodLink_P_122_P_Cellar_calm__I : (Cond.methodLink RX6 122 yX1_calm) ∈ BW := bw_in (tw_3 _ (List.mem_of_getElem? (i := 57) (by decide +kernel))) rfl
theorem m_fieldLink_P_126_P_Cellar_truths_I : (Cond.fieldLink RX6 126 "CellarPlot$Cellar" "truths" "I") ∈ BW := bw_in (tw_1 _ (List.mem_of_getElem? (i := 57) (by decide +kernel))) rfl
theorem m_fieldLink_P_129_P_Cellar_silences_I : (Cond.fieldLink RX6 129 "CellarPlot$Cellar" "silences" "I") ∈ BW := bw_in (tw_1 _ (List.mem_of_getElem? (i := 59) (by decide +kernel))) rfl
theorem m_methodLink_P_138_P_hushed__I : (Cond.methodLink RX6 138 yX6_hushed) ∈ BW := bw_in (tw_3 _ (List.mem_of_getElem? (i := 58) (by decide +kernel))) rfl
theorem m_instanceMethod_P_hushed__I : (Cond.instanceMethod yX6_hushed) ∈ BW := bw_in (tw_3 _ (List.mem_of_getElem? (i := 60) (by decide +kernel))) rfl
theorem m_selects_P_P_hushed__I_P_hushed__I : (Cond.selects RX6 yX6_hushed yX6_hushed) ∈ BW := bw_in (List.mem_append_left _ (pw_1 _ (List.mem_of_getElem? (i := 15) (by decide +kernel)))) rfl
theorem m_code_P_hushed__I : (Cond.code yX6_hushed cX6_hushed 4 (some .int)) ∈ BW := bw_in (tw_3 _ (List.mem_of_getElem? (i := 61) (by decide +kernel))) rfl
theorem m_methodLink_P_141_P_watch__I : (Cond.methodLink RX6 141 yX6_watch) ∈ BW := bw_in (tw_3 _ (List.mem_of_getElem? (i := 62) (by decide +kernel))) rfl
theorem m_instanceMethod_P_watch__I : (Cond.instanceMethod yX6_watch) ∈ BW := bw_in (tw_3 _ (List.mem_of_getElem? (i := 64) (by decide +kernel))) rfl
theorem m_selects_P_P_watch__I_P_watch__I : (Cond.selects RX6 yX6_watch yX6_watch) ∈ BW := bw_in (List.mem_append_left _ (pw_2 _ (List.mem_of_getElem? (i := 0) (by decide +kernel)))) rfl
theorem m_code_P_watch__I : (Cond.code yX6_watch cX6_watch 6 (some .int)) ∈ BW := bw_in (tw_3 _ (List.mem_of_getElem? (i := 65) (by decide +kernel))) rfl
theorem m_methodLink_P_147_P_Cellar_passDays_II_V : (Cond.methodLink RX6 147 yX1_passDays) ∈ BW := bw_in (tw_3 _ (List.mem_of_getElem? (i := 82) (by decide +kernel))) rfl
theorem m_instanceMethod_P_Cellar_passDays_II_V : (Cond.instanceMethod yX1_passDays) ∈ BW := bw_in (tw_3 _ (List.mem_of_getElem? (i := 83) (by decide +kernel))) rfl
theorem m_selects_P_Cellar_P_Cellar_passDays_II_V_P_Cellar_passDays_II_V : (Cond.selects RX1 yX1_passDays yX1_passDays) ∈ BW := bw_in (tw_3 _ (List.mem_of_getElem? (i := 84) (by decide +kernel))) rfl
theorem m_code_P_Cellar_passDays_II_V : (Cond.code yX1_passDays cX1_passDays 4 none) ∈ BW := bw_in (tw_3 _ (List.mem_of_getElem? (i := 85) (by decide +kernel))) rfl
theorem m_constant_java_lang_Integer_265_1431655765 : (Cond.constant RJ6 265 (1431655765)) ∈ BW := bw_in (tw_3 _ (List.mem_of_getElem? (i := 107) (by decide +kernel))) rfl
theorem m_constant_java_lang_Integer_266_858993459 : (Cond.constant RJ6 266 (858993459)) ∈ BW := bw_in (tw_3 _ (List.mem_of_getElem? (i := 108) (by decide +kernel))) rfl
theorem m_constant_java_lang_Integer_267_252645135 : (Cond.constant RJ6 267 (252645135)) ∈ BW := bw_in (tw_3 _ (List.mem_of_getElem? (i := 109) (by decide +kernel))) rfl
theorem m_methodLink_P_159_P_truthsBehind_II_I : (Cond.methodLink RX6 159 yX6_truthsBehind) ∈ BW := bw_in (tw_3 _ (List.mem_of_getElem? (i := 100) (by decide +kernel))) rfl
theorem m_instanceMethod_P_truthsBehind_II_I : (Cond.instanceMethod yX6_truthsBehind) ∈ BW := bw_in (tw_3 _ (List.mem_of_getElem? (i := 102) (by decide +kernel))) rfl
theorem m_selects_P_P_truthsBehind_II_I_P_truthsBehind_II_I : (Cond.selects RX6 yX6_truthsBehind yX6_truthsBehind) ∈ BW := bw_in (List.mem_append_left _ (pw_2 _ (List.mem_of_getElem? (i := 3) (by decide +kernel)))) rfl
theorem m_code_P_truthsBehind_II_I : (Cond.code yX6_truthsBehind cX6_truthsBehind 5 (some .int)) ∈ BW := bw_in (tw_3 _ (List.mem_of_getElem? (i := 103) (by decide +kernel))) rfl
theorem m_methodLink_P_184_java_lang_Integer_bitCount_I_I : (Cond.methodLink RX6 184 yJ6_bitCount_0f7a4) ∈ BW := bw_in (tw_3 _ (List.mem_of_getElem? (i := 104) (by decide +kernel))) rfl
theorem m_static_java_lang_Integer_bitCount_I_I : (Cond.static yJ6_bitCount_0f7a4) ∈ BW := bw_in (tw_3 _ (List.mem_of_getElem? (i := 105) (by decide +kernel))) rfl
theorem m_initialized_java_lang_Integer : (Cond.initialized RJ6) ∈ BW := bw_in (tw_1 _ (List.mem_of_getElem? (i := 16) (by decide +kernel))) rfl
theorem m_code_java_lang_Integer_bitCount_I_I : (Cond.code yJ6_bitCount_0f7a4 cJ6_bitCount_0f7a4 1 (some .int)) ∈ BW := bw_in (tw_3 _ (List.mem_of_getElem? (i := 106) (by decide +kernel))) rfl
theorem m_methodLink_P_156_P_bestUp_I_I : (Cond.methodLink RX6 156 yX6_bestUp) ∈ BW := bw_in (tw_3 _ (List.mem_of_getElem? (i := 96) (by decide +kernel))) rfl
theorem m_instanceMethod_P_bestUp_I_I : (Cond.instanceMethod yX6_bestUp) ∈ BW := bw_in (tw_3 _ (List.mem_of_getElem? (i := 98) (by decide +kernel))) rfl
theorem m_selects_P_P_bestUp_I_I_P_bestUp_I_I : (Cond.selects RX6 yX6_bestUp yX6_bestUp) ∈ BW := bw_in (List.mem_append_left _ (pw_2 _ (List.mem_of_getElem? (i := 2) (by decide +kernel)))) rfl
theorem m_code_P_bestUp_I_I : (Cond.code yX6_bestUp cX6_bestUp 6 (some .int)) ∈ BW := bw_in (tw_3 _ (List.mem_of_getElem? (i := 99) (by decide +kernel))) rfl
theorem m_methodLink_P_163_P_fright_I_I : (Cond.methodLink RX6 163 yX6_fright) ∈ BW := bw_in (tw_3 _ (List.mem_of_getElem? (i := 110) (by decide +kernel))) rfl
theorem m_instanceMethod_P_fright_I_I : (Cond.instanceMethod yX6_fright) ∈ BW := bw_in (tw_3 _ (List.mem_of_getElem? (i := 112) (by decide +kernel))) rfl
theorem m_selects_P_P_fright_I_I_P_fright_I_I : (Cond.selects RX6 yX6_fright yX6_fright) ∈ BW := bw_in (List.mem_append_left _ (pw_2 _ (List.mem_of_getElem? (i := 4) (by decide +kernel)))) rfl
theorem m_code_P_fright_I_I : (Cond.code yX6_fright cX6_fright 5 (some .int)) ∈ BW := bw_in (tw_3 _ (List.mem_of_getElem? (i := 113) (by decide +kernel))) rfl
theorem m_methodLink_P_175_P_Rows_isFull__Z : (Cond.methodLink RX6 175 yX3_isFull) ∈ BW := bw_in (tw_3 _ (List.mem_of_getElem? (i := 122) (by decide +kernel))) rfl
theorem m_instanceMethod_P_Rows_isFull__Z : (Cond.instanceMethod yX3_isFull) ∈ BW := bw_in (tw_3 _ (List.mem_of_getElem? (i := 123) (by decide +kernel))) rfl
theorem m_selects_P_Rows_P_Rows_isFull__Z_P_Rows_isFull__Z : (Cond.selects RX3 yX3_isFull yX3_isFull) ∈ BW := bw_in (tw_3 _ (List.mem_of_getElem? (i := 124) (by decide +kernel))) rfl
theorem m_code_P_Rows_isFull__Z : (Cond.code yX3_isFull cX3_isFull 1 (some .boolean)) ∈ BW := bw_in (tw_3 _ (List.mem_of_getElem? (i := 125) (by decide +kernel))) rfl
theorem m_methodLink_P_179_P_Rows_add_II_I : (Cond.methodLink RX6 179 yX3_add) ∈ BW := bw_in (tw_3 _ (List.mem_of_getElem? (i := 126) (by decide +kernel))) rfl
theorem m_instanceMethod_P_Rows_add_II_I : (Cond.instanceMethod yX3_add) ∈ BW := bw_in (tw_3 _ (List.mem_of_getElem? (i := 127) (by decide +kernel))) rfl
theorem m_selects_P_Rows_P_Rows_add_II_I_P_Rows_add_II_I : (Cond.selects RX3 yX3_add yX3_add) ∈ BW := bw_in (tw_3 _ (List.mem_of_getElem? (i := 128) (by decide +kernel))) rfl
theorem m_code_P_Rows_add_II_I : (Cond.code yX3_add cX3_add 3 (some .int)) ∈ BW := bw_in (tw_3 _ (List.mem_of_getElem? (i := 129) (by decide +kernel))) rfl
theorem m_methodLink_P_170_P_Rows_empty__I : (Cond.methodLink RX6 170 yX3_empty) ∈ BW := bw_in (tw_3 _ (List.mem_of_getElem? (i := 118) (by decide +kernel))) rfl
theorem m_instanceMethod_P_Rows_empty__I : (Cond.instanceMethod yX3_empty) ∈ BW := bw_in (tw_3 _ (List.mem_of_getElem? (i := 119) (by decide +kernel))) rfl
theorem m_selects_P_Rows_P_Rows_empty__I_P_Rows_empty__I : (Cond.selects RX3 yX3_empty yX3_empty) ∈ BW := bw_in (tw_3 _ (List.mem_of_getElem? (i := 120) (by decide +kernel))) rfl
theorem m_code_P_Rows_empty__I : (Cond.code yX3_empty cX3_empty 1 (some .int)) ∈ BW := bw_in (tw_3 _ (List.mem_of_getElem? (i := 121) (by decide +kernel))) rfl
theorem m_methodLink_P_181_P_likelyNumbers_I_I : (Cond.methodLink RX6 181 yX6_likelyNumbers) ∈ BW := bw_in (tw_3 _ (List.mem_of_getElem? (i := 134) (by decide +kernel))) rfl
theorem m_instanceMethod_P_likelyNumbers_I_I : (Cond.instanceMethod yX6_likelyNumbers) ∈ BW := bw_in (tw_3 _ (List.mem_of_getElem? (i := 136) (by decide +kernel))) rfl
theorem m_selects_P_P_likelyNumbers_I_I_P_likelyNumbers_I_I : (Cond.selects RX6 yX6_likelyNumbers yX6_likelyNumbers) ∈ BW := bw_in (List.mem_append_left _ (pw_2 _ (List.mem_of_getElem? (i := 5) (by decide +kernel)))) rfl
theorem m_code_P_likelyNumbers_I_I : (Cond.code yX6_likelyNumbers cX6_likelyNumbers 5 (some .int)) ∈ BW := bw_in (tw_3 _ (List.mem_of_getElem? (i := 137) (by decide +kernel))) rfl
theorem m_methodLink_P_189_P_leastOf_I_I : (Cond.methodLink RX6 189 yX6_leastOf) ∈ BW := bw_in (tw_3 _ (List.mem_of_getElem? (i := 138) (by decide +kernel))) rfl
theorem m_static_P_leastOf_I_I : (Cond.static yX6_leastOf) ∈ BW := bw_in (tw_3 _ (List.mem_of_getElem? (i := 139) (by decide +kernel))) rfl
theorem m_code_P_leastOf_I_I : (Cond.code yX6_leastOf cX6_leastOf 2 (some .int)) ∈ BW := bw_in (tw_3 _ (List.mem_of_getElem? (i := 140) (by decide +kernel))) rfl
theorem m_constantLong_P_192_n9223372036854775808 : (Cond.constantLong RX6 192 (-9223372036854775808)) ∈ BW := bw_in (tw_3 _ (List.mem_of_getElem? (i := 145) (by decide +kernel))) rfl
theorem m_methodLink_P_194_P_lowest_III_J : (Cond.methodLink RX6 194 yX6_lowest) ∈ BW := bw_in (tw_3 _ (List.mem_of_getElem? (i := 146) (by decide +kernel))) rfl
theorem m_static_P_lowest_III_J : (Cond.static yX6_lowest) ∈ BW := bw_in (tw_3 _ (List.mem_of_getElem? (i := 147) (by decide +kernel))) rfl
theorem m_code_P_lowest_III_J : (Cond.code yX6_lowest cX6_lowest 5 (some .long)) ∈ BW := bw_in (tw_3 _ (List.mem_of_getElem? (i := 148) (by decide +kernel))) rfl
theorem m_fieldLink_P_198_P_Cellar_plan_LP_Rows : (Cond.fieldLink RX6 198 "CellarPlot$Cellar" "plan" "LCellarPlot$Rows;") ∈ BW := bw_in (tw_1 _ (List.mem_of_getElem? (i := 78) (by decide +kernel))) rfl
theorem m_methodLink_P_210_P_follow_LP_CellarII_V : (Cond.methodLink RX6 210 yX6_follow) ∈ BW := bw_in (tw_3 _ (List.mem_of_getElem? (i := 161) (by decide +kernel))) rfl
theorem m_static_P_follow_LP_CellarII_V : (Cond.static yX6_follow) ∈ BW := bw_in (tw_3 _ (List.mem_of_getElem? (i := 162) (by decide +kernel))) rfl
theorem m_code_P_follow_LP_CellarII_V : (Cond.code yX6_follow cX6_follow 3 none) ∈ BW := bw_in (tw_3 _ (List.mem_of_getElem? (i := 163) (by decide +kernel))) rfl
theorem m_fieldLink_P_214_P_Cellar_book_LP_Rows : (Cond.fieldLink RX6 214 "CellarPlot$Cellar" "book" "LCellarPlot$Rows;") ∈ BW := bw_in (tw_1 _ (List.mem_of_getElem? (i := 80) (by decide +kernel))) rfl
theorem m_fieldLink_P_40_P_tapes_aLP_Tape : (Cond.fieldLink RX6 40 "CellarPlot" "tapes" "[LCellarPlot$Tape;") ∈ BW := bw_in (tw_1 _ (List.mem_of_getElem? (i := 186) (by decide +kernel))) rfl
theorem m_fieldLink_P_217_P_Tape_sort_I : (Cond.fieldLink RX6 217 "CellarPlot$Tape" "sort" "I") ∈ BW := bw_in (tw_1 _ (List.mem_of_getElem? (i := 168) (by decide +kernel))) rfl
theorem m_fieldLink_P_220_P_Tape_size_I : (Cond.fieldLink RX6 220 "CellarPlot$Tape" "size" "I") ∈ BW := bw_in (tw_1 _ (List.mem_of_getElem? (i := 170) (by decide +kernel))) rfl
theorem m_fieldLink_P_223_P_Tape_items_aJ : (Cond.fieldLink RX6 223 "CellarPlot$Tape" "items" "[J") ∈ BW := bw_in (tw_1 _ (List.mem_of_getElem? (i := 172) (by decide +kernel))) rfl
theorem m_fieldLink_P_18_P_kept_LP_Cellar : (Cond.fieldLink RX6 18 "CellarPlot" "kept" "LCellarPlot$Cellar;") ∈ BW := bw_in (tw_1 _ (List.mem_of_getElem? (i := 182) (by decide +kernel))) rfl
theorem m_methodLink_P_227_P_Cellar_copyAll_LP_Cellar_V : (Cond.methodLink RX6 227 yX1_copyAll) ∈ BW := bw_in (tw_3 _ (List.mem_of_getElem? (i := 180) (by decide +kernel))) rfl
theorem m_instanceMethod_P_Cellar_copyAll_LP_Cellar_V : (Cond.instanceMethod yX1_copyAll) ∈ BW := bw_in (tw_3 _ (List.mem_of_getElem? (i := 181) (by decide +kernel))) rfl
theorem m_selects_P_Cellar_P_Cellar_copyAll_LP_Cellar_V_P_Cellar_copyAll_LP_Cellar_V : (Cond.selects RX1 yX1_copyAll yX1_copyAll) ∈ BW := bw_in (tw_3 _ (List.mem_of_getElem? (i := 182) (by decide +kernel))) rfl
theorem m_code_P_Cellar_copyAll_LP_Cellar_V : (Cond.code yX1_copyAll cX1_copyAll 2 none) ∈ BW := bw_in (tw_3 _ (List.mem_of_getElem? (i := 183) (by decide +kernel))) rfl
theorem m_fieldLink_P_231_P_isKept_Z : (Cond.fieldLink RX6 231 "CellarPlot" "isKept" "Z") ∈ BW := bw_in (tw_1 _ (List.mem_of_getElem? (i := 190) (by decide +kernel))) rfl
theorem m_fieldLink_P_34_P_acts_LP_Acts : (Cond.fieldLink RX6 34 "CellarPlot" "acts" "LCellarPlot$Acts;") ∈ BW := bw_in (tw_1 _ (List.mem_of_getElem? (i := 185) (by decide +kernel))) rfl
theorem m_fieldLink_P_235_P_Acts_ran_I : (Cond.fieldLink RX6 235 "CellarPlot$Acts" "ran" "I") ∈ BW := bw_in (tw_1 _ (List.mem_of_getElem? (i := 143) (by decide +kernel))) rfl
theorem m_methodLink_P_242_java_lang_Math_min_II_I : (Cond.methodLink RX6 242 Lib.Math.min.name) ∈ BW := bw_in (tw_3 _ (List.mem_of_getElem? (i := 222) (by decide +kernel))) rfl
theorem m_fieldLink_P_247_P_Acts_bodies_aI : (Cond.fieldLink RX6 247 "CellarPlot$Acts" "bodies" "[I") ∈ BW := bw_in (tw_1 _ (List.mem_of_getElem? (i := 145) (by decide +kernel))) rfl
theorem m_methodLink_P_291_P_above_I_I : (Cond.methodLink RX6 291 yX6_above) ∈ BW := bw_in (tw_3 _ (List.mem_of_getElem? (i := 230) (by decide +kernel))) rfl
theorem m_static_P_above_I_I : (Cond.static yX6_above) ∈ BW := bw_in (tw_3 _ (List.mem_of_getElem? (i := 231) (by decide +kernel))) rfl
theorem m_code_P_above_I_I : (Cond.code yX6_above cX6_above 1 (some .int)) ∈ BW := bw_in (tw_3 _ (List.mem_of_getElem? (i := 232) (by decide +kernel))) rfl
theorem m_methodLink_P_250_P_isUnder_II_Z : (Cond.methodLink RX6 250 yX6_isUnder) ∈ BW := bw_in (tw_3 _ (List.mem_of_getElem? (i := 227) (by decide +kernel))) rfl
theorem m_static_P_isUnder_II_Z : (Cond.static yX6_isUnder) ∈ BW := bw_in (tw_3 _ (List.mem_of_getElem? (i := 228) (by decide +kernel))) rfl
theorem m_code_P_isUnder_II_Z : (Cond.code yX6_isUnder cX6_isUnder 4 (some .boolean)) ∈ BW := bw_in (tw_3 _ (List.mem_of_getElem? (i := 229) (by decide +kernel))) rfl
theorem m_fieldLink_P_102_P_charters_I : (Cond.fieldLink RX6 102 "CellarPlot" "charters" "I") ∈ BW := bw_in (tw_1 _ (List.mem_of_getElem? (i := 188) (by decide +kernel))) rfl
theorem m_methodLink_P_253_P_Tape_become_II_V : (Cond.methodLink RX6 253 yX4_become) ∈ BW := bw_in (tw_4 _ (List.mem_of_getElem? (i := 1) (by decide +kernel))) rfl
theorem m_instanceMethod_P_Tape_become_II_V : (Cond.instanceMethod yX4_become) ∈ BW := bw_in (tw_4 _ (List.mem_of_getElem? (i := 2) (by decide +kernel))) rfl
theorem m_selects_P_Tape_P_Tape_become_II_V_P_Tape_become_II_V : (Cond.selects RX4 yX4_become yX4_become) ∈ BW := bw_in (tw_4 _ (List.mem_of_getElem? (i := 3) (by decide +kernel))) rfl
theorem m_initialized_P_Tape : (Cond.initialized RX4) ∈ BW := bw_in (tw_1 _ (List.mem_of_getElem? (i := 6) (by decide +kernel))) rfl
theorem m_code_P_Tape_become_II_V : (Cond.code yX4_become cX4_become 4 none) ∈ BW := bw_in (tw_4 _ (List.mem_of_getElem? (i := 4) (by decide +kernel))) rfl
theorem m_methodLink_P_256_P_fitted_IJ_J : (Cond.methodLink RX6 256 yX6_fitted) ∈ BW := bw_in (tw_4 _ (List.mem_of_getElem? (i := 9) (by decide +kernel))) rfl
theorem m_static_P_fitted_IJ_J : (Cond.static yX6_fitted) ∈ BW := bw_in (tw_4 _ (List.mem_of_getElem? (i := 10) (by decide +kernel))) rfl
theorem m_code_P_fitted_IJ_J : (Cond.code yX6_fitted cX6_fitted 3 (some .long)) ∈ BW := bw_in (tw_4 _ (List.mem_of_getElem? (i := 11) (by decide +kernel))) rfl
theorem m_methodLink_P_260_P_Tape_hasRun_II_Z : (Cond.methodLink RX6 260 yX4_hasRun) ∈ BW := bw_in (tw_4 _ (List.mem_of_getElem? (i := 20) (by decide +kernel))) rfl
theorem m_instanceMethod_P_Tape_hasRun_II_Z : (Cond.instanceMethod yX4_hasRun) ∈ BW := bw_in (tw_4 _ (List.mem_of_getElem? (i := 21) (by decide +kernel))) rfl
theorem m_selects_P_Tape_P_Tape_hasRun_II_Z_P_Tape_hasRun_II_Z : (Cond.selects RX4 yX4_hasRun yX4_hasRun) ∈ BW := bw_in (tw_4 _ (List.mem_of_getElem? (i := 22) (by decide +kernel))) rfl
theorem m_code_P_Tape_hasRun_II_Z : (Cond.code yX4_hasRun cX4_hasRun 3 (some .boolean)) ∈ BW := bw_in (tw_4 _ (List.mem_of_getElem? (i := 23) (by decide +kernel))) rfl
theorem m_methodLink_P_263_java_lang_System_arraycopy_Ljava_lang_ObjectILjava_lang_ObjectII_V : (Cond.methodLink RX6 263 arraycopyName) ∈ BW := bw_in (tw_4 _ (List.mem_of_getElem? (i := 24) (by decide +kernel))) rfl
theorem lk_X2_40_X2_addStep : LinkV RX2 40 yX2_addStep cX2_addStep 2 (some .boolean) 1 := ⟨m_methodLink_P_Charter_40_P_Charter_addStep_I_Z, m_instanceMethod_P_Charter_addStep_I_Z, m_selects_P_Charter_P_Charter_addStep_I_Z_P_Charter_addStep_I_Z, m_initialized_P_Charter, m_code_P_Charter_addStep_I_Z, by decide +kernel, by decide +kernel, by decide +kernel⟩
theorem lk_X2_44_X2_holds : LinkV RX2 44 yX2_holds cX2_holds 7 (some .boolean) 3 := ⟨m_methodLink_P_Charter_44_P_Charter_holds_IIaI_Z, m_instanceMethod_P_Charter_holds_IIaI_Z, m_selects_P_Charter_P_Charter_holds_IIaI_Z_P_Charter_holds_IIaI_Z, m_initialized_P_Charter, m_code_P_Charter_holds_IIaI_Z, by decide +kernel, by decide +kernel, by decide +kernel⟩
theorem lk_X1_52_X1_put : LinkV RX1 52 yX1_put cX1_put 3 none 2 := ⟨m_methodLink_P_Cellar_52_P_Cellar_put_IZ_V, m_instanceMethod_P_Cellar_put_IZ_V, m_selects_P_Cellar_P_Cellar_put_IZ_V_P_Cellar_put_IZ_V, m_initialized_P_Cellar, m_code_P_Cellar_put_IZ_V, by decide +kernel, by decide +kernel, by decide +kernel⟩
theorem lk_X1_86_X1_isUp : LinkV RX1 86 yX1_isUp cX1_isUp 2 (some .boolean) 1 := ⟨m_methodLink_P_Cellar_86_P_Cellar_isUp_I_Z, m_instanceMethod_P_Cellar_isUp_I_Z, m_selects_P_Cellar_P_Cellar_isUp_I_Z_P_Cellar_isUp_I_Z, m_initialized_P_Cellar, m_code_P_Cellar_isUp_I_Z, by decide +kernel, by decide +kernel, by decide +kernel⟩
theorem lk_X1_65_X1_valuesOf : LinkV RX1 65 yX1_valuesOf cX1_valuesOf 2 (some (.array .int)) 1 := ⟨m_methodLink_P_Cellar_65_P_Cellar_valuesOf_I_aI, m_instanceMethod_P_Cellar_valuesOf_I_aI, m_selects_P_Cellar_P_Cellar_valuesOf_I_aI_P_Cellar_valuesOf_I_aI, m_initialized_P_Cellar, m_code_P_Cellar_valuesOf_I_aI, by decide +kernel, by decide +kernel, by decide +kernel⟩
theorem lk_X1_69_X2_sumBy : LinkV RX1 69 yX2_sumBy cX2_sumBy 5 (some .int) 1 := ⟨m_methodLink_P_Cellar_69_P_Charter_sumBy_aI_I, m_instanceMethod_P_Charter_sumBy_aI_I, m_selects_P_Charter_P_Charter_sumBy_aI_I_P_Charter_sumBy_aI_I, m_initialized_P_Charter, m_code_P_Charter_sumBy_aI_I, by decide +kernel, by decide +kernel, by decide +kernel⟩
theorem lk_X1_82_X1_isDancingWith : LinkV RX1 82 yX1_isDancingWith cX1_isDancingWith 3 (some .boolean) 1 := ⟨m_methodLink_P_Cellar_82_P_Cellar_isDancingWith_I_Z, m_instanceMethod_P_Cellar_isDancingWith_I_Z, m_selects_P_Cellar_P_Cellar_isDancingWith_I_Z_P_Cellar_isDancingWith_I_Z, m_initialized_P_Cellar, m_code_P_Cellar_isDancingWith_I_Z, by decide +kernel, by decide +kernel, by decide +kernel⟩
theorem lk_X1_89_X1_noise : LinkV RX1 89 yX1_noise cX1_noise 5 (some .int) 1 := ⟨m_methodLink_P_Cellar_89_P_Cellar_noise_I_I, m_instanceMethod_P_Cellar_noise_I_I, m_selects_P_Cellar_P_Cellar_noise_I_I_P_Cellar_noise_I_I, m_initialized_P_Cellar, m_code_P_Cellar_noise_I_I, by decide +kernel, by decide +kernel, by decide +kernel⟩
theorem lk_X1_110_X1_calm : LinkV RX1 110 yX1_calm cX1_calm 1 (some .int) 0 := ⟨m_methodLink_P_Cellar_110_P_Cellar_calm__I, m_instanceMethod_P_Cellar_calm__I, m_selects_P_Cellar_P_Cellar_calm__I_P_Cellar_calm__I, m_initialized_P_Cellar, m_code_P_Cellar_calm__I, by decide +kernel, by decide +kernel, by decide +kernel⟩
theorem lk_X1_96_X1_sound : LinkV RX1 96 yX1_sound cX1_sound 3 (some .int) 0 := ⟨m_methodLink_P_Cellar_96_P_Cellar_sound__I, m_instanceMethod_P_Cellar_sound__I, m_selects_P_Cellar_P_Cellar_sound__I_P_Cellar_sound__I, m_initialized_P_Cellar, m_code_P_Cellar_sound__I, by decide +kernel, by decide +kernel, by decide +kernel⟩
theorem lk_X1_100_X1_passDay : LinkV RX1 100 yX1_passDay cX1_passDay 4 none 2 := ⟨m_methodLink_P_Cellar_100_P_Cellar_passDay_II_V, m_instanceMethod_P_Cellar_passDay_II_V, m_selects_P_Cellar_P_Cellar_passDay_II_V_P_Cellar_passDay_II_V, m_initialized_P_Cellar, m_code_P_Cellar_passDay_II_V, by decide +kernel, by decide +kernel, by decide +kernel⟩
theorem lk_X1_121_X1_copyDays : LinkV RX1 121 yX1_copyDays cX1_copyDays 2 none 1 := ⟨m_methodLink_P_Cellar_121_P_Cellar_copyDays_LP_Cellar_V, m_instanceMethod_P_Cellar_copyDays_LP_Cellar_V, m_selects_P_Cellar_P_Cellar_copyDays_LP_Cellar_V_P_Cellar_copyDays_LP_Cellar_V, m_initialized_P_Cellar, m_code_P_Cellar_copyDays_LP_Cellar_V, by decide +kernel, by decide +kernel, by decide +kernel⟩
theorem lk_X1_125_X3_copy : LinkV RX1 125 yX3_copy cX3_copy 2 none 1 := ⟨m_methodLink_P_Cellar_125_P_Rows_copy_LP_Rows_V, m_instanceMethod_P_Rows_copy_LP_Rows_V, m_selects_P_Rows_P_Rows_copy_LP_Rows_V_P_Rows_copy_LP_Rows_V, m_initialized_P_Rows, m_code_P_Rows_copy_LP_Rows_V, by decide +kernel, by decide +kernel, by decide +kernel⟩
theorem lk_X5_57_X5_ahead : LinkV RX5 57 yX5_ahead cX5_ahead 1 (some .int) 0 := ⟨m_methodLink_P_Text_57_P_Text_ahead__I, m_instanceMethod_P_Text_ahead__I, m_selects_P_Text_P_Text_ahead__I_P_Text_ahead__I, m_initialized_P_Text, m_code_P_Text_ahead__I, by decide +kernel, by decide +kernel, by decide +kernel⟩
theorem lk_X6_49_X6_isWithin : LinkS RX6 49 yX6_isWithin cX6_isWithin 2 (some .boolean) 2 := ⟨m_methodLink_P_49_P_isWithin_II_Z, m_static_P_isWithin_II_Z, m_initialized_P, m_code_P_isWithin_II_Z, by decide +kernel, by decide +kernel, by decide +kernel⟩
theorem lk_X6_57_X1_add : LinkV RX6 57 yX1_add cX1_add 6 (some .int) 3 := ⟨m_methodLink_P_57_P_Cellar_add_III_I, m_instanceMethod_P_Cellar_add_III_I, m_selects_P_Cellar_P_Cellar_add_III_I_P_Cellar_add_III_I, m_initialized_P_Cellar, m_code_P_Cellar_add_III_I, by decide +kernel, by decide +kernel, by decide +kernel⟩
theorem lk_X6_269_X1_copyDays : LinkV RX6 269 yX1_copyDays cX1_copyDays 2 none 1 := ⟨m_methodLink_P_269_P_Cellar_copyDays_LP_Cellar_V, m_instanceMethod_P_Cellar_copyDays_LP_Cellar_V, m_selects_P_Cellar_P_Cellar_copyDays_LP_Cellar_V_P_Cellar_copyDays_LP_Cellar_V, m_initialized_P_Cellar, m_code_P_Cellar_copyDays_LP_Cellar_V, by decide +kernel, by decide +kernel, by decide +kernel⟩
theorem lk_X6_288_X3_greatestFirst : LinkV RX6 288 yX3_greatestFirst cX3_greatestFirst 3 (some .int) 0 := ⟨m_methodLink_P_288_P_Rows_greatestFirst__I, m_instanceMethod_P_Rows_greatestFirst__I, m_selects_P_Rows_P_Rows_greatestFirst__I_P_Rows_greatestFirst__I, m_initialized_P_Rows, m_code_P_Rows_greatestFirst__I, by decide +kernel, by decide +kernel, by decide +kernel⟩
theorem lk_X6_132_X1_sound : LinkV RX6 132 yX1_sound cX1_sound 3 (some .int) 0 := ⟨m_methodLink_P_132_P_Cellar_sound__I, m_instanceMethod_P_Cellar_sound__I, m_selects_P_Cellar_P_Cellar_sound__I_P_Cellar_sound__I, m_initialized_P_Cellar, m_code_P_Cellar_sound__I, by decide +kernel, by decide +kernel, by decide +kernel⟩
theorem lk_X6_272_X1_passDay : LinkV RX6 272 yX1_passDay cX1_passDay 4 none 2 := ⟨m_methodLink_P_272_P_Cellar_passDay_II_V, m_instanceMethod_P_Cellar_passDay_II_V, m_selects_P_Cellar_P_Cellar_passDay_II_V_P_Cellar_passDay_II_V, m_initialized_P_Cellar, m_code_P_Cellar_passDay_II_V, by decide +kernel, by decide +kernel, by decide +kernel⟩
theorem lk_X6_151_X6_begin : LinkV RX6 151 yX6_begin cX6_begin 1 (some (.object "CellarPlot$Cellar")) 0 := ⟨m_methodLink_P_151_P_begin__LP_Cellar, m_instanceMethod_P_begin__LP_Cellar, m_selects_P_P_begin__LP_Cellar_P_begin__LP_Cellar, m_initialized_P, m_code_P_begin__LP_Cellar, by decide +kernel, by decide +kernel, by decide +kernel⟩
theorem lk_X6_284_X6_isAsHeard : LinkV RX6 284 yX6_isAsHeard cX6_isAsHeard 6 (some .boolean) 1 := ⟨m_methodLink_P_284_P_isAsHeard_LP_Cellar_Z, m_instanceMethod_P_isAsHeard_LP_Cellar_Z, m_selects_P_P_isAsHeard_LP_Cellar_Z_P_isAsHeard_LP_Cellar_Z, m_initialized_P, m_code_P_isAsHeard_LP_Cellar_Z, by decide +kernel, by decide +kernel, by decide +kernel⟩
theorem lk_X6_61_X1_has : LinkV RX6 61 yX1_has cX1_has 2 (some .boolean) 1 := ⟨m_methodLink_P_61_P_Cellar_has_I_Z, m_instanceMethod_P_Cellar_has_I_Z, m_selects_P_Cellar_P_Cellar_has_I_Z_P_Cellar_has_I_Z, m_initialized_P_Cellar, m_code_P_Cellar_has_I_Z, by decide +kernel, by decide +kernel, by decide +kernel⟩
theorem lk_X6_74_X1_isUp : LinkV RX6 74 yX1_isUp cX1_isUp 2 (some .boolean) 1 := ⟨m_methodLink_P_74_P_Cellar_isUp_I_Z, m_instanceMethod_P_Cellar_isUp_I_Z, m_selects_P_Cellar_P_Cellar_isUp_I_Z_P_Cellar_isUp_I_Z, m_initialized_P_Cellar, m_code_P_Cellar_isUp_I_Z, by decide +kernel, by decide +kernel, by decide +kernel⟩
theorem lk_X6_80_X1_noise : LinkV RX6 80 yX1_noise cX1_noise 5 (some .int) 1 := ⟨m_methodLink_P_80_P_Cellar_noise_I_I, m_instanceMethod_P_Cellar_noise_I_I, m_selects_P_Cellar_P_Cellar_noise_I_I_P_Cellar_noise_I_I, m_initialized_P_Cellar, m_code_P_Cellar_noise_I_I, by decide +kernel, by decide +kernel, by decide +kernel⟩
theorem lk_X6_84_X6_likelyNerves : LinkV RX6 84 yX6_likelyNerves cX6_likelyNerves 5 (some .int) 1 := ⟨m_methodLink_P_84_P_likelyNerves_I_I, m_instanceMethod_P_likelyNerves_I_I, m_selects_P_P_likelyNerves_I_I_P_likelyNerves_I_I, m_initialized_P, m_code_P_likelyNerves_I_I, by decide +kernel, by decide +kernel, by decide +kernel⟩
theorem lk_X6_87_X1_put : LinkV RX6 87 yX1_put cX1_put 3 none 2 := ⟨m_methodLink_P_87_P_Cellar_put_IZ_V, m_instanceMethod_P_Cellar_put_IZ_V, m_selects_P_Cellar_P_Cellar_put_IZ_V_P_Cellar_put_IZ_V, m_initialized_P_Cellar, m_code_P_Cellar_put_IZ_V, by decide +kernel, by decide +kernel, by decide +kernel⟩
theorem lk_X6_100_X5_add : LinkV RX6 100 yX5_add cX5_add 2 (some .int) 1 := ⟨m_methodLink_P_100_P_Text_add_I_I, m_instanceMethod_P_Text_add_I_I, m_selects_P_Text_P_Text_add_I_I_P_Text_add_I_I, m_initialized_P_Text, m_code_P_Text_add_I_I, by decide +kernel, by decide +kernel, by decide +kernel⟩
theorem lk_X6_275_X1_all : LinkV RX6 275 yX1_all cX1_all 1 (some .int) 0 := ⟨m_methodLink_P_275_P_Cellar_all__I, m_instanceMethod_P_Cellar_all__I, m_selects_P_Cellar_P_Cellar_all__I_P_Cellar_all__I, m_initialized_P_Cellar, m_code_P_Cellar_all__I, by decide +kernel, by decide +kernel, by decide +kernel⟩
theorem lk_X6_144_X6_apart : LinkV RX6 144 yX6_apart cX6_apart 4 (some .int) 1 := ⟨m_methodLink_P_144_P_apart_I_I, m_instanceMethod_P_apart_I_I, m_selects_P_P_apart_I_I_P_apart_I_I, m_initialized_P, m_code_P_apart_I_I, by decide +kernel, by decide +kernel, by decide +kernel⟩
theorem lk_X6_122_X1_calm : LinkV RX6 122 yX1_calm cX1_calm 1 (some .int) 0 := ⟨m_methodLink_P_122_P_Cellar_calm__I, m_instanceMethod_P_Cellar_calm__I, m_selects_P_Cellar_P_Cellar_calm__I_P_Cellar_calm__I, m_initialized_P_Cellar, m_code_P_Cellar_calm__I, by decide +kernel, by decide +kernel, by decide +kernel⟩
theorem lk_X6_138_X6_hushed : LinkV RX6 138 yX6_hushed cX6_hushed 4 (some .int) 0 := ⟨m_methodLink_P_138_P_hushed__I, m_instanceMethod_P_hushed__I, m_selects_P_P_hushed__I_P_hushed__I, m_initialized_P, m_code_P_hushed__I, by decide +kernel, by decide +kernel, by decide +kernel⟩
theorem lk_X6_141_X6_watch : LinkV RX6 141 yX6_watch cX6_watch 6 (some .int) 0 := ⟨m_methodLink_P_141_P_watch__I, m_instanceMethod_P_watch__I, m_selects_P_P_watch__I_P_watch__I, m_initialized_P, m_code_P_watch__I, by decide +kernel, by decide +kernel, by decide +kernel⟩
theorem lk_X6_147_X1_passDays : LinkV RX6 147 yX1_passDays cX1_passDays 4 none 2 := ⟨m_methodLink_P_147_P_Cellar_passDays_II_V, m_instanceMethod_P_Cellar_passDays_II_V, m_selects_P_Cellar_P_Cellar_passDays_II_V_P_Cellar_passDays_II_V, m_initialized_P_Cellar, m_code_P_Cellar_passDays_II_V, by decide +kernel, by decide +kernel, by decide +kernel⟩
theorem lk_X6_159_X6_truthsBehind : LinkV RX6 159 yX6_truthsBehind cX6_truthsBehind 5 (some .int) 2 := ⟨m_methodLink_P_159_P_truthsBehind_II_I, m_instanceMethod_P_truthsBehind_II_I, m_selects_P_P_truthsBehind_II_I_P_truthsBehind_II_I, m_initialized_P, m_code_P_truthsBehind_II_I, by decide +kernel, by decide +kernel, by decide +kernel⟩
theorem lk_X6_184_J6_bitCount_0f7a4 : LinkS RX6 184 yJ6_bitCount_0f7a4 cJ6_bitCount_0f7a4 1 (some .int) 1 := ⟨m_methodLink_P_184_java_lang_Integer_bitCount_I_I, m_static_java_lang_Integer_bitCount_I_I, m_initialized_java_lang_Integer, m_code_java_lang_Integer_bitCount_I_I, by decide +kernel, by decide +kernel, by decide +kernel⟩
theorem lk_X6_156_X6_bestUp : LinkV RX6 156 yX6_bestUp cX6_bestUp 6 (some .int) 1 := ⟨m_methodLink_P_156_P_bestUp_I_I, m_instanceMethod_P_bestUp_I_I, m_selects_P_P_bestUp_I_I_P_bestUp_I_I, m_initialized_P, m_code_P_bestUp_I_I, by decide +kernel, by decide +kernel, by decide +kernel⟩
theorem lk_X6_163_X6_fright : LinkV RX6 163 yX6_fright cX6_fright 5 (some .int) 1 := ⟨m_methodLink_P_163_P_fright_I_I, m_instanceMethod_P_fright_I_I, m_selects_P_P_fright_I_I_P_fright_I_I, m_initialized_P, m_code_P_fright_I_I, by decide +kernel, by decide +kernel, by decide +kernel⟩
theorem lk_X6_175_X3_isFull : LinkV RX6 175 yX3_isFull cX3_isFull 1 (some .boolean) 0 := ⟨m_methodLink_P_175_P_Rows_isFull__Z, m_instanceMethod_P_Rows_isFull__Z, m_selects_P_Rows_P_Rows_isFull__Z_P_Rows_isFull__Z, m_initialized_P_Rows, m_code_P_Rows_isFull__Z, by decide +kernel, by decide +kernel, by decide +kernel⟩
theorem lk_X6_179_X3_add : LinkV RX6 179 yX3_add cX3_add 3 (some .int) 2 := ⟨m_methodLink_P_179_P_Rows_add_II_I, m_instanceMethod_P_Rows_add_II_I, m_selects_P_Rows_P_Rows_add_II_I_P_Rows_add_II_I, m_initialized_P_Rows, m_code_P_Rows_add_II_I, by decide +kernel, by decide +kernel, by decide +kernel⟩
theorem lk_X6_170_X3_empty : LinkV RX6 170 yX3_empty cX3_empty 1 (some .int) 0 := ⟨m_methodLink_P_170_P_Rows_empty__I, m_instanceMethod_P_Rows_empty__I, m_selects_P_Rows_P_Rows_empty__I_P_Rows_empty__I, m_initialized_P_Rows, m_code_P_Rows_empty__I, by decide +kernel, by decide +kernel, by decide +kernel⟩
theorem lk_X6_181_X6_likelyNumbers : LinkV RX6 181 yX6_likelyNumbers cX6_likelyNumbers 5 (some .int) 1 := ⟨m_methodLink_P_181_P_likelyNumbers_I_I, m_instanceMethod_P_likelyNumbers_I_I, m_selects_P_P_likelyNumbers_I_I_P_likelyNumbers_I_I, m_initialized_P, m_code_P_likelyNumbers_I_I, by decide +kernel, by decide +kernel, by decide +kernel⟩
theorem lk_X6_189_X6_leastOf : LinkS RX6 189 yX6_leastOf cX6_leastOf 2 (some .int) 1 := ⟨m_methodLink_P_189_P_leastOf_I_I, m_static_P_leastOf_I_I, m_initialized_P, m_code_P_leastOf_I_I, by decide +kernel, by decide +kernel, by decide +kernel⟩
theorem lk_X6_194_X6_lowest : LinkS RX6 194 yX6_lowest cX6_lowest 5 (some .long) 3 := ⟨m_methodLink_P_194_P_lowest_III_J, m_static_P_lowest_III_J, m_initialized_P, m_code_P_lowest_III_J, by decide +kernel, by decide +kernel, by decide +kernel⟩
theorem lk_X6_210_X6_follow : LinkS RX6 210 yX6_follow cX6_follow 3 none 3 := ⟨m_methodLink_P_210_P_follow_LP_CellarII_V, m_static_P_follow_LP_CellarII_V, m_initialized_P, m_code_P_follow_LP_CellarII_V, by decide +kernel, by decide +kernel, by decide +kernel⟩
theorem lk_X6_227_X1_copyAll : LinkV RX6 227 yX1_copyAll cX1_copyAll 2 none 1 := ⟨m_methodLink_P_227_P_Cellar_copyAll_LP_Cellar_V, m_instanceMethod_P_Cellar_copyAll_LP_Cellar_V, m_selects_P_Cellar_P_Cellar_copyAll_LP_Cellar_V_P_Cellar_copyAll_LP_Cellar_V, m_initialized_P_Cellar, m_code_P_Cellar_copyAll_LP_Cellar_V, by decide +kernel, by decide +kernel, by decide +kernel⟩
theorem lk_X6_291_X6_above : LinkS RX6 291 yX6_above cX6_above 1 (some .int) 1 := ⟨m_methodLink_P_291_P_above_I_I, m_static_P_above_I_I, m_initialized_P, m_code_P_above_I_I, by decide +kernel, by decide +kernel, by decide +kernel⟩
theorem lk_X6_250_X6_isUnder : LinkS RX6 250 yX6_isUnder cX6_isUnder 4 (some .boolean) 2 := ⟨m_methodLink_P_250_P_isUnder_II_Z, m_static_P_isUnder_II_Z, m_initialized_P, m_code_P_isUnder_II_Z, by decide +kernel, by decide +kernel, by decide +kernel⟩
theorem lk_X6_253_X4_become : LinkV RX6 253 yX4_become cX4_become 4 none 2 := ⟨m_methodLink_P_253_P_Tape_become_II_V, m_instanceMethod_P_Tape_become_II_V, m_selects_P_Tape_P_Tape_become_II_V_P_Tape_become_II_V, m_initialized_P_Tape, m_code_P_Tape_become_II_V, by decide +kernel, by decide +kernel, by decide +kernel⟩
theorem lk_X6_256_X6_fitted : LinkS RX6 256 yX6_fitted cX6_fitted 3 (some .long) 2 := ⟨m_methodLink_P_256_P_fitted_IJ_J, m_static_P_fitted_IJ_J, m_initialized_P, m_code_P_fitted_IJ_J, by decide +kernel, by decide +kernel, by decide +kernel⟩
theorem lk_X6_260_X4_hasRun : LinkV RX6 260 yX4_hasRun cX4_hasRun 3 (some .boolean) 2 := ⟨m_methodLink_P_260_P_Tape_hasRun_II_Z, m_instanceMethod_P_Tape_hasRun_II_Z, m_selects_P_Tape_P_Tape_hasRun_II_Z_P_Tape_hasRun_II_Z, m_initialized_P_Tape, m_code_P_Tape_hasRun_II_Z, by decide +kernel, by decide +kernel, by decide +kernel⟩
